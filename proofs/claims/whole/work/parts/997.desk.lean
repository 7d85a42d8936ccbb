/-! SpectrumDesk: isIndex, isTooLarge, at, put, make, size, character, shift, data, where they do not throw (written by wip/gen) -/
abbrev b_SpectrumDesk_isIndex : ByteArray := prog_1_method_18_code
abbrev y_SpectrumDesk_isIndex : MethodName := ⟨"SpectrumDesk", "isIndex", "(I)Z"⟩
abbrev v_SpectrumDesk_isIndex : List Cond := Cond.code y_SpectrumDesk_isIndex b_SpectrumDesk_isIndex 2 (some .boolean) :: AW
theorem d_SpectrumDesk_isIndex_0 : decode b_SpectrumDesk_isIndex 0 = .ok (.iload_n 1, 1) := by decide +kernel
theorem d_SpectrumDesk_isIndex_1 : decode b_SpectrumDesk_isIndex 1 = .ok (.ifCond .lt (15), 3) := by decide +kernel
theorem d_SpectrumDesk_isIndex_4 : decode b_SpectrumDesk_isIndex 4 = .ok (.iload_n 1, 1) := by decide +kernel
theorem d_SpectrumDesk_isIndex_5 : decode b_SpectrumDesk_isIndex 5 = .ok (.aload_n 0, 1) := by decide +kernel
theorem d_SpectrumDesk_isIndex_6 : decode b_SpectrumDesk_isIndex 6 = .ok (.getfield 39, 3) := by decide +kernel
theorem d_SpectrumDesk_isIndex_9 : decode b_SpectrumDesk_isIndex 9 = .ok (.if_icmp .ge (7), 3) := by decide +kernel
theorem d_SpectrumDesk_isIndex_12 : decode b_SpectrumDesk_isIndex 12 = .ok (.iconst 1, 1) := by decide +kernel
theorem d_SpectrumDesk_isIndex_13 : decode b_SpectrumDesk_isIndex 13 = .ok (.goto (4), 3) := by decide +kernel
theorem d_SpectrumDesk_isIndex_16 : decode b_SpectrumDesk_isIndex 16 = .ok (.iconst 0, 1) := by decide +kernel
theorem d_SpectrumDesk_isIndex_17 : decode b_SpectrumDesk_isIndex 17 = .ok (.ireturn, 1) := by decide +kernel
abbrev b_SpectrumDesk_isTooLarge : ByteArray := prog_1_method_19_code
abbrev y_SpectrumDesk_isTooLarge : MethodName := ⟨"SpectrumDesk", "isTooLarge", "(JJ)Z"⟩
abbrev v_SpectrumDesk_isTooLarge : List Cond := Cond.code y_SpectrumDesk_isTooLarge b_SpectrumDesk_isTooLarge 4 (some .boolean) :: AW
theorem d_SpectrumDesk_isTooLarge_0 : decode b_SpectrumDesk_isTooLarge 0 = .ok (.lload_n 0, 1) := by decide +kernel
theorem d_SpectrumDesk_isTooLarge_1 : decode b_SpectrumDesk_isTooLarge 1 = .ok (.lload_n 2, 1) := by decide +kernel
theorem d_SpectrumDesk_isTooLarge_2 : decode b_SpectrumDesk_isTooLarge 2 = .ok (.lcmp, 1) := by decide +kernel
theorem d_SpectrumDesk_isTooLarge_3 : decode b_SpectrumDesk_isTooLarge 3 = .ok (.ifCond .gt (10), 3) := by decide +kernel
theorem d_SpectrumDesk_isTooLarge_6 : decode b_SpectrumDesk_isTooLarge 6 = .ok (.lload_n 0, 1) := by decide +kernel
theorem d_SpectrumDesk_isTooLarge_7 : decode b_SpectrumDesk_isTooLarge 7 = .ok (.lload_n 2, 1) := by decide +kernel
theorem d_SpectrumDesk_isTooLarge_8 : decode b_SpectrumDesk_isTooLarge 8 = .ok (.lneg, 1) := by decide +kernel
theorem d_SpectrumDesk_isTooLarge_9 : decode b_SpectrumDesk_isTooLarge 9 = .ok (.lcmp, 1) := by decide +kernel
theorem d_SpectrumDesk_isTooLarge_10 : decode b_SpectrumDesk_isTooLarge 10 = .ok (.ifCond .ge (7), 3) := by decide +kernel
theorem d_SpectrumDesk_isTooLarge_13 : decode b_SpectrumDesk_isTooLarge 13 = .ok (.iconst 1, 1) := by decide +kernel
theorem d_SpectrumDesk_isTooLarge_14 : decode b_SpectrumDesk_isTooLarge 14 = .ok (.goto (4), 3) := by decide +kernel
theorem d_SpectrumDesk_isTooLarge_17 : decode b_SpectrumDesk_isTooLarge 17 = .ok (.iconst 0, 1) := by decide +kernel
theorem d_SpectrumDesk_isTooLarge_18 : decode b_SpectrumDesk_isTooLarge 18 = .ok (.ireturn, 1) := by decide +kernel
abbrev b_SpectrumDesk_at : ByteArray := prog_1_method_4_code
abbrev y_SpectrumDesk_at : MethodName := ⟨"SpectrumDesk", "at", "(II)I"⟩
abbrev v_SpectrumDesk_at : List Cond := Cond.code y_SpectrumDesk_at b_SpectrumDesk_at 3 (some .int) :: AW
theorem d_SpectrumDesk_at_0 : decode b_SpectrumDesk_at 0 = .ok (.aload_n 0, 1) := by decide +kernel
theorem d_SpectrumDesk_at_1 : decode b_SpectrumDesk_at 1 = .ok (.iload_n 1, 1) := by decide +kernel
theorem d_SpectrumDesk_at_2 : decode b_SpectrumDesk_at 2 = .ok (.invokevirtual 63, 3) := by decide +kernel
theorem d_SpectrumDesk_at_5 : decode b_SpectrumDesk_at 5 = .ok (.ifCond .eq (11), 3) := by decide +kernel
theorem d_SpectrumDesk_at_8 : decode b_SpectrumDesk_at 8 = .ok (.aload_n 0, 1) := by decide +kernel
theorem d_SpectrumDesk_at_9 : decode b_SpectrumDesk_at 9 = .ok (.iload_n 2, 1) := by decide +kernel
theorem d_SpectrumDesk_at_10 : decode b_SpectrumDesk_at 10 = .ok (.invokevirtual 63, 3) := by decide +kernel
theorem d_SpectrumDesk_at_13 : decode b_SpectrumDesk_at 13 = .ok (.ifCond .ne (13), 3) := by decide +kernel
theorem d_SpectrumDesk_at_16 : decode b_SpectrumDesk_at 16 = .ok (.new 67, 3) := by decide +kernel
theorem d_SpectrumDesk_at_19 : decode b_SpectrumDesk_at 19 = .ok (.dup, 1) := by decide +kernel
theorem d_SpectrumDesk_at_20 : decode b_SpectrumDesk_at 20 = .ok (.ldc 69, 2) := by decide +kernel
theorem d_SpectrumDesk_at_22 : decode b_SpectrumDesk_at 22 = .ok (.invokespecial 71, 3) := by decide +kernel
theorem d_SpectrumDesk_at_25 : decode b_SpectrumDesk_at 25 = .ok (.athrow, 1) := by decide +kernel
theorem d_SpectrumDesk_at_26 : decode b_SpectrumDesk_at 26 = .ok (.aload_n 0, 1) := by decide +kernel
theorem d_SpectrumDesk_at_27 : decode b_SpectrumDesk_at 27 = .ok (.getfield 11, 3) := by decide +kernel
theorem d_SpectrumDesk_at_30 : decode b_SpectrumDesk_at 30 = .ok (.iload_n 1, 1) := by decide +kernel
theorem d_SpectrumDesk_at_31 : decode b_SpectrumDesk_at 31 = .ok (.aaload, 1) := by decide +kernel
theorem d_SpectrumDesk_at_32 : decode b_SpectrumDesk_at 32 = .ok (.iload_n 2, 1) := by decide +kernel
theorem d_SpectrumDesk_at_33 : decode b_SpectrumDesk_at 33 = .ok (.iaload, 1) := by decide +kernel
theorem d_SpectrumDesk_at_34 : decode b_SpectrumDesk_at 34 = .ok (.ireturn, 1) := by decide +kernel
abbrev b_SpectrumDesk_put : ByteArray := prog_1_method_3_code
abbrev y_SpectrumDesk_put : MethodName := ⟨"SpectrumDesk", "put", "(III)V"⟩
abbrev v_SpectrumDesk_put : List Cond := Cond.code y_SpectrumDesk_put b_SpectrumDesk_put 4 none :: AW
theorem d_SpectrumDesk_put_0 : decode b_SpectrumDesk_put 0 = .ok (.aload_n 0, 1) := by decide +kernel
theorem d_SpectrumDesk_put_1 : decode b_SpectrumDesk_put 1 = .ok (.iload_n 1, 1) := by decide +kernel
theorem d_SpectrumDesk_put_2 : decode b_SpectrumDesk_put 2 = .ok (.invokevirtual 63, 3) := by decide +kernel
theorem d_SpectrumDesk_put_5 : decode b_SpectrumDesk_put 5 = .ok (.ifCond .eq (11), 3) := by decide +kernel
theorem d_SpectrumDesk_put_8 : decode b_SpectrumDesk_put 8 = .ok (.aload_n 0, 1) := by decide +kernel
theorem d_SpectrumDesk_put_9 : decode b_SpectrumDesk_put 9 = .ok (.iload_n 2, 1) := by decide +kernel
theorem d_SpectrumDesk_put_10 : decode b_SpectrumDesk_put 10 = .ok (.invokevirtual 63, 3) := by decide +kernel
theorem d_SpectrumDesk_put_13 : decode b_SpectrumDesk_put 13 = .ok (.ifCond .ne (13), 3) := by decide +kernel
theorem d_SpectrumDesk_put_16 : decode b_SpectrumDesk_put 16 = .ok (.new 67, 3) := by decide +kernel
theorem d_SpectrumDesk_put_19 : decode b_SpectrumDesk_put 19 = .ok (.dup, 1) := by decide +kernel
theorem d_SpectrumDesk_put_20 : decode b_SpectrumDesk_put 20 = .ok (.ldc 69, 2) := by decide +kernel
theorem d_SpectrumDesk_put_22 : decode b_SpectrumDesk_put 22 = .ok (.invokespecial 71, 3) := by decide +kernel
theorem d_SpectrumDesk_put_25 : decode b_SpectrumDesk_put 25 = .ok (.athrow, 1) := by decide +kernel
theorem d_SpectrumDesk_put_26 : decode b_SpectrumDesk_put 26 = .ok (.iload_n 3, 1) := by decide +kernel
theorem d_SpectrumDesk_put_27 : decode b_SpectrumDesk_put 27 = .ok (.i2l, 1) := by decide +kernel
theorem d_SpectrumDesk_put_28 : decode b_SpectrumDesk_put 28 = .ok (.ldc2_w 72, 3) := by decide +kernel
theorem d_SpectrumDesk_put_31 : decode b_SpectrumDesk_put 31 = .ok (.invokestatic 74, 3) := by decide +kernel
theorem d_SpectrumDesk_put_34 : decode b_SpectrumDesk_put 34 = .ok (.ifCond .eq (13), 3) := by decide +kernel
theorem d_SpectrumDesk_put_37 : decode b_SpectrumDesk_put 37 = .ok (.new 47, 3) := by decide +kernel
theorem d_SpectrumDesk_put_40 : decode b_SpectrumDesk_put 40 = .ok (.dup, 1) := by decide +kernel
theorem d_SpectrumDesk_put_41 : decode b_SpectrumDesk_put 41 = .ok (.ldc 78, 2) := by decide +kernel
theorem d_SpectrumDesk_put_43 : decode b_SpectrumDesk_put 43 = .ok (.invokespecial 51, 3) := by decide +kernel
theorem d_SpectrumDesk_put_46 : decode b_SpectrumDesk_put 46 = .ok (.athrow, 1) := by decide +kernel
theorem d_SpectrumDesk_put_47 : decode b_SpectrumDesk_put 47 = .ok (.aload_n 0, 1) := by decide +kernel
theorem d_SpectrumDesk_put_48 : decode b_SpectrumDesk_put 48 = .ok (.getfield 11, 3) := by decide +kernel
theorem d_SpectrumDesk_put_51 : decode b_SpectrumDesk_put 51 = .ok (.iload_n 1, 1) := by decide +kernel
theorem d_SpectrumDesk_put_52 : decode b_SpectrumDesk_put 52 = .ok (.aaload, 1) := by decide +kernel
theorem d_SpectrumDesk_put_53 : decode b_SpectrumDesk_put 53 = .ok (.iload_n 2, 1) := by decide +kernel
theorem d_SpectrumDesk_put_54 : decode b_SpectrumDesk_put 54 = .ok (.iload_n 3, 1) := by decide +kernel
theorem d_SpectrumDesk_put_55 : decode b_SpectrumDesk_put 55 = .ok (.iastore, 1) := by decide +kernel
theorem d_SpectrumDesk_put_56 : decode b_SpectrumDesk_put 56 = .ok (.aload_n 0, 1) := by decide +kernel
theorem d_SpectrumDesk_put_57 : decode b_SpectrumDesk_put 57 = .ok (.getfield 11, 3) := by decide +kernel
theorem d_SpectrumDesk_put_60 : decode b_SpectrumDesk_put 60 = .ok (.iload_n 2, 1) := by decide +kernel
theorem d_SpectrumDesk_put_61 : decode b_SpectrumDesk_put 61 = .ok (.aaload, 1) := by decide +kernel
theorem d_SpectrumDesk_put_62 : decode b_SpectrumDesk_put 62 = .ok (.iload_n 1, 1) := by decide +kernel
theorem d_SpectrumDesk_put_63 : decode b_SpectrumDesk_put 63 = .ok (.iload_n 3, 1) := by decide +kernel
theorem d_SpectrumDesk_put_64 : decode b_SpectrumDesk_put 64 = .ok (.iastore, 1) := by decide +kernel
theorem d_SpectrumDesk_put_65 : decode b_SpectrumDesk_put 65 = .ok (.aload_n 0, 1) := by decide +kernel
theorem d_SpectrumDesk_put_66 : decode b_SpectrumDesk_put 66 = .ok (.iconst 1, 1) := by decide +kernel
theorem d_SpectrumDesk_put_67 : decode b_SpectrumDesk_put 67 = .ok (.putfield 43, 3) := by decide +kernel
theorem d_SpectrumDesk_put_70 : decode b_SpectrumDesk_put 70 = .ok (.return_, 1) := by decide +kernel
abbrev b_SpectrumDesk_make : ByteArray := prog_1_method_2_code
abbrev y_SpectrumDesk_make : MethodName := ⟨"SpectrumDesk", "make", "(I)V"⟩
abbrev v_SpectrumDesk_make : List Cond := Cond.code y_SpectrumDesk_make b_SpectrumDesk_make 3 none :: AW
theorem d_SpectrumDesk_make_0 : decode b_SpectrumDesk_make 0 = .ok (.iload_n 1, 1) := by decide +kernel
theorem d_SpectrumDesk_make_1 : decode b_SpectrumDesk_make 1 = .ok (.iconst 1, 1) := by decide +kernel
theorem d_SpectrumDesk_make_2 : decode b_SpectrumDesk_make 2 = .ok (.if_icmp .lt (9), 3) := by decide +kernel
theorem d_SpectrumDesk_make_5 : decode b_SpectrumDesk_make 5 = .ok (.iload_n 1, 1) := by decide +kernel
theorem d_SpectrumDesk_make_6 : decode b_SpectrumDesk_make 6 = .ok (.bipush (6), 2) := by decide +kernel
theorem d_SpectrumDesk_make_8 : decode b_SpectrumDesk_make 8 = .ok (.if_icmp .le (13), 3) := by decide +kernel
theorem d_SpectrumDesk_make_11 : decode b_SpectrumDesk_make 11 = .ok (.new 47, 3) := by decide +kernel
theorem d_SpectrumDesk_make_14 : decode b_SpectrumDesk_make 14 = .ok (.dup, 1) := by decide +kernel
theorem d_SpectrumDesk_make_15 : decode b_SpectrumDesk_make 15 = .ok (.ldc 49, 2) := by decide +kernel
theorem d_SpectrumDesk_make_17 : decode b_SpectrumDesk_make 17 = .ok (.invokespecial 51, 3) := by decide +kernel
theorem d_SpectrumDesk_make_20 : decode b_SpectrumDesk_make 20 = .ok (.athrow, 1) := by decide +kernel
theorem d_SpectrumDesk_make_21 : decode b_SpectrumDesk_make 21 = .ok (.aload_n 0, 1) := by decide +kernel
theorem d_SpectrumDesk_make_22 : decode b_SpectrumDesk_make 22 = .ok (.iload_n 1, 1) := by decide +kernel
theorem d_SpectrumDesk_make_23 : decode b_SpectrumDesk_make 23 = .ok (.putfield 39, 3) := by decide +kernel
theorem d_SpectrumDesk_make_26 : decode b_SpectrumDesk_make 26 = .ok (.iconst 0, 1) := by decide +kernel
theorem d_SpectrumDesk_make_27 : decode b_SpectrumDesk_make 27 = .ok (.istore_n 2, 1) := by decide +kernel
theorem d_SpectrumDesk_make_28 : decode b_SpectrumDesk_make 28 = .ok (.iload_n 2, 1) := by decide +kernel
theorem d_SpectrumDesk_make_29 : decode b_SpectrumDesk_make 29 = .ok (.iload_n 1, 1) := by decide +kernel
theorem d_SpectrumDesk_make_30 : decode b_SpectrumDesk_make 30 = .ok (.if_icmp .ge (19), 3) := by decide +kernel
theorem d_SpectrumDesk_make_33 : decode b_SpectrumDesk_make 33 = .ok (.aload_n 0, 1) := by decide +kernel
theorem d_SpectrumDesk_make_34 : decode b_SpectrumDesk_make 34 = .ok (.getfield 11, 3) := by decide +kernel
theorem d_SpectrumDesk_make_37 : decode b_SpectrumDesk_make 37 = .ok (.iload_n 2, 1) := by decide +kernel
theorem d_SpectrumDesk_make_38 : decode b_SpectrumDesk_make 38 = .ok (.aaload, 1) := by decide +kernel
theorem d_SpectrumDesk_make_39 : decode b_SpectrumDesk_make 39 = .ok (.iconst 0, 1) := by decide +kernel
theorem d_SpectrumDesk_make_40 : decode b_SpectrumDesk_make 40 = .ok (.invokestatic 54, 3) := by decide +kernel
theorem d_SpectrumDesk_make_43 : decode b_SpectrumDesk_make 43 = .ok (.iinc 2 (1), 3) := by decide +kernel
theorem d_SpectrumDesk_make_46 : decode b_SpectrumDesk_make 46 = .ok (.goto (-18), 3) := by decide +kernel
theorem d_SpectrumDesk_make_49 : decode b_SpectrumDesk_make 49 = .ok (.aload_n 0, 1) := by decide +kernel
theorem d_SpectrumDesk_make_50 : decode b_SpectrumDesk_make 50 = .ok (.getfield 21, 3) := by decide +kernel
theorem d_SpectrumDesk_make_53 : decode b_SpectrumDesk_make 53 = .ok (.invokevirtual 60, 3) := by decide +kernel
theorem d_SpectrumDesk_make_56 : decode b_SpectrumDesk_make 56 = .ok (.aload_n 0, 1) := by decide +kernel
theorem d_SpectrumDesk_make_57 : decode b_SpectrumDesk_make 57 = .ok (.iconst 1, 1) := by decide +kernel
theorem d_SpectrumDesk_make_58 : decode b_SpectrumDesk_make 58 = .ok (.putfield 43, 3) := by decide +kernel
theorem d_SpectrumDesk_make_61 : decode b_SpectrumDesk_make 61 = .ok (.return_, 1) := by decide +kernel
abbrev b_SpectrumDesk_size : ByteArray := prog_1_method_5_code
abbrev y_SpectrumDesk_size : MethodName := ⟨"SpectrumDesk", "size", "(I)I"⟩
abbrev v_SpectrumDesk_size : List Cond := Cond.code y_SpectrumDesk_size b_SpectrumDesk_size 2 (some .int) :: AW
theorem d_SpectrumDesk_size_0 : decode b_SpectrumDesk_size 0 = .ok (.iload_n 1, 1) := by decide +kernel
theorem d_SpectrumDesk_size_1 : decode b_SpectrumDesk_size 1 = .ok (.ifCond .ne (8), 3) := by decide +kernel
theorem d_SpectrumDesk_size_4 : decode b_SpectrumDesk_size 4 = .ok (.aload_n 0, 1) := by decide +kernel
theorem d_SpectrumDesk_size_5 : decode b_SpectrumDesk_size 5 = .ok (.getfield 39, 3) := by decide +kernel
theorem d_SpectrumDesk_size_8 : decode b_SpectrumDesk_size 8 = .ok (.ireturn, 1) := by decide +kernel
theorem d_SpectrumDesk_size_9 : decode b_SpectrumDesk_size 9 = .ok (.iload_n 1, 1) := by decide +kernel
theorem d_SpectrumDesk_size_10 : decode b_SpectrumDesk_size 10 = .ok (.iconst 1, 1) := by decide +kernel
theorem d_SpectrumDesk_size_11 : decode b_SpectrumDesk_size 11 = .ok (.if_icmp .ne (13), 3) := by decide +kernel
theorem d_SpectrumDesk_size_14 : decode b_SpectrumDesk_size 14 = .ok (.aload_n 0, 1) := by decide +kernel
theorem d_SpectrumDesk_size_15 : decode b_SpectrumDesk_size 15 = .ok (.getfield 21, 3) := by decide +kernel
theorem d_SpectrumDesk_size_18 : decode b_SpectrumDesk_size 18 = .ok (.getfield 80, 3) := by decide +kernel
theorem d_SpectrumDesk_size_21 : decode b_SpectrumDesk_size 21 = .ok (.goto (4), 3) := by decide +kernel
theorem d_SpectrumDesk_size_24 : decode b_SpectrumDesk_size 24 = .ok (.iconst (-1), 1) := by decide +kernel
theorem d_SpectrumDesk_size_25 : decode b_SpectrumDesk_size 25 = .ok (.ireturn, 1) := by decide +kernel
abbrev b_SpectrumDesk_character : ByteArray := prog_1_method_10_code
abbrev y_SpectrumDesk_character : MethodName := ⟨"SpectrumDesk", "character", "(I)I"⟩
abbrev v_SpectrumDesk_character : List Cond := Cond.code y_SpectrumDesk_character b_SpectrumDesk_character 2 (some .int) :: AW
theorem d_SpectrumDesk_character_0 : decode b_SpectrumDesk_character 0 = .ok (.iload_n 1, 1) := by decide +kernel
theorem d_SpectrumDesk_character_1 : decode b_SpectrumDesk_character 1 = .ok (.ifCond .lt (14), 3) := by decide +kernel
theorem d_SpectrumDesk_character_4 : decode b_SpectrumDesk_character 4 = .ok (.iload_n 1, 1) := by decide +kernel
theorem d_SpectrumDesk_character_5 : decode b_SpectrumDesk_character 5 = .ok (.aload_n 0, 1) := by decide +kernel
theorem d_SpectrumDesk_character_6 : decode b_SpectrumDesk_character 6 = .ok (.getfield 35, 3) := by decide +kernel
theorem d_SpectrumDesk_character_9 : decode b_SpectrumDesk_character 9 = .ok (.getfield 109, 3) := by decide +kernel
theorem d_SpectrumDesk_character_12 : decode b_SpectrumDesk_character 12 = .ok (.if_icmp .lt (5), 3) := by decide +kernel
theorem d_SpectrumDesk_character_15 : decode b_SpectrumDesk_character 15 = .ok (.iconst (-1), 1) := by decide +kernel
theorem d_SpectrumDesk_character_16 : decode b_SpectrumDesk_character 16 = .ok (.ireturn, 1) := by decide +kernel
theorem d_SpectrumDesk_character_17 : decode b_SpectrumDesk_character 17 = .ok (.aload_n 0, 1) := by decide +kernel
theorem d_SpectrumDesk_character_18 : decode b_SpectrumDesk_character 18 = .ok (.getfield 35, 3) := by decide +kernel
theorem d_SpectrumDesk_character_21 : decode b_SpectrumDesk_character 21 = .ok (.getfield 112, 3) := by decide +kernel
theorem d_SpectrumDesk_character_24 : decode b_SpectrumDesk_character 24 = .ok (.iload_n 1, 1) := by decide +kernel
theorem d_SpectrumDesk_character_25 : decode b_SpectrumDesk_character 25 = .ok (.caload, 1) := by decide +kernel
theorem d_SpectrumDesk_character_26 : decode b_SpectrumDesk_character 26 = .ok (.ireturn, 1) := by decide +kernel
abbrev b_SpectrumDesk_shift : ByteArray := prog_1_method_8_code
abbrev y_SpectrumDesk_shift : MethodName := ⟨"SpectrumDesk", "shift", "(I)I"⟩
abbrev v_SpectrumDesk_shift : List Cond := Cond.code y_SpectrumDesk_shift b_SpectrumDesk_shift 3 (some .int) :: AW
theorem d_SpectrumDesk_shift_0 : decode b_SpectrumDesk_shift 0 = .ok (.iconst 0, 1) := by decide +kernel
theorem d_SpectrumDesk_shift_1 : decode b_SpectrumDesk_shift 1 = .ok (.istore_n 2, 1) := by decide +kernel
theorem d_SpectrumDesk_shift_2 : decode b_SpectrumDesk_shift 2 = .ok (.iload_n 2, 1) := by decide +kernel
theorem d_SpectrumDesk_shift_3 : decode b_SpectrumDesk_shift 3 = .ok (.aload_n 0, 1) := by decide +kernel
theorem d_SpectrumDesk_shift_4 : decode b_SpectrumDesk_shift 4 = .ok (.getfield 39, 3) := by decide +kernel
theorem d_SpectrumDesk_shift_7 : decode b_SpectrumDesk_shift 7 = .ok (.if_icmp .ge (33), 3) := by decide +kernel
theorem d_SpectrumDesk_shift_10 : decode b_SpectrumDesk_shift 10 = .ok (.aload_n 0, 1) := by decide +kernel
theorem d_SpectrumDesk_shift_11 : decode b_SpectrumDesk_shift 11 = .ok (.getfield 11, 3) := by decide +kernel
theorem d_SpectrumDesk_shift_14 : decode b_SpectrumDesk_shift 14 = .ok (.iload_n 2, 1) := by decide +kernel
theorem d_SpectrumDesk_shift_15 : decode b_SpectrumDesk_shift 15 = .ok (.aaload, 1) := by decide +kernel
theorem d_SpectrumDesk_shift_16 : decode b_SpectrumDesk_shift 16 = .ok (.iload_n 2, 1) := by decide +kernel
theorem d_SpectrumDesk_shift_17 : decode b_SpectrumDesk_shift 17 = .ok (.iaload, 1) := by decide +kernel
theorem d_SpectrumDesk_shift_18 : decode b_SpectrumDesk_shift 18 = .ok (.i2l, 1) := by decide +kernel
theorem d_SpectrumDesk_shift_19 : decode b_SpectrumDesk_shift 19 = .ok (.iload_n 1, 1) := by decide +kernel
theorem d_SpectrumDesk_shift_20 : decode b_SpectrumDesk_shift 20 = .ok (.i2l, 1) := by decide +kernel
theorem d_SpectrumDesk_shift_21 : decode b_SpectrumDesk_shift 21 = .ok (.ladd, 1) := by decide +kernel
theorem d_SpectrumDesk_shift_22 : decode b_SpectrumDesk_shift 22 = .ok (.ldc2_w 72, 3) := by decide +kernel
theorem d_SpectrumDesk_shift_25 : decode b_SpectrumDesk_shift 25 = .ok (.invokestatic 74, 3) := by decide +kernel
theorem d_SpectrumDesk_shift_28 : decode b_SpectrumDesk_shift 28 = .ok (.ifCond .eq (6), 3) := by decide +kernel
theorem d_SpectrumDesk_shift_31 : decode b_SpectrumDesk_shift 31 = .ok (.bipush (-2), 2) := by decide +kernel
theorem d_SpectrumDesk_shift_33 : decode b_SpectrumDesk_shift 33 = .ok (.ireturn, 1) := by decide +kernel
theorem d_SpectrumDesk_shift_34 : decode b_SpectrumDesk_shift 34 = .ok (.iinc 2 (1), 3) := by decide +kernel
theorem d_SpectrumDesk_shift_37 : decode b_SpectrumDesk_shift 37 = .ok (.goto (-35), 3) := by decide +kernel
theorem d_SpectrumDesk_shift_40 : decode b_SpectrumDesk_shift 40 = .ok (.iconst 0, 1) := by decide +kernel
theorem d_SpectrumDesk_shift_41 : decode b_SpectrumDesk_shift 41 = .ok (.istore_n 2, 1) := by decide +kernel
theorem d_SpectrumDesk_shift_42 : decode b_SpectrumDesk_shift 42 = .ok (.iload_n 2, 1) := by decide +kernel
theorem d_SpectrumDesk_shift_43 : decode b_SpectrumDesk_shift 43 = .ok (.aload_n 0, 1) := by decide +kernel
theorem d_SpectrumDesk_shift_44 : decode b_SpectrumDesk_shift 44 = .ok (.getfield 39, 3) := by decide +kernel
theorem d_SpectrumDesk_shift_47 : decode b_SpectrumDesk_shift 47 = .ok (.if_icmp .ge (21), 3) := by decide +kernel
theorem d_SpectrumDesk_shift_50 : decode b_SpectrumDesk_shift 50 = .ok (.aload_n 0, 1) := by decide +kernel
theorem d_SpectrumDesk_shift_51 : decode b_SpectrumDesk_shift 51 = .ok (.getfield 11, 3) := by decide +kernel
theorem d_SpectrumDesk_shift_54 : decode b_SpectrumDesk_shift 54 = .ok (.iload_n 2, 1) := by decide +kernel
theorem d_SpectrumDesk_shift_55 : decode b_SpectrumDesk_shift 55 = .ok (.aaload, 1) := by decide +kernel
theorem d_SpectrumDesk_shift_56 : decode b_SpectrumDesk_shift 56 = .ok (.iload_n 2, 1) := by decide +kernel
theorem d_SpectrumDesk_shift_57 : decode b_SpectrumDesk_shift 57 = .ok (.dup2, 1) := by decide +kernel
theorem d_SpectrumDesk_shift_58 : decode b_SpectrumDesk_shift 58 = .ok (.iaload, 1) := by decide +kernel
theorem d_SpectrumDesk_shift_59 : decode b_SpectrumDesk_shift 59 = .ok (.iload_n 1, 1) := by decide +kernel
theorem d_SpectrumDesk_shift_60 : decode b_SpectrumDesk_shift 60 = .ok (.iadd, 1) := by decide +kernel
theorem d_SpectrumDesk_shift_61 : decode b_SpectrumDesk_shift 61 = .ok (.iastore, 1) := by decide +kernel
theorem d_SpectrumDesk_shift_62 : decode b_SpectrumDesk_shift 62 = .ok (.iinc 2 (1), 3) := by decide +kernel
theorem d_SpectrumDesk_shift_65 : decode b_SpectrumDesk_shift 65 = .ok (.goto (-23), 3) := by decide +kernel
theorem d_SpectrumDesk_shift_68 : decode b_SpectrumDesk_shift 68 = .ok (.aload_n 0, 1) := by decide +kernel
theorem d_SpectrumDesk_shift_69 : decode b_SpectrumDesk_shift 69 = .ok (.iconst 1, 1) := by decide +kernel
theorem d_SpectrumDesk_shift_70 : decode b_SpectrumDesk_shift 70 = .ok (.putfield 43, 3) := by decide +kernel
theorem d_SpectrumDesk_shift_73 : decode b_SpectrumDesk_shift 73 = .ok (.iconst 0, 1) := by decide +kernel
theorem d_SpectrumDesk_shift_74 : decode b_SpectrumDesk_shift 74 = .ok (.ireturn, 1) := by decide +kernel
abbrev b_SpectrumDesk_data : ByteArray := prog_1_method_6_code
abbrev y_SpectrumDesk_data : MethodName := ⟨"SpectrumDesk", "data", "(IIIIII)I"⟩
abbrev v_SpectrumDesk_data : List Cond := Cond.code y_SpectrumDesk_data b_SpectrumDesk_data 8 (some .int) :: AW
theorem d_SpectrumDesk_data_0 : decode b_SpectrumDesk_data 0 = .ok (.aload_n 0, 1) := by decide +kernel
theorem d_SpectrumDesk_data_1 : decode b_SpectrumDesk_data 1 = .ok (.getfield 21, 3) := by decide +kernel
theorem d_SpectrumDesk_data_4 : decode b_SpectrumDesk_data 4 = .ok (.getfield 80, 3) := by decide +kernel
theorem d_SpectrumDesk_data_7 : decode b_SpectrumDesk_data 7 = .ok (.bipush (100), 2) := by decide +kernel
theorem d_SpectrumDesk_data_9 : decode b_SpectrumDesk_data 9 = .ok (.if_icmp .lt (5), 3) := by decide +kernel
theorem d_SpectrumDesk_data_12 : decode b_SpectrumDesk_data 12 = .ok (.iconst (-1), 1) := by decide +kernel
theorem d_SpectrumDesk_data_13 : decode b_SpectrumDesk_data 13 = .ok (.ireturn, 1) := by decide +kernel
theorem d_SpectrumDesk_data_14 : decode b_SpectrumDesk_data 14 = .ok (.aload_n 0, 1) := by decide +kernel
theorem d_SpectrumDesk_data_15 : decode b_SpectrumDesk_data 15 = .ok (.getfield 14, 3) := by decide +kernel
theorem d_SpectrumDesk_data_18 : decode b_SpectrumDesk_data 18 = .ok (.iconst 0, 1) := by decide +kernel
theorem d_SpectrumDesk_data_19 : decode b_SpectrumDesk_data 19 = .ok (.iload_n 1, 1) := by decide +kernel
theorem d_SpectrumDesk_data_20 : decode b_SpectrumDesk_data 20 = .ok (.iastore, 1) := by decide +kernel
theorem d_SpectrumDesk_data_21 : decode b_SpectrumDesk_data 21 = .ok (.aload_n 0, 1) := by decide +kernel
theorem d_SpectrumDesk_data_22 : decode b_SpectrumDesk_data 22 = .ok (.getfield 14, 3) := by decide +kernel
theorem d_SpectrumDesk_data_25 : decode b_SpectrumDesk_data 25 = .ok (.iconst 1, 1) := by decide +kernel
theorem d_SpectrumDesk_data_26 : decode b_SpectrumDesk_data 26 = .ok (.iload_n 2, 1) := by decide +kernel
theorem d_SpectrumDesk_data_27 : decode b_SpectrumDesk_data 27 = .ok (.iastore, 1) := by decide +kernel
theorem d_SpectrumDesk_data_28 : decode b_SpectrumDesk_data 28 = .ok (.aload_n 0, 1) := by decide +kernel
theorem d_SpectrumDesk_data_29 : decode b_SpectrumDesk_data 29 = .ok (.getfield 14, 3) := by decide +kernel
theorem d_SpectrumDesk_data_32 : decode b_SpectrumDesk_data 32 = .ok (.iconst 2, 1) := by decide +kernel
theorem d_SpectrumDesk_data_33 : decode b_SpectrumDesk_data 33 = .ok (.iload_n 3, 1) := by decide +kernel
theorem d_SpectrumDesk_data_34 : decode b_SpectrumDesk_data 34 = .ok (.iastore, 1) := by decide +kernel
theorem d_SpectrumDesk_data_35 : decode b_SpectrumDesk_data 35 = .ok (.aload_n 0, 1) := by decide +kernel
theorem d_SpectrumDesk_data_36 : decode b_SpectrumDesk_data 36 = .ok (.getfield 14, 3) := by decide +kernel
theorem d_SpectrumDesk_data_39 : decode b_SpectrumDesk_data 39 = .ok (.iconst 3, 1) := by decide +kernel
theorem d_SpectrumDesk_data_40 : decode b_SpectrumDesk_data 40 = .ok (.iload 4, 2) := by decide +kernel
theorem d_SpectrumDesk_data_42 : decode b_SpectrumDesk_data 42 = .ok (.iastore, 1) := by decide +kernel
theorem d_SpectrumDesk_data_43 : decode b_SpectrumDesk_data 43 = .ok (.aload_n 0, 1) := by decide +kernel
theorem d_SpectrumDesk_data_44 : decode b_SpectrumDesk_data 44 = .ok (.getfield 14, 3) := by decide +kernel
theorem d_SpectrumDesk_data_47 : decode b_SpectrumDesk_data 47 = .ok (.iconst 4, 1) := by decide +kernel
theorem d_SpectrumDesk_data_48 : decode b_SpectrumDesk_data 48 = .ok (.iload 5, 2) := by decide +kernel
theorem d_SpectrumDesk_data_50 : decode b_SpectrumDesk_data 50 = .ok (.iastore, 1) := by decide +kernel
theorem d_SpectrumDesk_data_51 : decode b_SpectrumDesk_data 51 = .ok (.aload_n 0, 1) := by decide +kernel
theorem d_SpectrumDesk_data_52 : decode b_SpectrumDesk_data 52 = .ok (.getfield 14, 3) := by decide +kernel
theorem d_SpectrumDesk_data_55 : decode b_SpectrumDesk_data 55 = .ok (.iconst 5, 1) := by decide +kernel
theorem d_SpectrumDesk_data_56 : decode b_SpectrumDesk_data 56 = .ok (.iload 6, 2) := by decide +kernel
theorem d_SpectrumDesk_data_58 : decode b_SpectrumDesk_data 58 = .ok (.iastore, 1) := by decide +kernel
theorem d_SpectrumDesk_data_59 : decode b_SpectrumDesk_data 59 = .ok (.iconst 0, 1) := by decide +kernel
theorem d_SpectrumDesk_data_60 : decode b_SpectrumDesk_data 60 = .ok (.istore 7, 2) := by decide +kernel
theorem d_SpectrumDesk_data_62 : decode b_SpectrumDesk_data 62 = .ok (.iload 7, 2) := by decide +kernel
theorem d_SpectrumDesk_data_64 : decode b_SpectrumDesk_data 64 = .ok (.aload_n 0, 1) := by decide +kernel
theorem d_SpectrumDesk_data_65 : decode b_SpectrumDesk_data 65 = .ok (.getfield 39, 3) := by decide +kernel
theorem d_SpectrumDesk_data_68 : decode b_SpectrumDesk_data 68 = .ok (.if_icmp .ge (28), 3) := by decide +kernel
theorem d_SpectrumDesk_data_71 : decode b_SpectrumDesk_data 71 = .ok (.aload_n 0, 1) := by decide +kernel
theorem d_SpectrumDesk_data_72 : decode b_SpectrumDesk_data 72 = .ok (.getfield 14, 3) := by decide +kernel
theorem d_SpectrumDesk_data_75 : decode b_SpectrumDesk_data 75 = .ok (.iload 7, 2) := by decide +kernel
theorem d_SpectrumDesk_data_77 : decode b_SpectrumDesk_data 77 = .ok (.iaload, 1) := by decide +kernel
theorem d_SpectrumDesk_data_78 : decode b_SpectrumDesk_data 78 = .ok (.i2l, 1) := by decide +kernel
theorem d_SpectrumDesk_data_79 : decode b_SpectrumDesk_data 79 = .ok (.ldc2_w 83, 3) := by decide +kernel
theorem d_SpectrumDesk_data_82 : decode b_SpectrumDesk_data 82 = .ok (.invokestatic 74, 3) := by decide +kernel
theorem d_SpectrumDesk_data_85 : decode b_SpectrumDesk_data 85 = .ok (.ifCond .eq (5), 3) := by decide +kernel
theorem d_SpectrumDesk_data_88 : decode b_SpectrumDesk_data 88 = .ok (.iconst (-1), 1) := by decide +kernel
theorem d_SpectrumDesk_data_89 : decode b_SpectrumDesk_data 89 = .ok (.ireturn, 1) := by decide +kernel
theorem d_SpectrumDesk_data_90 : decode b_SpectrumDesk_data 90 = .ok (.iinc 7 (1), 3) := by decide +kernel
theorem d_SpectrumDesk_data_93 : decode b_SpectrumDesk_data 93 = .ok (.goto (-31), 3) := by decide +kernel
theorem d_SpectrumDesk_data_96 : decode b_SpectrumDesk_data 96 = .ok (.aload_n 0, 1) := by decide +kernel
theorem d_SpectrumDesk_data_97 : decode b_SpectrumDesk_data 97 = .ok (.getfield 21, 3) := by decide +kernel
theorem d_SpectrumDesk_data_100 : decode b_SpectrumDesk_data 100 = .ok (.aload_n 0, 1) := by decide +kernel
theorem d_SpectrumDesk_data_101 : decode b_SpectrumDesk_data 101 = .ok (.getfield 14, 3) := by decide +kernel
theorem d_SpectrumDesk_data_104 : decode b_SpectrumDesk_data 104 = .ok (.aload_n 0, 1) := by decide +kernel
theorem d_SpectrumDesk_data_105 : decode b_SpectrumDesk_data 105 = .ok (.getfield 39, 3) := by decide +kernel
theorem d_SpectrumDesk_data_108 : decode b_SpectrumDesk_data 108 = .ok (.invokevirtual 85, 3) := by decide +kernel
theorem d_SpectrumDesk_data_111 : decode b_SpectrumDesk_data 111 = .ok (.aload_n 0, 1) := by decide +kernel
theorem d_SpectrumDesk_data_112 : decode b_SpectrumDesk_data 112 = .ok (.getfield 21, 3) := by decide +kernel
theorem d_SpectrumDesk_data_115 : decode b_SpectrumDesk_data 115 = .ok (.getfield 80, 3) := by decide +kernel
theorem d_SpectrumDesk_data_118 : decode b_SpectrumDesk_data 118 = .ok (.ireturn, 1) := by decide +kernel
theorem k_7fc62aa415 : (Jvm.Cond.fieldLink "SpectrumDesk" (39 : Nat) "SpectrumDesk" "n" "I") ∈ AW := aw_1 (List.mem_of_getElem? (i := 206) (by decide +kernel)) (by decide +kernel)
theorem k_6f9ce34938 : (Jvm.Cond.methodLink "SpectrumDesk" (63 : Nat) ({ cls := "SpectrumDesk", name := "isIndex", desc := "(I)Z" } : Jvm.MethodName)) ∈ AW := aw_4 (List.mem_of_getElem? (i := 94) (by decide +kernel)) (by decide +kernel)
theorem k_61ce0833a3 : (Jvm.Cond.instanceMethod ({ cls := "SpectrumDesk", name := "isIndex", desc := "(I)Z" } : Jvm.MethodName)) ∈ AW := aw_4 (List.mem_of_getElem? (i := 96) (by decide +kernel)) (by decide +kernel)
theorem k_91970b1809 : (Jvm.Cond.selects "SpectrumDesk" ({ cls := "SpectrumDesk", name := "isIndex", desc := "(I)Z" } : Jvm.MethodName) ({ cls := "SpectrumDesk", name := "isIndex", desc := "(I)Z" } : Jvm.MethodName)) ∈ AW := aw_p (by decide +kernel) (by decide +kernel)
theorem k_c7908b049a : (Jvm.Cond.fieldLink "SpectrumDesk" (11 : Nat) "SpectrumDesk" "matrix" "[[I") ∈ AW := aw_1 (List.mem_of_getElem? (i := 201) (by decide +kernel)) (by decide +kernel)
theorem k_95d26a71b1 : (Jvm.Cond.constantLong "SpectrumDesk" (72 : Nat) (1000000 : Int64)) ∈ AW := aw_2 (List.mem_of_getElem? (i := 7) (by decide +kernel)) (by decide +kernel)
theorem k_6d288a6279 : (Jvm.Cond.methodLink "SpectrumDesk" (74 : Nat) ({ cls := "SpectrumDesk", name := "isTooLarge", desc := "(JJ)Z" } : Jvm.MethodName)) ∈ AW := aw_1 (List.mem_of_getElem? (i := 232) (by decide +kernel)) (by decide +kernel)
theorem k_e5a468ce78 : (Jvm.Cond.static ({ cls := "SpectrumDesk", name := "isTooLarge", desc := "(JJ)Z" } : Jvm.MethodName)) ∈ AW := aw_1 (List.mem_of_getElem? (i := 233) (by decide +kernel)) (by decide +kernel)
theorem k_96c8c183a8 : (Jvm.Cond.fieldLink "SpectrumDesk" (43 : Nat) "SpectrumDesk" "stale" "Z") ∈ AW := aw_1 (List.mem_of_getElem? (i := 207) (by decide +kernel)) (by decide +kernel)
theorem k_b8173ba267 : (Jvm.Cond.fieldLink "SpectrumDesk" (21 : Nat) "SpectrumDesk" "sums" "LSpectrumDesk$Sums;") ∈ AW := aw_1 (List.mem_of_getElem? (i := 203) (by decide +kernel)) (by decide +kernel)
theorem k_34b9649f16 : (Jvm.Cond.methodLink "SpectrumDesk" (60 : Nat) ({ cls := "SpectrumDesk$Sums", name := "clear", desc := "()V" } : Jvm.MethodName)) ∈ AW := aw_4 (List.mem_of_getElem? (i := 81) (by decide +kernel)) (by decide +kernel)
theorem k_efbc7c854b : (Jvm.Cond.instanceMethod ({ cls := "SpectrumDesk$Sums", name := "clear", desc := "()V" } : Jvm.MethodName)) ∈ AW := aw_4 (List.mem_of_getElem? (i := 82) (by decide +kernel)) (by decide +kernel)
theorem k_6a47c097ab : (Jvm.Cond.selects "SpectrumDesk$Sums" ({ cls := "SpectrumDesk$Sums", name := "clear", desc := "()V" } : Jvm.MethodName) ({ cls := "SpectrumDesk$Sums", name := "clear", desc := "()V" } : Jvm.MethodName)) ∈ AW := aw_4 (List.mem_of_getElem? (i := 83) (by decide +kernel)) (by decide +kernel)
theorem k_9f148695dd : (Jvm.Cond.initialized "SpectrumDesk$Sums") ∈ AW := aw_1 (List.mem_of_getElem? (i := 2) (by decide +kernel)) (by decide +kernel)
theorem k_66efced8be : (Jvm.Cond.methodLink "SpectrumDesk" (54 : Nat) ({ cls := "java/util/Arrays", name := "fill", desc := "([II)V" } : Jvm.MethodName)) ∈ AW := aw_4 (List.mem_of_getElem? (i := 80) (by decide +kernel)) (by decide +kernel)
theorem k_cbec184999 : (Jvm.Cond.fieldLink "SpectrumDesk" (80 : Nat) "SpectrumDesk$Sums" "rows" "I") ∈ AW := aw_1 (List.mem_of_getElem? (i := 47) (by decide +kernel)) (by decide +kernel)
theorem k_01728a6d8c : (Jvm.Cond.fieldLink "SpectrumDesk" (35 : Nat) "SpectrumDesk" "printer" "LSpectrumDesk$Printer;") ∈ AW := aw_1 (List.mem_of_getElem? (i := 205) (by decide +kernel)) (by decide +kernel)
theorem k_f9a033385b : (Jvm.Cond.fieldLink "SpectrumDesk" (109 : Nat) "SpectrumDesk$Printer" "length" "I") ∈ AW := aw_1 (List.mem_of_getElem? (i := 190) (by decide +kernel)) (by decide +kernel)
theorem k_896c728e1a : (Jvm.Cond.fieldLink "SpectrumDesk" (112 : Nat) "SpectrumDesk$Printer" "text" "[C") ∈ AW := aw_1 (List.mem_of_getElem? (i := 186) (by decide +kernel)) (by decide +kernel)
theorem k_64125c4ddc : (Jvm.Cond.fieldLink "SpectrumDesk" (14 : Nat) "SpectrumDesk" "given" "[I") ∈ AW := aw_1 (List.mem_of_getElem? (i := 202) (by decide +kernel)) (by decide +kernel)
theorem k_3ab1dda5f3 : (Jvm.Cond.methodLink "SpectrumDesk" (85 : Nat) ({ cls := "SpectrumDesk$Sums", name := "take", desc := "([II)V" } : Jvm.MethodName)) ∈ AW := aw_1 (List.mem_of_getElem? (i := 235) (by decide +kernel)) (by decide +kernel)
theorem k_edac580dda : (Jvm.Cond.instanceMethod ({ cls := "SpectrumDesk$Sums", name := "take", desc := "([II)V" } : Jvm.MethodName)) ∈ AW := aw_1 (List.mem_of_getElem? (i := 236) (by decide +kernel)) (by decide +kernel)
theorem k_20df202236 : (Jvm.Cond.selects "SpectrumDesk$Sums" ({ cls := "SpectrumDesk$Sums", name := "take", desc := "([II)V" } : Jvm.MethodName) ({ cls := "SpectrumDesk$Sums", name := "take", desc := "([II)V" } : Jvm.MethodName)) ∈ AW := aw_1 (List.mem_of_getElem? (i := 237) (by decide +kernel)) (by decide +kernel)
theorem k_c1e20b16dc : (Jvm.Cond.constantLong "SpectrumDesk" (83 : Nat) (1000 : Int64)) ∈ AW := aw_1 (List.mem_of_getElem? (i := 231) (by decide +kernel)) (by decide +kernel)
theorem k_c079286d93 : (Jvm.Cond.code ({ cls := "SpectrumDesk", name := "isIndex", desc := "(I)Z" } : Jvm.MethodName) prog_1_method_18_code (2 : Nat) (Option.some Jvm.ClassFile.FieldType.boolean)) ∈ AW := aw_4 (List.mem_of_getElem? (i := 97) (by decide +kernel)) (by decide +kernel)
theorem k_8af4840bff : (Jvm.Cond.code ({ cls := "SpectrumDesk", name := "isTooLarge", desc := "(JJ)Z" } : Jvm.MethodName) prog_1_method_19_code (4 : Nat) (Option.some Jvm.ClassFile.FieldType.boolean)) ∈ AW := aw_1 (List.mem_of_getElem? (i := 234) (by decide +kernel)) (by decide +kernel)
theorem k_366308e1c8 : (Jvm.Cond.code ({ cls := "SpectrumDesk", name := "at", desc := "(II)I" } : Jvm.MethodName) prog_1_method_4_code (3 : Nat) (Option.some Jvm.ClassFile.FieldType.int)) ∈ AW := aw_4 (List.mem_of_getElem? (i := 118) (by decide +kernel)) (by decide +kernel)
theorem k_ef988f04f8 : (Jvm.Cond.code ({ cls := "SpectrumDesk", name := "put", desc := "(III)V" } : Jvm.MethodName) prog_1_method_3_code (4 : Nat) (Option.none : Option Jvm.ClassFile.FieldType)) ∈ AW := aw_4 (List.mem_of_getElem? (i := 93) (by decide +kernel)) (by decide +kernel)
theorem k_b3ec70f8c8 : (Jvm.Cond.code ({ cls := "SpectrumDesk", name := "make", desc := "(I)V" } : Jvm.MethodName) prog_1_method_2_code (3 : Nat) (Option.none : Option Jvm.ClassFile.FieldType)) ∈ AW := aw_4 (List.mem_of_getElem? (i := 76) (by decide +kernel)) (by decide +kernel)
theorem k_12fee4d66b : (Jvm.Cond.code ({ cls := "SpectrumDesk", name := "size", desc := "(I)I" } : Jvm.MethodName) prog_1_method_5_code (2 : Nat) (Option.some Jvm.ClassFile.FieldType.int)) ∈ AW := aw_1 (List.mem_of_getElem? (i := 226) (by decide +kernel)) (by decide +kernel)
theorem k_a36102c112 : (Jvm.Cond.code ({ cls := "SpectrumDesk", name := "character", desc := "(I)I" } : Jvm.MethodName) prog_1_method_10_code (2 : Nat) (Option.some Jvm.ClassFile.FieldType.int)) ∈ AW := aw_3 (List.mem_of_getElem? (i := 198) (by decide +kernel)) (by decide +kernel)
theorem k_aef2d4b5f1 : (Jvm.Cond.code ({ cls := "SpectrumDesk", name := "shift", desc := "(I)I" } : Jvm.MethodName) prog_1_method_8_code (3 : Nat) (Option.some Jvm.ClassFile.FieldType.int)) ∈ AW := aw_2 (List.mem_of_getElem? (i := 11) (by decide +kernel)) (by decide +kernel)
theorem k_ad06be707b : (Jvm.Cond.code ({ cls := "SpectrumDesk", name := "data", desc := "(IIIIII)I" } : Jvm.MethodName) prog_1_method_6_code (8 : Nat) (Option.some Jvm.ClassFile.FieldType.int)) ∈ AW := aw_1 (List.mem_of_getElem? (i := 230) (by decide +kernel)) (by decide +kernel)
set_option maxHeartbeats 4000000 in
set_option maxRecDepth 100000 in
theorem c_SpectrumDesk_isIndex_1 {l : Launch} {D : va_G} {cI cJ cZ cC cG cP : ClassId} {N : Nat} {ad : Nat → Nat} {σ : Nat → va_E} {n : Nat} {st : Int32} (hN : N = 193) (hS0 : σ 0 = .inr (ciS, [.ref (ad 1), .ref (ad 8), .ref (ad 9), .ref (ad 18), .ref (ad 179), .int (nI n), .int st])) {i : Nat} (hi : i < n) (hn : n ≤ 6) :
    Met l y_SpectrumDesk_isIndex v_SpectrumDesk_isIndex (xrm 0) (va_Pc [.ref (ad 0), .int (nI i)] (xS D classes (xT cI cJ cZ cC cG cP) N ad σ)) (va_Qi (fun r σ2 => r = nI 1 ∧ σ2 = σ) (xS D classes (xT cI cJ cZ cC cG cP) N ad) (xA N ad)) 0 0 (xA N ad) := by
  refine xr_met rfl (Nat.le_of_ble_eq_true rfl) ?_
  intro p e s m args below meth c ls hx hb X hr hlk hl I
  have hl : lv_has ls 2 [(0, .ref (ad 0)), (1, .int (nI i))] := hl
  refine lv_iload_n hx hb d_SpectrumDesk_isIndex_0 rfl (lv_at hl 1 rfl) ?_
  refine lv_if_lt hx hb d_SpectrumDesk_isIndex_1 rfl (fun hc => ?_) (fun hc => ?_)
  · exact absurd hc (nI_pos (by omega))
  · refine lv_iload_n hx hb d_SpectrumDesk_isIndex_4 rfl (lv_at hl 1 rfl) ?_
    refine lv_aload_n hx hb d_SpectrumDesk_isIndex_5 rfl (lv_at hl 0 rfl) ?_
    refine xr_get X I fin_S 0 (by omega) hS0 rfl 5 (by decide) (List.mem_cons_of_mem _ k_7fc62aa415) rfl rfl d_SpectrumDesk_isIndex_6 ?_
    refine lv_icmp_ge hx hb d_SpectrumDesk_isIndex_9 rfl (fun hc => ?_) (fun hc => ?_)
    · exact absurd hc (nI_ge hi (by omega))
    · refine lv_iconst (v := nI 1) hx hb d_SpectrumDesk_isIndex_12 (by decide) ?_
      refine lv_goto hx hb d_SpectrumDesk_isIndex_13 rfl ?_
      exact xr_zret X I hr hlk (by decide +kernel) ⟨rfl, rfl⟩ d_SpectrumDesk_isIndex_17
set_option maxHeartbeats 4000000 in
set_option maxRecDepth 100000 in
theorem c_SpectrumDesk_isIndex_0 {l : Launch} {D : va_G} {cI cJ cZ cC cG cP : ClassId} {N : Nat} {ad : Nat → Nat} {σ : Nat → va_E} {n : Nat} {st : Int32} (hN : N = 193) (hS0 : σ 0 = .inr (ciS, [.ref (ad 1), .ref (ad 8), .ref (ad 9), .ref (ad 18), .ref (ad 179), .int (nI n), .int st])) {i : Int32} (hi : i < 0 ∨ nI n ≤ i) :
    Met l y_SpectrumDesk_isIndex v_SpectrumDesk_isIndex (xrm 0) (va_Pc [.ref (ad 0), .int i] (xS D classes (xT cI cJ cZ cC cG cP) N ad σ)) (va_Qi (fun r σ2 => r = nI 0 ∧ σ2 = σ) (xS D classes (xT cI cJ cZ cC cG cP) N ad) (xA N ad)) 0 0 (xA N ad) := by
  refine xr_met rfl (Nat.le_of_ble_eq_true rfl) ?_
  intro p e s m args below meth c ls hx hb X hr hlk hl I
  have hl : lv_has ls 2 [(0, .ref (ad 0)), (1, .int i)] := hl
  refine lv_iload_n hx hb d_SpectrumDesk_isIndex_0 rfl (lv_at hl 1 rfl) ?_
  refine lv_if_lt hx hb d_SpectrumDesk_isIndex_1 rfl (fun hc => ?_) (fun hc => ?_)
  · refine lv_iconst (v := nI 0) hx hb d_SpectrumDesk_isIndex_16 (by decide) ?_
    exact xr_zret X I hr hlk (by decide +kernel) ⟨rfl, rfl⟩ d_SpectrumDesk_isIndex_17
  · refine lv_iload_n hx hb d_SpectrumDesk_isIndex_4 rfl (lv_at hl 1 rfl) ?_
    refine lv_aload_n hx hb d_SpectrumDesk_isIndex_5 rfl (lv_at hl 0 rfl) ?_
    refine xr_get X I fin_S 0 (by omega) hS0 rfl 5 (by decide) (List.mem_cons_of_mem _ k_7fc62aa415) rfl rfl d_SpectrumDesk_isIndex_6 ?_
    refine lv_icmp_ge hx hb d_SpectrumDesk_isIndex_9 rfl (fun hd => ?_) (fun hd => ?_)
    · refine lv_iconst (v := nI 0) hx hb d_SpectrumDesk_isIndex_16 (by decide) ?_
      exact xr_zret X I hr hlk (by decide +kernel) ⟨rfl, rfl⟩ d_SpectrumDesk_isIndex_17
    · exact absurd hi (fun h => h.elim hc hd)
set_option maxHeartbeats 4000000 in
set_option maxRecDepth 100000 in
theorem c_SpectrumDesk_isTooLarge {l : Launch} {D : va_G} {cI cJ cZ cC cG cP : ClassId} {N : Nat} {ad : Nat → Nat} {σ : Nat → va_E} {v b : Int64} (hb9 : 0 ≤ b.toInt) :
    Met l y_SpectrumDesk_isTooLarge v_SpectrumDesk_isTooLarge (xrm 0) (va_Pc [.long v, .long b] (xS D classes (xT cI cJ cZ cC cG cP) N ad σ)) (va_Qi (fun r σ2 => r = (if v.toInt > b.toInt ∨ v.toInt < -b.toInt then nI 1 else nI 0) ∧ σ2 = σ) (xS D classes (xT cI cJ cZ cC cG cP) N ad) (xA N ad)) 0 0 (xA N ad) := by
  refine xr_met rfl (Nat.le_of_ble_eq_true rfl) ?_
  intro p e s m args below meth c ls hx hb X hr hlk hl I
  have hl : lv_has ls 4 [(0, .long v), (2, .long b)] := hl
  have hnb : (-b).toInt = -b.toInt := q_lneg (by omega)
  refine lv_lload_n hx hb d_SpectrumDesk_isTooLarge_0 rfl (lv_at hl 0 rfl) ?_
  refine lv_lload_n hx hb d_SpectrumDesk_isTooLarge_1 rfl (lv_at hl 1 rfl) ?_
  refine W.lcmp hx hb d_SpectrumDesk_isTooLarge_2 ?_
  refine lv_if_gt hx hb d_SpectrumDesk_isTooLarge_3 rfl (fun hc => ?_) (fun hc => ?_)
  · refine lv_iconst (v := nI 1) hx hb d_SpectrumDesk_isTooLarge_13 (by decide) ?_
    refine lv_goto hx hb d_SpectrumDesk_isTooLarge_14 rfl ?_
    exact xr_zret X I hr hlk (by decide +kernel) ⟨by rw [if_pos (Or.inl (Int64.lt_iff_toInt_lt.mp ((lg_cmp_gt _ _).mp hc)))], rfl⟩ d_SpectrumDesk_isTooLarge_18
  · refine lv_lload_n hx hb d_SpectrumDesk_isTooLarge_6 rfl (lv_at hl 0 rfl) ?_
    refine lv_lload_n hx hb d_SpectrumDesk_isTooLarge_7 rfl (lv_at hl 1 rfl) ?_
    refine lv_lneg hx hb d_SpectrumDesk_isTooLarge_8 ?_
    refine W.lcmp hx hb d_SpectrumDesk_isTooLarge_9 ?_
    refine lv_if_ge hx hb d_SpectrumDesk_isTooLarge_10 rfl (fun hd => ?_) (fun hd => ?_)
    · refine lv_iconst (v := nI 0) hx hb d_SpectrumDesk_isTooLarge_17 (by decide) ?_
      exact xr_zret X I hr hlk (by decide +kernel) ⟨by rw [if_neg (fun h => h.elim (fun h => hc ((lg_cmp_gt _ _).mpr (Int64.lt_iff_toInt_lt.mpr h))) (fun h => by have k := Int64.le_iff_toInt_le.mp ((lg_cmp_ge _ _).mp hd); rw [hnb] at k; omega))], rfl⟩ d_SpectrumDesk_isTooLarge_18
    · refine lv_iconst (v := nI 1) hx hb d_SpectrumDesk_isTooLarge_13 (by decide) ?_
      refine lv_goto hx hb d_SpectrumDesk_isTooLarge_14 rfl ?_
      exact xr_zret X I hr hlk (by decide +kernel) ⟨by rw [if_pos (Or.inr (by rcases Int.lt_or_le v.toInt (-b.toInt) with h | h; exact h; exact absurd ((lg_cmp_ge _ _).mpr (Int64.le_iff_toInt_le.mpr (by rw [hnb]; exact h))) hd))], rfl⟩ d_SpectrumDesk_isTooLarge_18
set_option maxHeartbeats 4000000 in
set_option maxRecDepth 100000 in
theorem c_SpectrumDesk_at_ok {l : Launch} {D : va_G} {cI cJ cZ cC cG cP : ClassId} {N : Nat} {ad : Nat → Nat} {σ : Nat → va_E} {n : Nat} {st : Int32} (hN : N = 193) (hS0 : σ 0 = .inr (ciS, [.ref (ad 1), .ref (ad 8), .ref (ad 9), .ref (ad 18), .ref (ad 179), .int (nI n), .int st])) {A : Nat → Nat → Int32} {i j : Nat} (hn : n ≤ 6) (hA : mat ad cI cG σ 1 2 A) (hi : i < n) (hj : j < n) :
    Met l y_SpectrumDesk_at v_SpectrumDesk_at (xrm 1) (va_Pc [.ref (ad 0), .int (nI i), .int (nI j)] (xS D classes (xT cI cJ cZ cC cG cP) N ad σ)) (va_Qi (fun r σ2 => r = A i j ∧ σ2 = σ) (xS D classes (xT cI cJ cZ cC cG cP) N ad) (xA N ad)) 0 0 (xA N ad) := by
  refine xr_met rfl (Nat.le_of_ble_eq_true rfl) ?_
  intro p e s m args below meth c ls hx hb X hr hlk hl I
  have hl : lv_has ls 3 [(0, .ref (ad 0)), (1, .int (nI i)), (2, .int (nI j))] := hl
  refine lv_aload_n hx hb d_SpectrumDesk_at_0 rfl (lv_at hl 0 rfl) ?_
  refine lv_iload_n hx hb d_SpectrumDesk_at_1 rfl (lv_at hl 1 rfl) ?_
  refine xr_calli (xr_runV (kc := 0) (kr := 1) (n := 1) (As := [.int (nI i)]) (rest := []) X I (by omega) hS0 rfl (c_SpectrumDesk_isIndex_1 (i := i) hN hS0 hi hn) (xg k_c079286d93) (List.mem_cons_of_mem _ k_6f9ce34938) (List.mem_cons_of_mem _ k_61ce0833a3) (List.mem_cons_of_mem _ k_91970b1809) (List.mem_cons_of_mem _ k_6836736ab7) (by decide +kernel) (by decide) rfl hl.1 rfl (Nat.le_of_ble_eq_true rfl) d_SpectrumDesk_at_2) I (fun r1 σ9 H locs hp I => ?_)
  obtain ⟨rfl, h9⟩ := hp; rw [h9] at I; clear h9
  refine lv_if_eq hx hb d_SpectrumDesk_at_5 rfl (fun hc => ?_) (fun hc => ?_)
  · exact absurd hc (by decide)
  · refine lv_aload_n hx hb d_SpectrumDesk_at_8 rfl (lv_at hl 0 rfl) ?_
    refine lv_iload_n hx hb d_SpectrumDesk_at_9 rfl (lv_at hl 2 rfl) ?_
    refine xr_calli (xr_runV (kc := 0) (kr := 1) (n := 1) (As := [.int (nI j)]) (rest := []) X I (by omega) hS0 rfl (c_SpectrumDesk_isIndex_1 (i := j) hN hS0 hj hn) (xg k_c079286d93) (List.mem_cons_of_mem _ k_6f9ce34938) (List.mem_cons_of_mem _ k_61ce0833a3) (List.mem_cons_of_mem _ k_91970b1809) (List.mem_cons_of_mem _ k_6836736ab7) (by decide +kernel) (by decide) rfl hl.1 rfl (Nat.le_of_ble_eq_true rfl) d_SpectrumDesk_at_10) I (fun r1 σ9 H locs hp I => ?_)
    obtain ⟨rfl, h9⟩ := hp; rw [h9] at I; clear h9
    refine lv_if_ne hx hb d_SpectrumDesk_at_13 rfl (fun hd => ?_) (fun hd => ?_)
    · refine lv_aload_n hx hb d_SpectrumDesk_at_26 rfl (lv_at hl 0 rfl) ?_
      refine xr_get X I fin_S 0 (by omega) hS0 rfl 0 (by decide) (List.mem_cons_of_mem _ k_c7908b049a) rfl rfl d_SpectrumDesk_at_27 ?_
      refine lv_iload_n hx hb d_SpectrumDesk_at_30 rfl (lv_at hl 1 rfl) ?_
      refine xr_aald X I 1 4 (by omega) (hA).1 rfl rfl (by omega) (by decide) (mx_at (by omega)) d_SpectrumDesk_at_31 ?_
      refine lv_iload_n hx hb d_SpectrumDesk_at_32 rfl (lv_at hl 2 rfl) ?_
      refine xr_iald X I (2 + i) 0 (by omega) ((hA).2 _ (by omega)) rfl (by omega) (by decide) d_SpectrumDesk_at_33 ?_
      exact xr_iret X I hr hlk ⟨rfl, rfl⟩ d_SpectrumDesk_at_34
    · exact absurd hd (by decide)
set_option maxHeartbeats 4000000 in
set_option maxRecDepth 100000 in
theorem c_SpectrumDesk_put_ok {l : Launch} {D : va_G} {cI cJ cZ cC cG cP : ClassId} {N : Nat} {ad : Nat → Nat} {σ : Nat → va_E} {n : Nat} {st : Int32} (hN : N = 193) (hS0 : σ 0 = .inr (ciS, [.ref (ad 1), .ref (ad 8), .ref (ad 9), .ref (ad 18), .ref (ad 179), .int (nI n), .int st])) {A : Nat → Nat → Int32} {i j : Nat} {v : Int32} (hn : n ≤ 6) (hA : mat ad cI cG σ 1 2 A) (hi : i < n) (hj : j < n) (hv : -1000000 ≤ v.toInt ∧ v.toInt ≤ 1000000) :
    Met l y_SpectrumDesk_put v_SpectrumDesk_put (xrm 1) (va_Pc [.ref (ad 0), .int (nI i), .int (nI j), .int v] (xS D classes (xT cI cJ cZ cC cG cP) N ad σ)) (va_Qv (fun σ2 => ∃ A' : Nat → Nat → Int32, (∀ q, q ≠ 0 → q < 2 ∨ 8 ≤ q → σ2 q = σ q) ∧ σ2 0 = .inr (ciS, [.ref (ad 1), .ref (ad 8), .ref (ad 9), .ref (ad 18), .ref (ad 179), .int (nI n), .int (nI 1)]) ∧ mat ad cI cG σ2 1 2 A' ∧ ∀ a b, a < 6 → A' a b = if (a = i ∧ b = j) ∨ (a = j ∧ b = i) then v else A a b) (xS D classes (xT cI cJ cZ cC cG cP) N ad) (xA N ad)) 0 0 (xA N ad) := by
  refine xr_met rfl (Nat.le_of_ble_eq_true rfl) ?_
  intro p e s m args below meth c ls hx hb X hr hlk hl I
  have hl : lv_has ls 4 [(0, .ref (ad 0)), (1, .int (nI i)), (2, .int (nI j)), (3, .int v)] := hl
  refine lv_aload_n hx hb d_SpectrumDesk_put_0 rfl (lv_at hl 0 rfl) ?_
  refine lv_iload_n hx hb d_SpectrumDesk_put_1 rfl (lv_at hl 1 rfl) ?_
  refine xr_calli (xr_runV (kc := 0) (kr := 1) (n := 1) (As := [.int (nI i)]) (rest := []) X I (by omega) hS0 rfl (c_SpectrumDesk_isIndex_1 (i := i) hN hS0 hi hn) (xg k_c079286d93) (List.mem_cons_of_mem _ k_6f9ce34938) (List.mem_cons_of_mem _ k_61ce0833a3) (List.mem_cons_of_mem _ k_91970b1809) (List.mem_cons_of_mem _ k_6836736ab7) (by decide +kernel) (by decide) rfl hl.1 rfl (Nat.le_of_ble_eq_true rfl) d_SpectrumDesk_put_2) I (fun r1 σ9 H locs hp I => ?_)
  obtain ⟨rfl, h9⟩ := hp; rw [h9] at I; clear h9
  refine lv_if_eq hx hb d_SpectrumDesk_put_5 rfl (fun hc => ?_) (fun hc => ?_)
  · exact absurd hc (by decide)
  · refine lv_aload_n hx hb d_SpectrumDesk_put_8 rfl (lv_at hl 0 rfl) ?_
    refine lv_iload_n hx hb d_SpectrumDesk_put_9 rfl (lv_at hl 2 rfl) ?_
    refine xr_calli (xr_runV (kc := 0) (kr := 1) (n := 1) (As := [.int (nI j)]) (rest := []) X I (by omega) hS0 rfl (c_SpectrumDesk_isIndex_1 (i := j) hN hS0 hj hn) (xg k_c079286d93) (List.mem_cons_of_mem _ k_6f9ce34938) (List.mem_cons_of_mem _ k_61ce0833a3) (List.mem_cons_of_mem _ k_91970b1809) (List.mem_cons_of_mem _ k_6836736ab7) (by decide +kernel) (by decide) rfl hl.1 rfl (Nat.le_of_ble_eq_true rfl) d_SpectrumDesk_put_10) I (fun r1 σ9 H locs hp I => ?_)
    obtain ⟨rfl, h9⟩ := hp; rw [h9] at I; clear h9
    refine lv_if_ne hx hb d_SpectrumDesk_put_13 rfl (fun hd => ?_) (fun hd => ?_)
    · refine lv_iload_n hx hb d_SpectrumDesk_put_26 rfl (lv_at hl 3 rfl) ?_
      refine lv_i2l hx hb d_SpectrumDesk_put_27 rfl ?_
      refine lv_ldc2 (v := 1000000) hx hb X.1.2.2.2.1 (X.1.2.2.2.2 _ (List.mem_cons_of_mem _ k_95d26a71b1)) d_SpectrumDesk_put_28 ?_
      refine xr_calli (xr_runS (kc := 0) (kr := 1) (n := 2) (As := [.long ((v).toInt64), .long 1000000]) (rest := []) X I (c_SpectrumDesk_isTooLarge (v := v.toInt64) (b := 1000000) (by decide)) (xg k_8af4840bff) (List.mem_cons_of_mem _ k_6d288a6279) (List.mem_cons_of_mem _ k_e5a468ce78) (List.mem_cons_of_mem _ k_6836736ab7) (by decide +kernel) (by decide) rfl hl.1 rfl (Nat.le_of_ble_eq_true rfl) d_SpectrumDesk_put_31) I (fun r1 σ9 H locs hp I => ?_)
      obtain ⟨er1, h9⟩ := hp; rw [h9] at I; clear h9
      rw [show (1000000 : Int64).toInt = 1000000 by decide] at er1
      rw [q_i2l, if_neg (by omega)] at er1
      subst er1
      refine lv_if_eq hx hb d_SpectrumDesk_put_34 rfl (fun he => ?_) (fun he => ?_)
      · refine lv_aload_n hx hb d_SpectrumDesk_put_47 rfl (lv_at hl 0 rfl) ?_
        refine xr_get X I fin_S 0 (by omega) hS0 rfl 0 (by decide) (List.mem_cons_of_mem _ k_c7908b049a) rfl rfl d_SpectrumDesk_put_48 ?_
        refine lv_iload_n hx hb d_SpectrumDesk_put_51 rfl (lv_at hl 1 rfl) ?_
        refine xr_aald X I 1 4 (by omega) (hA).1 rfl rfl (by omega) (by decide) (mx_at (by omega)) d_SpectrumDesk_put_52 ?_
        refine lv_iload_n hx hb d_SpectrumDesk_put_53 rfl (lv_at hl 2 rfl) ?_
        refine lv_iload_n hx hb d_SpectrumDesk_put_54 rfl (lv_at hl 3 rfl) ?_
        refine xr_iast X I (2 + i) 0 (by omega) (hA.2 i (by omega)) rfl (by omega) (by decide) d_SpectrumDesk_put_55 (fun H locs I => ?_)
        have hA1 := mat_row hA (by omega) (show i < 6 by omega) (upd (A i) j v)
        refine lv_aload_n hx hb d_SpectrumDesk_put_56 rfl (lv_at hl 0 rfl) ?_
        refine xr_get X I fin_S 0 (by omega) ((va_up_ne _ _ (by omega)).trans hS0) rfl 0 (by decide) (List.mem_cons_of_mem _ k_c7908b049a) rfl rfl d_SpectrumDesk_put_57 ?_
        refine lv_iload_n hx hb d_SpectrumDesk_put_60 rfl (lv_at hl 2 rfl) ?_
        refine xr_aald X I 1 4 (by omega) (hA1).1 rfl rfl (by omega) (by decide) (mx_at (by omega)) d_SpectrumDesk_put_61 ?_
        refine lv_iload_n hx hb d_SpectrumDesk_put_62 rfl (lv_at hl 1 rfl) ?_
        refine lv_iload_n hx hb d_SpectrumDesk_put_63 rfl (lv_at hl 3 rfl) ?_
        refine xr_iast X I (2 + j) 0 (by omega) (hA1.2 j (by omega)) rfl (by omega) (by decide) d_SpectrumDesk_put_64 (fun H locs I => ?_)
        have hA2 := mat_row hA1 (by omega) (show j < 6 by omega) (upd (va_up A i (upd (A i) j v) j) i v)
        refine lv_aload_n hx hb d_SpectrumDesk_put_65 rfl (lv_at hl 0 rfl) ?_
        refine lv_iconst (v := nI 1) hx hb d_SpectrumDesk_put_66 (by decide) ?_
        refine xr_put (ty := .boolean) X I fin_S t_S t_S_ok n_S 0 (by omega) ((va_up_ne _ _ (by omega)).trans ((va_up_ne _ _ (by omega)).trans hS0)) rfl 6 (by decide) (List.mem_cons_of_mem _ k_96c8c183a8) rfl rfl (by decide +kernel) rfl rfl (Nat.le_of_ble_eq_true rfl) d_SpectrumDesk_put_67 (fun H locs I => ?_)
        refine xr_vret X I hr hlk ⟨_, fun q h0 hq => (va_up_ne _ _ h0).trans ((va_up_ne _ _ (by omega)).trans (va_up_ne _ _ (by omega))), va_up_self _ _ _, mat_same hA2 (va_up_ne _ _ (by decide)) (fun q h1 h2 => va_up_ne _ _ (by omega)), fun a b ha => ?_⟩ d_SpectrumDesk_put_70
        by_cases ea : a = j
        · rw [ea, va_up_self]
          by_cases eb : b = i
          · rw [eb, upd_s, if_pos (by omega)]
          · rw [upd_n eb]
            by_cases ej : j = i
            · rw [ej, va_up_self]
              rw [upd_n (by omega), if_neg (by omega)]
            · rw [va_up_ne _ _ ej, if_neg (by omega)]
        · rw [va_up_ne _ _ ea]
          by_cases ei : a = i
          · rw [ei, va_up_self]
            by_cases eb : b = j
            · rw [eb, upd_s, if_pos (by omega)]
            · rw [upd_n eb, if_neg (by omega)]
          · rw [va_up_ne _ _ ei, if_neg (by omega)]
      · exact absurd rfl he
    · exact absurd hd (by decide)
set_option maxHeartbeats 4000000 in
set_option maxRecDepth 100000 in
theorem c_SpectrumDesk_make_ok {l : Launch} {D : va_G} {cI cJ cZ cC cG cP : ClassId} {N : Nat} {ad : Nat → Nat} {σ : Nat → va_E} {n : Nat} {st : Int32} (hN : N = 193) (hS0 : σ 0 = .inr (ciS, [.ref (ad 1), .ref (ad 8), .ref (ad 9), .ref (ad 18), .ref (ad 179), .int (nI n), .int st])) {A P : Nat → Nat → Int32} {S : Nat → Int32} {rw k9 : Nat} (hA : mat ad cI cG σ 1 2 A) (hU : σ 9 = .inr (ciU, [.ref (ad 10), .ref (ad 11), .int (nI rw)])) (hS : σ 10 = .inl (cI, 6, .inl S)) (hP : mat ad cI cG σ 11 12 P) (h1 : 1 ≤ k9) (h6 : k9 ≤ 6) :
    Met l y_SpectrumDesk_make v_SpectrumDesk_make (xrm 2) (va_Pc [.ref (ad 0), .int (nI k9)] (xS D classes (xT cI cJ cZ cC cG cP) N ad σ)) (va_Qv (fun σ2 => ∃ (A' P' : Nat → Nat → Int32) (S' : Nat → Int32), (∀ q, q = 8 ∨ 18 ≤ q → σ2 q = σ q) ∧ σ2 0 = .inr (ciS, [.ref (ad 1), .ref (ad 8), .ref (ad 9), .ref (ad 18), .ref (ad 179), .int (nI k9), .int (nI 1)]) ∧ mat ad cI cG σ2 1 2 A' ∧ (∀ i j, i < 6 → j < 6 → A' i j = if i < k9 then nI 0 else A i j) ∧ σ2 9 = .inr (ciU, [.ref (ad 10), .ref (ad 11), .int (nI 0)]) ∧ σ2 10 = .inl (cI, 6, .inl S') ∧ mat ad cI cG σ2 11 12 P' ∧ (∀ i, i < 6 → S' i = nI 0) ∧ ∀ i j, i < 6 → j < 6 → P' i j = nI 0) (xS D classes (xT cI cJ cZ cC cG cP) N ad) (xA N ad)) 0 0 (xA N ad) := by
  refine xr_met rfl (Nat.le_of_ble_eq_true rfl) ?_
  intro p e s m args below meth c ls hx hb X hr hlk hl I
  have hl : lv_has ls 3 [(0, .ref (ad 0)), (1, .int (nI k9))] := hl
  refine lv_iload_n hx hb d_SpectrumDesk_make_0 rfl (lv_at hl 1 rfl) ?_
  refine lv_iconst (v := nI 1) hx hb d_SpectrumDesk_make_1 (by decide) ?_
  refine lv_icmp_lt hx hb d_SpectrumDesk_make_2 rfl (fun hc => ?_) (fun hc => ?_)
  · exact absurd hc (nI_nlt (by omega) (by omega))
  · refine lv_iload_n hx hb d_SpectrumDesk_make_5 rfl (lv_at hl 1 rfl) ?_
    refine lv_bipush (v := nI 6) hx hb d_SpectrumDesk_make_6 (by decide) ?_
    refine lv_icmp_le hx hb d_SpectrumDesk_make_8 rfl (fun hd => ?_) (fun hd => ?_)
    · refine lv_aload_n hx hb d_SpectrumDesk_make_21 rfl (lv_at hl 0 rfl) ?_
      refine lv_iload_n hx hb d_SpectrumDesk_make_22 rfl (lv_at hl 1 rfl) ?_
      refine xr_put (ty := .int) X I fin_S t_S t_S_ok n_S 0 (by omega) hS0 rfl 5 (by decide) (List.mem_cons_of_mem _ k_7fc62aa415) rfl rfl (by decide +kernel) rfl rfl (Nat.le_of_ble_eq_true rfl) d_SpectrumDesk_make_23 (fun H locs I => ?_)
      have I : xI D classes N ad s.heap (va_up σ 0 (.inr (ciS, [.ref (ad 1), .ref (ad 8), .ref (ad 9), .ref (ad 18), .ref (ad 179), .int (nI k9), .int (st)]))) H locs := I
      refine lv_iconst (v := nI 0) hx hb d_SpectrumDesk_make_26 (by decide) ?_
      refine lv_istore_n (lv' := [(2, .int (nI 0)), (0, .ref (ad 0)), (1, .int (nI k9))]) hx hb d_SpectrumDesk_make_27 rfl hl (by decide) rfl (fun ls hl => ?_)
      have loop : ∀ (q9 : Nat) (k : Nat) (σ2 : Nat → va_E) (A2 : Nat → Nat → Int32) (ls : Array Slot) (H : Heap) (locs : List Loc), k + q9 = k9 → (∀ q, 8 ≤ q → σ2 q = σ q) → σ2 0 = .inr (ciS, [.ref (ad 1), .ref (ad 8), .ref (ad 9), .ref (ad 18), .ref (ad 179), .int (nI k9), .int (st)]) → mat ad cI cG σ2 1 2 A2 → (∀ i j, i < 6 → j < 6 → A2 i j = if i < k then nI 0 else A i j) → lv_has ls 3 [(2, .int (nI k)), (0, .ref (ad 0)), (1, .int (nI k9))] → xI D classes N ad s.heap (σ2) H locs → W p l e (xrm 2) s m args below meth c H locs 0 0 (MQ below (va_Qv (fun σ2 => ∃ (A' P' : Nat → Nat → Int32) (S' : Nat → Int32), (∀ q, q = 8 ∨ 18 ≤ q → σ2 q = σ q) ∧ σ2 0 = .inr (ciS, [.ref (ad 1), .ref (ad 8), .ref (ad 9), .ref (ad 18), .ref (ad 179), .int (nI k9), .int (nI 1)]) ∧ mat ad cI cG σ2 1 2 A' ∧ (∀ i j, i < 6 → j < 6 → A' i j = if i < k9 then nI 0 else A i j) ∧ σ2 9 = .inr (ciU, [.ref (ad 10), .ref (ad 11), .int (nI 0)]) ∧ σ2 10 = .inl (cI, 6, .inl S') ∧ mat ad cI cG σ2 11 12 P' ∧ (∀ i, i < 6 → S' i = nI 0) ∧ ∀ i j, i < 6 → j < 6 → P' i j = nI 0) (xS D classes (xT cI cJ cZ cC cG cP) N ad) (xA N ad)) args s 0 0 (xA N ad)) (F0 m 28 ls []) := by
        intro q9
        induction q9 with
        | zero =>
          intro k σ2 A2 ls H locs hk a0 a1 a2 a3 hl I
          obtain rfl : k9 = k := by omega
          refine lv_iload_n hx hb d_SpectrumDesk_make_28 rfl (lv_at hl 0 rfl) ?_
          refine lv_iload_n hx hb d_SpectrumDesk_make_29 rfl (lv_at hl 2 rfl) ?_
          refine lv_icmp_ge hx hb d_SpectrumDesk_make_30 rfl (fun hd => ?_) (fun hd => ?_)
          · refine lv_aload_n hx hb d_SpectrumDesk_make_49 rfl (lv_at hl 1 rfl) ?_
            refine xr_get X I fin_S 0 (by omega) a1 rfl 2 (by decide) (List.mem_cons_of_mem _ k_b8173ba267) rfl rfl d_SpectrumDesk_make_50 ?_
            have u1 := (a0 9 (by omega)).trans hU
            refine xr_callv (xr_runV (kc := 1) (kr := 2) (n := 0) (As := []) (rest := []) X I (by omega) u1 rfl (c_Sums_clear (σ := σ2) hN u1 ((a0 10 (by omega)).trans hS) (mat_same hP (a0 11 (by omega)) (fun q h1 h2 => a0 q (by omega)))) (xg k_52c39eb4bc) (List.mem_cons_of_mem _ k_34b9649f16) (List.mem_cons_of_mem _ k_efbc7c854b) (List.mem_cons_of_mem _ k_6a47c097ab) (List.mem_cons_of_mem _ k_9f148695dd) (by decide +kernel) (by decide) rfl hl.1 rfl (Nat.le_of_ble_eq_true rfl) d_SpectrumDesk_make_53) I (fun σ3 H locs hp I => ?_)
            obtain ⟨S3, P3, b0, b1, b2, b3, b4, b5⟩ := hp
            refine lv_aload_n hx hb d_SpectrumDesk_make_56 rfl (lv_at hl 1 rfl) ?_
            refine lv_iconst (v := nI 1) hx hb d_SpectrumDesk_make_57 (by decide) ?_
            refine xr_put (ty := .boolean) X I fin_S t_S t_S_ok n_S 0 (by omega) ((b0 0 (by omega)).trans a1) rfl 6 (by decide) (List.mem_cons_of_mem _ k_96c8c183a8) rfl rfl (by decide +kernel) rfl rfl (Nat.le_of_ble_eq_true rfl) d_SpectrumDesk_make_58 (fun H locs I => ?_)
            exact xr_vret X I hr hlk ⟨A2, P3, S3, fun q hq => (va_up_ne _ _ (by omega)).trans ((b0 q (by omega)).trans (a0 q (by omega))), va_up_self _ _ _, mat_same a2 ((va_up_ne _ _ (by decide)).trans (b0 1 (by omega))) (fun q h1 h2 => (va_up_ne _ _ (by omega)).trans (b0 q (by omega))), a3, (va_up_ne _ _ (by decide)).trans b1, (va_up_ne _ _ (by decide)).trans b2, mat_same b3 (va_up_ne _ _ (by decide)) (fun q h1 h2 => va_up_ne _ _ (by omega)), b4, b5⟩ d_SpectrumDesk_make_61
          · exact absurd (nI_le (Nat.le_refl _) (by omega)) hd
        | succ q9 ih =>
          intro k σ2 A2 ls H locs hk a0 a1 a2 a3 hl I
          refine lv_iload_n hx hb d_SpectrumDesk_make_28 rfl (lv_at hl 0 rfl) ?_
          refine lv_iload_n hx hb d_SpectrumDesk_make_29 rfl (lv_at hl 2 rfl) ?_
          refine lv_icmp_ge hx hb d_SpectrumDesk_make_30 rfl (fun hd => ?_) (fun hd => ?_)
          · exact absurd hd (nI_ge (by omega) (by omega))
          · refine lv_aload_n hx hb d_SpectrumDesk_make_33 rfl (lv_at hl 1 rfl) ?_
            refine xr_get X I fin_S 0 (by omega) a1 rfl 0 (by decide) (List.mem_cons_of_mem _ k_c7908b049a) rfl rfl d_SpectrumDesk_make_34 ?_
            refine lv_iload_n hx hb d_SpectrumDesk_make_37 rfl (lv_at hl 0 rfl) ?_
            refine xr_aald X I 1 4 (by omega) (a2).1 rfl rfl (by omega) (by decide) (mx_at (by omega)) d_SpectrumDesk_make_38 ?_
            refine lv_iconst (v := nI 0) hx hb d_SpectrumDesk_make_39 (by decide) ?_
            refine xr_callv (xr_runS (kc := 0) (kr := 2) (n := 2) (As := [.ref (ad (2 + k)), .int (nI 0)]) (rest := []) X I (c_Arrays_fill2 (σ := σ2) (a := 2 + k) (v := nI 0) (by omega) (a2.2 k (by omega)) (by decide)) (xg k_fe7515a6f7) (List.mem_cons_of_mem _ k_66efced8be) (List.mem_cons_of_mem _ k_09018f8637) (List.mem_cons_of_mem _ k_9b51368402) (by decide +kernel) (by decide) rfl hl.1 rfl (Nat.le_of_ble_eq_true rfl) d_SpectrumDesk_make_40) I (fun σ3 H locs hp I => ?_)
            obtain ⟨f2, rfl, f3, -⟩ := hp
            refine lv_iinc (k := 0) (v := nI (k + 1)) (lv' := [(2, .int (nI (k + 1))), (0, .ref (ad 0)), (1, .int (nI k9))]) hx hb d_SpectrumDesk_make_43 hl rfl (nI_1 k) (by decide) rfl (fun ls hl => ?_)
            refine lv_goto hx hb d_SpectrumDesk_make_46 rfl ?_
            refine ih (k + 1) _ _ ls H locs (by omega) (fun q hq => (va_up_ne _ _ (by omega)).trans (a0 q hq)) ((va_up_ne _ _ (by omega)).trans a1) (mat_row a2 (by omega) (by omega) f2) (fun i j hi hj => ?_) hl I
            by_cases e9 : i = k
            · rw [e9, va_up_self, if_pos (Nat.lt_succ_self _)]; exact f3 j hj
            · rw [va_up_ne _ _ e9, a3 i j hi hj]
              by_cases h : i < k
              · rw [if_pos h, if_pos (by omega)]
              · rw [if_neg h, if_neg (by omega)]
      exact loop k9 0 _ A ls _ _ (by omega) (fun q hq => va_up_ne _ _ (by omega)) (va_up_self _ _ _) (mat_same hA (va_up_ne _ _ (by decide)) (fun q h1 h2 => va_up_ne _ _ (by omega))) (fun i j hi hj => by rw [if_neg (Nat.not_lt_zero _)]) hl I
    · exact absurd (nI_le h6 (by decide)) hd
set_option maxHeartbeats 4000000 in
set_option maxRecDepth 100000 in
theorem c_SpectrumDesk_size {l : Launch} {D : va_G} {cI cJ cZ cC cG cP : ClassId} {N : Nat} {ad : Nat → Nat} {σ : Nat → va_E} {n : Nat} {st : Int32} (hN : N = 193) (hS0 : σ 0 = .inr (ciS, [.ref (ad 1), .ref (ad 8), .ref (ad 9), .ref (ad 18), .ref (ad 179), .int (nI n), .int st])) {v : Int32} {rw : Nat} (hU : σ 9 = .inr (ciU, [.ref (ad 10), .ref (ad 11), .int (nI rw)])) :
    Met l y_SpectrumDesk_size v_SpectrumDesk_size (xrm 0) (va_Pc [.ref (ad 0), .int v] (xS D classes (xT cI cJ cZ cC cG cP) N ad σ)) (va_Qi (fun r σ2 => r = (if v = 0 then nI n else if v = nI 1 then nI rw else -1) ∧ σ2 = σ) (xS D classes (xT cI cJ cZ cC cG cP) N ad) (xA N ad)) 0 0 (xA N ad) := by
  refine xr_met rfl (Nat.le_of_ble_eq_true rfl) ?_
  intro p e s m args below meth c ls hx hb X hr hlk hl I
  have hl : lv_has ls 2 [(0, .ref (ad 0)), (1, .int v)] := hl
  refine lv_iload_n hx hb d_SpectrumDesk_size_0 rfl (lv_at hl 1 rfl) ?_
  refine lv_if_ne hx hb d_SpectrumDesk_size_1 rfl (fun hc => ?_) (fun hc => ?_)
  · refine lv_iload_n hx hb d_SpectrumDesk_size_9 rfl (lv_at hl 1 rfl) ?_
    refine lv_iconst (v := nI 1) hx hb d_SpectrumDesk_size_10 (by decide) ?_
    refine lv_icmp_ne hx hb d_SpectrumDesk_size_11 rfl (fun hd => ?_) (fun hd => ?_)
    · refine lv_iconst (v := (-1)) hx hb d_SpectrumDesk_size_24 (by decide) ?_
      exact xr_iret X I hr hlk ⟨by rw [if_neg hc, if_neg hd], rfl⟩ d_SpectrumDesk_size_25
    · refine lv_aload_n hx hb d_SpectrumDesk_size_14 rfl (lv_at hl 0 rfl) ?_
      refine xr_get X I fin_S 0 (by omega) hS0 rfl 2 (by decide) (List.mem_cons_of_mem _ k_b8173ba267) rfl rfl d_SpectrumDesk_size_15 ?_
      refine xr_get X I fin_U 9 (by omega) hU rfl 2 (by decide) (List.mem_cons_of_mem _ k_cbec184999) rfl rfl d_SpectrumDesk_size_18 ?_
      refine lv_goto hx hb d_SpectrumDesk_size_21 rfl ?_
      exact xr_iret X I hr hlk ⟨by rw [if_neg hc, if_pos hd], rfl⟩ d_SpectrumDesk_size_25
  · refine lv_aload_n hx hb d_SpectrumDesk_size_4 rfl (lv_at hl 0 rfl) ?_
    refine xr_get X I fin_S 0 (by omega) hS0 rfl 5 (by decide) (List.mem_cons_of_mem _ k_7fc62aa415) rfl rfl d_SpectrumDesk_size_5 ?_
    exact xr_iret X I hr hlk ⟨by rw [if_pos hc], rfl⟩ d_SpectrumDesk_size_8
set_option maxHeartbeats 4000000 in
set_option maxRecDepth 100000 in
theorem c_SpectrumDesk_character {l : Launch} {D : va_G} {cI cJ cZ cC cG cP : ClassId} {N : Nat} {ad : Nat → Nat} {σ : Nat → va_E} {n : Nat} {st : Int32} (hN : N = 193) (hS0 : σ 0 = .inr (ciS, [.ref (ad 1), .ref (ad 8), .ref (ad 9), .ref (ad 18), .ref (ad 179), .int (nI n), .int st])) {v : Int32} {ln : Nat} {Tx : Nat → Int32} (hR : σ 179 = .inr (ciR, [.ref (ad 180), .ref (ad 181), .ref (ad 182), .int (nI ln)])) (hT : σ 180 = .inl (cC, 61, .inl Tx)) (hln : ln ≤ 61) :
    Met l y_SpectrumDesk_character v_SpectrumDesk_character (xrm 0) (va_Pc [.ref (ad 0), .int v] (xS D classes (xT cI cJ cZ cC cG cP) N ad σ)) (va_Qi (fun r σ2 => (∀ k, v = nI k → k < ln → r = Tx k) ∧ ((v < 0 ∨ nI ln ≤ v) → r = -1) ∧ σ2 = σ) (xS D classes (xT cI cJ cZ cC cG cP) N ad) (xA N ad)) 0 0 (xA N ad) := by
  refine xr_met rfl (Nat.le_of_ble_eq_true rfl) ?_
  intro p e s m args below meth c ls hx hb X hr hlk hl I
  have hl : lv_has ls 2 [(0, .ref (ad 0)), (1, .int v)] := hl
  refine lv_iload_n hx hb d_SpectrumDesk_character_0 rfl (lv_at hl 1 rfl) ?_
  refine lv_if_lt hx hb d_SpectrumDesk_character_1 rfl (fun hc => ?_) (fun hc => ?_)
  · refine lv_iconst (v := (-1)) hx hb d_SpectrumDesk_character_15 (by decide) ?_
    exact xr_iret X I hr hlk ⟨fun k h1 h2 => absurd hc (by rw [h1]; exact nI_pos (by omega)), fun _ => rfl, rfl⟩ d_SpectrumDesk_character_16
  · refine lv_iload_n hx hb d_SpectrumDesk_character_4 rfl (lv_at hl 1 rfl) ?_
    refine lv_aload_n hx hb d_SpectrumDesk_character_5 rfl (lv_at hl 0 rfl) ?_
    refine xr_get X I fin_S 0 (by omega) hS0 rfl 4 (by decide) (List.mem_cons_of_mem _ k_01728a6d8c) rfl rfl d_SpectrumDesk_character_6 ?_
    refine xr_get X I fin_R 179 (by omega) hR rfl 3 (by decide) (List.mem_cons_of_mem _ k_f9a033385b) rfl rfl d_SpectrumDesk_character_9 ?_
    refine lv_icmp_lt hx hb d_SpectrumDesk_character_12 rfl (fun hd => ?_) (fun hd => ?_)
    · obtain ⟨k, hk1, rfl⟩ := nI_of9 hc hd (by omega)
      refine lv_aload_n hx hb d_SpectrumDesk_character_17 rfl (lv_at hl 0 rfl) ?_
      refine xr_get X I fin_S 0 (by omega) hS0 rfl 4 (by decide) (List.mem_cons_of_mem _ k_01728a6d8c) rfl rfl d_SpectrumDesk_character_18 ?_
      refine xr_get X I fin_R 179 (by omega) hR rfl 0 (by decide) (List.mem_cons_of_mem _ k_896c728e1a) rfl rfl d_SpectrumDesk_character_21 ?_
      refine lv_iload_n hx hb d_SpectrumDesk_character_24 rfl (lv_at hl 1 rfl) ?_
      refine xr_cald X I 180 3 (by omega) hT rfl (by omega) (by decide) d_SpectrumDesk_character_25 ?_
      exact xr_iret X I hr hlk ⟨fun k2 h1 h2 => by rw [(nI_eq (by omega) (by omega)).mp h1], fun h => absurd h (fun h => h.elim (nI_pos (by omega)) (fun h => absurd ((nI_leI (by omega) (by omega)).mp h) (by omega))), rfl⟩ d_SpectrumDesk_character_26
    · refine lv_iconst (v := (-1)) hx hb d_SpectrumDesk_character_15 (by decide) ?_
      exact xr_iret X I hr hlk ⟨fun k h1 h2 => absurd (by rw [h1]; exact nI_lt h2 (by omega)) hd, fun _ => rfl, rfl⟩ d_SpectrumDesk_character_16
set_option maxHeartbeats 4000000 in
set_option maxRecDepth 100000 in
theorem c_SpectrumDesk_shift {l : Launch} {D : va_G} {cI cJ cZ cC cG cP : ClassId} {N : Nat} {ad : Nat → Nat} {σ : Nat → va_E} {n : Nat} {st : Int32} (hN : N = 193) (hS0 : σ 0 = .inr (ciS, [.ref (ad 1), .ref (ad 8), .ref (ad 9), .ref (ad 18), .ref (ad 179), .int (nI n), .int st])) {A : Nat → Nat → Int32} {v : Int32} (hn : n ≤ 6) (hA : mat ad cI cG σ 1 2 A) :
    Met l y_SpectrumDesk_shift v_SpectrumDesk_shift (xrm 1) (va_Pc [.ref (ad 0), .int v] (xS D classes (xT cI cJ cZ cC cG cP) N ad σ)) (va_Qi (fun r σ2 => ((∀ i, i < n → -1000000 ≤ (A i i).toInt + v.toInt ∧ (A i i).toInt + v.toInt ≤ 1000000) ∧ r = nI 0 ∧ ∃ A' : Nat → Nat → Int32, (∀ q, q ≠ 0 → q < 2 ∨ 8 ≤ q → σ2 q = σ q) ∧ σ2 0 = .inr (ciS, [.ref (ad 1), .ref (ad 8), .ref (ad 9), .ref (ad 18), .ref (ad 179), .int (nI n), .int (nI 1)]) ∧ mat ad cI cG σ2 1 2 A' ∧ ∀ a b, a < 6 → A' a b = if a = b ∧ a < n then A a b + v else A a b) ∨ (¬ (∀ i, i < n → -1000000 ≤ (A i i).toInt + v.toInt ∧ (A i i).toInt + v.toInt ≤ 1000000) ∧ r = -2 ∧ σ2 = σ)) (xS D classes (xT cI cJ cZ cC cG cP) N ad) (xA N ad)) 0 0 (xA N ad) := by
  refine xr_met rfl (Nat.le_of_ble_eq_true rfl) ?_
  intro p e s m args below meth c ls hx hb X hr hlk hl I
  have hl : lv_has ls 3 [(0, .ref (ad 0)), (1, .int v)] := hl
  refine lv_iconst (v := nI 0) hx hb d_SpectrumDesk_shift_0 (by decide) ?_
  refine lv_istore_n (lv' := [(2, .int (nI 0)), (0, .ref (ad 0)), (1, .int v)]) hx hb d_SpectrumDesk_shift_1 rfl hl (by decide) rfl (fun ls hl => ?_)
  have second : ∀ (hfit : (∀ i, i < n → -1000000 ≤ (A i i).toInt + v.toInt ∧ (A i i).toInt + v.toInt ≤ 1000000)) (f : Nat) (k : Nat) (σ2 : Nat → va_E) (A2 : Nat → Nat → Int32) (ls : Array Slot) (H : Heap) (locs : List Loc), k + f = n → (∀ q, q < 2 ∨ 8 ≤ q → σ2 q = σ q) → σ2 0 = .inr (ciS, [.ref (ad 1), .ref (ad 8), .ref (ad 9), .ref (ad 18), .ref (ad 179), .int (nI n), .int (st)]) → mat ad cI cG σ2 1 2 A2 → (∀ a b, a < 6 → A2 a b = if a = b ∧ a < k then A a b + v else A a b) → lv_has ls 3 [(2, .int (nI k)), (0, .ref (ad 0)), (1, .int v)] → xI D classes N ad s.heap (σ2) H locs → W p l e (xrm 1) s m args below meth c H locs 0 0 (MQ below (va_Qi (fun r σ2 => ((∀ i, i < n → -1000000 ≤ (A i i).toInt + v.toInt ∧ (A i i).toInt + v.toInt ≤ 1000000) ∧ r = nI 0 ∧ ∃ A' : Nat → Nat → Int32, (∀ q, q ≠ 0 → q < 2 ∨ 8 ≤ q → σ2 q = σ q) ∧ σ2 0 = .inr (ciS, [.ref (ad 1), .ref (ad 8), .ref (ad 9), .ref (ad 18), .ref (ad 179), .int (nI n), .int (nI 1)]) ∧ mat ad cI cG σ2 1 2 A' ∧ ∀ a b, a < 6 → A' a b = if a = b ∧ a < n then A a b + v else A a b) ∨ (¬ (∀ i, i < n → -1000000 ≤ (A i i).toInt + v.toInt ∧ (A i i).toInt + v.toInt ≤ 1000000) ∧ r = -2 ∧ σ2 = σ)) (xS D classes (xT cI cJ cZ cC cG cP) N ad) (xA N ad)) args s 0 0 (xA N ad)) (F0 m 42 ls []) := by
    intro hfit f
    induction f with
    | zero =>
      intro k σ2 A2 ls H locs hk a0 a1 a2 a3 hl I
      obtain rfl : k = n := by omega
      refine lv_iload_n hx hb d_SpectrumDesk_shift_42 rfl (lv_at hl 0 rfl) ?_
      refine lv_aload_n hx hb d_SpectrumDesk_shift_43 rfl (lv_at hl 1 rfl) ?_
      refine xr_get X I fin_S 0 (by omega) a1 rfl 5 (by decide) (List.mem_cons_of_mem _ k_7fc62aa415) rfl rfl d_SpectrumDesk_shift_44 ?_
      refine lv_icmp_ge hx hb d_SpectrumDesk_shift_47 rfl (fun hc => ?_) (fun hc => ?_)
      · refine lv_aload_n hx hb d_SpectrumDesk_shift_68 rfl (lv_at hl 1 rfl) ?_
        refine lv_iconst (v := nI 1) hx hb d_SpectrumDesk_shift_69 (by decide) ?_
        refine xr_put (ty := .boolean) X I fin_S t_S t_S_ok n_S 0 (by omega) a1 rfl 6 (by decide) (List.mem_cons_of_mem _ k_96c8c183a8) rfl rfl (by decide +kernel) rfl rfl (Nat.le_of_ble_eq_true rfl) d_SpectrumDesk_shift_70 (fun H locs I => ?_)
        refine lv_iconst (v := nI 0) hx hb d_SpectrumDesk_shift_73 (by decide) ?_
        exact xr_iret X I hr hlk (Or.inl ⟨hfit, rfl, A2, fun q h0 hq => (va_up_ne _ _ h0).trans (a0 q hq), va_up_self _ _ _, mat_same a2 (va_up_ne _ _ (by decide)) (fun q h1 h2 => va_up_ne _ _ (by omega)), a3⟩) d_SpectrumDesk_shift_74
      · exact absurd (nI_le (Nat.le_refl _) (by omega)) hc
    | succ f ih =>
      intro k σ2 A2 ls H locs hk a0 a1 a2 a3 hl I
      refine lv_iload_n hx hb d_SpectrumDesk_shift_42 rfl (lv_at hl 0 rfl) ?_
      refine lv_aload_n hx hb d_SpectrumDesk_shift_43 rfl (lv_at hl 1 rfl) ?_
      refine xr_get X I fin_S 0 (by omega) a1 rfl 5 (by decide) (List.mem_cons_of_mem _ k_7fc62aa415) rfl rfl d_SpectrumDesk_shift_44 ?_
      refine lv_icmp_ge hx hb d_SpectrumDesk_shift_47 rfl (fun hc => ?_) (fun hc => ?_)
      · exact absurd hc (nI_ge (by omega) (by omega))
      · refine lv_aload_n hx hb d_SpectrumDesk_shift_50 rfl (lv_at hl 1 rfl) ?_
        refine xr_get X I fin_S 0 (by omega) a1 rfl 0 (by decide) (List.mem_cons_of_mem _ k_c7908b049a) rfl rfl d_SpectrumDesk_shift_51 ?_
        refine lv_iload_n hx hb d_SpectrumDesk_shift_54 rfl (lv_at hl 0 rfl) ?_
        refine xr_aald X I 1 4 (by omega) (a2).1 rfl rfl (by omega) (by decide) (mx_at (by omega)) d_SpectrumDesk_shift_55 ?_
        refine lv_iload_n hx hb d_SpectrumDesk_shift_56 rfl (lv_at hl 0 rfl) ?_
        refine lv_dup2_11 hx hb d_SpectrumDesk_shift_57 rfl rfl ?_
        refine xr_iald X I (2 + k) 0 (by omega) ((a2).2 _ (by omega)) rfl (by omega) (by decide) d_SpectrumDesk_shift_58 ?_
        refine lv_iload_n hx hb d_SpectrumDesk_shift_59 rfl (lv_at hl 2 rfl) ?_
        refine lv_iadd hx hb d_SpectrumDesk_shift_60 ?_
        have e5 : A2 k k + v = A k k + v := by rw [a3 k k (by omega), if_neg (by omega)]
        refine xr_topi (y := A k k + v) e5 ?_
        refine xr_iast X I (2 + k) 0 (by omega) (a2.2 k (by omega)) rfl (by omega) (by decide) d_SpectrumDesk_shift_61 (fun H locs I => ?_)
        refine lv_iinc (k := 0) (v := nI (k + 1)) (lv' := [(2, .int (nI (k + 1))), (0, .ref (ad 0)), (1, .int v)]) hx hb d_SpectrumDesk_shift_62 hl rfl (nI_1 k) (by decide) rfl (fun ls hl => ?_)
        refine lv_goto hx hb d_SpectrumDesk_shift_65 rfl ?_
        refine ih (k + 1) _ _ ls H locs (by omega) (fun q hq => (va_up_ne _ _ (by omega)).trans (a0 q hq)) ((va_up_ne _ _ (by omega)).trans a1) (mat_row a2 (by omega) (by omega) _) (fun a b ha => ?_) hl I
        by_cases ea : a = k
        · rw [ea, va_up_self]
          by_cases eb : b = k
          · rw [eb, upd_s, if_pos (by omega)]
          · rw [upd_n eb, a3 k b (by omega), if_neg (by omega), if_neg (by omega)]
        · rw [va_up_ne _ _ ea, a3 a b ha]
          by_cases h : a = b ∧ a < k
          · rw [if_pos h, if_pos (by omega)]
          · rw [if_neg h, if_neg (by omega)]
  have first : ∀ (f : Nat) (k : Nat) (ls : Array Slot) (H : Heap) (locs : List Loc), k + f = n → (∀ i, i < k → -1000000 ≤ (A i i).toInt + v.toInt ∧ (A i i).toInt + v.toInt ≤ 1000000) → lv_has ls 3 [(2, .int (nI k)), (0, .ref (ad 0)), (1, .int v)] → xI D classes N ad s.heap (σ) H locs → W p l e (xrm 1) s m args below meth c H locs 0 0 (MQ below (va_Qi (fun r σ2 => ((∀ i, i < n → -1000000 ≤ (A i i).toInt + v.toInt ∧ (A i i).toInt + v.toInt ≤ 1000000) ∧ r = nI 0 ∧ ∃ A' : Nat → Nat → Int32, (∀ q, q ≠ 0 → q < 2 ∨ 8 ≤ q → σ2 q = σ q) ∧ σ2 0 = .inr (ciS, [.ref (ad 1), .ref (ad 8), .ref (ad 9), .ref (ad 18), .ref (ad 179), .int (nI n), .int (nI 1)]) ∧ mat ad cI cG σ2 1 2 A' ∧ ∀ a b, a < 6 → A' a b = if a = b ∧ a < n then A a b + v else A a b) ∨ (¬ (∀ i, i < n → -1000000 ≤ (A i i).toInt + v.toInt ∧ (A i i).toInt + v.toInt ≤ 1000000) ∧ r = -2 ∧ σ2 = σ)) (xS D classes (xT cI cJ cZ cC cG cP) N ad) (xA N ad)) args s 0 0 (xA N ad)) (F0 m 2 ls []) := by
    intro f
    induction f with
    | zero =>
      intro k ls H locs hk hall hl I
      obtain rfl : k = n := by omega
      refine lv_iload_n hx hb d_SpectrumDesk_shift_2 rfl (lv_at hl 0 rfl) ?_
      refine lv_aload_n hx hb d_SpectrumDesk_shift_3 rfl (lv_at hl 1 rfl) ?_
      refine xr_get X I fin_S 0 (by omega) hS0 rfl 5 (by decide) (List.mem_cons_of_mem _ k_7fc62aa415) rfl rfl d_SpectrumDesk_shift_4 ?_
      refine lv_icmp_ge hx hb d_SpectrumDesk_shift_7 rfl (fun hc => ?_) (fun hc => ?_)
      · refine lv_iconst (v := nI 0) hx hb d_SpectrumDesk_shift_40 (by decide) ?_
        refine lv_istore_n (lv' := [(2, .int (nI 0)), (0, .ref (ad 0)), (1, .int v)]) hx hb d_SpectrumDesk_shift_41 rfl hl (by decide) rfl (fun ls hl => ?_)
        exact second hall k 0 σ A ls H locs (by omega) (fun _ _ => rfl) hS0 hA (fun a b ha => by rw [if_neg (by omega)]) hl I
      · exact absurd (nI_le (Nat.le_refl _) (by omega)) hc
    | succ f ih =>
      intro k ls H locs hk hall hl I
      refine lv_iload_n hx hb d_SpectrumDesk_shift_2 rfl (lv_at hl 0 rfl) ?_
      refine lv_aload_n hx hb d_SpectrumDesk_shift_3 rfl (lv_at hl 1 rfl) ?_
      refine xr_get X I fin_S 0 (by omega) hS0 rfl 5 (by decide) (List.mem_cons_of_mem _ k_7fc62aa415) rfl rfl d_SpectrumDesk_shift_4 ?_
      refine lv_icmp_ge hx hb d_SpectrumDesk_shift_7 rfl (fun hc => ?_) (fun hc => ?_)
      · exact absurd hc (nI_ge (by omega) (by omega))
      · refine lv_aload_n hx hb d_SpectrumDesk_shift_10 rfl (lv_at hl 1 rfl) ?_
        refine xr_get X I fin_S 0 (by omega) hS0 rfl 0 (by decide) (List.mem_cons_of_mem _ k_c7908b049a) rfl rfl d_SpectrumDesk_shift_11 ?_
        refine lv_iload_n hx hb d_SpectrumDesk_shift_14 rfl (lv_at hl 0 rfl) ?_
        refine xr_aald X I 1 4 (by omega) (hA).1 rfl rfl (by omega) (by decide) (mx_at (by omega)) d_SpectrumDesk_shift_15 ?_
        refine lv_iload_n hx hb d_SpectrumDesk_shift_16 rfl (lv_at hl 0 rfl) ?_
        refine xr_iald X I (2 + k) 0 (by omega) ((hA).2 _ (by omega)) rfl (by omega) (by decide) d_SpectrumDesk_shift_17 ?_
        refine lv_i2l hx hb d_SpectrumDesk_shift_18 rfl ?_
        refine lv_iload_n hx hb d_SpectrumDesk_shift_19 rfl (lv_at hl 2 rfl) ?_
        refine lv_i2l hx hb d_SpectrumDesk_shift_20 rfl ?_
        have hs9 : ((A k k).toInt64 + v.toInt64).toInt = (A k k).toInt + v.toInt := by have h1 := (A k k).le_toInt; have h2 := (A k k).toInt_lt; have h3 := v.le_toInt; have h4 := v.toInt_lt; rw [q_ladd (by rw [q_i2l, q_i2l]; omega) (by rw [q_i2l, q_i2l]; omega), q_i2l, q_i2l]
        refine lv_ladd hx hb d_SpectrumDesk_shift_21 ?_
        refine lv_ldc2 (v := 1000000) hx hb X.1.2.2.2.1 (X.1.2.2.2.2 _ (List.mem_cons_of_mem _ k_95d26a71b1)) d_SpectrumDesk_shift_22 ?_
        refine xr_calli (xr_runS (kc := 0) (kr := 1) (n := 2) (As := [.long (((A k k).toInt64) + ((v).toInt64)), .long 1000000]) (rest := []) X I (c_SpectrumDesk_isTooLarge (v := (A k k).toInt64 + v.toInt64) (b := 1000000) (by decide)) (xg k_8af4840bff) (List.mem_cons_of_mem _ k_6d288a6279) (List.mem_cons_of_mem _ k_e5a468ce78) (List.mem_cons_of_mem _ k_6836736ab7) (by decide +kernel) (by decide) rfl hl.1 rfl (Nat.le_of_ble_eq_true rfl) d_SpectrumDesk_shift_25) I (fun r1 σ9 H locs hp I => ?_)
        obtain ⟨er1, h9⟩ := hp; rw [h9] at I; clear h9
        rw [show (1000000 : Int64).toInt = 1000000 by decide] at er1
        rw [hs9] at er1
        refine lv_if_eq hx hb d_SpectrumDesk_shift_28 rfl (fun hd => ?_) (fun hd => ?_)
        · have h0 : ¬ ((A k k).toInt + v.toInt > 1000000 ∨ (A k k).toInt + v.toInt < -1000000) := fun h => by rw [er1, if_pos h] at hd; exact absurd hd (by decide)
          refine lv_iinc (k := 0) (v := nI (k + 1)) (lv' := [(2, .int (nI (k + 1))), (0, .ref (ad 0)), (1, .int v)]) hx hb d_SpectrumDesk_shift_34 hl rfl (nI_1 k) (by decide) rfl (fun ls hl => ?_)
          refine lv_goto hx hb d_SpectrumDesk_shift_37 rfl ?_
          exact ih (k + 1) ls H locs (by omega) (fun i hi => by rcases Nat.lt_or_ge i k with h | h; exact hall i h; obtain rfl : i = k := (by omega); omega) hl I
        · have h0 : ((A k k).toInt + v.toInt > 1000000 ∨ (A k k).toInt + v.toInt < -1000000) := Decidable.not_not.mp (fun h => hd (by rw [er1, if_neg h]; rfl))
          refine lv_bipush (v := (-2)) hx hb d_SpectrumDesk_shift_31 (by decide) ?_
          exact xr_iret X I hr hlk (Or.inr ⟨fun h => by have := h k (by omega); omega, rfl, rfl⟩) d_SpectrumDesk_shift_33
  exact first n 0 ls _ _ (by omega) (fun i hi => absurd hi (Nat.not_lt_zero _)) hl I
set_option maxHeartbeats 4000000 in
set_option maxRecDepth 100000 in
theorem c_SpectrumDesk_data {l : Launch} {D : va_G} {cI cJ cZ cC cG cP : ClassId} {N : Nat} {ad : Nat → Nat} {σ : Nat → va_E} {n : Nat} {st : Int32} (hN : N = 193) (hS0 : σ 0 = .inr (ciS, [.ref (ad 1), .ref (ad 8), .ref (ad 9), .ref (ad 18), .ref (ad 179), .int (nI n), .int st])) {a1 a2 a3 a4 a5 a6 : Int32} {rw : Nat} {g S : Nat → Int32} {P : Nat → Nat → Int32} (hn : n ≤ 6) (hrw : rw ≤ 100) (hg : σ 8 = .inl (cI, 6, .inl g)) (hU : σ 9 = .inr (ciU, [.ref (ad 10), .ref (ad 11), .int (nI rw)])) (hS : σ 10 = .inl (cI, 6, .inl S)) (hP : mat ad cI cG σ 11 12 P) :
    Met l y_SpectrumDesk_data v_SpectrumDesk_data (xrm 1) (va_Pc [.ref (ad 0), .int a1, .int a2, .int a3, .int a4, .int a5, .int a6] (xS D classes (xT cI cJ cZ cC cG cP) N ad σ)) (va_Qi (fun r σ2 => ((rw < 100 ∧ ∀ k, k < n → -1000 ≤ ((v6 a1 a2 a3 a4 a5 a6) k).toInt ∧ ((v6 a1 a2 a3 a4 a5 a6) k).toInt ≤ 1000) ∧ r = nI (rw + 1) ∧ ∃ (g' S' : Nat → Int32) (P' : Nat → Nat → Int32), (∀ q, q < 8 ∨ 18 ≤ q → σ2 q = σ q) ∧ σ2 8 = .inl (cI, 6, .inl g') ∧ σ2 9 = .inr (ciU, [.ref (ad 10), .ref (ad 11), .int (nI (rw + 1))]) ∧ σ2 10 = .inl (cI, 6, .inl S') ∧ mat ad cI cG σ2 11 12 P' ∧ (∀ i, i < 6 → S' i = if i < n then S i + (v6 a1 a2 a3 a4 a5 a6) i else S i) ∧ ∀ i j, i < 6 → j < 6 → P' i j = if i < n ∧ j < n then P i j + (v6 a1 a2 a3 a4 a5 a6) i * (v6 a1 a2 a3 a4 a5 a6) j else P i j) ∨ (¬ (rw < 100 ∧ ∀ k, k < n → -1000 ≤ ((v6 a1 a2 a3 a4 a5 a6) k).toInt ∧ ((v6 a1 a2 a3 a4 a5 a6) k).toInt ≤ 1000) ∧ r = -1 ∧ ∃ g' : Nat → Int32, (∀ q, q ≠ 8 → σ2 q = σ q) ∧ σ2 8 = .inl (cI, 6, .inl g'))) (xS D classes (xT cI cJ cZ cC cG cP) N ad) (xA N ad)) 0 0 (xA N ad) := by
  refine xr_met rfl (Nat.le_of_ble_eq_true rfl) ?_
  intro p e s m args below meth c ls hx hb X hr hlk hl I
  have hl : lv_has ls 8 [(0, .ref (ad 0)), (1, .int a1), (2, .int a2), (3, .int a3), (4, .int a4), (5, .int a5), (6, .int a6)] := hl
  refine lv_aload_n hx hb d_SpectrumDesk_data_0 rfl (lv_at hl 0 rfl) ?_
  refine xr_get X I fin_S 0 (by omega) hS0 rfl 2 (by decide) (List.mem_cons_of_mem _ k_b8173ba267) rfl rfl d_SpectrumDesk_data_1 ?_
  refine xr_get X I fin_U 9 (by omega) hU rfl 2 (by decide) (List.mem_cons_of_mem _ k_cbec184999) rfl rfl d_SpectrumDesk_data_4 ?_
  refine lv_bipush (v := nI 100) hx hb d_SpectrumDesk_data_7 (by decide) ?_
  refine lv_icmp_lt hx hb d_SpectrumDesk_data_9 rfl (fun hc => ?_) (fun hc => ?_)
  · have hr9 : rw < 100 := by rcases Nat.lt_or_ge rw 100 with h | h; exact h; exact absurd hc (nI_nlt (by omega) (by omega))
    refine lv_aload_n hx hb d_SpectrumDesk_data_14 rfl (lv_at hl 0 rfl) ?_
    refine xr_get X I fin_S 0 (by omega) hS0 rfl 1 (by decide) (List.mem_cons_of_mem _ k_64125c4ddc) rfl rfl d_SpectrumDesk_data_15 ?_
    refine lv_iconst (v := nI 0) hx hb d_SpectrumDesk_data_18 (by decide) ?_
    refine lv_iload_n hx hb d_SpectrumDesk_data_19 rfl (lv_at hl 1 rfl) ?_
    refine xr_iast X I 8 0 (by omega) hg rfl (by decide) (by decide) d_SpectrumDesk_data_20 (fun H locs I => ?_)
    refine lv_aload_n hx hb d_SpectrumDesk_data_21 rfl (lv_at hl 0 rfl) ?_
    refine xr_get X I fin_S 0 (by omega) ((va_up_ne _ _ (by decide)).trans hS0) rfl 1 (by decide) (List.mem_cons_of_mem _ k_64125c4ddc) rfl rfl d_SpectrumDesk_data_22 ?_
    refine lv_iconst (v := nI 1) hx hb d_SpectrumDesk_data_25 (by decide) ?_
    refine lv_iload_n hx hb d_SpectrumDesk_data_26 rfl (lv_at hl 2 rfl) ?_
    refine xr_iast X I 8 0 (by omega) (va_up_self _ _ _) rfl (by decide) (by decide) d_SpectrumDesk_data_27 (fun H locs I => ?_)
    rw [va_up_up] at I
    refine lv_aload_n hx hb d_SpectrumDesk_data_28 rfl (lv_at hl 0 rfl) ?_
    refine xr_get X I fin_S 0 (by omega) ((va_up_ne _ _ (by decide)).trans hS0) rfl 1 (by decide) (List.mem_cons_of_mem _ k_64125c4ddc) rfl rfl d_SpectrumDesk_data_29 ?_
    refine lv_iconst (v := nI 2) hx hb d_SpectrumDesk_data_32 (by decide) ?_
    refine lv_iload_n hx hb d_SpectrumDesk_data_33 rfl (lv_at hl 3 rfl) ?_
    refine xr_iast X I 8 0 (by omega) (va_up_self _ _ _) rfl (by decide) (by decide) d_SpectrumDesk_data_34 (fun H locs I => ?_)
    rw [va_up_up] at I
    refine lv_aload_n hx hb d_SpectrumDesk_data_35 rfl (lv_at hl 0 rfl) ?_
    refine xr_get X I fin_S 0 (by omega) ((va_up_ne _ _ (by decide)).trans hS0) rfl 1 (by decide) (List.mem_cons_of_mem _ k_64125c4ddc) rfl rfl d_SpectrumDesk_data_36 ?_
    refine lv_iconst (v := nI 3) hx hb d_SpectrumDesk_data_39 (by decide) ?_
    refine lv_iload hx hb d_SpectrumDesk_data_40 (lv_at hl 4 rfl) ?_
    refine xr_iast X I 8 0 (by omega) (va_up_self _ _ _) rfl (by decide) (by decide) d_SpectrumDesk_data_42 (fun H locs I => ?_)
    rw [va_up_up] at I
    refine lv_aload_n hx hb d_SpectrumDesk_data_43 rfl (lv_at hl 0 rfl) ?_
    refine xr_get X I fin_S 0 (by omega) ((va_up_ne _ _ (by decide)).trans hS0) rfl 1 (by decide) (List.mem_cons_of_mem _ k_64125c4ddc) rfl rfl d_SpectrumDesk_data_44 ?_
    refine lv_iconst (v := nI 4) hx hb d_SpectrumDesk_data_47 (by decide) ?_
    refine lv_iload hx hb d_SpectrumDesk_data_48 (lv_at hl 5 rfl) ?_
    refine xr_iast X I 8 0 (by omega) (va_up_self _ _ _) rfl (by decide) (by decide) d_SpectrumDesk_data_50 (fun H locs I => ?_)
    rw [va_up_up] at I
    refine lv_aload_n hx hb d_SpectrumDesk_data_51 rfl (lv_at hl 0 rfl) ?_
    refine xr_get X I fin_S 0 (by omega) ((va_up_ne _ _ (by decide)).trans hS0) rfl 1 (by decide) (List.mem_cons_of_mem _ k_64125c4ddc) rfl rfl d_SpectrumDesk_data_52 ?_
    refine lv_iconst (v := nI 5) hx hb d_SpectrumDesk_data_55 (by decide) ?_
    refine lv_iload hx hb d_SpectrumDesk_data_56 (lv_at hl 6 rfl) ?_
    refine xr_iast X I 8 0 (by omega) (va_up_self _ _ _) rfl (by decide) (by decide) d_SpectrumDesk_data_58 (fun H locs I => ?_)
    rw [va_up_up] at I
    obtain ⟨g6, hg6⟩ : ∃ g6, g6 = upd (upd (upd (upd (upd (upd g 0 a1) 1 a2) 2 a3) 3 a4) 4 a5) 5 a6 := ⟨_, rfl⟩
    rw [← hg6] at I
    have gv : ∀ k, k < 6 → g6 k = (v6 a1 a2 a3 a4 a5 a6) k := fun k hk => by rw [hg6]; rcases k with _ | _ | _ | _ | _ | _ | k <;> first | rfl | omega
    clear hg6
    refine lv_iconst (v := nI 0) hx hb d_SpectrumDesk_data_59 (by decide) ?_
    refine lv_istore (lv' := [(7, .int (nI 0)), (0, .ref (ad 0)), (1, .int a1), (2, .int a2), (3, .int a3), (4, .int a4), (5, .int a5), (6, .int a6)]) hx hb d_SpectrumDesk_data_60 hl (by decide) rfl (fun ls hl => ?_)
    have loop : ∀ (f : Nat) (k : Nat) (ls : Array Slot) (H : Heap) (locs : List Loc), k + f = n → (∀ i, i < k → -1000 ≤ ((v6 a1 a2 a3 a4 a5 a6) i).toInt ∧ ((v6 a1 a2 a3 a4 a5 a6) i).toInt ≤ 1000) → lv_has ls 8 [(7, .int (nI k)), (0, .ref (ad 0)), (1, .int a1), (2, .int a2), (3, .int a3), (4, .int a4), (5, .int a5), (6, .int a6)] → xI D classes N ad s.heap (va_up σ 8 (.inl (cI, 6, .inl g6))) H locs → W p l e (xrm 1) s m args below meth c H locs 0 0 (MQ below (va_Qi (fun r σ2 => ((rw < 100 ∧ ∀ k, k < n → -1000 ≤ ((v6 a1 a2 a3 a4 a5 a6) k).toInt ∧ ((v6 a1 a2 a3 a4 a5 a6) k).toInt ≤ 1000) ∧ r = nI (rw + 1) ∧ ∃ (g' S' : Nat → Int32) (P' : Nat → Nat → Int32), (∀ q, q < 8 ∨ 18 ≤ q → σ2 q = σ q) ∧ σ2 8 = .inl (cI, 6, .inl g') ∧ σ2 9 = .inr (ciU, [.ref (ad 10), .ref (ad 11), .int (nI (rw + 1))]) ∧ σ2 10 = .inl (cI, 6, .inl S') ∧ mat ad cI cG σ2 11 12 P' ∧ (∀ i, i < 6 → S' i = if i < n then S i + (v6 a1 a2 a3 a4 a5 a6) i else S i) ∧ ∀ i j, i < 6 → j < 6 → P' i j = if i < n ∧ j < n then P i j + (v6 a1 a2 a3 a4 a5 a6) i * (v6 a1 a2 a3 a4 a5 a6) j else P i j) ∨ (¬ (rw < 100 ∧ ∀ k, k < n → -1000 ≤ ((v6 a1 a2 a3 a4 a5 a6) k).toInt ∧ ((v6 a1 a2 a3 a4 a5 a6) k).toInt ≤ 1000) ∧ r = -1 ∧ ∃ g' : Nat → Int32, (∀ q, q ≠ 8 → σ2 q = σ q) ∧ σ2 8 = .inl (cI, 6, .inl g'))) (xS D classes (xT cI cJ cZ cC cG cP) N ad) (xA N ad)) args s 0 0 (xA N ad)) (F0 m 62 ls []) := by
      intro f
      induction f with
      | zero =>
        intro k ls H locs hk hall hl I
        obtain rfl : k = n := by omega
        refine lv_iload hx hb d_SpectrumDesk_data_62 (lv_at hl 0 rfl) ?_
        refine lv_aload_n hx hb d_SpectrumDesk_data_64 rfl (lv_at hl 1 rfl) ?_
        refine xr_get X I fin_S 0 (by omega) ((va_up_ne _ _ (by decide)).trans hS0) rfl 5 (by decide) (List.mem_cons_of_mem _ k_7fc62aa415) rfl rfl d_SpectrumDesk_data_65 ?_
        refine lv_icmp_ge hx hb d_SpectrumDesk_data_68 rfl (fun hd => ?_) (fun hd => ?_)
        · refine lv_aload_n hx hb d_SpectrumDesk_data_96 rfl (lv_at hl 1 rfl) ?_
          refine xr_get X I fin_S 0 (by omega) ((va_up_ne _ _ (by decide)).trans hS0) rfl 2 (by decide) (List.mem_cons_of_mem _ k_b8173ba267) rfl rfl d_SpectrumDesk_data_97 ?_
          refine lv_aload_n hx hb d_SpectrumDesk_data_100 rfl (lv_at hl 1 rfl) ?_
          refine xr_get X I fin_S 0 (by omega) ((va_up_ne _ _ (by decide)).trans hS0) rfl 1 (by decide) (List.mem_cons_of_mem _ k_64125c4ddc) rfl rfl d_SpectrumDesk_data_101 ?_
          refine lv_aload_n hx hb d_SpectrumDesk_data_104 rfl (lv_at hl 1 rfl) ?_
          refine xr_get X I fin_S 0 (by omega) ((va_up_ne _ _ (by decide)).trans hS0) rfl 5 (by decide) (List.mem_cons_of_mem _ k_7fc62aa415) rfl rfl d_SpectrumDesk_data_105 ?_
          refine xr_callv (xr_runV (kc := 0) (kr := 1) (n := 2) (As := [.ref (ad 8), .int (nI k)]) (rest := []) X I (by omega) ((va_up_ne _ _ (by decide)).trans hU) rfl (c_Sums_take (n := k) (g := g6) hN ((va_up_ne _ _ (by decide)).trans hU) ((va_up_ne _ _ (by decide)).trans hS) (mat_same hP (va_up_ne _ _ (by decide)) (fun q h1 h2 => va_up_ne _ _ (by omega))) hn (va_up_self _ _ _)) (xg k_a01269f3dd) (List.mem_cons_of_mem _ k_3ab1dda5f3) (List.mem_cons_of_mem _ k_edac580dda) (List.mem_cons_of_mem _ k_20df202236) (List.mem_cons_of_mem _ k_9f148695dd) (by decide +kernel) (by decide) rfl hl.1 rfl (Nat.le_of_ble_eq_true rfl) d_SpectrumDesk_data_108) I (fun σ3 H locs hp I => ?_)
          obtain ⟨S3, P3, b0, b1, b2, b3, b4, b5⟩ := hp
          refine lv_aload_n hx hb d_SpectrumDesk_data_111 rfl (lv_at hl 1 rfl) ?_
          refine xr_get X I fin_S 0 (by omega) ((b0 0 (by omega)).trans ((va_up_ne _ _ (by decide)).trans hS0)) rfl 2 (by decide) (List.mem_cons_of_mem _ k_b8173ba267) rfl rfl d_SpectrumDesk_data_112 ?_
          refine xr_get X I fin_U 9 (by omega) b1 rfl 2 (by decide) (List.mem_cons_of_mem _ k_cbec184999) rfl rfl d_SpectrumDesk_data_115 ?_
          refine xr_iret X I hr hlk (Or.inl ⟨⟨hr9, hall⟩, rfl, g6, S3, P3, fun q hq => (b0 q (by omega)).trans (va_up_ne _ _ (by omega)), (b0 8 (by omega)).trans (va_up_self _ _ _), b1, b2, b3, fun i hi => ?_, fun i j hi hj => ?_⟩) d_SpectrumDesk_data_118
          · rw [b4 i, gv i hi]
          · rw [b5 i j hi, gv i hi, gv j hj]
        · exact absurd (nI_le (Nat.le_refl _) (by omega)) hd
      | succ f ih =>
        intro k ls H locs hk hall hl I
        refine lv_iload hx hb d_SpectrumDesk_data_62 (lv_at hl 0 rfl) ?_
        refine lv_aload_n hx hb d_SpectrumDesk_data_64 rfl (lv_at hl 1 rfl) ?_
        refine xr_get X I fin_S 0 (by omega) ((va_up_ne _ _ (by decide)).trans hS0) rfl 5 (by decide) (List.mem_cons_of_mem _ k_7fc62aa415) rfl rfl d_SpectrumDesk_data_65 ?_
        refine lv_icmp_ge hx hb d_SpectrumDesk_data_68 rfl (fun hd => ?_) (fun hd => ?_)
        · exact absurd hd (nI_ge (by omega) (by omega))
        · refine lv_aload_n hx hb d_SpectrumDesk_data_71 rfl (lv_at hl 1 rfl) ?_
          refine xr_get X I fin_S 0 (by omega) ((va_up_ne _ _ (by decide)).trans hS0) rfl 1 (by decide) (List.mem_cons_of_mem _ k_64125c4ddc) rfl rfl d_SpectrumDesk_data_72 ?_
          refine lv_iload hx hb d_SpectrumDesk_data_75 (lv_at hl 0 rfl) ?_
          refine xr_iald X I 8 0 (by omega) (va_up_self _ _ _) rfl (by omega) (by decide) d_SpectrumDesk_data_77 ?_
          refine xr_topi (y := (v6 a1 a2 a3 a4 a5 a6) k) (gv k (by omega)) ?_
          refine lv_i2l hx hb d_SpectrumDesk_data_78 rfl ?_
          refine lv_ldc2 (v := 1000) hx hb X.1.2.2.2.1 (X.1.2.2.2.2 _ (List.mem_cons_of_mem _ k_c1e20b16dc)) d_SpectrumDesk_data_79 ?_
          refine xr_calli (xr_runS (kc := 0) (kr := 1) (n := 2) (As := [.long (((v6 a1 a2 a3 a4 a5 a6) k).toInt64), .long 1000]) (rest := []) X I (c_SpectrumDesk_isTooLarge (v := ((v6 a1 a2 a3 a4 a5 a6) k).toInt64) (b := 1000) (by decide)) (xg k_8af4840bff) (List.mem_cons_of_mem _ k_6d288a6279) (List.mem_cons_of_mem _ k_e5a468ce78) (List.mem_cons_of_mem _ k_6836736ab7) (by decide +kernel) (by decide) rfl hl.1 rfl (Nat.le_of_ble_eq_true rfl) d_SpectrumDesk_data_82) I (fun r1 σ9 H locs hp I => ?_)
          obtain ⟨er1, h9⟩ := hp; rw [h9] at I; clear h9
          rw [show (1000 : Int64).toInt = 1000 by decide] at er1
          rw [q_i2l] at er1
          refine lv_if_eq hx hb d_SpectrumDesk_data_85 rfl (fun he => ?_) (fun he => ?_)
          · have h0 : ¬ (((v6 a1 a2 a3 a4 a5 a6) k).toInt > 1000 ∨ ((v6 a1 a2 a3 a4 a5 a6) k).toInt < -1000) := fun h => by rw [er1, if_pos h] at he; exact absurd he (by decide)
            refine lv_iinc (k := 0) (v := nI (k + 1)) (lv' := [(7, .int (nI (k + 1))), (0, .ref (ad 0)), (1, .int a1), (2, .int a2), (3, .int a3), (4, .int a4), (5, .int a5), (6, .int a6)]) hx hb d_SpectrumDesk_data_90 hl rfl (nI_1 k) (by decide) rfl (fun ls hl => ?_)
            refine lv_goto hx hb d_SpectrumDesk_data_93 rfl ?_
            exact ih (k + 1) ls H locs (by omega) (fun i hi => by rcases Nat.lt_or_ge i k with h | h; exact hall i h; obtain rfl : i = k := (by omega); omega) hl I
          · have h0 : (((v6 a1 a2 a3 a4 a5 a6) k).toInt > 1000 ∨ ((v6 a1 a2 a3 a4 a5 a6) k).toInt < -1000) := Decidable.not_not.mp (fun h => he (by rw [er1, if_neg h]; rfl))
            refine lv_iconst (v := (-1)) hx hb d_SpectrumDesk_data_88 (by decide) ?_
            exact xr_iret X I hr hlk (Or.inr ⟨fun h => by have := h.2 k (by omega); omega, rfl, g6, fun q hq => va_up_ne _ _ hq, va_up_self _ _ _⟩) d_SpectrumDesk_data_89
    exact loop n 0 ls _ _ (by omega) (fun i hi => absurd hi (Nat.not_lt_zero _)) hl I
  · refine lv_iconst (v := (-1)) hx hb d_SpectrumDesk_data_12 (by decide) ?_
    exact xr_iret X I hr hlk (Or.inr ⟨fun h => absurd (nI_lt h.1 (by decide)) hc, rfl, g, fun _ _ => rfl, hg⟩) d_SpectrumDesk_data_13
