/-! the reference: thrown, check, make, isPlace, isSmall, at, put, size, character (written by wip/gen) -/
abbrev b_SpectrumDeskModel_thrown : ByteArray := prog_10_method_20_code
abbrev y_SpectrumDeskModel_thrown : MethodName := ⟨"SpectrumDeskModel", "thrown", "()I"⟩
abbrev v_SpectrumDeskModel_thrown : List Cond := Cond.code y_SpectrumDeskModel_thrown b_SpectrumDeskModel_thrown 1 (some .int) :: AW
theorem d_SpectrumDeskModel_thrown_0 : decode b_SpectrumDeskModel_thrown 0 = .ok (.aload_n 0, 1) := by decide +kernel
theorem d_SpectrumDeskModel_thrown_1 : decode b_SpectrumDeskModel_thrown 1 = .ok (.getfield 79, 3) := by decide +kernel
theorem d_SpectrumDeskModel_thrown_4 : decode b_SpectrumDeskModel_thrown 4 = .ok (.ireturn, 1) := by decide +kernel
abbrev b_SpectrumDeskModel_check : ByteArray := prog_10_method_52_code
abbrev y_SpectrumDeskModel_check : MethodName := ⟨"SpectrumDeskModel", "check", "()I"⟩
abbrev v_SpectrumDeskModel_check : List Cond := Cond.code y_SpectrumDeskModel_check b_SpectrumDeskModel_check 1 (some .int) :: AW
theorem d_SpectrumDeskModel_check_0 : decode b_SpectrumDeskModel_check 0 = .ok (.aload_n 0, 1) := by decide +kernel
theorem d_SpectrumDeskModel_check_1 : decode b_SpectrumDeskModel_check 1 = .ok (.iconst 0, 1) := by decide +kernel
theorem d_SpectrumDeskModel_check_2 : decode b_SpectrumDeskModel_check 2 = .ok (.putfield 79, 3) := by decide +kernel
theorem d_SpectrumDeskModel_check_5 : decode b_SpectrumDeskModel_check 5 = .ok (.iconst 1, 1) := by decide +kernel
theorem d_SpectrumDeskModel_check_6 : decode b_SpectrumDeskModel_check 6 = .ok (.ireturn, 1) := by decide +kernel
abbrev b_SpectrumDeskModel_make : ByteArray := prog_10_method_21_code
abbrev y_SpectrumDeskModel_make : MethodName := ⟨"SpectrumDeskModel", "make", "(I)V"⟩
abbrev v_SpectrumDeskModel_make : List Cond := Cond.code y_SpectrumDeskModel_make b_SpectrumDeskModel_make 3 none :: AW
theorem d_SpectrumDeskModel_make_0 : decode b_SpectrumDeskModel_make 0 = .ok (.aload_n 0, 1) := by decide +kernel
theorem d_SpectrumDeskModel_make_1 : decode b_SpectrumDeskModel_make 1 = .ok (.iload_n 1, 1) := by decide +kernel
theorem d_SpectrumDeskModel_make_2 : decode b_SpectrumDeskModel_make 2 = .ok (.iconst 1, 1) := by decide +kernel
theorem d_SpectrumDeskModel_make_3 : decode b_SpectrumDeskModel_make 3 = .ok (.if_icmp .lt (13), 3) := by decide +kernel
theorem d_SpectrumDeskModel_make_6 : decode b_SpectrumDeskModel_make 6 = .ok (.iload_n 1, 1) := by decide +kernel
theorem d_SpectrumDeskModel_make_7 : decode b_SpectrumDeskModel_make 7 = .ok (.bipush (6), 2) := by decide +kernel
theorem d_SpectrumDeskModel_make_9 : decode b_SpectrumDeskModel_make 9 = .ok (.if_icmp .gt (7), 3) := by decide +kernel
theorem d_SpectrumDeskModel_make_12 : decode b_SpectrumDeskModel_make 12 = .ok (.iconst 0, 1) := by decide +kernel
theorem d_SpectrumDeskModel_make_13 : decode b_SpectrumDeskModel_make 13 = .ok (.goto (4), 3) := by decide +kernel
theorem d_SpectrumDeskModel_make_16 : decode b_SpectrumDeskModel_make 16 = .ok (.iconst 1, 1) := by decide +kernel
theorem d_SpectrumDeskModel_make_17 : decode b_SpectrumDeskModel_make 17 = .ok (.putfield 79, 3) := by decide +kernel
theorem d_SpectrumDeskModel_make_20 : decode b_SpectrumDeskModel_make 20 = .ok (.aload_n 0, 1) := by decide +kernel
theorem d_SpectrumDeskModel_make_21 : decode b_SpectrumDeskModel_make 21 = .ok (.getfield 79, 3) := by decide +kernel
theorem d_SpectrumDeskModel_make_24 : decode b_SpectrumDeskModel_make 24 = .ok (.ifCond .le (4), 3) := by decide +kernel
theorem d_SpectrumDeskModel_make_27 : decode b_SpectrumDeskModel_make 27 = .ok (.return_, 1) := by decide +kernel
theorem d_SpectrumDeskModel_make_28 : decode b_SpectrumDeskModel_make 28 = .ok (.aload_n 0, 1) := by decide +kernel
theorem d_SpectrumDeskModel_make_29 : decode b_SpectrumDeskModel_make 29 = .ok (.iload_n 1, 1) := by decide +kernel
theorem d_SpectrumDeskModel_make_30 : decode b_SpectrumDeskModel_make 30 = .ok (.putfield 63, 3) := by decide +kernel
theorem d_SpectrumDeskModel_make_33 : decode b_SpectrumDeskModel_make 33 = .ok (.aload_n 0, 1) := by decide +kernel
theorem d_SpectrumDeskModel_make_34 : decode b_SpectrumDeskModel_make 34 = .ok (.iconst 0, 1) := by decide +kernel
theorem d_SpectrumDeskModel_make_35 : decode b_SpectrumDeskModel_make 35 = .ok (.putfield 82, 3) := by decide +kernel
theorem d_SpectrumDeskModel_make_38 : decode b_SpectrumDeskModel_make 38 = .ok (.iconst 0, 1) := by decide +kernel
theorem d_SpectrumDeskModel_make_39 : decode b_SpectrumDeskModel_make 39 = .ok (.istore_n 2, 1) := by decide +kernel
theorem d_SpectrumDeskModel_make_40 : decode b_SpectrumDeskModel_make 40 = .ok (.iload_n 2, 1) := by decide +kernel
theorem d_SpectrumDeskModel_make_41 : decode b_SpectrumDeskModel_make 41 = .ok (.bipush (36), 2) := by decide +kernel
theorem d_SpectrumDeskModel_make_43 : decode b_SpectrumDeskModel_make 43 = .ok (.if_icmp .ge (16), 3) := by decide +kernel
theorem d_SpectrumDeskModel_make_46 : decode b_SpectrumDeskModel_make 46 = .ok (.aload_n 0, 1) := by decide +kernel
theorem d_SpectrumDeskModel_make_47 : decode b_SpectrumDeskModel_make 47 = .ok (.getfield 67, 3) := by decide +kernel
theorem d_SpectrumDeskModel_make_50 : decode b_SpectrumDeskModel_make 50 = .ok (.iload_n 2, 1) := by decide +kernel
theorem d_SpectrumDeskModel_make_51 : decode b_SpectrumDeskModel_make 51 = .ok (.iconst 0, 1) := by decide +kernel
theorem d_SpectrumDeskModel_make_52 : decode b_SpectrumDeskModel_make 52 = .ok (.iastore, 1) := by decide +kernel
theorem d_SpectrumDeskModel_make_53 : decode b_SpectrumDeskModel_make 53 = .ok (.iinc 2 (1), 3) := by decide +kernel
theorem d_SpectrumDeskModel_make_56 : decode b_SpectrumDeskModel_make 56 = .ok (.goto (-16), 3) := by decide +kernel
theorem d_SpectrumDeskModel_make_59 : decode b_SpectrumDeskModel_make 59 = .ok (.return_, 1) := by decide +kernel
abbrev b_SpectrumDeskModel_isPlace : ByteArray := prog_10_method_22_code
abbrev y_SpectrumDeskModel_isPlace : MethodName := ⟨"SpectrumDeskModel", "isPlace", "(II)Z"⟩
abbrev v_SpectrumDeskModel_isPlace : List Cond := Cond.code y_SpectrumDeskModel_isPlace b_SpectrumDeskModel_isPlace 3 (some .boolean) :: AW
theorem d_SpectrumDeskModel_isPlace_0 : decode b_SpectrumDeskModel_isPlace 0 = .ok (.iload_n 1, 1) := by decide +kernel
theorem d_SpectrumDeskModel_isPlace_1 : decode b_SpectrumDeskModel_isPlace 1 = .ok (.ifCond .lt (27), 3) := by decide +kernel
theorem d_SpectrumDeskModel_isPlace_4 : decode b_SpectrumDeskModel_isPlace 4 = .ok (.iload_n 1, 1) := by decide +kernel
theorem d_SpectrumDeskModel_isPlace_5 : decode b_SpectrumDeskModel_isPlace 5 = .ok (.aload_n 0, 1) := by decide +kernel
theorem d_SpectrumDeskModel_isPlace_6 : decode b_SpectrumDeskModel_isPlace 6 = .ok (.getfield 63, 3) := by decide +kernel
theorem d_SpectrumDeskModel_isPlace_9 : decode b_SpectrumDeskModel_isPlace 9 = .ok (.if_icmp .ge (19), 3) := by decide +kernel
theorem d_SpectrumDeskModel_isPlace_12 : decode b_SpectrumDeskModel_isPlace 12 = .ok (.iload_n 2, 1) := by decide +kernel
theorem d_SpectrumDeskModel_isPlace_13 : decode b_SpectrumDeskModel_isPlace 13 = .ok (.ifCond .lt (15), 3) := by decide +kernel
theorem d_SpectrumDeskModel_isPlace_16 : decode b_SpectrumDeskModel_isPlace 16 = .ok (.iload_n 2, 1) := by decide +kernel
theorem d_SpectrumDeskModel_isPlace_17 : decode b_SpectrumDeskModel_isPlace 17 = .ok (.aload_n 0, 1) := by decide +kernel
theorem d_SpectrumDeskModel_isPlace_18 : decode b_SpectrumDeskModel_isPlace 18 = .ok (.getfield 63, 3) := by decide +kernel
theorem d_SpectrumDeskModel_isPlace_21 : decode b_SpectrumDeskModel_isPlace 21 = .ok (.if_icmp .ge (7), 3) := by decide +kernel
theorem d_SpectrumDeskModel_isPlace_24 : decode b_SpectrumDeskModel_isPlace 24 = .ok (.iconst 1, 1) := by decide +kernel
theorem d_SpectrumDeskModel_isPlace_25 : decode b_SpectrumDeskModel_isPlace 25 = .ok (.goto (4), 3) := by decide +kernel
theorem d_SpectrumDeskModel_isPlace_28 : decode b_SpectrumDeskModel_isPlace 28 = .ok (.iconst 0, 1) := by decide +kernel
theorem d_SpectrumDeskModel_isPlace_29 : decode b_SpectrumDeskModel_isPlace 29 = .ok (.ireturn, 1) := by decide +kernel
abbrev b_SpectrumDeskModel_isSmall : ByteArray := prog_10_method_23_code
abbrev y_SpectrumDeskModel_isSmall : MethodName := ⟨"SpectrumDeskModel", "isSmall", "(J)Z"⟩
abbrev v_SpectrumDeskModel_isSmall : List Cond := Cond.code y_SpectrumDeskModel_isSmall b_SpectrumDeskModel_isSmall 2 (some .boolean) :: AW
theorem d_SpectrumDeskModel_isSmall_0 : decode b_SpectrumDeskModel_isSmall 0 = .ok (.lload_n 0, 1) := by decide +kernel
theorem d_SpectrumDeskModel_isSmall_1 : decode b_SpectrumDeskModel_isSmall 1 = .ok (.ldc2_w 85, 3) := by decide +kernel
theorem d_SpectrumDeskModel_isSmall_4 : decode b_SpectrumDeskModel_isSmall 4 = .ok (.lcmp, 1) := by decide +kernel
theorem d_SpectrumDeskModel_isSmall_5 : decode b_SpectrumDeskModel_isSmall 5 = .ok (.ifCond .lt (15), 3) := by decide +kernel
theorem d_SpectrumDeskModel_isSmall_8 : decode b_SpectrumDeskModel_isSmall 8 = .ok (.lload_n 0, 1) := by decide +kernel
theorem d_SpectrumDeskModel_isSmall_9 : decode b_SpectrumDeskModel_isSmall 9 = .ok (.ldc2_w 87, 3) := by decide +kernel
theorem d_SpectrumDeskModel_isSmall_12 : decode b_SpectrumDeskModel_isSmall 12 = .ok (.lcmp, 1) := by decide +kernel
theorem d_SpectrumDeskModel_isSmall_13 : decode b_SpectrumDeskModel_isSmall 13 = .ok (.ifCond .gt (7), 3) := by decide +kernel
theorem d_SpectrumDeskModel_isSmall_16 : decode b_SpectrumDeskModel_isSmall 16 = .ok (.iconst 1, 1) := by decide +kernel
theorem d_SpectrumDeskModel_isSmall_17 : decode b_SpectrumDeskModel_isSmall 17 = .ok (.goto (4), 3) := by decide +kernel
theorem d_SpectrumDeskModel_isSmall_20 : decode b_SpectrumDeskModel_isSmall 20 = .ok (.iconst 0, 1) := by decide +kernel
theorem d_SpectrumDeskModel_isSmall_21 : decode b_SpectrumDeskModel_isSmall 21 = .ok (.ireturn, 1) := by decide +kernel
abbrev b_SpectrumDeskModel_at : ByteArray := prog_10_method_25_code
abbrev y_SpectrumDeskModel_at : MethodName := ⟨"SpectrumDeskModel", "at", "(II)I"⟩
abbrev v_SpectrumDeskModel_at : List Cond := Cond.code y_SpectrumDeskModel_at b_SpectrumDeskModel_at 3 (some .int) :: AW
theorem d_SpectrumDeskModel_at_0 : decode b_SpectrumDeskModel_at 0 = .ok (.aload_n 0, 1) := by decide +kernel
theorem d_SpectrumDeskModel_at_1 : decode b_SpectrumDeskModel_at 1 = .ok (.aload_n 0, 1) := by decide +kernel
theorem d_SpectrumDeskModel_at_2 : decode b_SpectrumDeskModel_at 2 = .ok (.iload_n 1, 1) := by decide +kernel
theorem d_SpectrumDeskModel_at_3 : decode b_SpectrumDeskModel_at 3 = .ok (.iload_n 2, 1) := by decide +kernel
theorem d_SpectrumDeskModel_at_4 : decode b_SpectrumDeskModel_at 4 = .ok (.invokevirtual 89, 3) := by decide +kernel
theorem d_SpectrumDeskModel_at_7 : decode b_SpectrumDeskModel_at 7 = .ok (.ifCond .eq (7), 3) := by decide +kernel
theorem d_SpectrumDeskModel_at_10 : decode b_SpectrumDeskModel_at 10 = .ok (.iconst 0, 1) := by decide +kernel
theorem d_SpectrumDeskModel_at_11 : decode b_SpectrumDeskModel_at 11 = .ok (.goto (4), 3) := by decide +kernel
theorem d_SpectrumDeskModel_at_14 : decode b_SpectrumDeskModel_at 14 = .ok (.iconst 1, 1) := by decide +kernel
theorem d_SpectrumDeskModel_at_15 : decode b_SpectrumDeskModel_at 15 = .ok (.putfield 79, 3) := by decide +kernel
theorem d_SpectrumDeskModel_at_18 : decode b_SpectrumDeskModel_at 18 = .ok (.aload_n 0, 1) := by decide +kernel
theorem d_SpectrumDeskModel_at_19 : decode b_SpectrumDeskModel_at 19 = .ok (.getfield 79, 3) := by decide +kernel
theorem d_SpectrumDeskModel_at_22 : decode b_SpectrumDeskModel_at 22 = .ok (.ifCond .le (7), 3) := by decide +kernel
theorem d_SpectrumDeskModel_at_25 : decode b_SpectrumDeskModel_at 25 = .ok (.iconst 0, 1) := by decide +kernel
theorem d_SpectrumDeskModel_at_26 : decode b_SpectrumDeskModel_at 26 = .ok (.goto (14), 3) := by decide +kernel
theorem d_SpectrumDeskModel_at_29 : decode b_SpectrumDeskModel_at 29 = .ok (.aload_n 0, 1) := by decide +kernel
theorem d_SpectrumDeskModel_at_30 : decode b_SpectrumDeskModel_at 30 = .ok (.getfield 67, 3) := by decide +kernel
theorem d_SpectrumDeskModel_at_33 : decode b_SpectrumDeskModel_at 33 = .ok (.bipush (6), 2) := by decide +kernel
theorem d_SpectrumDeskModel_at_35 : decode b_SpectrumDeskModel_at 35 = .ok (.iload_n 1, 1) := by decide +kernel
theorem d_SpectrumDeskModel_at_36 : decode b_SpectrumDeskModel_at 36 = .ok (.imul, 1) := by decide +kernel
theorem d_SpectrumDeskModel_at_37 : decode b_SpectrumDeskModel_at 37 = .ok (.iload_n 2, 1) := by decide +kernel
theorem d_SpectrumDeskModel_at_38 : decode b_SpectrumDeskModel_at 38 = .ok (.iadd, 1) := by decide +kernel
theorem d_SpectrumDeskModel_at_39 : decode b_SpectrumDeskModel_at 39 = .ok (.iaload, 1) := by decide +kernel
theorem d_SpectrumDeskModel_at_40 : decode b_SpectrumDeskModel_at 40 = .ok (.ireturn, 1) := by decide +kernel
abbrev b_SpectrumDeskModel_put : ByteArray := prog_10_method_24_code
abbrev y_SpectrumDeskModel_put : MethodName := ⟨"SpectrumDeskModel", "put", "(III)V"⟩
abbrev v_SpectrumDeskModel_put : List Cond := Cond.code y_SpectrumDeskModel_put b_SpectrumDeskModel_put 4 none :: AW
theorem d_SpectrumDeskModel_put_0 : decode b_SpectrumDeskModel_put 0 = .ok (.aload_n 0, 1) := by decide +kernel
theorem d_SpectrumDeskModel_put_1 : decode b_SpectrumDeskModel_put 1 = .ok (.aload_n 0, 1) := by decide +kernel
theorem d_SpectrumDeskModel_put_2 : decode b_SpectrumDeskModel_put 2 = .ok (.iload_n 1, 1) := by decide +kernel
theorem d_SpectrumDeskModel_put_3 : decode b_SpectrumDeskModel_put 3 = .ok (.iload_n 2, 1) := by decide +kernel
theorem d_SpectrumDeskModel_put_4 : decode b_SpectrumDeskModel_put 4 = .ok (.invokevirtual 89, 3) := by decide +kernel
theorem d_SpectrumDeskModel_put_7 : decode b_SpectrumDeskModel_put 7 = .ok (.ifCond .ne (7), 3) := by decide +kernel
theorem d_SpectrumDeskModel_put_10 : decode b_SpectrumDeskModel_put 10 = .ok (.iconst 1, 1) := by decide +kernel
theorem d_SpectrumDeskModel_put_11 : decode b_SpectrumDeskModel_put 11 = .ok (.goto (16), 3) := by decide +kernel
theorem d_SpectrumDeskModel_put_14 : decode b_SpectrumDeskModel_put 14 = .ok (.iload_n 3, 1) := by decide +kernel
theorem d_SpectrumDeskModel_put_15 : decode b_SpectrumDeskModel_put 15 = .ok (.i2l, 1) := by decide +kernel
theorem d_SpectrumDeskModel_put_16 : decode b_SpectrumDeskModel_put 16 = .ok (.invokestatic 93, 3) := by decide +kernel
theorem d_SpectrumDeskModel_put_19 : decode b_SpectrumDeskModel_put 19 = .ok (.ifCond .ne (7), 3) := by decide +kernel
theorem d_SpectrumDeskModel_put_22 : decode b_SpectrumDeskModel_put 22 = .ok (.iconst 2, 1) := by decide +kernel
theorem d_SpectrumDeskModel_put_23 : decode b_SpectrumDeskModel_put 23 = .ok (.goto (4), 3) := by decide +kernel
theorem d_SpectrumDeskModel_put_26 : decode b_SpectrumDeskModel_put 26 = .ok (.iconst 0, 1) := by decide +kernel
theorem d_SpectrumDeskModel_put_27 : decode b_SpectrumDeskModel_put 27 = .ok (.putfield 79, 3) := by decide +kernel
theorem d_SpectrumDeskModel_put_30 : decode b_SpectrumDeskModel_put 30 = .ok (.aload_n 0, 1) := by decide +kernel
theorem d_SpectrumDeskModel_put_31 : decode b_SpectrumDeskModel_put 31 = .ok (.getfield 79, 3) := by decide +kernel
theorem d_SpectrumDeskModel_put_34 : decode b_SpectrumDeskModel_put 34 = .ok (.ifCond .ne (27), 3) := by decide +kernel
theorem d_SpectrumDeskModel_put_37 : decode b_SpectrumDeskModel_put 37 = .ok (.aload_n 0, 1) := by decide +kernel
theorem d_SpectrumDeskModel_put_38 : decode b_SpectrumDeskModel_put 38 = .ok (.getfield 67, 3) := by decide +kernel
theorem d_SpectrumDeskModel_put_41 : decode b_SpectrumDeskModel_put 41 = .ok (.bipush (6), 2) := by decide +kernel
theorem d_SpectrumDeskModel_put_43 : decode b_SpectrumDeskModel_put 43 = .ok (.iload_n 1, 1) := by decide +kernel
theorem d_SpectrumDeskModel_put_44 : decode b_SpectrumDeskModel_put 44 = .ok (.imul, 1) := by decide +kernel
theorem d_SpectrumDeskModel_put_45 : decode b_SpectrumDeskModel_put 45 = .ok (.iload_n 2, 1) := by decide +kernel
theorem d_SpectrumDeskModel_put_46 : decode b_SpectrumDeskModel_put 46 = .ok (.iadd, 1) := by decide +kernel
theorem d_SpectrumDeskModel_put_47 : decode b_SpectrumDeskModel_put 47 = .ok (.iload_n 3, 1) := by decide +kernel
theorem d_SpectrumDeskModel_put_48 : decode b_SpectrumDeskModel_put 48 = .ok (.iastore, 1) := by decide +kernel
theorem d_SpectrumDeskModel_put_49 : decode b_SpectrumDeskModel_put 49 = .ok (.aload_n 0, 1) := by decide +kernel
theorem d_SpectrumDeskModel_put_50 : decode b_SpectrumDeskModel_put 50 = .ok (.getfield 67, 3) := by decide +kernel
theorem d_SpectrumDeskModel_put_53 : decode b_SpectrumDeskModel_put 53 = .ok (.bipush (6), 2) := by decide +kernel
theorem d_SpectrumDeskModel_put_55 : decode b_SpectrumDeskModel_put 55 = .ok (.iload_n 2, 1) := by decide +kernel
theorem d_SpectrumDeskModel_put_56 : decode b_SpectrumDeskModel_put 56 = .ok (.imul, 1) := by decide +kernel
theorem d_SpectrumDeskModel_put_57 : decode b_SpectrumDeskModel_put 57 = .ok (.iload_n 1, 1) := by decide +kernel
theorem d_SpectrumDeskModel_put_58 : decode b_SpectrumDeskModel_put 58 = .ok (.iadd, 1) := by decide +kernel
theorem d_SpectrumDeskModel_put_59 : decode b_SpectrumDeskModel_put 59 = .ok (.iload_n 3, 1) := by decide +kernel
theorem d_SpectrumDeskModel_put_60 : decode b_SpectrumDeskModel_put 60 = .ok (.iastore, 1) := by decide +kernel
theorem d_SpectrumDeskModel_put_61 : decode b_SpectrumDeskModel_put 61 = .ok (.return_, 1) := by decide +kernel
abbrev b_SpectrumDeskModel_size : ByteArray := prog_10_method_26_code
abbrev y_SpectrumDeskModel_size : MethodName := ⟨"SpectrumDeskModel", "size", "(I)I"⟩
abbrev v_SpectrumDeskModel_size : List Cond := Cond.code y_SpectrumDeskModel_size b_SpectrumDeskModel_size 2 (some .int) :: AW
theorem d_SpectrumDeskModel_size_0 : decode b_SpectrumDeskModel_size 0 = .ok (.aload_n 0, 1) := by decide +kernel
theorem d_SpectrumDeskModel_size_1 : decode b_SpectrumDeskModel_size 1 = .ok (.iconst 0, 1) := by decide +kernel
theorem d_SpectrumDeskModel_size_2 : decode b_SpectrumDeskModel_size 2 = .ok (.putfield 79, 3) := by decide +kernel
theorem d_SpectrumDeskModel_size_5 : decode b_SpectrumDeskModel_size 5 = .ok (.iload_n 1, 1) := by decide +kernel
theorem d_SpectrumDeskModel_size_6 : decode b_SpectrumDeskModel_size 6 = .ok (.ifCond .ne (10), 3) := by decide +kernel
theorem d_SpectrumDeskModel_size_9 : decode b_SpectrumDeskModel_size 9 = .ok (.aload_n 0, 1) := by decide +kernel
theorem d_SpectrumDeskModel_size_10 : decode b_SpectrumDeskModel_size 10 = .ok (.getfield 63, 3) := by decide +kernel
theorem d_SpectrumDeskModel_size_13 : decode b_SpectrumDeskModel_size 13 = .ok (.goto (16), 3) := by decide +kernel
theorem d_SpectrumDeskModel_size_16 : decode b_SpectrumDeskModel_size 16 = .ok (.iload_n 1, 1) := by decide +kernel
theorem d_SpectrumDeskModel_size_17 : decode b_SpectrumDeskModel_size 17 = .ok (.iconst 1, 1) := by decide +kernel
theorem d_SpectrumDeskModel_size_18 : decode b_SpectrumDeskModel_size 18 = .ok (.if_icmp .ne (10), 3) := by decide +kernel
theorem d_SpectrumDeskModel_size_21 : decode b_SpectrumDeskModel_size 21 = .ok (.aload_n 0, 1) := by decide +kernel
theorem d_SpectrumDeskModel_size_22 : decode b_SpectrumDeskModel_size 22 = .ok (.getfield 82, 3) := by decide +kernel
theorem d_SpectrumDeskModel_size_25 : decode b_SpectrumDeskModel_size 25 = .ok (.goto (4), 3) := by decide +kernel
theorem d_SpectrumDeskModel_size_28 : decode b_SpectrumDeskModel_size 28 = .ok (.iconst (-1), 1) := by decide +kernel
theorem d_SpectrumDeskModel_size_29 : decode b_SpectrumDeskModel_size 29 = .ok (.ireturn, 1) := by decide +kernel
abbrev b_SpectrumDeskModel_character : ByteArray := prog_10_method_36_code
abbrev y_SpectrumDeskModel_character : MethodName := ⟨"SpectrumDeskModel", "character", "(I)I"⟩
abbrev v_SpectrumDeskModel_character : List Cond := Cond.code y_SpectrumDeskModel_character b_SpectrumDeskModel_character 2 (some .int) :: AW
theorem d_SpectrumDeskModel_character_0 : decode b_SpectrumDeskModel_character 0 = .ok (.aload_n 0, 1) := by decide +kernel
theorem d_SpectrumDeskModel_character_1 : decode b_SpectrumDeskModel_character 1 = .ok (.iconst 0, 1) := by decide +kernel
theorem d_SpectrumDeskModel_character_2 : decode b_SpectrumDeskModel_character 2 = .ok (.putfield 79, 3) := by decide +kernel
theorem d_SpectrumDeskModel_character_5 : decode b_SpectrumDeskModel_character 5 = .ok (.iload_n 1, 1) := by decide +kernel
theorem d_SpectrumDeskModel_character_6 : decode b_SpectrumDeskModel_character 6 = .ok (.ifCond .lt (20), 3) := by decide +kernel
theorem d_SpectrumDeskModel_character_9 : decode b_SpectrumDeskModel_character 9 = .ok (.iload_n 1, 1) := by decide +kernel
theorem d_SpectrumDeskModel_character_10 : decode b_SpectrumDeskModel_character 10 = .ok (.aload_n 0, 1) := by decide +kernel
theorem d_SpectrumDeskModel_character_11 : decode b_SpectrumDeskModel_character 11 = .ok (.getfield 124, 3) := by decide +kernel
theorem d_SpectrumDeskModel_character_14 : decode b_SpectrumDeskModel_character 14 = .ok (.if_icmp .ge (12), 3) := by decide +kernel
theorem d_SpectrumDeskModel_character_17 : decode b_SpectrumDeskModel_character 17 = .ok (.aload_n 0, 1) := by decide +kernel
theorem d_SpectrumDeskModel_character_18 : decode b_SpectrumDeskModel_character 18 = .ok (.getfield 73, 3) := by decide +kernel
theorem d_SpectrumDeskModel_character_21 : decode b_SpectrumDeskModel_character 21 = .ok (.iload_n 1, 1) := by decide +kernel
theorem d_SpectrumDeskModel_character_22 : decode b_SpectrumDeskModel_character 22 = .ok (.iaload, 1) := by decide +kernel
theorem d_SpectrumDeskModel_character_23 : decode b_SpectrumDeskModel_character 23 = .ok (.goto (4), 3) := by decide +kernel
theorem d_SpectrumDeskModel_character_26 : decode b_SpectrumDeskModel_character 26 = .ok (.iconst (-1), 1) := by decide +kernel
theorem d_SpectrumDeskModel_character_27 : decode b_SpectrumDeskModel_character 27 = .ok (.ireturn, 1) := by decide +kernel
theorem k_90bbbe5d04 : (Jvm.Cond.fieldLink "SpectrumDeskModel" (79 : Nat) "SpectrumDeskModel" "thrown" "I") ∈ AW := aw_4 (List.mem_of_getElem? (i := 184) (by decide +kernel)) (by decide +kernel)
theorem k_b1a46e2c09 : (Jvm.Cond.fieldLink "SpectrumDeskModel" (63 : Nat) "SpectrumDeskModel" "n" "I") ∈ AW := aw_4 (List.mem_of_getElem? (i := 185) (by decide +kernel)) (by decide +kernel)
theorem k_cd82b0b714 : (Jvm.Cond.fieldLink "SpectrumDeskModel" (82 : Nat) "SpectrumDeskModel" "rows" "I") ∈ AW := aw_4 (List.mem_of_getElem? (i := 188) (by decide +kernel)) (by decide +kernel)
theorem k_30a9181b7c : (Jvm.Cond.constantLong "SpectrumDeskModel" (85 : Nat) (-1000000 : Int64)) ∈ AW := aw_5 (List.mem_of_getElem? (i := 2) (by decide +kernel)) (by decide +kernel)
theorem k_81f2a0474c : (Jvm.Cond.constantLong "SpectrumDeskModel" (87 : Nat) (1000000 : Int64)) ∈ AW := aw_5 (List.mem_of_getElem? (i := 3) (by decide +kernel)) (by decide +kernel)
theorem k_f5a43ce5ce : (Jvm.Cond.methodLink "SpectrumDeskModel" (89 : Nat) ({ cls := "SpectrumDeskModel", name := "isPlace", desc := "(II)Z" } : Jvm.MethodName)) ∈ AW := aw_4 (List.mem_of_getElem? (i := 235) (by decide +kernel)) (by decide +kernel)
theorem k_c44ea60b14 : (Jvm.Cond.instanceMethod ({ cls := "SpectrumDeskModel", name := "isPlace", desc := "(II)Z" } : Jvm.MethodName)) ∈ AW := aw_4 (List.mem_of_getElem? (i := 237) (by decide +kernel)) (by decide +kernel)
theorem k_f00e619f1a : (Jvm.Cond.selects "SpectrumDeskModel" ({ cls := "SpectrumDeskModel", name := "isPlace", desc := "(II)Z" } : Jvm.MethodName) ({ cls := "SpectrumDeskModel", name := "isPlace", desc := "(II)Z" } : Jvm.MethodName)) ∈ AW := aw_p (by decide +kernel) (by decide +kernel)
theorem k_2bf2c6597f : (Jvm.Cond.methodLink "SpectrumDeskModel" (93 : Nat) ({ cls := "SpectrumDeskModel", name := "isSmall", desc := "(J)Z" } : Jvm.MethodName)) ∈ AW := aw_4 (List.mem_of_getElem? (i := 239) (by decide +kernel)) (by decide +kernel)
theorem k_95dfa36566 : (Jvm.Cond.static ({ cls := "SpectrumDeskModel", name := "isSmall", desc := "(J)Z" } : Jvm.MethodName)) ∈ AW := aw_5 (List.mem_of_getElem? (i := 0) (by decide +kernel)) (by decide +kernel)
theorem k_8988dcbdf9 : (Jvm.Cond.fieldLink "SpectrumDeskModel" (124 : Nat) "SpectrumDeskModel" "printedSize" "I") ∈ AW := aw_4 (List.mem_of_getElem? (i := 190) (by decide +kernel)) (by decide +kernel)
theorem k_dd379f4769 : (Jvm.Cond.fieldLink "SpectrumDeskModel" (73 : Nat) "SpectrumDeskModel" "printed" "[I") ∈ AW := aw_4 (List.mem_of_getElem? (i := 189) (by decide +kernel)) (by decide +kernel)
theorem k_0428eee463 : (Jvm.Cond.code ({ cls := "SpectrumDeskModel", name := "thrown", desc := "()I" } : Jvm.MethodName) prog_10_method_20_code (1 : Nat) (Option.some Jvm.ClassFile.FieldType.int)) ∈ AW := aw_4 (List.mem_of_getElem? (i := 226) (by decide +kernel)) (by decide +kernel)
theorem k_f4eb527a84 : (Jvm.Cond.code ({ cls := "SpectrumDeskModel", name := "check", desc := "()I" } : Jvm.MethodName) prog_10_method_52_code (1 : Nat) (Option.some Jvm.ClassFile.FieldType.int)) ∈ AW := aw_5 (List.mem_of_getElem? (i := 182) (by decide +kernel)) (by decide +kernel)
theorem k_241edbec56 : (Jvm.Cond.code ({ cls := "SpectrumDeskModel", name := "make", desc := "(I)V" } : Jvm.MethodName) prog_10_method_21_code (3 : Nat) (Option.none : Option Jvm.ClassFile.FieldType)) ∈ AW := aw_4 (List.mem_of_getElem? (i := 230) (by decide +kernel)) (by decide +kernel)
theorem k_84e5fd28e4 : (Jvm.Cond.code ({ cls := "SpectrumDeskModel", name := "isPlace", desc := "(II)Z" } : Jvm.MethodName) prog_10_method_22_code (3 : Nat) (Option.some Jvm.ClassFile.FieldType.boolean)) ∈ AW := aw_4 (List.mem_of_getElem? (i := 238) (by decide +kernel)) (by decide +kernel)
theorem k_3f4b5a72d5 : (Jvm.Cond.code ({ cls := "SpectrumDeskModel", name := "isSmall", desc := "(J)Z" } : Jvm.MethodName) prog_10_method_23_code (2 : Nat) (Option.some Jvm.ClassFile.FieldType.boolean)) ∈ AW := aw_5 (List.mem_of_getElem? (i := 1) (by decide +kernel)) (by decide +kernel)
theorem k_9a1762490f : (Jvm.Cond.code ({ cls := "SpectrumDeskModel", name := "at", desc := "(II)I" } : Jvm.MethodName) prog_10_method_25_code (3 : Nat) (Option.some Jvm.ClassFile.FieldType.int)) ∈ AW := aw_5 (List.mem_of_getElem? (i := 7) (by decide +kernel)) (by decide +kernel)
theorem k_f86049a736 : (Jvm.Cond.code ({ cls := "SpectrumDeskModel", name := "put", desc := "(III)V" } : Jvm.MethodName) prog_10_method_24_code (4 : Nat) (Option.none : Option Jvm.ClassFile.FieldType)) ∈ AW := aw_4 (List.mem_of_getElem? (i := 234) (by decide +kernel)) (by decide +kernel)
theorem k_d767834716 : (Jvm.Cond.code ({ cls := "SpectrumDeskModel", name := "size", desc := "(I)I" } : Jvm.MethodName) prog_10_method_26_code (2 : Nat) (Option.some Jvm.ClassFile.FieldType.int)) ∈ AW := aw_5 (List.mem_of_getElem? (i := 11) (by decide +kernel)) (by decide +kernel)
theorem k_932aa0cc1c : (Jvm.Cond.code ({ cls := "SpectrumDeskModel", name := "character", desc := "(I)I" } : Jvm.MethodName) prog_10_method_36_code (2 : Nat) (Option.some Jvm.ClassFile.FieldType.int)) ∈ AW := aw_5 (List.mem_of_getElem? (i := 96) (by decide +kernel)) (by decide +kernel)
set_option maxHeartbeats 4000000 in
set_option maxRecDepth 100000 in
theorem c_SpectrumDeskModel_thrown {l : Launch} {D : va_G} {cI cJ cZ cC cG cP : ClassId} {ad : Nat → Nat} {σ σb : Nat → va_E} {th : Int32} {n : Nat} {A9 : Nat → Int32} {rw : Nat} {Dt : Nat → Int32} {ps : Nat} {Pr : Nat → Int32} (hS : mS ad cI cZ σb th n A9 rw Dt ps Pr σ)  :
    Met l y_SpectrumDeskModel_thrown v_SpectrumDeskModel_thrown (xrm 0) (va_Pc [.ref (ad 183)] (xS D classes (xT cI cJ cZ cC cG cP) 193 ad σ)) (va_Qi (fun r σ2 => r = th ∧ mS ad cI cZ σb th n A9 rw Dt ps Pr σ2) (xS D classes (xT cI cJ cZ cC cG cP) 193 ad) (xA 193 ad)) 0 0 (xA 193 ad) := by
  obtain ⟨s0, G, Dg, P, L, M, Z, le, eq, rfl, h187, h188, h189, h190, h191, hfb, hB⟩ := hS
  refine xr_met rfl (Nat.le_of_ble_eq_true rfl) ?_
  intro p e s m args below meth c ls hx hb X hr hlk hl I
  have hl : lv_has ls 1 [(0, .ref (ad 183))] := hl
  refine lv_aload_n hx hb d_SpectrumDeskModel_thrown_0 rfl (lv_at hl 0 rfl) ?_
  refine xr_get X I fin_M 183 (by decide) (r183 ..) rfl 4 (by decide) (List.mem_cons_of_mem _ k_90bbbe5d04) rfl rfl d_SpectrumDeskModel_thrown_1 ?_
  exact xr_iret X I hr hlk ⟨rfl, ⟨s0, G, Dg, P, L, M, Z, le, eq, rfl, h187, h188, h189, h190, h191, hfb, hB⟩⟩ d_SpectrumDeskModel_thrown_4
set_option maxHeartbeats 4000000 in
set_option maxRecDepth 100000 in
theorem c_SpectrumDeskModel_check {l : Launch} {D : va_G} {cI cJ cZ cC cG cP : ClassId} {ad : Nat → Nat} {σ σb : Nat → va_E} {th : Int32} {n : Nat} {A9 : Nat → Int32} {rw : Nat} {Dt : Nat → Int32} {ps : Nat} {Pr : Nat → Int32} (hS : mS ad cI cZ σb th n A9 rw Dt ps Pr σ)  :
    Met l y_SpectrumDeskModel_check v_SpectrumDeskModel_check (xrm 0) (va_Pc [.ref (ad 183)] (xS D classes (xT cI cJ cZ cC cG cP) 193 ad σ)) (va_Qi (fun r σ2 => r = nI 1 ∧ mS ad cI cZ σb (nI 0) n A9 rw Dt ps Pr σ2) (xS D classes (xT cI cJ cZ cC cG cP) 193 ad) (xA 193 ad)) 0 0 (xA 193 ad) := by
  obtain ⟨s0, G, Dg, P, L, M, Z, le, eq, rfl, h187, h188, h189, h190, h191, hfb, hB⟩ := hS
  refine xr_met rfl (Nat.le_of_ble_eq_true rfl) ?_
  intro p e s m args below meth c ls hx hb X hr hlk hl I
  have hl : lv_has ls 1 [(0, .ref (ad 183))] := hl
  refine lv_aload_n hx hb d_SpectrumDeskModel_check_0 rfl (lv_at hl 0 rfl) ?_
  refine lv_iconst (v := nI 0) hx hb d_SpectrumDeskModel_check_1 (by decide) ?_
  refine xr_put (ty := .int) X I fin_M t_M t_M_ok n_M 183 (by decide) (r183 ..) rfl 4 (by decide) (List.mem_cons_of_mem _ k_90bbbe5d04) rfl rfl (by decide +kernel) rfl rfl (Nat.le_of_ble_eq_true rfl) d_SpectrumDeskModel_check_2 (fun H locs I => ?_)
  rw [rw3_F] at I
  have I : xI D classes 193 ad s.heap (rw3 s0 ciM cI cZ (mfs ad (nI 0) (nI n) (nI rw) (nI ps) le eq) P L M) H locs := I
  refine lv_iconst (v := nI 1) hx hb d_SpectrumDeskModel_check_5 (by decide) ?_
  exact xr_iret X I hr hlk ⟨rfl, ⟨s0, G, Dg, P, L, M, Z, le, eq, rfl, h187, h188, h189, h190, h191, hfb, hB⟩⟩ d_SpectrumDeskModel_check_6
set_option maxHeartbeats 4000000 in
set_option maxRecDepth 100000 in
theorem c_SpectrumDeskModel_make_bad {l : Launch} {D : va_G} {cI cJ cZ cC cG cP : ClassId} {ad : Nat → Nat} {σ σb : Nat → va_E} {th : Int32} {n : Nat} {A9 : Nat → Int32} {rw : Nat} {Dt : Nat → Int32} {ps : Nat} {Pr : Nat → Int32} (hS : mS ad cI cZ σb th n A9 rw Dt ps Pr σ) {v : Int32} (hv : v < nI 1 ∨ nI 6 < v) :
    Met l y_SpectrumDeskModel_make v_SpectrumDeskModel_make (xrm 0) (va_Pc [.ref (ad 183), .int v] (xS D classes (xT cI cJ cZ cC cG cP) 193 ad σ)) (va_Qv (mS ad cI cZ σb (nI 1) n A9 rw Dt ps Pr) (xS D classes (xT cI cJ cZ cC cG cP) 193 ad) (xA 193 ad)) 0 0 (xA 193 ad) := by
  obtain ⟨s0, G, Dg, P, L, M, Z, le, eq, rfl, h187, h188, h189, h190, h191, hfb, hB⟩ := hS
  refine xr_met rfl (Nat.le_of_ble_eq_true rfl) ?_
  intro p e s m args below meth c ls hx hb X hr hlk hl I
  have hl : lv_has ls 3 [(0, .ref (ad 183)), (1, .int v)] := hl
  refine lv_aload_n hx hb d_SpectrumDeskModel_make_0 rfl (lv_at hl 0 rfl) ?_
  refine lv_iload_n hx hb d_SpectrumDeskModel_make_1 rfl (lv_at hl 1 rfl) ?_
  refine lv_iconst (v := nI 1) hx hb d_SpectrumDeskModel_make_2 (by decide) ?_
  refine lv_icmp_lt hx hb d_SpectrumDeskModel_make_3 rfl (fun hc => ?_) (fun hc => ?_)
  · refine lv_iconst (v := nI 1) hx hb d_SpectrumDeskModel_make_16 (by decide) ?_
    refine xr_put (ty := .int) X I fin_M t_M t_M_ok n_M 183 (by decide) (r183 ..) rfl 4 (by decide) (List.mem_cons_of_mem _ k_90bbbe5d04) rfl rfl (by decide +kernel) rfl rfl (Nat.le_of_ble_eq_true rfl) d_SpectrumDeskModel_make_17 (fun H locs I => ?_)
    rw [rw3_F] at I
    have I : xI D classes 193 ad s.heap (rw3 s0 ciM cI cZ (mfs ad (nI 1) (nI n) (nI rw) (nI ps) le eq) P L M) H locs := I
    refine lv_aload_n hx hb d_SpectrumDeskModel_make_20 rfl (lv_at hl 0 rfl) ?_
    refine xr_get X I fin_M 183 (by decide) (r183 ..) rfl 4 (by decide) (List.mem_cons_of_mem _ k_90bbbe5d04) rfl rfl d_SpectrumDeskModel_make_21 ?_
    refine lv_if_le hx hb d_SpectrumDeskModel_make_24 rfl (fun hz => ?_) (fun hz => ?_)
    · exact absurd hz (by decide)
    · exact xr_vret X I hr hlk ⟨s0, G, Dg, P, L, M, Z, le, eq, rfl, h187, h188, h189, h190, h191, hfb, hB⟩ d_SpectrumDeskModel_make_27
  · refine lv_iload_n hx hb d_SpectrumDeskModel_make_6 rfl (lv_at hl 1 rfl) ?_
    refine lv_bipush (v := nI 6) hx hb d_SpectrumDeskModel_make_7 (by decide) ?_
    refine lv_icmp_gt hx hb d_SpectrumDeskModel_make_9 rfl (fun hd => ?_) (fun hd => ?_)
    · refine lv_iconst (v := nI 1) hx hb d_SpectrumDeskModel_make_16 (by decide) ?_
      refine xr_put (ty := .int) X I fin_M t_M t_M_ok n_M 183 (by decide) (r183 ..) rfl 4 (by decide) (List.mem_cons_of_mem _ k_90bbbe5d04) rfl rfl (by decide +kernel) rfl rfl (Nat.le_of_ble_eq_true rfl) d_SpectrumDeskModel_make_17 (fun H locs I => ?_)
      rw [rw3_F] at I
      have I : xI D classes 193 ad s.heap (rw3 s0 ciM cI cZ (mfs ad (nI 1) (nI n) (nI rw) (nI ps) le eq) P L M) H locs := I
      refine lv_aload_n hx hb d_SpectrumDeskModel_make_20 rfl (lv_at hl 0 rfl) ?_
      refine xr_get X I fin_M 183 (by decide) (r183 ..) rfl 4 (by decide) (List.mem_cons_of_mem _ k_90bbbe5d04) rfl rfl d_SpectrumDeskModel_make_21 ?_
      refine lv_if_le hx hb d_SpectrumDeskModel_make_24 rfl (fun hz => ?_) (fun hz => ?_)
      · exact absurd hz (by decide)
      · exact xr_vret X I hr hlk ⟨s0, G, Dg, P, L, M, Z, le, eq, rfl, h187, h188, h189, h190, h191, hfb, hB⟩ d_SpectrumDeskModel_make_27
    · exact absurd hv (fun h => h.elim hc hd)
set_option maxHeartbeats 4000000 in
set_option maxRecDepth 100000 in
theorem c_SpectrumDeskModel_make_ok {l : Launch} {D : va_G} {cI cJ cZ cC cG cP : ClassId} {ad : Nat → Nat} {σ σb : Nat → va_E} {th : Int32} {n : Nat} {A9 : Nat → Int32} {rw : Nat} {Dt : Nat → Int32} {ps : Nat} {Pr : Nat → Int32} (hS : mS ad cI cZ σb th n A9 rw Dt ps Pr σ) {k9 : Nat} (h1 : 1 ≤ k9) (h6 : k9 ≤ 6) :
    Met l y_SpectrumDeskModel_make v_SpectrumDeskModel_make (xrm 0) (va_Pc [.ref (ad 183), .int (nI k9)] (xS D classes (xT cI cJ cZ cC cG cP) 193 ad σ)) (va_Qv (fun σ2 => ∃ A' : Nat → Int32, (∀ j, j < 36 → A' j = 0) ∧ mS ad cI cZ σb (nI 0) k9 A' 0 Dt ps Pr σ2) (xS D classes (xT cI cJ cZ cC cG cP) 193 ad) (xA 193 ad)) 0 0 (xA 193 ad) := by
  obtain ⟨s0, G, Dg, P, L, M, Z, le, eq, rfl, h187, h188, h189, h190, h191, hfb, hB⟩ := hS
  refine xr_met rfl (Nat.le_of_ble_eq_true rfl) ?_
  intro p e s m args below meth c ls hx hb X hr hlk hl I
  have hl : lv_has ls 3 [(0, .ref (ad 183)), (1, .int (nI k9))] := hl
  refine lv_aload_n hx hb d_SpectrumDeskModel_make_0 rfl (lv_at hl 0 rfl) ?_
  refine lv_iload_n hx hb d_SpectrumDeskModel_make_1 rfl (lv_at hl 1 rfl) ?_
  refine lv_iconst (v := nI 1) hx hb d_SpectrumDeskModel_make_2 (by decide) ?_
  refine lv_icmp_lt hx hb d_SpectrumDeskModel_make_3 rfl (fun hc => ?_) (fun hc => ?_)
  · exact absurd hc (nI_nlt h1 (by omega))
  · refine lv_iload_n hx hb d_SpectrumDeskModel_make_6 rfl (lv_at hl 1 rfl) ?_
    refine lv_bipush (v := nI 6) hx hb d_SpectrumDeskModel_make_7 (by decide) ?_
    refine lv_icmp_gt hx hb d_SpectrumDeskModel_make_9 rfl (fun hd => ?_) (fun hd => ?_)
    · exact absurd hd (nI_nlt h6 (by decide))
    · refine lv_iconst (v := nI 0) hx hb d_SpectrumDeskModel_make_12 (by decide) ?_
      refine lv_goto hx hb d_SpectrumDeskModel_make_13 rfl ?_
      refine xr_put (ty := .int) X I fin_M t_M t_M_ok n_M 183 (by decide) (r183 ..) rfl 4 (by decide) (List.mem_cons_of_mem _ k_90bbbe5d04) rfl rfl (by decide +kernel) rfl rfl (Nat.le_of_ble_eq_true rfl) d_SpectrumDeskModel_make_17 (fun H locs I => ?_)
      rw [rw3_F] at I
      have I : xI D classes 193 ad s.heap (rw3 s0 ciM cI cZ (mfs ad (nI 0) (nI n) (nI rw) (nI ps) le eq) P L M) H locs := I
      refine lv_aload_n hx hb d_SpectrumDeskModel_make_20 rfl (lv_at hl 0 rfl) ?_
      refine xr_get X I fin_M 183 (by decide) (r183 ..) rfl 4 (by decide) (List.mem_cons_of_mem _ k_90bbbe5d04) rfl rfl d_SpectrumDeskModel_make_21 ?_
      refine lv_if_le hx hb d_SpectrumDeskModel_make_24 rfl (fun hz => ?_) (fun hz => ?_)
      · refine lv_aload_n hx hb d_SpectrumDeskModel_make_28 rfl (lv_at hl 0 rfl) ?_
        refine lv_iload_n hx hb d_SpectrumDeskModel_make_29 rfl (lv_at hl 1 rfl) ?_
        refine xr_put (ty := .int) X I fin_M t_M t_M_ok n_M 183 (by decide) (r183 ..) rfl 5 (by decide) (List.mem_cons_of_mem _ k_b1a46e2c09) rfl rfl (by decide +kernel) rfl rfl (Nat.le_of_ble_eq_true rfl) d_SpectrumDeskModel_make_30 (fun H locs I => ?_)
        rw [rw3_F] at I
        have I : xI D classes 193 ad s.heap (rw3 s0 ciM cI cZ (mfs ad (nI 0) (nI k9) (nI rw) (nI ps) le eq) P L M) H locs := I
        refine lv_aload_n hx hb d_SpectrumDeskModel_make_33 rfl (lv_at hl 0 rfl) ?_
        refine lv_iconst (v := nI 0) hx hb d_SpectrumDeskModel_make_34 (by decide) ?_
        refine xr_put (ty := .int) X I fin_M t_M t_M_ok n_M 183 (by decide) (r183 ..) rfl 8 (by decide) (List.mem_cons_of_mem _ k_cd82b0b714) rfl rfl (by decide +kernel) rfl rfl (Nat.le_of_ble_eq_true rfl) d_SpectrumDeskModel_make_35 (fun H locs I => ?_)
        rw [rw3_F] at I
        have I : xI D classes 193 ad s.heap (rw3 s0 ciM cI cZ (mfs ad (nI 0) (nI k9) (nI 0) (nI ps) le eq) P L M) H locs := I
        refine lv_iconst (v := nI 0) hx hb d_SpectrumDeskModel_make_38 (by decide) ?_
        refine lv_istore_n (lv' := [(2, .int (nI 0)), (0, .ref (ad 183)), (1, .int (nI k9))]) hx hb d_SpectrumDeskModel_make_39 rfl hl (by decide) rfl (fun ls hl => ?_)
        have loop : ∀ (j : Nat) (k : Nat) (A' : Nat → Int32) (ls : Array Slot) (H : Heap) (locs : List Loc), k + j = 36 → (∀ j, j < k → A' j = 0) → lv_has ls 3 [(2, .int (nI k)), (0, .ref (ad 183)), (1, .int (nI k9))] → xI D classes 193 ad s.heap (rw3 (va_up s0 188 (.inl (cI, 36, .inl A'))) ciM cI cZ (mfs ad (nI 0) (nI k9) (nI 0) (nI ps) le eq) P L M) H locs → W p l e (xrm 0) s m args below meth c H locs 0 0 (MQ below (va_Qv (fun σ2 => ∃ A' : Nat → Int32, (∀ j, j < 36 → A' j = 0) ∧ mS ad cI cZ σb (nI 0) k9 A' 0 Dt ps Pr σ2) (xS D classes (xT cI cJ cZ cC cG cP) 193 ad) (xA 193 ad)) args s 0 0 (xA 193 ad)) (F0 m 40 ls []) := by
          intro j
          induction j with
          | zero =>
            intro k A' ls H locs hk hz9 hl I
            obtain rfl : k = 36 := by omega
            refine lv_iload_n hx hb d_SpectrumDeskModel_make_40 rfl (lv_at hl 0 rfl) ?_
            refine lv_bipush (v := nI 36) hx hb d_SpectrumDeskModel_make_41 (by decide) ?_
            refine lv_icmp_ge hx hb d_SpectrumDeskModel_make_43 rfl (fun hg => ?_) (fun hg => ?_)
            · exact xr_vret X I hr hlk ⟨A', hz9, ⟨va_up s0 188 (.inl (cI, 36, .inl A')), G, Dg, P, L, M, Z, le, eq, rfl, ((va_up_ne _ _ (by decide)).trans h187), (va_up_self _ _ _), ((va_up_ne _ _ (by decide)).trans h189), ((va_up_ne _ _ (by decide)).trans h190), ((va_up_ne _ _ (by decide)).trans h191), (fun q hq => (va_up_ne _ _ (by omega)).trans (hfb q hq)), hB⟩⟩ d_SpectrumDeskModel_make_59
            · exact absurd (by decide) hg
          | succ j ih =>
            intro k A' ls H locs hk hz9 hl I
            refine lv_iload_n hx hb d_SpectrumDeskModel_make_40 rfl (lv_at hl 0 rfl) ?_
            refine lv_bipush (v := nI 36) hx hb d_SpectrumDeskModel_make_41 (by decide) ?_
            refine lv_icmp_ge hx hb d_SpectrumDeskModel_make_43 rfl (fun hg => ?_) (fun hg => ?_)
            · exact absurd hg (nI_ge (by omega) (by omega))
            · refine lv_aload_n hx hb d_SpectrumDeskModel_make_46 rfl (lv_at hl 1 rfl) ?_
              refine xr_get X I fin_M 183 (by decide) (r183 ..) rfl 6 (by decide) (List.mem_cons_of_mem _ k_78efd7a03a) rfl rfl d_SpectrumDeskModel_make_47 ?_
              refine lv_iload_n hx hb d_SpectrumDeskModel_make_50 rfl (lv_at hl 0 rfl) ?_
              refine lv_iconst (v := 0) hx hb d_SpectrumDeskModel_make_51 (by decide) ?_
              refine xr_iast X I 188 0 (by decide) ((r_o (by decide)).trans (va_up_self _ _ _)) rfl (by omega) (by decide) d_SpectrumDeskModel_make_52 (fun H locs I => ?_)
              rw [rw3_o (by decide)] at I
              rw [va_up_up] at I
              refine lv_iinc (k := 0) (v := nI (k + 1)) (lv' := [(2, .int (nI (k + 1))), (0, .ref (ad 183)), (1, .int (nI k9))]) hx hb d_SpectrumDeskModel_make_53 hl rfl (nI_1 k) (by decide) rfl (fun ls hl => ?_)
              refine lv_goto hx hb d_SpectrumDeskModel_make_56 rfl ?_
              refine ih (k + 1) _ ls H locs (by omega) (fun j hj => ?_) hl I
              by_cases ej : j = k
              · rw [ej, upd_s]
              · rw [upd_n ej]; exact hz9 j (by omega)
        exact loop 36 0 A9 ls _ _ (by omega) (fun j hj => absurd hj (Nat.not_lt_zero _)) hl (by rw [va_up_same h188]; exact I)
      · exact absurd (by decide) hz
set_option maxHeartbeats 4000000 in
set_option maxRecDepth 100000 in
theorem c_SpectrumDeskModel_isPlace_t {l : Launch} {D : va_G} {cI cJ cZ cC cG cP : ClassId} {ad : Nat → Nat} {σ σb : Nat → va_E} {th : Int32} {n : Nat} {A9 : Nat → Int32} {rw : Nat} {Dt : Nat → Int32} {ps : Nat} {Pr : Nat → Int32} (hS : mS ad cI cZ σb th n A9 rw Dt ps Pr σ) {r9 c9 : Nat} (h1 : r9 < n) (h2 : c9 < n) (h3 : n ≤ 6) :
    Met l y_SpectrumDeskModel_isPlace v_SpectrumDeskModel_isPlace (xrm 0) (va_Pc [.ref (ad 183), .int (nI r9), .int (nI c9)] (xS D classes (xT cI cJ cZ cC cG cP) 193 ad σ)) (va_Qi (fun r σ2 => r = nI 1 ∧ σ2 = σ) (xS D classes (xT cI cJ cZ cC cG cP) 193 ad) (xA 193 ad)) 0 0 (xA 193 ad) := by
  obtain ⟨s0, G, Dg, P, L, M, Z, le, eq, rfl, h187, h188, h189, h190, h191, hfb, hB⟩ := hS
  refine xr_met rfl (Nat.le_of_ble_eq_true rfl) ?_
  intro p e s m args below meth c ls hx hb X hr hlk hl I
  have hl : lv_has ls 3 [(0, .ref (ad 183)), (1, .int (nI r9)), (2, .int (nI c9))] := hl
  refine lv_iload_n hx hb d_SpectrumDeskModel_isPlace_0 rfl (lv_at hl 1 rfl) ?_
  refine lv_if_lt hx hb d_SpectrumDeskModel_isPlace_1 rfl (fun hc => ?_) (fun hc => ?_)
  · exact absurd hc (nI_pos (by omega))
  · have ha := hc
    refine lv_iload_n hx hb d_SpectrumDeskModel_isPlace_4 rfl (lv_at hl 1 rfl) ?_
    refine lv_aload_n hx hb d_SpectrumDeskModel_isPlace_5 rfl (lv_at hl 0 rfl) ?_
    refine xr_get X I fin_M 183 (by decide) (r183 ..) rfl 5 (by decide) (List.mem_cons_of_mem _ k_b1a46e2c09) rfl rfl d_SpectrumDeskModel_isPlace_6 ?_
    refine lv_icmp_ge hx hb d_SpectrumDeskModel_isPlace_9 rfl (fun hc => ?_) (fun hc => ?_)
    · exact absurd hc (nI_ge (by omega) (by omega))
    · have hb1 := hc
      refine lv_iload_n hx hb d_SpectrumDeskModel_isPlace_12 rfl (lv_at hl 2 rfl) ?_
      refine lv_if_lt hx hb d_SpectrumDeskModel_isPlace_13 rfl (fun hc => ?_) (fun hc => ?_)
      · exact absurd hc (nI_pos (by omega))
      · have hc1 := hc
        refine lv_iload_n hx hb d_SpectrumDeskModel_isPlace_16 rfl (lv_at hl 2 rfl) ?_
        refine lv_aload_n hx hb d_SpectrumDeskModel_isPlace_17 rfl (lv_at hl 0 rfl) ?_
        refine xr_get X I fin_M 183 (by decide) (r183 ..) rfl 5 (by decide) (List.mem_cons_of_mem _ k_b1a46e2c09) rfl rfl d_SpectrumDeskModel_isPlace_18 ?_
        refine lv_icmp_ge hx hb d_SpectrumDeskModel_isPlace_21 rfl (fun hc => ?_) (fun hc => ?_)
        · exact absurd hc (nI_ge (by omega) (by omega))
        · refine lv_iconst (v := nI 1) hx hb d_SpectrumDeskModel_isPlace_24 (by decide) ?_
          refine lv_goto hx hb d_SpectrumDeskModel_isPlace_25 rfl ?_
          exact xr_zret X I hr hlk (by decide +kernel) ⟨rfl, rfl⟩ d_SpectrumDeskModel_isPlace_29
set_option maxHeartbeats 4000000 in
set_option maxRecDepth 100000 in
theorem c_SpectrumDeskModel_isPlace_f {l : Launch} {D : va_G} {cI cJ cZ cC cG cP : ClassId} {ad : Nat → Nat} {σ σb : Nat → va_E} {th : Int32} {n : Nat} {A9 : Nat → Int32} {rw : Nat} {Dt : Nat → Int32} {ps : Nat} {Pr : Nat → Int32} (hS : mS ad cI cZ σb th n A9 rw Dt ps Pr σ) {r9 c9 : Int32} (h1 : ¬ isP r9 c9 n) :
    Met l y_SpectrumDeskModel_isPlace v_SpectrumDeskModel_isPlace (xrm 0) (va_Pc [.ref (ad 183), .int r9, .int c9] (xS D classes (xT cI cJ cZ cC cG cP) 193 ad σ)) (va_Qi (fun r σ2 => r = nI 0 ∧ σ2 = σ) (xS D classes (xT cI cJ cZ cC cG cP) 193 ad) (xA 193 ad)) 0 0 (xA 193 ad) := by
  obtain ⟨s0, G, Dg, P, L, M, Z, le, eq, rfl, h187, h188, h189, h190, h191, hfb, hB⟩ := hS
  refine xr_met rfl (Nat.le_of_ble_eq_true rfl) ?_
  intro p e s m args below meth c ls hx hb X hr hlk hl I
  have hl : lv_has ls 3 [(0, .ref (ad 183)), (1, .int r9), (2, .int c9)] := hl
  refine lv_iload_n hx hb d_SpectrumDeskModel_isPlace_0 rfl (lv_at hl 1 rfl) ?_
  refine lv_if_lt hx hb d_SpectrumDeskModel_isPlace_1 rfl (fun hc => ?_) (fun hc => ?_)
  · refine lv_iconst (v := nI 0) hx hb d_SpectrumDeskModel_isPlace_28 (by decide) ?_
    exact xr_zret X I hr hlk (by decide +kernel) ⟨rfl, rfl⟩ d_SpectrumDeskModel_isPlace_29
  · have ha := hc
    refine lv_iload_n hx hb d_SpectrumDeskModel_isPlace_4 rfl (lv_at hl 1 rfl) ?_
    refine lv_aload_n hx hb d_SpectrumDeskModel_isPlace_5 rfl (lv_at hl 0 rfl) ?_
    refine xr_get X I fin_M 183 (by decide) (r183 ..) rfl 5 (by decide) (List.mem_cons_of_mem _ k_b1a46e2c09) rfl rfl d_SpectrumDeskModel_isPlace_6 ?_
    refine lv_icmp_ge hx hb d_SpectrumDeskModel_isPlace_9 rfl (fun hc => ?_) (fun hc => ?_)
    · refine lv_iconst (v := nI 0) hx hb d_SpectrumDeskModel_isPlace_28 (by decide) ?_
      exact xr_zret X I hr hlk (by decide +kernel) ⟨rfl, rfl⟩ d_SpectrumDeskModel_isPlace_29
    · have hb1 := hc
      refine lv_iload_n hx hb d_SpectrumDeskModel_isPlace_12 rfl (lv_at hl 2 rfl) ?_
      refine lv_if_lt hx hb d_SpectrumDeskModel_isPlace_13 rfl (fun hc => ?_) (fun hc => ?_)
      · refine lv_iconst (v := nI 0) hx hb d_SpectrumDeskModel_isPlace_28 (by decide) ?_
        exact xr_zret X I hr hlk (by decide +kernel) ⟨rfl, rfl⟩ d_SpectrumDeskModel_isPlace_29
      · have hc1 := hc
        refine lv_iload_n hx hb d_SpectrumDeskModel_isPlace_16 rfl (lv_at hl 2 rfl) ?_
        refine lv_aload_n hx hb d_SpectrumDeskModel_isPlace_17 rfl (lv_at hl 0 rfl) ?_
        refine xr_get X I fin_M 183 (by decide) (r183 ..) rfl 5 (by decide) (List.mem_cons_of_mem _ k_b1a46e2c09) rfl rfl d_SpectrumDeskModel_isPlace_18 ?_
        refine lv_icmp_ge hx hb d_SpectrumDeskModel_isPlace_21 rfl (fun hc => ?_) (fun hc => ?_)
        · refine lv_iconst (v := nI 0) hx hb d_SpectrumDeskModel_isPlace_28 (by decide) ?_
          exact xr_zret X I hr hlk (by decide +kernel) ⟨rfl, rfl⟩ d_SpectrumDeskModel_isPlace_29
        · exact absurd ⟨ha, q_nge hb1, hc1, q_nge hc⟩ h1
set_option maxHeartbeats 4000000 in
set_option maxRecDepth 100000 in
theorem c_SpectrumDeskModel_isSmall_t {l : Launch} {D : va_G} {cI cJ cZ cC cG cP : ClassId} {N : Nat} {ad : Nat → Nat} {σ : Nat → va_E} {v : Int64} (h1 : isS v) :
    Met l y_SpectrumDeskModel_isSmall v_SpectrumDeskModel_isSmall (xrm 0) (va_Pc [.long v] (xS D classes (xT cI cJ cZ cC cG cP) N ad σ)) (va_Qi (fun r σ2 => r = nI 1 ∧ σ2 = σ) (xS D classes (xT cI cJ cZ cC cG cP) N ad) (xA N ad)) 0 0 (xA N ad) := by
  refine xr_met rfl (Nat.le_of_ble_eq_true rfl) ?_
  intro p e s m args below meth c ls hx hb X hr hlk hl I
  have hl : lv_has ls 2 [(0, .long v)] := hl
  refine lv_lload_n hx hb d_SpectrumDeskModel_isSmall_0 rfl (lv_at hl 0 rfl) ?_
  refine lv_ldc2 (v := (-1000000)) hx hb X.1.2.2.2.1 (X.1.2.2.2.2 _ (List.mem_cons_of_mem _ k_30a9181b7c)) d_SpectrumDeskModel_isSmall_1 ?_
  refine W.lcmp hx hb d_SpectrumDeskModel_isSmall_4 ?_
  refine lv_if_lt hx hb d_SpectrumDeskModel_isSmall_5 rfl (fun hc => ?_) (fun hc => ?_)
  · exact absurd ((lg_cmp_lt _ _).mp hc) (Int64.not_lt.mpr h1.1)
  · have ha : -1000000 ≤ v := Int64.not_lt.mp (fun h => hc ((lg_cmp_lt _ _).mpr h))
    refine lv_lload_n hx hb d_SpectrumDeskModel_isSmall_8 rfl (lv_at hl 0 rfl) ?_
    refine lv_ldc2 (v := 1000000) hx hb X.1.2.2.2.1 (X.1.2.2.2.2 _ (List.mem_cons_of_mem _ k_81f2a0474c)) d_SpectrumDeskModel_isSmall_9 ?_
    refine W.lcmp hx hb d_SpectrumDeskModel_isSmall_12 ?_
    refine lv_if_gt hx hb d_SpectrumDeskModel_isSmall_13 rfl (fun hd => ?_) (fun hd => ?_)
    · exact absurd ((lg_cmp_gt _ _).mp hd) (Int64.not_lt.mpr h1.2)
    · refine lv_iconst (v := nI 1) hx hb d_SpectrumDeskModel_isSmall_16 (by decide) ?_
      refine lv_goto hx hb d_SpectrumDeskModel_isSmall_17 rfl ?_
      exact xr_zret X I hr hlk (by decide +kernel) ⟨rfl, rfl⟩ d_SpectrumDeskModel_isSmall_21
set_option maxHeartbeats 4000000 in
set_option maxRecDepth 100000 in
theorem c_SpectrumDeskModel_isSmall_f {l : Launch} {D : va_G} {cI cJ cZ cC cG cP : ClassId} {N : Nat} {ad : Nat → Nat} {σ : Nat → va_E} {v : Int64} (h1 : ¬ isS v) :
    Met l y_SpectrumDeskModel_isSmall v_SpectrumDeskModel_isSmall (xrm 0) (va_Pc [.long v] (xS D classes (xT cI cJ cZ cC cG cP) N ad σ)) (va_Qi (fun r σ2 => r = nI 0 ∧ σ2 = σ) (xS D classes (xT cI cJ cZ cC cG cP) N ad) (xA N ad)) 0 0 (xA N ad) := by
  refine xr_met rfl (Nat.le_of_ble_eq_true rfl) ?_
  intro p e s m args below meth c ls hx hb X hr hlk hl I
  have hl : lv_has ls 2 [(0, .long v)] := hl
  refine lv_lload_n hx hb d_SpectrumDeskModel_isSmall_0 rfl (lv_at hl 0 rfl) ?_
  refine lv_ldc2 (v := (-1000000)) hx hb X.1.2.2.2.1 (X.1.2.2.2.2 _ (List.mem_cons_of_mem _ k_30a9181b7c)) d_SpectrumDeskModel_isSmall_1 ?_
  refine W.lcmp hx hb d_SpectrumDeskModel_isSmall_4 ?_
  refine lv_if_lt hx hb d_SpectrumDeskModel_isSmall_5 rfl (fun hc => ?_) (fun hc => ?_)
  · refine lv_iconst (v := nI 0) hx hb d_SpectrumDeskModel_isSmall_20 (by decide) ?_
    exact xr_zret X I hr hlk (by decide +kernel) ⟨rfl, rfl⟩ d_SpectrumDeskModel_isSmall_21
  · have ha : -1000000 ≤ v := Int64.not_lt.mp (fun h => hc ((lg_cmp_lt _ _).mpr h))
    refine lv_lload_n hx hb d_SpectrumDeskModel_isSmall_8 rfl (lv_at hl 0 rfl) ?_
    refine lv_ldc2 (v := 1000000) hx hb X.1.2.2.2.1 (X.1.2.2.2.2 _ (List.mem_cons_of_mem _ k_81f2a0474c)) d_SpectrumDeskModel_isSmall_9 ?_
    refine W.lcmp hx hb d_SpectrumDeskModel_isSmall_12 ?_
    refine lv_if_gt hx hb d_SpectrumDeskModel_isSmall_13 rfl (fun hd => ?_) (fun hd => ?_)
    · refine lv_iconst (v := nI 0) hx hb d_SpectrumDeskModel_isSmall_20 (by decide) ?_
      exact xr_zret X I hr hlk (by decide +kernel) ⟨rfl, rfl⟩ d_SpectrumDeskModel_isSmall_21
    · exact absurd ⟨ha, Int64.not_lt.mp (fun h => hd ((lg_cmp_gt _ _).mpr h))⟩ h1
set_option maxHeartbeats 4000000 in
set_option maxRecDepth 100000 in
theorem c_SpectrumDeskModel_at_ok {l : Launch} {D : va_G} {cI cJ cZ cC cG cP : ClassId} {ad : Nat → Nat} {σ σb : Nat → va_E} {th : Int32} {n : Nat} {A9 : Nat → Int32} {rw : Nat} {Dt : Nat → Int32} {ps : Nat} {Pr : Nat → Int32} (hS : mS ad cI cZ σb th n A9 rw Dt ps Pr σ) {r9 c9 : Nat} (h1 : r9 < n) (h2 : c9 < n) (h3 : n ≤ 6) :
    Met l y_SpectrumDeskModel_at v_SpectrumDeskModel_at (xrm 1) (va_Pc [.ref (ad 183), .int (nI r9), .int (nI c9)] (xS D classes (xT cI cJ cZ cC cG cP) 193 ad σ)) (va_Qi (fun r σ2 => r = A9 (6 * r9 + c9) ∧ mS ad cI cZ σb (nI 0) n A9 rw Dt ps Pr σ2) (xS D classes (xT cI cJ cZ cC cG cP) 193 ad) (xA 193 ad)) 0 0 (xA 193 ad) := by
  obtain ⟨s0, G, Dg, P, L, M, Z, le, eq, rfl, h187, h188, h189, h190, h191, hfb, hB⟩ := hS
  refine xr_met rfl (Nat.le_of_ble_eq_true rfl) ?_
  intro p e s m args below meth c ls hx hb X hr hlk hl I
  have hl : lv_has ls 3 [(0, .ref (ad 183)), (1, .int (nI r9)), (2, .int (nI c9))] := hl
  refine lv_aload_n hx hb d_SpectrumDeskModel_at_0 rfl (lv_at hl 0 rfl) ?_
  refine lv_aload_n hx hb d_SpectrumDeskModel_at_1 rfl (lv_at hl 0 rfl) ?_
  refine lv_iload_n hx hb d_SpectrumDeskModel_at_2 rfl (lv_at hl 1 rfl) ?_
  refine lv_iload_n hx hb d_SpectrumDeskModel_at_3 rfl (lv_at hl 2 rfl) ?_
  refine xr_calli (xr_runV (kc := 0) (kr := 1) (n := 2) (As := [.int (nI r9), .int (nI c9)]) (rest := [.ref (ad 183)]) X I (by decide) (r183 ..) rfl (c_SpectrumDeskModel_isPlace_t (σb := σb) ⟨s0, _, _, _, _, _, _, _, _, rfl, h187, h188, h189, h190, h191, hfb, hB⟩ h1 h2 h3) (xg k_84e5fd28e4) (List.mem_cons_of_mem _ k_f5a43ce5ce) (List.mem_cons_of_mem _ k_c44ea60b14) (List.mem_cons_of_mem _ k_f00e619f1a) (List.mem_cons_of_mem _ k_30fa15c9ac) (by decide +kernel) (by decide) rfl hl.1 rfl (Nat.le_of_ble_eq_true rfl) d_SpectrumDeskModel_at_4) I (fun r1 σ9 H locs hp I => ?_)
  obtain ⟨rfl, rfl⟩ := hp
  refine lv_if_eq hx hb d_SpectrumDeskModel_at_7 rfl (fun hc => ?_) (fun hc => ?_)
  · exact absurd hc (by decide)
  · refine lv_iconst (v := nI 0) hx hb d_SpectrumDeskModel_at_10 (by decide) ?_
    refine lv_goto hx hb d_SpectrumDeskModel_at_11 rfl ?_
    refine xr_put (ty := .int) X I fin_M t_M t_M_ok n_M 183 (by decide) (r183 ..) rfl 4 (by decide) (List.mem_cons_of_mem _ k_90bbbe5d04) rfl rfl (by decide +kernel) rfl rfl (Nat.le_of_ble_eq_true rfl) d_SpectrumDeskModel_at_15 (fun H locs I => ?_)
    rw [rw3_F] at I
    have I : xI D classes 193 ad s.heap (rw3 s0 ciM cI cZ (mfs ad (nI 0) (nI n) (nI rw) (nI ps) le eq) P L M) H locs := I
    refine lv_aload_n hx hb d_SpectrumDeskModel_at_18 rfl (lv_at hl 0 rfl) ?_
    refine xr_get X I fin_M 183 (by decide) (r183 ..) rfl 4 (by decide) (List.mem_cons_of_mem _ k_90bbbe5d04) rfl rfl d_SpectrumDeskModel_at_19 ?_
    refine lv_if_le hx hb d_SpectrumDeskModel_at_22 rfl (fun hd => ?_) (fun hd => ?_)
    · refine lv_aload_n hx hb d_SpectrumDeskModel_at_29 rfl (lv_at hl 0 rfl) ?_
      refine xr_get X I fin_M 183 (by decide) (r183 ..) rfl 6 (by decide) (List.mem_cons_of_mem _ k_78efd7a03a) rfl rfl d_SpectrumDeskModel_at_30 ?_
      refine lv_bipush (v := nI 6) hx hb d_SpectrumDeskModel_at_33 (by decide) ?_
      refine lv_iload_n hx hb d_SpectrumDeskModel_at_35 rfl (lv_at hl 1 rfl) ?_
      refine lv_imul hx hb d_SpectrumDeskModel_at_36 (xr_topi (y := nI (6 * r9)) (pk_mul 6 r9) ?_)
      refine lv_iload_n hx hb d_SpectrumDeskModel_at_37 rfl (lv_at hl 2 rfl) ?_
      refine lv_iadd hx hb d_SpectrumDeskModel_at_38 (xr_topi (y := nI ((6 * r9) + c9)) (nI_add (6 * r9) c9) ?_)
      refine xr_iald X I 188 0 (by decide) ((r_o (by decide)).trans h188) rfl (by omega) (by decide) d_SpectrumDeskModel_at_39 ?_
      exact xr_iret X I hr hlk ⟨rfl, ⟨s0, G, Dg, P, L, M, Z, le, eq, rfl, h187, h188, h189, h190, h191, hfb, hB⟩⟩ d_SpectrumDeskModel_at_40
    · exact absurd (by decide) hd
set_option maxHeartbeats 4000000 in
set_option maxRecDepth 100000 in
theorem c_SpectrumDeskModel_at_bad {l : Launch} {D : va_G} {cI cJ cZ cC cG cP : ClassId} {ad : Nat → Nat} {σ σb : Nat → va_E} {th : Int32} {n : Nat} {A9 : Nat → Int32} {rw : Nat} {Dt : Nat → Int32} {ps : Nat} {Pr : Nat → Int32} (hS : mS ad cI cZ σb th n A9 rw Dt ps Pr σ) {r9 c9 : Int32} (h1 : ¬ isP r9 c9 n) :
    Met l y_SpectrumDeskModel_at v_SpectrumDeskModel_at (xrm 1) (va_Pc [.ref (ad 183), .int r9, .int c9] (xS D classes (xT cI cJ cZ cC cG cP) 193 ad σ)) (va_Qi (fun r σ2 => r = nI 0 ∧ mS ad cI cZ σb (nI 1) n A9 rw Dt ps Pr σ2) (xS D classes (xT cI cJ cZ cC cG cP) 193 ad) (xA 193 ad)) 0 0 (xA 193 ad) := by
  obtain ⟨s0, G, Dg, P, L, M, Z, le, eq, rfl, h187, h188, h189, h190, h191, hfb, hB⟩ := hS
  refine xr_met rfl (Nat.le_of_ble_eq_true rfl) ?_
  intro p e s m args below meth c ls hx hb X hr hlk hl I
  have hl : lv_has ls 3 [(0, .ref (ad 183)), (1, .int r9), (2, .int c9)] := hl
  refine lv_aload_n hx hb d_SpectrumDeskModel_at_0 rfl (lv_at hl 0 rfl) ?_
  refine lv_aload_n hx hb d_SpectrumDeskModel_at_1 rfl (lv_at hl 0 rfl) ?_
  refine lv_iload_n hx hb d_SpectrumDeskModel_at_2 rfl (lv_at hl 1 rfl) ?_
  refine lv_iload_n hx hb d_SpectrumDeskModel_at_3 rfl (lv_at hl 2 rfl) ?_
  refine xr_calli (xr_runV (kc := 0) (kr := 1) (n := 2) (As := [.int r9, .int c9]) (rest := [.ref (ad 183)]) X I (by decide) (r183 ..) rfl (c_SpectrumDeskModel_isPlace_f (σb := σb) ⟨s0, _, _, _, _, _, _, _, _, rfl, h187, h188, h189, h190, h191, hfb, hB⟩ h1) (xg k_84e5fd28e4) (List.mem_cons_of_mem _ k_f5a43ce5ce) (List.mem_cons_of_mem _ k_c44ea60b14) (List.mem_cons_of_mem _ k_f00e619f1a) (List.mem_cons_of_mem _ k_30fa15c9ac) (by decide +kernel) (by decide) rfl hl.1 rfl (Nat.le_of_ble_eq_true rfl) d_SpectrumDeskModel_at_4) I (fun r1 σ9 H locs hp I => ?_)
  obtain ⟨rfl, rfl⟩ := hp
  refine lv_if_eq hx hb d_SpectrumDeskModel_at_7 rfl (fun hc => ?_) (fun hc => ?_)
  · refine lv_iconst (v := nI 1) hx hb d_SpectrumDeskModel_at_14 (by decide) ?_
    refine xr_put (ty := .int) X I fin_M t_M t_M_ok n_M 183 (by decide) (r183 ..) rfl 4 (by decide) (List.mem_cons_of_mem _ k_90bbbe5d04) rfl rfl (by decide +kernel) rfl rfl (Nat.le_of_ble_eq_true rfl) d_SpectrumDeskModel_at_15 (fun H locs I => ?_)
    rw [rw3_F] at I
    have I : xI D classes 193 ad s.heap (rw3 s0 ciM cI cZ (mfs ad (nI 1) (nI n) (nI rw) (nI ps) le eq) P L M) H locs := I
    refine lv_aload_n hx hb d_SpectrumDeskModel_at_18 rfl (lv_at hl 0 rfl) ?_
    refine xr_get X I fin_M 183 (by decide) (r183 ..) rfl 4 (by decide) (List.mem_cons_of_mem _ k_90bbbe5d04) rfl rfl d_SpectrumDeskModel_at_19 ?_
    refine lv_if_le hx hb d_SpectrumDeskModel_at_22 rfl (fun hd => ?_) (fun hd => ?_)
    · exact absurd hd (by decide)
    · refine lv_iconst (v := nI 0) hx hb d_SpectrumDeskModel_at_25 (by decide) ?_
      refine lv_goto hx hb d_SpectrumDeskModel_at_26 rfl ?_
      exact xr_iret X I hr hlk ⟨rfl, ⟨s0, G, Dg, P, L, M, Z, le, eq, rfl, h187, h188, h189, h190, h191, hfb, hB⟩⟩ d_SpectrumDeskModel_at_40
  · exact absurd rfl hc
set_option maxHeartbeats 4000000 in
set_option maxRecDepth 100000 in
theorem c_SpectrumDeskModel_put_ok {l : Launch} {D : va_G} {cI cJ cZ cC cG cP : ClassId} {ad : Nat → Nat} {σ σb : Nat → va_E} {th : Int32} {n : Nat} {A9 : Nat → Int32} {rw : Nat} {Dt : Nat → Int32} {ps : Nat} {Pr : Nat → Int32} (hS : mS ad cI cZ σb th n A9 rw Dt ps Pr σ) {r9 c9 : Nat} {v : Int32} (h1 : r9 < n) (h2 : c9 < n) (h3 : n ≤ 6) (h4 : isS v.toInt64) :
    Met l y_SpectrumDeskModel_put v_SpectrumDeskModel_put (xrm 1) (va_Pc [.ref (ad 183), .int (nI r9), .int (nI c9), .int v] (xS D classes (xT cI cJ cZ cC cG cP) 193 ad σ)) (va_Qv (mS ad cI cZ σb (nI 0) n (upd (upd A9 (6 * r9 + c9) v) (6 * c9 + r9) v) rw Dt ps Pr) (xS D classes (xT cI cJ cZ cC cG cP) 193 ad) (xA 193 ad)) 0 0 (xA 193 ad) := by
  obtain ⟨s0, G, Dg, P, L, M, Z, le, eq, rfl, h187, h188, h189, h190, h191, hfb, hB⟩ := hS
  refine xr_met rfl (Nat.le_of_ble_eq_true rfl) ?_
  intro p e s m args below meth c ls hx hb X hr hlk hl I
  have hl : lv_has ls 4 [(0, .ref (ad 183)), (1, .int (nI r9)), (2, .int (nI c9)), (3, .int v)] := hl
  refine lv_aload_n hx hb d_SpectrumDeskModel_put_0 rfl (lv_at hl 0 rfl) ?_
  refine lv_aload_n hx hb d_SpectrumDeskModel_put_1 rfl (lv_at hl 0 rfl) ?_
  refine lv_iload_n hx hb d_SpectrumDeskModel_put_2 rfl (lv_at hl 1 rfl) ?_
  refine lv_iload_n hx hb d_SpectrumDeskModel_put_3 rfl (lv_at hl 2 rfl) ?_
  refine xr_calli (xr_runV (kc := 0) (kr := 1) (n := 2) (As := [.int (nI r9), .int (nI c9)]) (rest := [.ref (ad 183)]) X I (by decide) (r183 ..) rfl (c_SpectrumDeskModel_isPlace_t (σb := σb) ⟨s0, _, _, _, _, _, _, _, _, rfl, h187, h188, h189, h190, h191, hfb, hB⟩ h1 h2 h3) (xg k_84e5fd28e4) (List.mem_cons_of_mem _ k_f5a43ce5ce) (List.mem_cons_of_mem _ k_c44ea60b14) (List.mem_cons_of_mem _ k_f00e619f1a) (List.mem_cons_of_mem _ k_30fa15c9ac) (by decide +kernel) (by decide) rfl hl.1 rfl (Nat.le_of_ble_eq_true rfl) d_SpectrumDeskModel_put_4) I (fun r1 σ9 H locs hp I => ?_)
  obtain ⟨rfl, rfl⟩ := hp
  refine lv_if_ne hx hb d_SpectrumDeskModel_put_7 rfl (fun hc => ?_) (fun hc => ?_)
  · refine lv_iload_n hx hb d_SpectrumDeskModel_put_14 rfl (lv_at hl 3 rfl) ?_
    refine lv_i2l hx hb d_SpectrumDeskModel_put_15 rfl ?_
    refine xr_calli (xr_runS (kc := 0) (kr := 1) (n := 1) (As := [.long ((v).toInt64)]) (rest := [.ref (ad 183)]) X I (c_SpectrumDeskModel_isSmall_t h4) (xg k_3f4b5a72d5) (List.mem_cons_of_mem _ k_2bf2c6597f) (List.mem_cons_of_mem _ k_95dfa36566) (List.mem_cons_of_mem _ k_30fa15c9ac) (by decide +kernel) (by decide) rfl hl.1 rfl (Nat.le_of_ble_eq_true rfl) d_SpectrumDeskModel_put_16) I (fun r1 σ9 H locs hp I => ?_)
    obtain ⟨rfl, h9⟩ := hp; rw [h9] at I; clear h9
    refine lv_if_ne hx hb d_SpectrumDeskModel_put_19 rfl (fun hd => ?_) (fun hd => ?_)
    · refine lv_iconst (v := nI 0) hx hb d_SpectrumDeskModel_put_26 (by decide) ?_
      refine xr_put (ty := .int) X I fin_M t_M t_M_ok n_M 183 (by decide) (r183 ..) rfl 4 (by decide) (List.mem_cons_of_mem _ k_90bbbe5d04) rfl rfl (by decide +kernel) rfl rfl (Nat.le_of_ble_eq_true rfl) d_SpectrumDeskModel_put_27 (fun H locs I => ?_)
      rw [rw3_F] at I
      have I : xI D classes 193 ad s.heap (rw3 s0 ciM cI cZ (mfs ad (nI 0) (nI n) (nI rw) (nI ps) le eq) P L M) H locs := I
      refine lv_aload_n hx hb d_SpectrumDeskModel_put_30 rfl (lv_at hl 0 rfl) ?_
      refine xr_get X I fin_M 183 (by decide) (r183 ..) rfl 4 (by decide) (List.mem_cons_of_mem _ k_90bbbe5d04) rfl rfl d_SpectrumDeskModel_put_31 ?_
      refine lv_if_ne hx hb d_SpectrumDeskModel_put_34 rfl (fun hd => ?_) (fun hd => ?_)
      · exact absurd rfl hd
      · refine lv_aload_n hx hb d_SpectrumDeskModel_put_37 rfl (lv_at hl 0 rfl) ?_
        refine xr_get X I fin_M 183 (by decide) (r183 ..) rfl 6 (by decide) (List.mem_cons_of_mem _ k_78efd7a03a) rfl rfl d_SpectrumDeskModel_put_38 ?_
        refine lv_bipush (v := nI 6) hx hb d_SpectrumDeskModel_put_41 (by decide) ?_
        refine lv_iload_n hx hb d_SpectrumDeskModel_put_43 rfl (lv_at hl 1 rfl) ?_
        refine lv_imul hx hb d_SpectrumDeskModel_put_44 (xr_topi (y := nI (6 * r9)) (pk_mul 6 r9) ?_)
        refine lv_iload_n hx hb d_SpectrumDeskModel_put_45 rfl (lv_at hl 2 rfl) ?_
        refine lv_iadd hx hb d_SpectrumDeskModel_put_46 (xr_topi (y := nI ((6 * r9) + c9)) (nI_add (6 * r9) c9) ?_)
        refine lv_iload_n hx hb d_SpectrumDeskModel_put_47 rfl (lv_at hl 3 rfl) ?_
        refine xr_iast X I 188 0 (by decide) ((r_o (by decide)).trans h188) rfl (by omega) (by decide) d_SpectrumDeskModel_put_48 (fun H locs I => ?_)
        rw [rw3_o (by decide)] at I
        refine lv_aload_n hx hb d_SpectrumDeskModel_put_49 rfl (lv_at hl 0 rfl) ?_
        refine xr_get X I fin_M 183 (by decide) (r183 ..) rfl 6 (by decide) (List.mem_cons_of_mem _ k_78efd7a03a) rfl rfl d_SpectrumDeskModel_put_50 ?_
        refine lv_bipush (v := nI 6) hx hb d_SpectrumDeskModel_put_53 (by decide) ?_
        refine lv_iload_n hx hb d_SpectrumDeskModel_put_55 rfl (lv_at hl 2 rfl) ?_
        refine lv_imul hx hb d_SpectrumDeskModel_put_56 (xr_topi (y := nI (6 * c9)) (pk_mul 6 c9) ?_)
        refine lv_iload_n hx hb d_SpectrumDeskModel_put_57 rfl (lv_at hl 1 rfl) ?_
        refine lv_iadd hx hb d_SpectrumDeskModel_put_58 (xr_topi (y := nI ((6 * c9) + r9)) (nI_add (6 * c9) r9) ?_)
        refine lv_iload_n hx hb d_SpectrumDeskModel_put_59 rfl (lv_at hl 3 rfl) ?_
        refine xr_iast X I 188 0 (by decide) ((r_o (by decide)).trans (va_up_self _ _ _)) rfl (by omega) (by decide) d_SpectrumDeskModel_put_60 (fun H locs I => ?_)
        rw [rw3_o (by decide)] at I
        rw [va_up_up] at I
        exact xr_vret X I hr hlk ⟨va_up s0 188 (.inl (cI, 36, .inl (upd (upd A9 (6 * r9 + c9) v) (6 * c9 + r9) v))), G, Dg, P, L, M, Z, le, eq, rfl, ((va_up_ne _ _ (by decide)).trans h187), (va_up_self _ _ _), ((va_up_ne _ _ (by decide)).trans h189), ((va_up_ne _ _ (by decide)).trans h190), ((va_up_ne _ _ (by decide)).trans h191), (fun q hq => (va_up_ne _ _ (by omega)).trans (hfb q hq)), hB⟩ d_SpectrumDeskModel_put_61
    · exact absurd hd (by decide)
  · exact absurd hc (by decide)
set_option maxHeartbeats 4000000 in
set_option maxRecDepth 100000 in
theorem c_SpectrumDeskModel_put_bad1 {l : Launch} {D : va_G} {cI cJ cZ cC cG cP : ClassId} {ad : Nat → Nat} {σ σb : Nat → va_E} {th : Int32} {n : Nat} {A9 : Nat → Int32} {rw : Nat} {Dt : Nat → Int32} {ps : Nat} {Pr : Nat → Int32} (hS : mS ad cI cZ σb th n A9 rw Dt ps Pr σ) {r9 c9 v : Int32} (h1 : ¬ isP r9 c9 n) :
    Met l y_SpectrumDeskModel_put v_SpectrumDeskModel_put (xrm 1) (va_Pc [.ref (ad 183), .int r9, .int c9, .int v] (xS D classes (xT cI cJ cZ cC cG cP) 193 ad σ)) (va_Qv (mS ad cI cZ σb (nI 1) n A9 rw Dt ps Pr) (xS D classes (xT cI cJ cZ cC cG cP) 193 ad) (xA 193 ad)) 0 0 (xA 193 ad) := by
  obtain ⟨s0, G, Dg, P, L, M, Z, le, eq, rfl, h187, h188, h189, h190, h191, hfb, hB⟩ := hS
  refine xr_met rfl (Nat.le_of_ble_eq_true rfl) ?_
  intro p e s m args below meth c ls hx hb X hr hlk hl I
  have hl : lv_has ls 4 [(0, .ref (ad 183)), (1, .int r9), (2, .int c9), (3, .int v)] := hl
  refine lv_aload_n hx hb d_SpectrumDeskModel_put_0 rfl (lv_at hl 0 rfl) ?_
  refine lv_aload_n hx hb d_SpectrumDeskModel_put_1 rfl (lv_at hl 0 rfl) ?_
  refine lv_iload_n hx hb d_SpectrumDeskModel_put_2 rfl (lv_at hl 1 rfl) ?_
  refine lv_iload_n hx hb d_SpectrumDeskModel_put_3 rfl (lv_at hl 2 rfl) ?_
  refine xr_calli (xr_runV (kc := 0) (kr := 1) (n := 2) (As := [.int r9, .int c9]) (rest := [.ref (ad 183)]) X I (by decide) (r183 ..) rfl (c_SpectrumDeskModel_isPlace_f (σb := σb) ⟨s0, _, _, _, _, _, _, _, _, rfl, h187, h188, h189, h190, h191, hfb, hB⟩ h1) (xg k_84e5fd28e4) (List.mem_cons_of_mem _ k_f5a43ce5ce) (List.mem_cons_of_mem _ k_c44ea60b14) (List.mem_cons_of_mem _ k_f00e619f1a) (List.mem_cons_of_mem _ k_30fa15c9ac) (by decide +kernel) (by decide) rfl hl.1 rfl (Nat.le_of_ble_eq_true rfl) d_SpectrumDeskModel_put_4) I (fun r1 σ9 H locs hp I => ?_)
  obtain ⟨rfl, rfl⟩ := hp
  refine lv_if_ne hx hb d_SpectrumDeskModel_put_7 rfl (fun hc => ?_) (fun hc => ?_)
  · exact absurd rfl hc
  · refine lv_iconst (v := nI 1) hx hb d_SpectrumDeskModel_put_10 (by decide) ?_
    refine lv_goto hx hb d_SpectrumDeskModel_put_11 rfl ?_
    refine xr_put (ty := .int) X I fin_M t_M t_M_ok n_M 183 (by decide) (r183 ..) rfl 4 (by decide) (List.mem_cons_of_mem _ k_90bbbe5d04) rfl rfl (by decide +kernel) rfl rfl (Nat.le_of_ble_eq_true rfl) d_SpectrumDeskModel_put_27 (fun H locs I => ?_)
    rw [rw3_F] at I
    have I : xI D classes 193 ad s.heap (rw3 s0 ciM cI cZ (mfs ad (nI 1) (nI n) (nI rw) (nI ps) le eq) P L M) H locs := I
    refine lv_aload_n hx hb d_SpectrumDeskModel_put_30 rfl (lv_at hl 0 rfl) ?_
    refine xr_get X I fin_M 183 (by decide) (r183 ..) rfl 4 (by decide) (List.mem_cons_of_mem _ k_90bbbe5d04) rfl rfl d_SpectrumDeskModel_put_31 ?_
    refine lv_if_ne hx hb d_SpectrumDeskModel_put_34 rfl (fun hd => ?_) (fun hd => ?_)
    · exact xr_vret X I hr hlk ⟨s0, G, Dg, P, L, M, Z, le, eq, rfl, h187, h188, h189, h190, h191, hfb, hB⟩ d_SpectrumDeskModel_put_61
    · exact absurd hd (by decide)
set_option maxHeartbeats 4000000 in
set_option maxRecDepth 100000 in
theorem c_SpectrumDeskModel_put_bad2 {l : Launch} {D : va_G} {cI cJ cZ cC cG cP : ClassId} {ad : Nat → Nat} {σ σb : Nat → va_E} {th : Int32} {n : Nat} {A9 : Nat → Int32} {rw : Nat} {Dt : Nat → Int32} {ps : Nat} {Pr : Nat → Int32} (hS : mS ad cI cZ σb th n A9 rw Dt ps Pr σ) {r9 c9 : Nat} {v : Int32} (h1 : r9 < n) (h2 : c9 < n) (h3 : n ≤ 6) (h4 : ¬ isS v.toInt64) :
    Met l y_SpectrumDeskModel_put v_SpectrumDeskModel_put (xrm 1) (va_Pc [.ref (ad 183), .int (nI r9), .int (nI c9), .int v] (xS D classes (xT cI cJ cZ cC cG cP) 193 ad σ)) (va_Qv (mS ad cI cZ σb (nI 2) n A9 rw Dt ps Pr) (xS D classes (xT cI cJ cZ cC cG cP) 193 ad) (xA 193 ad)) 0 0 (xA 193 ad) := by
  obtain ⟨s0, G, Dg, P, L, M, Z, le, eq, rfl, h187, h188, h189, h190, h191, hfb, hB⟩ := hS
  refine xr_met rfl (Nat.le_of_ble_eq_true rfl) ?_
  intro p e s m args below meth c ls hx hb X hr hlk hl I
  have hl : lv_has ls 4 [(0, .ref (ad 183)), (1, .int (nI r9)), (2, .int (nI c9)), (3, .int v)] := hl
  refine lv_aload_n hx hb d_SpectrumDeskModel_put_0 rfl (lv_at hl 0 rfl) ?_
  refine lv_aload_n hx hb d_SpectrumDeskModel_put_1 rfl (lv_at hl 0 rfl) ?_
  refine lv_iload_n hx hb d_SpectrumDeskModel_put_2 rfl (lv_at hl 1 rfl) ?_
  refine lv_iload_n hx hb d_SpectrumDeskModel_put_3 rfl (lv_at hl 2 rfl) ?_
  refine xr_calli (xr_runV (kc := 0) (kr := 1) (n := 2) (As := [.int (nI r9), .int (nI c9)]) (rest := [.ref (ad 183)]) X I (by decide) (r183 ..) rfl (c_SpectrumDeskModel_isPlace_t (σb := σb) ⟨s0, _, _, _, _, _, _, _, _, rfl, h187, h188, h189, h190, h191, hfb, hB⟩ h1 h2 h3) (xg k_84e5fd28e4) (List.mem_cons_of_mem _ k_f5a43ce5ce) (List.mem_cons_of_mem _ k_c44ea60b14) (List.mem_cons_of_mem _ k_f00e619f1a) (List.mem_cons_of_mem _ k_30fa15c9ac) (by decide +kernel) (by decide) rfl hl.1 rfl (Nat.le_of_ble_eq_true rfl) d_SpectrumDeskModel_put_4) I (fun r1 σ9 H locs hp I => ?_)
  obtain ⟨rfl, rfl⟩ := hp
  refine lv_if_ne hx hb d_SpectrumDeskModel_put_7 rfl (fun hc => ?_) (fun hc => ?_)
  · refine lv_iload_n hx hb d_SpectrumDeskModel_put_14 rfl (lv_at hl 3 rfl) ?_
    refine lv_i2l hx hb d_SpectrumDeskModel_put_15 rfl ?_
    refine xr_calli (xr_runS (kc := 0) (kr := 1) (n := 1) (As := [.long ((v).toInt64)]) (rest := [.ref (ad 183)]) X I (c_SpectrumDeskModel_isSmall_f h4) (xg k_3f4b5a72d5) (List.mem_cons_of_mem _ k_2bf2c6597f) (List.mem_cons_of_mem _ k_95dfa36566) (List.mem_cons_of_mem _ k_30fa15c9ac) (by decide +kernel) (by decide) rfl hl.1 rfl (Nat.le_of_ble_eq_true rfl) d_SpectrumDeskModel_put_16) I (fun r1 σ9 H locs hp I => ?_)
    obtain ⟨rfl, h9⟩ := hp; rw [h9] at I; clear h9
    refine lv_if_ne hx hb d_SpectrumDeskModel_put_19 rfl (fun hd => ?_) (fun hd => ?_)
    · exact absurd rfl hd
    · refine lv_iconst (v := nI 2) hx hb d_SpectrumDeskModel_put_22 (by decide) ?_
      refine lv_goto hx hb d_SpectrumDeskModel_put_23 rfl ?_
      refine xr_put (ty := .int) X I fin_M t_M t_M_ok n_M 183 (by decide) (r183 ..) rfl 4 (by decide) (List.mem_cons_of_mem _ k_90bbbe5d04) rfl rfl (by decide +kernel) rfl rfl (Nat.le_of_ble_eq_true rfl) d_SpectrumDeskModel_put_27 (fun H locs I => ?_)
      rw [rw3_F] at I
      have I : xI D classes 193 ad s.heap (rw3 s0 ciM cI cZ (mfs ad (nI 2) (nI n) (nI rw) (nI ps) le eq) P L M) H locs := I
      refine lv_aload_n hx hb d_SpectrumDeskModel_put_30 rfl (lv_at hl 0 rfl) ?_
      refine xr_get X I fin_M 183 (by decide) (r183 ..) rfl 4 (by decide) (List.mem_cons_of_mem _ k_90bbbe5d04) rfl rfl d_SpectrumDeskModel_put_31 ?_
      refine lv_if_ne hx hb d_SpectrumDeskModel_put_34 rfl (fun hd => ?_) (fun hd => ?_)
      · exact xr_vret X I hr hlk ⟨s0, G, Dg, P, L, M, Z, le, eq, rfl, h187, h188, h189, h190, h191, hfb, hB⟩ d_SpectrumDeskModel_put_61
      · exact absurd hd (by decide)
  · exact absurd hc (by decide)
set_option maxHeartbeats 4000000 in
set_option maxRecDepth 100000 in
theorem c_SpectrumDeskModel_size {l : Launch} {D : va_G} {cI cJ cZ cC cG cP : ClassId} {ad : Nat → Nat} {σ σb : Nat → va_E} {th : Int32} {n : Nat} {A9 : Nat → Int32} {rw : Nat} {Dt : Nat → Int32} {ps : Nat} {Pr : Nat → Int32} (hS : mS ad cI cZ σb th n A9 rw Dt ps Pr σ) {v : Int32} :
    Met l y_SpectrumDeskModel_size v_SpectrumDeskModel_size (xrm 0) (va_Pc [.ref (ad 183), .int v] (xS D classes (xT cI cJ cZ cC cG cP) 193 ad σ)) (va_Qi (fun r σ2 => r = (if v = 0 then nI n else if v = 1 then nI rw else -1) ∧ mS ad cI cZ σb (nI 0) n A9 rw Dt ps Pr σ2) (xS D classes (xT cI cJ cZ cC cG cP) 193 ad) (xA 193 ad)) 0 0 (xA 193 ad) := by
  obtain ⟨s0, G, Dg, P, L, M, Z, le, eq, rfl, h187, h188, h189, h190, h191, hfb, hB⟩ := hS
  refine xr_met rfl (Nat.le_of_ble_eq_true rfl) ?_
  intro p e s m args below meth c ls hx hb X hr hlk hl I
  have hl : lv_has ls 2 [(0, .ref (ad 183)), (1, .int v)] := hl
  refine lv_aload_n hx hb d_SpectrumDeskModel_size_0 rfl (lv_at hl 0 rfl) ?_
  refine lv_iconst (v := nI 0) hx hb d_SpectrumDeskModel_size_1 (by decide) ?_
  refine xr_put (ty := .int) X I fin_M t_M t_M_ok n_M 183 (by decide) (r183 ..) rfl 4 (by decide) (List.mem_cons_of_mem _ k_90bbbe5d04) rfl rfl (by decide +kernel) rfl rfl (Nat.le_of_ble_eq_true rfl) d_SpectrumDeskModel_size_2 (fun H locs I => ?_)
  rw [rw3_F] at I
  have I : xI D classes 193 ad s.heap (rw3 s0 ciM cI cZ (mfs ad (nI 0) (nI n) (nI rw) (nI ps) le eq) P L M) H locs := I
  refine lv_iload_n hx hb d_SpectrumDeskModel_size_5 rfl (lv_at hl 1 rfl) ?_
  refine lv_if_ne hx hb d_SpectrumDeskModel_size_6 rfl (fun hc => ?_) (fun hc => ?_)
  · refine lv_iload_n hx hb d_SpectrumDeskModel_size_16 rfl (lv_at hl 1 rfl) ?_
    refine lv_iconst (v := 1) hx hb d_SpectrumDeskModel_size_17 (by decide) ?_
    refine lv_icmp_ne hx hb d_SpectrumDeskModel_size_18 rfl (fun hd => ?_) (fun hd => ?_)
    · refine lv_iconst (v := (-1)) hx hb d_SpectrumDeskModel_size_28 (by decide) ?_
      exact xr_iret X I hr hlk ⟨by rw [if_neg hc, if_neg hd], ⟨s0, G, Dg, P, L, M, Z, le, eq, rfl, h187, h188, h189, h190, h191, hfb, hB⟩⟩ d_SpectrumDeskModel_size_29
    · refine lv_aload_n hx hb d_SpectrumDeskModel_size_21 rfl (lv_at hl 0 rfl) ?_
      refine xr_get X I fin_M 183 (by decide) (r183 ..) rfl 8 (by decide) (List.mem_cons_of_mem _ k_cd82b0b714) rfl rfl d_SpectrumDeskModel_size_22 ?_
      refine lv_goto hx hb d_SpectrumDeskModel_size_25 rfl ?_
      exact xr_iret X I hr hlk ⟨by rw [if_neg hc, if_pos hd], ⟨s0, G, Dg, P, L, M, Z, le, eq, rfl, h187, h188, h189, h190, h191, hfb, hB⟩⟩ d_SpectrumDeskModel_size_29
  · refine lv_aload_n hx hb d_SpectrumDeskModel_size_9 rfl (lv_at hl 0 rfl) ?_
    refine xr_get X I fin_M 183 (by decide) (r183 ..) rfl 5 (by decide) (List.mem_cons_of_mem _ k_b1a46e2c09) rfl rfl d_SpectrumDeskModel_size_10 ?_
    refine lv_goto hx hb d_SpectrumDeskModel_size_13 rfl ?_
    exact xr_iret X I hr hlk ⟨by rw [if_pos hc], ⟨s0, G, Dg, P, L, M, Z, le, eq, rfl, h187, h188, h189, h190, h191, hfb, hB⟩⟩ d_SpectrumDeskModel_size_29
set_option maxHeartbeats 4000000 in
set_option maxRecDepth 100000 in
theorem c_SpectrumDeskModel_character {l : Launch} {D : va_G} {cI cJ cZ cC cG cP : ClassId} {ad : Nat → Nat} {σ σb : Nat → va_E} {th : Int32} {n : Nat} {A9 : Nat → Int32} {rw : Nat} {Dt : Nat → Int32} {ps : Nat} {Pr : Nat → Int32} (hS : mS ad cI cZ σb th n A9 rw Dt ps Pr σ) {v : Int32} (hps : ps ≤ 400) :
    Met l y_SpectrumDeskModel_character v_SpectrumDeskModel_character (xrm 0) (va_Pc [.ref (ad 183), .int v] (xS D classes (xT cI cJ cZ cC cG cP) 193 ad σ)) (va_Qi (fun r σ2 => r = (if ¬ v < 0 ∧ v < nI ps then Pr v.toNatClampNeg else -1) ∧ mS ad cI cZ σb (nI 0) n A9 rw Dt ps Pr σ2) (xS D classes (xT cI cJ cZ cC cG cP) 193 ad) (xA 193 ad)) 0 0 (xA 193 ad) := by
  obtain ⟨s0, G, Dg, P, L, M, Z, le, eq, rfl, h187, h188, h189, h190, h191, hfb, hB⟩ := hS
  refine xr_met rfl (Nat.le_of_ble_eq_true rfl) ?_
  intro p e s m args below meth c ls hx hb X hr hlk hl I
  have hl : lv_has ls 2 [(0, .ref (ad 183)), (1, .int v)] := hl
  refine lv_aload_n hx hb d_SpectrumDeskModel_character_0 rfl (lv_at hl 0 rfl) ?_
  refine lv_iconst (v := nI 0) hx hb d_SpectrumDeskModel_character_1 (by decide) ?_
  refine xr_put (ty := .int) X I fin_M t_M t_M_ok n_M 183 (by decide) (r183 ..) rfl 4 (by decide) (List.mem_cons_of_mem _ k_90bbbe5d04) rfl rfl (by decide +kernel) rfl rfl (Nat.le_of_ble_eq_true rfl) d_SpectrumDeskModel_character_2 (fun H locs I => ?_)
  rw [rw3_F] at I
  have I : xI D classes 193 ad s.heap (rw3 s0 ciM cI cZ (mfs ad (nI 0) (nI n) (nI rw) (nI ps) le eq) P L M) H locs := I
  refine lv_iload_n hx hb d_SpectrumDeskModel_character_5 rfl (lv_at hl 1 rfl) ?_
  refine lv_if_lt hx hb d_SpectrumDeskModel_character_6 rfl (fun hc => ?_) (fun hc => ?_)
  · refine lv_iconst (v := (-1)) hx hb d_SpectrumDeskModel_character_26 (by decide) ?_
    exact xr_iret X I hr hlk ⟨by rw [if_neg (fun h => h.1 hc)], ⟨s0, G, Dg, P, L, M, Z, le, eq, rfl, h187, h188, h189, h190, h191, hfb, hB⟩⟩ d_SpectrumDeskModel_character_27
  · refine lv_iload_n hx hb d_SpectrumDeskModel_character_9 rfl (lv_at hl 1 rfl) ?_
    refine lv_aload_n hx hb d_SpectrumDeskModel_character_10 rfl (lv_at hl 0 rfl) ?_
    refine xr_get X I fin_M 183 (by decide) (r183 ..) rfl 10 (by decide) (List.mem_cons_of_mem _ k_8988dcbdf9) rfl rfl d_SpectrumDeskModel_character_11 ?_
    refine lv_icmp_ge hx hb d_SpectrumDeskModel_character_14 rfl (fun hd => ?_) (fun hd => ?_)
    · refine lv_iconst (v := (-1)) hx hb d_SpectrumDeskModel_character_26 (by decide) ?_
      exact xr_iret X I hr hlk ⟨by rw [if_neg (fun h => q_le_lt hd h.2)], ⟨s0, G, Dg, P, L, M, Z, le, eq, rfl, h187, h188, h189, h190, h191, hfb, hB⟩⟩ d_SpectrumDeskModel_character_27
    · obtain ⟨j, j1, rfl⟩ := nI_of hc
      have hj : j < ps := (nI_ltI j1 (by omega)).mp (q_nge hd)
      refine lv_aload_n hx hb d_SpectrumDeskModel_character_17 rfl (lv_at hl 0 rfl) ?_
      refine xr_get X I fin_M 183 (by decide) (r183 ..) rfl 9 (by decide) (List.mem_cons_of_mem _ k_dd379f4769) rfl rfl d_SpectrumDeskModel_character_18 ?_
      refine lv_iload_n hx hb d_SpectrumDeskModel_character_21 rfl (lv_at hl 1 rfl) ?_
      refine xr_iald X I 190 0 (by decide) ((r_o (by decide)).trans h190) rfl (by omega) (by decide) d_SpectrumDeskModel_character_22 ?_
      refine lv_goto hx hb d_SpectrumDeskModel_character_23 rfl ?_
      exact xr_iret X I hr hlk ⟨by rw [if_pos ⟨hc, q_nge hd⟩, nI_clamp (by omega)], ⟨s0, G, Dg, P, L, M, Z, le, eq, rfl, h187, h188, h189, h190, h191, hfb, hB⟩⟩ d_SpectrumDeskModel_character_27
