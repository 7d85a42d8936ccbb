/-! SpectrumDesk$Spectrum: isWhole, cellsTaken, limbsForEdges, traceFits, blocksInterlace (written by wip/gen) -/
abbrev b_Spectrum_isWhole : ByteArray := prog_7_method_9_code
abbrev y_Spectrum_isWhole : MethodName := ⟨"SpectrumDesk$Spectrum", "isWhole", "(I)Z"⟩
abbrev v_Spectrum_isWhole : List Cond := Cond.code y_Spectrum_isWhole b_Spectrum_isWhole 4 (some .boolean) :: AW
theorem d_Spectrum_isWhole_0 : decode b_Spectrum_isWhole 0 = .ok (.aload_n 0, 1) := by decide +kernel
theorem d_Spectrum_isWhole_1 : decode b_Spectrum_isWhole 1 = .ok (.iload_n 1, 1) := by decide +kernel
theorem d_Spectrum_isWhole_2 : decode b_Spectrum_isWhole 2 = .ok (.invokevirtual 133, 3) := by decide +kernel
theorem d_Spectrum_isWhole_5 : decode b_Spectrum_isWhole 5 = .ok (.lstore_n 2, 1) := by decide +kernel
theorem d_Spectrum_isWhole_6 : decode b_Spectrum_isWhole 6 = .ok (.lload_n 2, 1) := by decide +kernel
theorem d_Spectrum_isWhole_7 : decode b_Spectrum_isWhole 7 = .ok (.ldc2_w 92, 3) := by decide +kernel
theorem d_Spectrum_isWhole_10 : decode b_Spectrum_isWhole 10 = .ok (.lrem, 1) := by decide +kernel
theorem d_Spectrum_isWhole_11 : decode b_Spectrum_isWhole 11 = .ok (.lconst 0, 1) := by decide +kernel
theorem d_Spectrum_isWhole_12 : decode b_Spectrum_isWhole 12 = .ok (.lcmp, 1) := by decide +kernel
theorem d_Spectrum_isWhole_13 : decode b_Spectrum_isWhole 13 = .ok (.ifCond .eq (5), 3) := by decide +kernel
theorem d_Spectrum_isWhole_16 : decode b_Spectrum_isWhole 16 = .ok (.iconst 0, 1) := by decide +kernel
theorem d_Spectrum_isWhole_17 : decode b_Spectrum_isWhole 17 = .ok (.ireturn, 1) := by decide +kernel
theorem d_Spectrum_isWhole_18 : decode b_Spectrum_isWhole 18 = .ok (.aload_n 0, 1) := by decide +kernel
theorem d_Spectrum_isWhole_19 : decode b_Spectrum_isWhole 19 = .ok (.getfield 37, 3) := by decide +kernel
theorem d_Spectrum_isWhole_22 : decode b_Spectrum_isWhole 22 = .ok (.aload_n 0, 1) := by decide +kernel
theorem d_Spectrum_isWhole_23 : decode b_Spectrum_isWhole 23 = .ok (.getfield 34, 3) := by decide +kernel
theorem d_Spectrum_isWhole_26 : decode b_Spectrum_isWhole 26 = .ok (.aload_n 0, 1) := by decide +kernel
theorem d_Spectrum_isWhole_27 : decode b_Spectrum_isWhole 27 = .ok (.getfield 34, 3) := by decide +kernel
theorem d_Spectrum_isWhole_30 : decode b_Spectrum_isWhole 30 = .ok (.getfield 122, 3) := by decide +kernel
theorem d_Spectrum_isWhole_33 : decode b_Spectrum_isWhole 33 = .ok (.invokevirtual 88, 3) := by decide +kernel
theorem d_Spectrum_isWhole_36 : decode b_Spectrum_isWhole 36 = .ok (.aload_n 0, 1) := by decide +kernel
theorem d_Spectrum_isWhole_37 : decode b_Spectrum_isWhole 37 = .ok (.getfield 37, 3) := by decide +kernel
theorem d_Spectrum_isWhole_40 : decode b_Spectrum_isWhole 40 = .ok (.lload_n 2, 1) := by decide +kernel
theorem d_Spectrum_isWhole_41 : decode b_Spectrum_isWhole 41 = .ok (.invokevirtual 119, 3) := by decide +kernel
theorem d_Spectrum_isWhole_44 : decode b_Spectrum_isWhole 44 = .ok (.iload_n 1, 1) := by decide +kernel
theorem d_Spectrum_isWhole_45 : decode b_Spectrum_isWhole 45 = .ok (.aload_n 0, 1) := by decide +kernel
theorem d_Spectrum_isWhole_46 : decode b_Spectrum_isWhole 46 = .ok (.getfield 37, 3) := by decide +kernel
theorem d_Spectrum_isWhole_49 : decode b_Spectrum_isWhole 49 = .ok (.invokevirtual 125, 3) := by decide +kernel
theorem d_Spectrum_isWhole_52 : decode b_Spectrum_isWhole 52 = .ok (.aload_n 0, 1) := by decide +kernel
theorem d_Spectrum_isWhole_53 : decode b_Spectrum_isWhole 53 = .ok (.getfield 37, 3) := by decide +kernel
theorem d_Spectrum_isWhole_56 : decode b_Spectrum_isWhole 56 = .ok (.invokevirtual 137, 3) := by decide +kernel
theorem d_Spectrum_isWhole_59 : decode b_Spectrum_isWhole 59 = .ok (.iadd, 1) := by decide +kernel
theorem d_Spectrum_isWhole_60 : decode b_Spectrum_isWhole 60 = .ok (.if_icmp .ge (7), 3) := by decide +kernel
theorem d_Spectrum_isWhole_63 : decode b_Spectrum_isWhole 63 = .ok (.iconst 1, 1) := by decide +kernel
theorem d_Spectrum_isWhole_64 : decode b_Spectrum_isWhole 64 = .ok (.goto (4), 3) := by decide +kernel
theorem d_Spectrum_isWhole_67 : decode b_Spectrum_isWhole 67 = .ok (.iconst 0, 1) := by decide +kernel
theorem d_Spectrum_isWhole_68 : decode b_Spectrum_isWhole 68 = .ok (.ireturn, 1) := by decide +kernel
abbrev b_Spectrum_cellsTaken : ByteArray := prog_7_method_8_code
abbrev y_Spectrum_cellsTaken : MethodName := ⟨"SpectrumDesk$Spectrum", "cellsTaken", "(I)I"⟩
abbrev v_Spectrum_cellsTaken : List Cond := Cond.code y_Spectrum_cellsTaken b_Spectrum_cellsTaken 4 (some .int) :: AW
theorem d_Spectrum_cellsTaken_0 : decode b_Spectrum_cellsTaken 0 = .ok (.iconst 1, 1) := by decide +kernel
theorem d_Spectrum_cellsTaken_1 : decode b_Spectrum_cellsTaken 1 = .ok (.istore_n 2, 1) := by decide +kernel
theorem d_Spectrum_cellsTaken_2 : decode b_Spectrum_cellsTaken 2 = .ok (.iconst 1, 1) := by decide +kernel
theorem d_Spectrum_cellsTaken_3 : decode b_Spectrum_cellsTaken 3 = .ok (.istore_n 3, 1) := by decide +kernel
theorem d_Spectrum_cellsTaken_4 : decode b_Spectrum_cellsTaken 4 = .ok (.iload_n 3, 1) := by decide +kernel
theorem d_Spectrum_cellsTaken_5 : decode b_Spectrum_cellsTaken 5 = .ok (.aload_n 0, 1) := by decide +kernel
theorem d_Spectrum_cellsTaken_6 : decode b_Spectrum_cellsTaken 6 = .ok (.getfield 68, 3) := by decide +kernel
theorem d_Spectrum_cellsTaken_9 : decode b_Spectrum_cellsTaken 9 = .ok (.if_icmp .ge (38), 3) := by decide +kernel
theorem d_Spectrum_cellsTaken_12 : decode b_Spectrum_cellsTaken 12 = .ok (.aload_n 0, 1) := by decide +kernel
theorem d_Spectrum_cellsTaken_13 : decode b_Spectrum_cellsTaken 13 = .ok (.iload_n 3, 1) := by decide +kernel
theorem d_Spectrum_cellsTaken_14 : decode b_Spectrum_cellsTaken 14 = .ok (.invokevirtual 133, 3) := by decide +kernel
theorem d_Spectrum_cellsTaken_17 : decode b_Spectrum_cellsTaken 17 = .ok (.bipush (30), 2) := by decide +kernel
theorem d_Spectrum_cellsTaken_19 : decode b_Spectrum_cellsTaken 19 = .ok (.iload_n 1, 1) := by decide +kernel
theorem d_Spectrum_cellsTaken_20 : decode b_Spectrum_cellsTaken 20 = .ok (.isub, 1) := by decide +kernel
theorem d_Spectrum_cellsTaken_21 : decode b_Spectrum_cellsTaken 21 = .ok (.lshr, 1) := by decide +kernel
theorem d_Spectrum_cellsTaken_22 : decode b_Spectrum_cellsTaken 22 = .ok (.aload_n 0, 1) := by decide +kernel
theorem d_Spectrum_cellsTaken_23 : decode b_Spectrum_cellsTaken 23 = .ok (.iload_n 3, 1) := by decide +kernel
theorem d_Spectrum_cellsTaken_24 : decode b_Spectrum_cellsTaken 24 = .ok (.iconst 1, 1) := by decide +kernel
theorem d_Spectrum_cellsTaken_25 : decode b_Spectrum_cellsTaken 25 = .ok (.isub, 1) := by decide +kernel
theorem d_Spectrum_cellsTaken_26 : decode b_Spectrum_cellsTaken 26 = .ok (.invokevirtual 133, 3) := by decide +kernel
theorem d_Spectrum_cellsTaken_29 : decode b_Spectrum_cellsTaken 29 = .ok (.bipush (30), 2) := by decide +kernel
theorem d_Spectrum_cellsTaken_31 : decode b_Spectrum_cellsTaken 31 = .ok (.iload_n 1, 1) := by decide +kernel
theorem d_Spectrum_cellsTaken_32 : decode b_Spectrum_cellsTaken 32 = .ok (.isub, 1) := by decide +kernel
theorem d_Spectrum_cellsTaken_33 : decode b_Spectrum_cellsTaken 33 = .ok (.lshr, 1) := by decide +kernel
theorem d_Spectrum_cellsTaken_34 : decode b_Spectrum_cellsTaken 34 = .ok (.lcmp, 1) := by decide +kernel
theorem d_Spectrum_cellsTaken_35 : decode b_Spectrum_cellsTaken 35 = .ok (.ifCond .eq (6), 3) := by decide +kernel
theorem d_Spectrum_cellsTaken_38 : decode b_Spectrum_cellsTaken 38 = .ok (.iinc 2 (1), 3) := by decide +kernel
theorem d_Spectrum_cellsTaken_41 : decode b_Spectrum_cellsTaken 41 = .ok (.iinc 3 (1), 3) := by decide +kernel
theorem d_Spectrum_cellsTaken_44 : decode b_Spectrum_cellsTaken 44 = .ok (.goto (-40), 3) := by decide +kernel
theorem d_Spectrum_cellsTaken_47 : decode b_Spectrum_cellsTaken 47 = .ok (.iload_n 2, 1) := by decide +kernel
theorem d_Spectrum_cellsTaken_48 : decode b_Spectrum_cellsTaken 48 = .ok (.ireturn, 1) := by decide +kernel
abbrev b_Spectrum_limbsForEdges : ByteArray := prog_7_method_4_code
abbrev y_Spectrum_limbsForEdges : MethodName := ⟨"SpectrumDesk$Spectrum", "limbsForEdges", "()I"⟩
abbrev v_Spectrum_limbsForEdges : List Cond := Cond.code y_Spectrum_limbsForEdges b_Spectrum_limbsForEdges 1 (some .int) :: AW
theorem d_Spectrum_limbsForEdges_0 : decode b_Spectrum_limbsForEdges 0 = .ok (.aload_n 0, 1) := by decide +kernel
theorem d_Spectrum_limbsForEdges_1 : decode b_Spectrum_limbsForEdges 1 = .ok (.getfield 68, 3) := by decide +kernel
theorem d_Spectrum_limbsForEdges_4 : decode b_Spectrum_limbsForEdges 4 = .ok (.aload_n 0, 1) := by decide +kernel
theorem d_Spectrum_limbsForEdges_5 : decode b_Spectrum_limbsForEdges 5 = .ok (.getfield 98, 3) := by decide +kernel
theorem d_Spectrum_limbsForEdges_8 : decode b_Spectrum_limbsForEdges 8 = .ok (.i2l, 1) := by decide +kernel
theorem d_Spectrum_limbsForEdges_9 : decode b_Spectrum_limbsForEdges 9 = .ok (.invokestatic 115, 3) := by decide +kernel
theorem d_Spectrum_limbsForEdges_12 : decode b_Spectrum_limbsForEdges 12 = .ok (.bipush (30), 2) := by decide +kernel
theorem d_Spectrum_limbsForEdges_14 : decode b_Spectrum_limbsForEdges 14 = .ok (.iadd, 1) := by decide +kernel
theorem d_Spectrum_limbsForEdges_15 : decode b_Spectrum_limbsForEdges 15 = .ok (.iconst 1, 1) := by decide +kernel
theorem d_Spectrum_limbsForEdges_16 : decode b_Spectrum_limbsForEdges 16 = .ok (.iadd, 1) := by decide +kernel
theorem d_Spectrum_limbsForEdges_17 : decode b_Spectrum_limbsForEdges 17 = .ok (.imul, 1) := by decide +kernel
theorem d_Spectrum_limbsForEdges_18 : decode b_Spectrum_limbsForEdges 18 = .ok (.bipush (6), 2) := by decide +kernel
theorem d_Spectrum_limbsForEdges_20 : decode b_Spectrum_limbsForEdges 20 = .ok (.iadd, 1) := by decide +kernel
theorem d_Spectrum_limbsForEdges_21 : decode b_Spectrum_limbsForEdges 21 = .ok (.bipush (30), 2) := by decide +kernel
theorem d_Spectrum_limbsForEdges_23 : decode b_Spectrum_limbsForEdges 23 = .ok (.idiv, 1) := by decide +kernel
theorem d_Spectrum_limbsForEdges_24 : decode b_Spectrum_limbsForEdges 24 = .ok (.iconst 1, 1) := by decide +kernel
theorem d_Spectrum_limbsForEdges_25 : decode b_Spectrum_limbsForEdges 25 = .ok (.iadd, 1) := by decide +kernel
theorem d_Spectrum_limbsForEdges_26 : decode b_Spectrum_limbsForEdges 26 = .ok (.ireturn, 1) := by decide +kernel
abbrev b_Spectrum_traceFits : ByteArray := prog_7_method_15_code
abbrev y_Spectrum_traceFits : MethodName := ⟨"SpectrumDesk$Spectrum", "traceFits", "()Z"⟩
abbrev v_Spectrum_traceFits : List Cond := Cond.code y_Spectrum_traceFits b_Spectrum_traceFits 4 (some .boolean) :: AW
theorem d_Spectrum_traceFits_0 : decode b_Spectrum_traceFits 0 = .ok (.lconst 0, 1) := by decide +kernel
theorem d_Spectrum_traceFits_1 : decode b_Spectrum_traceFits 1 = .ok (.lstore_n 1, 1) := by decide +kernel
theorem d_Spectrum_traceFits_2 : decode b_Spectrum_traceFits 2 = .ok (.iconst 0, 1) := by decide +kernel
theorem d_Spectrum_traceFits_3 : decode b_Spectrum_traceFits 3 = .ok (.istore_n 3, 1) := by decide +kernel
theorem d_Spectrum_traceFits_4 : decode b_Spectrum_traceFits 4 = .ok (.iload_n 3, 1) := by decide +kernel
theorem d_Spectrum_traceFits_5 : decode b_Spectrum_traceFits 5 = .ok (.aload_n 0, 1) := by decide +kernel
theorem d_Spectrum_traceFits_6 : decode b_Spectrum_traceFits 6 = .ok (.getfield 68, 3) := by decide +kernel
theorem d_Spectrum_traceFits_9 : decode b_Spectrum_traceFits 9 = .ok (.if_icmp .ge (17), 3) := by decide +kernel
theorem d_Spectrum_traceFits_12 : decode b_Spectrum_traceFits 12 = .ok (.lload_n 1, 1) := by decide +kernel
theorem d_Spectrum_traceFits_13 : decode b_Spectrum_traceFits 13 = .ok (.aload_n 0, 1) := by decide +kernel
theorem d_Spectrum_traceFits_14 : decode b_Spectrum_traceFits 14 = .ok (.iload_n 3, 1) := by decide +kernel
theorem d_Spectrum_traceFits_15 : decode b_Spectrum_traceFits 15 = .ok (.invokevirtual 133, 3) := by decide +kernel
theorem d_Spectrum_traceFits_18 : decode b_Spectrum_traceFits 18 = .ok (.ladd, 1) := by decide +kernel
theorem d_Spectrum_traceFits_19 : decode b_Spectrum_traceFits 19 = .ok (.lstore_n 1, 1) := by decide +kernel
theorem d_Spectrum_traceFits_20 : decode b_Spectrum_traceFits 20 = .ok (.iinc 3 (1), 3) := by decide +kernel
theorem d_Spectrum_traceFits_23 : decode b_Spectrum_traceFits 23 = .ok (.goto (-19), 3) := by decide +kernel
theorem d_Spectrum_traceFits_26 : decode b_Spectrum_traceFits 26 = .ok (.lload_n 1, 1) := by decide +kernel
theorem d_Spectrum_traceFits_27 : decode b_Spectrum_traceFits 27 = .ok (.aload_n 0, 1) := by decide +kernel
theorem d_Spectrum_traceFits_28 : decode b_Spectrum_traceFits 28 = .ok (.getfield 101, 3) := by decide +kernel
theorem d_Spectrum_traceFits_31 : decode b_Spectrum_traceFits 31 = .ok (.ldc2_w 92, 3) := by decide +kernel
theorem d_Spectrum_traceFits_34 : decode b_Spectrum_traceFits 34 = .ok (.lmul, 1) := by decide +kernel
theorem d_Spectrum_traceFits_35 : decode b_Spectrum_traceFits 35 = .ok (.lcmp, 1) := by decide +kernel
theorem d_Spectrum_traceFits_36 : decode b_Spectrum_traceFits 36 = .ok (.ifCond .gt (26), 3) := by decide +kernel
theorem d_Spectrum_traceFits_39 : decode b_Spectrum_traceFits 39 = .ok (.aload_n 0, 1) := by decide +kernel
theorem d_Spectrum_traceFits_40 : decode b_Spectrum_traceFits 40 = .ok (.getfield 101, 3) := by decide +kernel
theorem d_Spectrum_traceFits_43 : decode b_Spectrum_traceFits 43 = .ok (.ldc2_w 92, 3) := by decide +kernel
theorem d_Spectrum_traceFits_46 : decode b_Spectrum_traceFits 46 = .ok (.lmul, 1) := by decide +kernel
theorem d_Spectrum_traceFits_47 : decode b_Spectrum_traceFits 47 = .ok (.lload_n 1, 1) := by decide +kernel
theorem d_Spectrum_traceFits_48 : decode b_Spectrum_traceFits 48 = .ok (.aload_n 0, 1) := by decide +kernel
theorem d_Spectrum_traceFits_49 : decode b_Spectrum_traceFits 49 = .ok (.getfield 68, 3) := by decide +kernel
theorem d_Spectrum_traceFits_52 : decode b_Spectrum_traceFits 52 = .ok (.i2l, 1) := by decide +kernel
theorem d_Spectrum_traceFits_53 : decode b_Spectrum_traceFits 53 = .ok (.ladd, 1) := by decide +kernel
theorem d_Spectrum_traceFits_54 : decode b_Spectrum_traceFits 54 = .ok (.lcmp, 1) := by decide +kernel
theorem d_Spectrum_traceFits_55 : decode b_Spectrum_traceFits 55 = .ok (.ifCond .ge (7), 3) := by decide +kernel
theorem d_Spectrum_traceFits_58 : decode b_Spectrum_traceFits 58 = .ok (.iconst 1, 1) := by decide +kernel
theorem d_Spectrum_traceFits_59 : decode b_Spectrum_traceFits 59 = .ok (.goto (4), 3) := by decide +kernel
theorem d_Spectrum_traceFits_62 : decode b_Spectrum_traceFits 62 = .ok (.iconst 0, 1) := by decide +kernel
theorem d_Spectrum_traceFits_63 : decode b_Spectrum_traceFits 63 = .ok (.ireturn, 1) := by decide +kernel
abbrev b_Spectrum_blocksInterlace : ByteArray := prog_7_method_16_code
abbrev y_Spectrum_blocksInterlace : MethodName := ⟨"SpectrumDesk$Spectrum", "blocksInterlace", "()Z"⟩
abbrev v_Spectrum_blocksInterlace : List Cond := Cond.code y_Spectrum_blocksInterlace b_Spectrum_blocksInterlace 7 (some .boolean) :: AW
theorem d_Spectrum_blocksInterlace_0 : decode b_Spectrum_blocksInterlace 0 = .ok (.iconst 0, 1) := by decide +kernel
theorem d_Spectrum_blocksInterlace_1 : decode b_Spectrum_blocksInterlace 1 = .ok (.istore_n 1, 1) := by decide +kernel
theorem d_Spectrum_blocksInterlace_2 : decode b_Spectrum_blocksInterlace 2 = .ok (.iload_n 1, 1) := by decide +kernel
theorem d_Spectrum_blocksInterlace_3 : decode b_Spectrum_blocksInterlace 3 = .ok (.aload_n 0, 1) := by decide +kernel
theorem d_Spectrum_blocksInterlace_4 : decode b_Spectrum_blocksInterlace 4 = .ok (.getfield 68, 3) := by decide +kernel
theorem d_Spectrum_blocksInterlace_7 : decode b_Spectrum_blocksInterlace 7 = .ok (.if_icmp .ge (79), 3) := by decide +kernel
theorem d_Spectrum_blocksInterlace_10 : decode b_Spectrum_blocksInterlace 10 = .ok (.aload_n 0, 1) := by decide +kernel
theorem d_Spectrum_blocksInterlace_11 : decode b_Spectrum_blocksInterlace 11 = .ok (.iload_n 1, 1) := by decide +kernel
theorem d_Spectrum_blocksInterlace_12 : decode b_Spectrum_blocksInterlace 12 = .ok (.invokevirtual 133, 3) := by decide +kernel
theorem d_Spectrum_blocksInterlace_15 : decode b_Spectrum_blocksInterlace 15 = .ok (.lstore_n 2, 1) := by decide +kernel
theorem d_Spectrum_blocksInterlace_16 : decode b_Spectrum_blocksInterlace 16 = .ok (.aload_n 0, 1) := by decide +kernel
theorem d_Spectrum_blocksInterlace_17 : decode b_Spectrum_blocksInterlace 17 = .ok (.lload_n 2, 1) := by decide +kernel
theorem d_Spectrum_blocksInterlace_18 : decode b_Spectrum_blocksInterlace 18 = .ok (.invokevirtual 130, 3) := by decide +kernel
theorem d_Spectrum_blocksInterlace_21 : decode b_Spectrum_blocksInterlace 21 = .ok (.istore 4, 2) := by decide +kernel
theorem d_Spectrum_blocksInterlace_23 : decode b_Spectrum_blocksInterlace 23 = .ok (.iconst 1, 1) := by decide +kernel
theorem d_Spectrum_blocksInterlace_24 : decode b_Spectrum_blocksInterlace 24 = .ok (.istore 5, 2) := by decide +kernel
theorem d_Spectrum_blocksInterlace_26 : decode b_Spectrum_blocksInterlace 26 = .ok (.iload 5, 2) := by decide +kernel
theorem d_Spectrum_blocksInterlace_28 : decode b_Spectrum_blocksInterlace 28 = .ok (.aload_n 0, 1) := by decide +kernel
theorem d_Spectrum_blocksInterlace_29 : decode b_Spectrum_blocksInterlace 29 = .ok (.getfield 68, 3) := by decide +kernel
theorem d_Spectrum_blocksInterlace_32 : decode b_Spectrum_blocksInterlace 32 = .ok (.if_icmp .ge (48), 3) := by decide +kernel
theorem d_Spectrum_blocksInterlace_35 : decode b_Spectrum_blocksInterlace 35 = .ok (.aload_n 0, 1) := by decide +kernel
theorem d_Spectrum_blocksInterlace_36 : decode b_Spectrum_blocksInterlace 36 = .ok (.iload 5, 2) := by decide +kernel
theorem d_Spectrum_blocksInterlace_38 : decode b_Spectrum_blocksInterlace 38 = .ok (.lload_n 2, 1) := by decide +kernel
theorem d_Spectrum_blocksInterlace_39 : decode b_Spectrum_blocksInterlace 39 = .ok (.ldc2_w 92, 3) := by decide +kernel
theorem d_Spectrum_blocksInterlace_42 : decode b_Spectrum_blocksInterlace 42 = .ok (.invokevirtual 155, 3) := by decide +kernel
theorem d_Spectrum_blocksInterlace_45 : decode b_Spectrum_blocksInterlace 45 = .ok (.invokevirtual 125, 3) := by decide +kernel
theorem d_Spectrum_blocksInterlace_48 : decode b_Spectrum_blocksInterlace 48 = .ok (.istore 6, 2) := by decide +kernel
theorem d_Spectrum_blocksInterlace_50 : decode b_Spectrum_blocksInterlace 50 = .ok (.iload 6, 2) := by decide +kernel
theorem d_Spectrum_blocksInterlace_52 : decode b_Spectrum_blocksInterlace 52 = .ok (.iload 4, 2) := by decide +kernel
theorem d_Spectrum_blocksInterlace_54 : decode b_Spectrum_blocksInterlace 54 = .ok (.if_icmp .gt (18), 3) := by decide +kernel
theorem d_Spectrum_blocksInterlace_57 : decode b_Spectrum_blocksInterlace 57 = .ok (.iload 4, 2) := by decide +kernel
theorem d_Spectrum_blocksInterlace_59 : decode b_Spectrum_blocksInterlace 59 = .ok (.iload 6, 2) := by decide +kernel
theorem d_Spectrum_blocksInterlace_61 : decode b_Spectrum_blocksInterlace 61 = .ok (.isub, 1) := by decide +kernel
theorem d_Spectrum_blocksInterlace_62 : decode b_Spectrum_blocksInterlace 62 = .ok (.aload_n 0, 1) := by decide +kernel
theorem d_Spectrum_blocksInterlace_63 : decode b_Spectrum_blocksInterlace 63 = .ok (.getfield 68, 3) := by decide +kernel
theorem d_Spectrum_blocksInterlace_66 : decode b_Spectrum_blocksInterlace 66 = .ok (.iload 5, 2) := by decide +kernel
theorem d_Spectrum_blocksInterlace_68 : decode b_Spectrum_blocksInterlace 68 = .ok (.isub, 1) := by decide +kernel
theorem d_Spectrum_blocksInterlace_69 : decode b_Spectrum_blocksInterlace 69 = .ok (.if_icmp .le (5), 3) := by decide +kernel
theorem d_Spectrum_blocksInterlace_72 : decode b_Spectrum_blocksInterlace 72 = .ok (.iconst 0, 1) := by decide +kernel
theorem d_Spectrum_blocksInterlace_73 : decode b_Spectrum_blocksInterlace 73 = .ok (.ireturn, 1) := by decide +kernel
theorem d_Spectrum_blocksInterlace_74 : decode b_Spectrum_blocksInterlace 74 = .ok (.iinc 5 (1), 3) := by decide +kernel
theorem d_Spectrum_blocksInterlace_77 : decode b_Spectrum_blocksInterlace 77 = .ok (.goto (-51), 3) := by decide +kernel
theorem d_Spectrum_blocksInterlace_80 : decode b_Spectrum_blocksInterlace 80 = .ok (.iinc 1 (1), 3) := by decide +kernel
theorem d_Spectrum_blocksInterlace_83 : decode b_Spectrum_blocksInterlace 83 = .ok (.goto (-81), 3) := by decide +kernel
theorem d_Spectrum_blocksInterlace_86 : decode b_Spectrum_blocksInterlace 86 = .ok (.iconst 1, 1) := by decide +kernel
theorem d_Spectrum_blocksInterlace_87 : decode b_Spectrum_blocksInterlace 87 = .ok (.ireturn, 1) := by decide +kernel
theorem k_68700135ef : (Jvm.Cond.methodLink "SpectrumDesk$Spectrum" (133 : Nat) ({ cls := "SpectrumDesk$Spectrum", name := "finestCell", desc := "(I)J" } : Jvm.MethodName)) ∈ AW := aw_4 (List.mem_of_getElem? (i := 27) (by decide +kernel)) (by decide +kernel)
theorem k_fa0ad0c072 : (Jvm.Cond.instanceMethod ({ cls := "SpectrumDesk$Spectrum", name := "finestCell", desc := "(I)J" } : Jvm.MethodName)) ∈ AW := aw_4 (List.mem_of_getElem? (i := 28) (by decide +kernel)) (by decide +kernel)
theorem k_38a2eed932 : (Jvm.Cond.selects "SpectrumDesk$Spectrum" ({ cls := "SpectrumDesk$Spectrum", name := "finestCell", desc := "(I)J" } : Jvm.MethodName) ({ cls := "SpectrumDesk$Spectrum", name := "finestCell", desc := "(I)J" } : Jvm.MethodName)) ∈ AW := aw_4 (List.mem_of_getElem? (i := 29) (by decide +kernel)) (by decide +kernel)
theorem k_87a2176b5b : (Jvm.Cond.methodLink "SpectrumDesk$Spectrum" (137 : Nat) ({ cls := "SpectrumDesk$Polynomial", name := "rootsAtZero", desc := "()I" } : Jvm.MethodName)) ∈ AW := aw_4 (List.mem_of_getElem? (i := 172) (by decide +kernel)) (by decide +kernel)
theorem k_7d46834701 : (Jvm.Cond.fieldLink "SpectrumDesk$Spectrum" (101 : Nat) "SpectrumDesk$Spectrum" "trace" "J") ∈ AW := aw_1 (List.mem_of_getElem? (i := 147) (by decide +kernel)) (by decide +kernel)
theorem k_957f68cc9d : (Jvm.Cond.methodLink "SpectrumDesk$Spectrum" (155 : Nat) ({ cls := "SpectrumDesk$Spectrum", name := "movedBlock", desc := "(IJJ)LSpectrumDesk$Polynomial;" } : Jvm.MethodName)) ∈ AW := aw_4 (List.mem_of_getElem? (i := 65) (by decide +kernel)) (by decide +kernel)
theorem k_69fc3ab445 : (Jvm.Cond.instanceMethod ({ cls := "SpectrumDesk$Spectrum", name := "movedBlock", desc := "(IJJ)LSpectrumDesk$Polynomial;" } : Jvm.MethodName)) ∈ AW := aw_4 (List.mem_of_getElem? (i := 66) (by decide +kernel)) (by decide +kernel)
theorem k_c1bab79832 : (Jvm.Cond.selects "SpectrumDesk$Spectrum" ({ cls := "SpectrumDesk$Spectrum", name := "movedBlock", desc := "(IJJ)LSpectrumDesk$Polynomial;" } : Jvm.MethodName) ({ cls := "SpectrumDesk$Spectrum", name := "movedBlock", desc := "(IJJ)LSpectrumDesk$Polynomial;" } : Jvm.MethodName)) ∈ AW := aw_4 (List.mem_of_getElem? (i := 67) (by decide +kernel)) (by decide +kernel)
theorem k_8fa0e0a9a1 : (Jvm.Cond.code ({ cls := "SpectrumDesk$Spectrum", name := "isWhole", desc := "(I)Z" } : Jvm.MethodName) prog_7_method_9_code (4 : Nat) (Option.some Jvm.ClassFile.FieldType.boolean)) ∈ AW := aw_4 (List.mem_of_getElem? (i := 171) (by decide +kernel)) (by decide +kernel)
theorem k_a92faac854 : (Jvm.Cond.code ({ cls := "SpectrumDesk$Spectrum", name := "cellsTaken", desc := "(I)I" } : Jvm.MethodName) prog_7_method_8_code (4 : Nat) (Option.some Jvm.ClassFile.FieldType.int)) ∈ AW := aw_4 (List.mem_of_getElem? (i := 26) (by decide +kernel)) (by decide +kernel)
theorem k_46cf53696f : (Jvm.Cond.code ({ cls := "SpectrumDesk$Spectrum", name := "limbsForEdges", desc := "()I" } : Jvm.MethodName) prog_7_method_4_code (1 : Nat) (Option.some Jvm.ClassFile.FieldType.int)) ∈ AW := aw_2 (List.mem_of_getElem? (i := 60) (by decide +kernel)) (by decide +kernel)
theorem k_4a4029a7e3 : (Jvm.Cond.code ({ cls := "SpectrumDesk$Spectrum", name := "traceFits", desc := "()Z" } : Jvm.MethodName) prog_7_method_15_code (4 : Nat) (Option.some Jvm.ClassFile.FieldType.boolean)) ∈ AW := aw_4 (List.mem_of_getElem? (i := 60) (by decide +kernel)) (by decide +kernel)
theorem k_dbc28784c3 : (Jvm.Cond.code ({ cls := "SpectrumDesk$Spectrum", name := "blocksInterlace", desc := "()Z" } : Jvm.MethodName) prog_7_method_16_code (7 : Nat) (Option.some Jvm.ClassFile.FieldType.boolean)) ∈ AW := aw_4 (List.mem_of_getElem? (i := 64) (by decide +kernel)) (by decide +kernel)
set_option maxHeartbeats 4000000 in
set_option maxRecDepth 100000 in
theorem c_Spectrum_isWhole {l : Launch} {D : va_G} {cI cJ cZ cC cG cP : ClassId} {N : Nat} {ad : Nat → Nat} {σ : Nat → va_E} {bo : Nat} {rk : Int32} {n lf : Nat} {tr : Int64} (hN : N = 193) (hE : σ 18 = .inr (ciE, eF ad rk (nI n) (nI bo) tr)) {pf : Nat → Int} {Ff : Nat → Nat → Int32} {sf : Nat → Int32} {Cl : Nat → Int64} {Kn : Nat → Int32} {V : Nat → Int} (hC : σ 177 = .inl (cJ, 6, .inr (.inl Cl))) (hK : σ 178 = .inl (cZ, 6, .inl Kn)) (hf : pl ad cI cG σ 100 12 n lf Ff sf) (hp9 : prb ad cI cG σ) (hn : n ≤ 6) (hl2 : 2 ≤ lf) (hl12 : lf ≤ 12) (his : pl_is Ff n lf pf) (hsz : pl_sz n lf pf) (hbo : bo ≤ 6000000) (hsz2 : ∀ x : Int, -((bo : Int) * 1073741824) ≤ x → x ≤ (bo : Int) * 1073741824 + 1 → pl_sz n lf (low x n pf n)) (hfc : fcH (fun x => lessI (low x n pf n) n) n ((bo : Int) * 1073741824) V) (hme : memo n V Cl Kn) (hVr : ∀ i, i < n → -((bo : Int) * 1073741824) ≤ V i ∧ V i ≤ (bo : Int) * 1073741824) {i9 : Nat} (hi9 : i9 < n) :
    Met l y_Spectrum_isWhole v_Spectrum_isWhole (xrm 6) (va_Pc [.ref (ad 18), .int (nI i9)] (xS D classes (xT cI cJ cZ cC cG cP) N ad σ)) (va_Qi (fun r σ2 => r = (if V i9 % 1073741824 = 0 ∧ nI i9 < lessI (low (V i9) n pf n) n + nI (ez (low (V i9) n pf n) 0 n) then nI 1 else nI 0) ∧ ∃ (Cl' : Nat → Int64) (Kn' : Nat → Int32), (∀ q, (q < 110 ∨ 120 ≤ q) → q ≠ 177 → q ≠ 178 → σ2 q = σ q) ∧ σ2 177 = .inl (cJ, 6, .inr (.inl Cl')) ∧ σ2 178 = .inl (cZ, 6, .inl Kn') ∧ prb ad cI cG σ2 ∧ memo n V Cl' Kn') (xS D classes (xT cI cJ cZ cC cG cP) N ad) (xA N ad)) 0 0 (xA N ad) := by
  refine xr_met rfl (Nat.le_of_ble_eq_true rfl) ?_
  intro p e s m args below meth c ls hx hb X hr hlk hl I
  have hl : lv_has ls 4 [(0, .ref (ad 18)), (1, .int (nI i9))] := hl
  have hE0 := hE
  have hC0 := hC
  have hK0 := hK
  have hf0 := hf
  have hp0 := hp9
  have hm0 := hme
  have fr0 : (∀ q, (q < 110 ∨ 120 ≤ q) → q ≠ 177 → q ≠ 178 → σ q = σ q) := fun _ _ _ _ => rfl
  obtain ⟨v1, v2⟩ := hVr i9 hi9
  have vT : (Int64.ofInt (V i9)).toInt = V i9 := q_oT (by omega) (by omega)
  refine lv_aload_n hx hb d_Spectrum_isWhole_0 rfl (lv_at hl 0 rfl) ?_
  refine lv_iload_n hx hb d_Spectrum_isWhole_1 rfl (lv_at hl 1 rfl) ?_
  refine xr_calll (xr_runV (kc := 5) (kr := 6) (n := 1) (As := [.int (nI i9)]) (rest := []) X I (by omega) hE0 rfl (c_Spectrum_finestCell (V := V) (pf := pf) (i9 := i9) hN hE0 hC0 hK0 hf0 hp0 hn hl2 hl12 his hsz hbo hsz2 hfc hm0 hi9) (xg k_15467f5cf6) (List.mem_cons_of_mem _ k_68700135ef) (List.mem_cons_of_mem _ k_fa0ad0c072) (List.mem_cons_of_mem _ k_38a2eed932) (List.mem_cons_of_mem _ k_c663d572ae) (by decide +kernel) (by decide) rfl hl.1 rfl (Nat.le_of_ble_eq_true rfl) d_Spectrum_isWhole_2) I (fun x σ1 H locs hp I => ?_)
  obtain ⟨ex, Cl1, Kn1, fra, hC1, hK1, hp1, hm1⟩ := hp
  have fr1 : (∀ q, (q < 110 ∨ 120 ≤ q) → q ≠ 177 → q ≠ 178 → σ1 q = σ q) := fun q h1 h2 h3 => (fra q h1 h2 h3).trans (fr0 q h1 h2 h3)
  clear fra
  have hE1 : σ1 18 = .inr (ciE, eF ad rk (nI n) (nI bo) tr) := (fr1 18 (by omega) (by decide) (by decide)).trans hE
  have hf1 := pl_same hf (fun q h1 h2 => fr1 q (by omega) (by omega) (by omega))
  have xTi : x.toInt = V i9 := by rw [ex]; exact vT
  refine lv_lstore_n (lv' := [(2, .long x), (0, .ref (ad 18)), (1, .int (nI i9))]) hx hb d_Spectrum_isWhole_5 rfl hl (by decide) rfl (fun ls hl => ?_)
  refine lv_lload_n hx hb d_Spectrum_isWhole_6 rfl (lv_at hl 0 rfl) ?_
  refine lv_ldc2 (v := 1073741824) hx hb X.1.2.2.2.1 (X.1.2.2.2.2 _ (List.mem_cons_of_mem _ k_86a0bb5680)) d_Spectrum_isWhole_7 ?_
  refine lv_lrem hx hb d_Spectrum_isWhole_10 (by decide) ?_
  refine lv_lconst (v := 0) hx hb d_Spectrum_isWhole_11 (by decide) ?_
  refine W.lcmp hx hb d_Spectrum_isWhole_12 ?_
  refine lv_if_eq hx hb d_Spectrum_isWhole_13 rfl (fun hc => ?_) (fun hc => ?_)
  · have hz : V i9 % 1073741824 = 0 := by rw [← xTi]; exact q_rem30.mp ((lg_cmp_eq _ _).mp hc)
    obtain ⟨d0, l0, F0_, s0_, hp1q⟩ := hp1
    refine lv_aload_n hx hb d_Spectrum_isWhole_18 rfl (lv_at hl 1 rfl) ?_
    refine xr_get X I fin_E 18 (by omega) hE1 rfl 3 (by decide) (List.mem_cons_of_mem _ k_0a83b20ad5) rfl rfl d_Spectrum_isWhole_19 ?_
    refine lv_aload_n hx hb d_Spectrum_isWhole_22 rfl (lv_at hl 1 rfl) ?_
    refine xr_get X I fin_E 18 (by omega) hE1 rfl 2 (by decide) (List.mem_cons_of_mem _ k_e152497569) rfl rfl d_Spectrum_isWhole_23 ?_
    refine lv_aload_n hx hb d_Spectrum_isWhole_26 rfl (lv_at hl 1 rfl) ?_
    refine xr_get X I fin_E 18 (by omega) hE1 rfl 2 (by decide) (List.mem_cons_of_mem _ k_e152497569) rfl rfl d_Spectrum_isWhole_27 ?_
    refine xr_get X I fin_P 100 (by omega) (pl_o hf1) rfl 3 (by decide) (List.mem_cons_of_mem _ k_6fcd4e436b) rfl rfl d_Spectrum_isWhole_30 ?_
    refine xr_callv (xr_runV (kc := 3) (kr := 6) (n := 2) (As := [.ref (ad 100), .int (nI lf)]) (rest := []) X I (by omega) (pl_o hp1q) rfl (c_Polynomial_load (i := 110) (j := 100) (by omega) (by omega) (by omega) hp1q hf1 hn (by decide) (by decide) hl12 (by omega) (show lf ≤ 20 by omega) his hsz) (xg k_69d11c4a63) (List.mem_cons_of_mem _ k_ad4977aa85) (List.mem_cons_of_mem _ k_b375a81d80) (List.mem_cons_of_mem _ k_fcbb6b90f7) (List.mem_cons_of_mem _ k_a8ac99ee00) (by decide +kernel) (by decide) rfl hl.1 rfl (Nat.le_of_ble_eq_true rfl) d_Spectrum_isWhole_33) I (fun σ2 H locs hp I => ?_)
    obtain ⟨F2, fr2, hp2, hi2⟩ := hp
    have hE2 : σ2 18 = .inr (ciE, eF ad rk (nI n) (nI bo) tr) := (fr2 18 (by omega)).trans hE1
    refine lv_aload_n hx hb d_Spectrum_isWhole_36 rfl (lv_at hl 1 rfl) ?_
    refine xr_get X I fin_E 18 (by omega) hE2 rfl 3 (by decide) (List.mem_cons_of_mem _ k_0a83b20ad5) rfl rfl d_Spectrum_isWhole_37 ?_
    refine lv_lload_n hx hb d_Spectrum_isWhole_40 rfl (lv_at hl 0 rfl) ?_
    refine xr_callv (xr_runV (kc := 2) (kr := 6) (n := 1) (As := [.long x]) (rest := []) X I (by omega) (pl_o hp2) rfl (c_Polynomial_lowerRoots (i := 110) (v := x) (by omega) hp2 hn (by decide) (show lf ≤ 20 by omega) hl2 hi2) (xg k_f8d403c61a) (List.mem_cons_of_mem _ k_5bc7bce489) (List.mem_cons_of_mem _ k_30782e9c94) (List.mem_cons_of_mem _ k_c1884cc592) (List.mem_cons_of_mem _ k_a8ac99ee00) (by decide +kernel) (by decide) rfl hl.1 rfl (Nat.le_of_ble_eq_true rfl) d_Spectrum_isWhole_41) I (fun σ3 H locs hp I => ?_)
    obtain ⟨F3, s3, fr3, hp3, hi3⟩ := hp
    rw [xTi] at hi3
    have hE3 : σ3 18 = .inr (ciE, eF ad rk (nI n) (nI bo) tr) := (fr3 18 (by omega)).trans hE2
    have sz3 := hsz2 (V i9) (by omega) (by omega)
    refine lv_iload_n hx hb d_Spectrum_isWhole_44 rfl (lv_at hl 2 rfl) ?_
    refine lv_aload_n hx hb d_Spectrum_isWhole_45 rfl (lv_at hl 1 rfl) ?_
    refine xr_get X I fin_E 18 (by omega) hE3 rfl 3 (by decide) (List.mem_cons_of_mem _ k_0a83b20ad5) rfl rfl d_Spectrum_isWhole_46 ?_
    refine xr_calli (xr_runV (kc := 2) (kr := 6) (n := 0) (As := []) (rest := [.int (nI i9)]) X I (by omega) (pl_o hp3) rfl (c_Polynomial_rootsBelow (i := 110) (by omega) hp3 hn (by decide) (show lf ≤ 20 by omega) hl2 hi3 sz3) (xg k_78be9b3f0a) (List.mem_cons_of_mem _ k_48413bf910) (List.mem_cons_of_mem _ k_29b5639176) (List.mem_cons_of_mem _ k_d43b154fc4) (List.mem_cons_of_mem _ k_a8ac99ee00) (by decide +kernel) (by decide) rfl hl.1 rfl (Nat.le_of_ble_eq_true rfl) d_Spectrum_isWhole_49) I (fun r1 σ9 H locs hp I => ?_)
    obtain ⟨rfl, h9⟩ := hp; rw [h9] at I; clear h9
    refine lv_aload_n hx hb d_Spectrum_isWhole_52 rfl (lv_at hl 1 rfl) ?_
    refine xr_get X I fin_E 18 (by omega) hE3 rfl 3 (by decide) (List.mem_cons_of_mem _ k_0a83b20ad5) rfl rfl d_Spectrum_isWhole_53 ?_
    refine xr_calli (xr_runV (kc := 1) (kr := 6) (n := 0) (As := []) (rest := [.int (lessI (low (V i9) n pf n) n), .int (nI i9)]) X I (by omega) (pl_o hp3) rfl (c_Polynomial_rootsAtZero (i := 110) (by omega) hp3 hn (by decide) (show lf ≤ 20 by omega) hl2 hi3 sz3) (xg k_c5d340c79c) (List.mem_cons_of_mem _ k_87a2176b5b) (List.mem_cons_of_mem _ k_0f9ebc7ecf) (List.mem_cons_of_mem _ k_9a3567c35e) (List.mem_cons_of_mem _ k_a8ac99ee00) (by decide +kernel) (by decide) rfl hl.1 rfl (Nat.le_of_ble_eq_true rfl) d_Spectrum_isWhole_56) I (fun r1 σ9 H locs hp I => ?_)
    obtain ⟨rfl, h9⟩ := hp; rw [h9] at I; clear h9
    refine lv_iadd hx hb d_Spectrum_isWhole_59 ?_
    have fq : pl_fr10 σ1 σ3 110 := pl_fr10_tr fr2 (pl_fr_10 fr3)
    refine lv_icmp_ge hx hb d_Spectrum_isWhole_60 rfl (fun hd => ?_) (fun hd => ?_)
    · refine lv_iconst (v := nI 0) hx hb d_Spectrum_isWhole_67 (by decide) ?_
      exact xr_zret X I hr hlk (by decide +kernel) ⟨by rw [if_neg (fun h => q_le_lt hd h.2)], ⟨Cl1, Kn1, fun q h1 h2 h3 => (fq q (by omega)).trans (fr1 q h1 h2 h3), (fq 177 (by omega)).trans hC1, (fq 178 (by omega)).trans hK1, ⟨_, _, _, _, hp3⟩, hm1⟩⟩ d_Spectrum_isWhole_68
    · refine lv_iconst (v := nI 1) hx hb d_Spectrum_isWhole_63 (by decide) ?_
      refine lv_goto hx hb d_Spectrum_isWhole_64 rfl ?_
      exact xr_zret X I hr hlk (by decide +kernel) ⟨by rw [if_pos ⟨hz, q_nge hd⟩], ⟨Cl1, Kn1, fun q h1 h2 h3 => (fq q (by omega)).trans (fr1 q h1 h2 h3), (fq 177 (by omega)).trans hC1, (fq 178 (by omega)).trans hK1, ⟨_, _, _, _, hp3⟩, hm1⟩⟩ d_Spectrum_isWhole_68
  · have hz : ¬ V i9 % 1073741824 = 0 := fun h => hc ((lg_cmp_eq _ _).mpr (q_rem30.mpr (by rw [xTi]; exact h)))
    refine lv_iconst (v := nI 0) hx hb d_Spectrum_isWhole_16 (by decide) ?_
    exact xr_zret X I hr hlk (by decide +kernel) ⟨by rw [if_neg (fun h => hz h.1)], ⟨Cl1, Kn1, fr1, hC1, hK1, hp1, hm1⟩⟩ d_Spectrum_isWhole_17
set_option maxHeartbeats 4000000 in
set_option maxRecDepth 100000 in
theorem c_Spectrum_cellsTaken {l : Launch} {D : va_G} {cI cJ cZ cC cG cP : ClassId} {N : Nat} {ad : Nat → Nat} {σ : Nat → va_E} {bo : Nat} {rk : Int32} {n lf : Nat} {tr : Int64} (hN : N = 193) (hE : σ 18 = .inr (ciE, eF ad rk (nI n) (nI bo) tr)) {pf : Nat → Int} {Ff : Nat → Nat → Int32} {sf : Nat → Int32} {Cl : Nat → Int64} {Kn : Nat → Int32} {V : Nat → Int} (hC : σ 177 = .inl (cJ, 6, .inr (.inl Cl))) (hK : σ 178 = .inl (cZ, 6, .inl Kn)) (hf : pl ad cI cG σ 100 12 n lf Ff sf) (hp9 : prb ad cI cG σ) (hn : n ≤ 6) (hl2 : 2 ≤ lf) (hl12 : lf ≤ 12) (his : pl_is Ff n lf pf) (hsz : pl_sz n lf pf) (hbo : bo ≤ 6000000) (hsz2 : ∀ x : Int, -((bo : Int) * 1073741824) ≤ x → x ≤ (bo : Int) * 1073741824 + 1 → pl_sz n lf (low x n pf n)) (hfc : fcH (fun x => lessI (low x n pf n) n) n ((bo : Int) * 1073741824) V) (hme : memo n V Cl Kn) (hVr : ∀ i, i < n → -((bo : Int) * 1073741824) ≤ V i ∧ V i ≤ (bo : Int) * 1073741824) {w9 : Nat} (hw9 : w9 ≤ 30) (hn1 : 1 ≤ n) :
    Met l y_Spectrum_cellsTaken v_Spectrum_cellsTaken (xrm 6) (va_Pc [.ref (ad 18), .int (nI w9)] (xS D classes (xT cI cJ cZ cC cG cP) N ad σ)) (va_Qi (fun r σ2 => r = nI (ctF V w9 (n - 1)) ∧ ∃ (Cl' : Nat → Int64) (Kn' : Nat → Int32), (∀ q, (q < 110 ∨ 120 ≤ q) → q ≠ 177 → q ≠ 178 → σ2 q = σ q) ∧ σ2 177 = .inl (cJ, 6, .inr (.inl Cl')) ∧ σ2 178 = .inl (cZ, 6, .inl Kn') ∧ prb ad cI cG σ2 ∧ memo n V Cl' Kn') (xS D classes (xT cI cJ cZ cC cG cP) N ad) (xA N ad)) 0 0 (xA N ad) := by
  refine xr_met rfl (Nat.le_of_ble_eq_true rfl) ?_
  intro p e s m args below meth c ls hx hb X hr hlk hl I
  have hl : lv_has ls 4 [(0, .ref (ad 18)), (1, .int (nI w9))] := hl
  have hE0 := hE
  have hC0 := hC
  have hK0 := hK
  have hf0 := hf
  have hp0 := hp9
  have hm0 := hme
  have fr0 : (∀ q, (q < 110 ∨ 120 ≤ q) → q ≠ 177 → q ≠ 178 → σ q = σ q) := fun _ _ _ _ => rfl
  have hct : ∀ j, ctF V w9 j ≤ j + 1 := ctF_le
  refine lv_iconst (v := nI 1) hx hb d_Spectrum_cellsTaken_0 (by decide) ?_
  refine lv_istore_n (lv' := [(2, .int (nI 1)), (0, .ref (ad 18)), (1, .int (nI w9))]) hx hb d_Spectrum_cellsTaken_1 rfl hl (by decide) rfl (fun ls hl => ?_)
  refine lv_iconst (v := nI 1) hx hb d_Spectrum_cellsTaken_2 (by decide) ?_
  refine lv_istore_n (lv' := [(3, .int (nI 1)), (2, .int (nI 1)), (0, .ref (ad 18)), (1, .int (nI w9))]) hx hb d_Spectrum_cellsTaken_3 rfl hl (by decide) rfl (fun ls hl => ?_)
  have loop : ∀ (j : Nat) (i : Nat) (σ1 : Nat → va_E) (Cl1 : Nat → Int64) (Kn1 : Nat → Int32) (ls : Array Slot) (H : Heap) (locs : List Loc), i + 1 + j = n → (∀ q, (q < 110 ∨ 120 ≤ q) → q ≠ 177 → q ≠ 178 → σ1 q = σ q) → σ1 177 = .inl (cJ, 6, .inr (.inl Cl1)) → σ1 178 = .inl (cZ, 6, .inl Kn1) → prb ad cI cG σ1 → memo n V Cl1 Kn1 → lv_has ls 4 [(3, .int (nI (i + 1))), (2, .int (nI (ctF V w9 i))), (0, .ref (ad 18)), (1, .int (nI w9))] → xI D classes N ad s.heap (σ1) H locs → W p l e (xrm 6) s m args below meth c H locs 0 0 (MQ below (va_Qi (fun r σ2 => r = nI (ctF V w9 (n - 1)) ∧ ∃ (Cl' : Nat → Int64) (Kn' : Nat → Int32), (∀ q, (q < 110 ∨ 120 ≤ q) → q ≠ 177 → q ≠ 178 → σ2 q = σ q) ∧ σ2 177 = .inl (cJ, 6, .inr (.inl Cl')) ∧ σ2 178 = .inl (cZ, 6, .inl Kn') ∧ prb ad cI cG σ2 ∧ memo n V Cl' Kn') (xS D classes (xT cI cJ cZ cC cG cP) N ad) (xA N ad)) args s 0 0 (xA N ad)) (F0 m 4 ls []) := by
    intro j
    induction j with
    | zero =>
      intro i σ1 Cl1 Kn1 ls H locs hk fr1 hC1 hK1 hp1 hm1 hl I
      obtain rfl : n = i + 1 := by omega
      have hE1 : σ1 18 = .inr (ciE, eF ad rk (nI (i + 1)) (nI bo) tr) := (fr1 18 (by omega) (by decide) (by decide)).trans hE
      refine lv_iload_n hx hb d_Spectrum_cellsTaken_4 rfl (lv_at hl 0 rfl) ?_
      refine lv_aload_n hx hb d_Spectrum_cellsTaken_5 rfl (lv_at hl 2 rfl) ?_
      refine xr_get X I fin_E 18 (by omega) hE1 rfl 11 (by decide) (List.mem_cons_of_mem _ k_d4fb48ecc0) rfl rfl d_Spectrum_cellsTaken_6 ?_
      refine lv_icmp_ge hx hb d_Spectrum_cellsTaken_9 rfl (fun hc => ?_) (fun hc => ?_)
      · refine lv_iload_n hx hb d_Spectrum_cellsTaken_47 rfl (lv_at hl 1 rfl) ?_
        exact xr_iret X I hr hlk ⟨by rw [Nat.add_sub_cancel], ⟨Cl1, Kn1, fr1, hC1, hK1, hp1, hm1⟩⟩ d_Spectrum_cellsTaken_48
      · exact absurd (nI_le (Nat.le_refl _) (by omega)) hc
    | succ j ih =>
      intro i σ1 Cl1 Kn1 ls H locs hk fr1 hC1 hK1 hp1 hm1 hl I
      have hE1 : σ1 18 = .inr (ciE, eF ad rk (nI n) (nI bo) tr) := (fr1 18 (by omega) (by decide) (by decide)).trans hE
      have hf1 := pl_same hf (fun q h1 h2 => fr1 q (by omega) (by omega) (by omega))
      refine lv_iload_n hx hb d_Spectrum_cellsTaken_4 rfl (lv_at hl 0 rfl) ?_
      refine lv_aload_n hx hb d_Spectrum_cellsTaken_5 rfl (lv_at hl 2 rfl) ?_
      refine xr_get X I fin_E 18 (by omega) hE1 rfl 11 (by decide) (List.mem_cons_of_mem _ k_d4fb48ecc0) rfl rfl d_Spectrum_cellsTaken_6 ?_
      refine lv_icmp_ge hx hb d_Spectrum_cellsTaken_9 rfl (fun hc => ?_) (fun hc => ?_)
      · exact absurd hc (nI_ge (by omega) (by omega))
      · obtain ⟨v1, v2⟩ := hVr (i + 1) (by omega)
        obtain ⟨v3, v4⟩ := hVr i (by omega)
        refine lv_aload_n hx hb d_Spectrum_cellsTaken_12 rfl (lv_at hl 2 rfl) ?_
        refine lv_iload_n hx hb d_Spectrum_cellsTaken_13 rfl (lv_at hl 0 rfl) ?_
        refine xr_calll (xr_runV (kc := 5) (kr := 6) (n := 1) (As := [.int (nI (i + 1))]) (rest := []) X I (by omega) hE1 rfl (c_Spectrum_finestCell (V := V) (pf := pf) (i9 := i + 1) hN hE1 hC1 hK1 hf1 hp1 hn hl2 hl12 his hsz hbo hsz2 hfc hm1 (by omega)) (xg k_15467f5cf6) (List.mem_cons_of_mem _ k_68700135ef) (List.mem_cons_of_mem _ k_fa0ad0c072) (List.mem_cons_of_mem _ k_38a2eed932) (List.mem_cons_of_mem _ k_c663d572ae) (by decide +kernel) (by decide) rfl hl.1 rfl (Nat.le_of_ble_eq_true rfl) d_Spectrum_cellsTaken_14) I (fun x σ2 H locs hp I => ?_)
        obtain ⟨ex, Cl2, Kn2, fra, hC2, hK2, hp2, hm2⟩ := hp
        have fr2 : (∀ q, (q < 110 ∨ 120 ≤ q) → q ≠ 177 → q ≠ 178 → σ2 q = σ q) := fun q h1 h2 h3 => (fra q h1 h2 h3).trans (fr1 q h1 h2 h3)
        clear fra
        have hE2 : σ2 18 = .inr (ciE, eF ad rk (nI n) (nI bo) tr) := (fr2 18 (by omega) (by decide) (by decide)).trans hE
        have hf2 := pl_same hf (fun q h1 h2 => fr2 q (by omega) (by omega) (by omega))
        have xTi : x.toInt = V (i + 1) := by rw [ex]; exact q_oT (by omega) (by omega)
        refine lv_bipush (v := nI 30) hx hb d_Spectrum_cellsTaken_17 (by decide) ?_
        refine lv_iload_n hx hb d_Spectrum_cellsTaken_19 rfl (lv_at hl 3 rfl) ?_
        refine lv_isub hx hb d_Spectrum_cellsTaken_20 (xr_topi (y := nI (30 - w9)) (pk_sub hw9) ?_)
        refine lv_lshr hx hb d_Spectrum_cellsTaken_21 rfl ?_
        refine lv_topl (fun x1 ex1 => ?_)
        have xT1 : x1.toInt = V (i + 1) / 2 ^ (30 - w9) := by rw [ex1, q_shr (by omega), xTi]
        refine lv_aload_n hx hb d_Spectrum_cellsTaken_22 rfl (lv_at hl 2 rfl) ?_
        refine lv_iload_n hx hb d_Spectrum_cellsTaken_23 rfl (lv_at hl 0 rfl) ?_
        refine lv_iconst (v := nI 1) hx hb d_Spectrum_cellsTaken_24 (by decide) ?_
        refine lv_isub hx hb d_Spectrum_cellsTaken_25 (xr_topi (y := nI i) (pk_sub (a := i + 1) (b := 1) (by omega)) ?_)
        refine xr_calll (xr_runV (kc := 5) (kr := 6) (n := 1) (As := [.int (nI i)]) (rest := [.long x1]) X I (by omega) hE2 rfl (c_Spectrum_finestCell (V := V) (pf := pf) (i9 := i) hN hE2 hC2 hK2 hf2 hp2 hn hl2 hl12 his hsz hbo hsz2 hfc hm2 (by omega)) (xg k_15467f5cf6) (List.mem_cons_of_mem _ k_68700135ef) (List.mem_cons_of_mem _ k_fa0ad0c072) (List.mem_cons_of_mem _ k_38a2eed932) (List.mem_cons_of_mem _ k_c663d572ae) (by decide +kernel) (by decide) rfl hl.1 rfl (Nat.le_of_ble_eq_true rfl) d_Spectrum_cellsTaken_26) I (fun y σ3 H locs hp I => ?_)
        obtain ⟨ey, Cl3, Kn3, fra, hC3, hK3, hp3, hm3⟩ := hp
        have fr3 : (∀ q, (q < 110 ∨ 120 ≤ q) → q ≠ 177 → q ≠ 178 → σ3 q = σ q) := fun q h1 h2 h3 => (fra q h1 h2 h3).trans (fr2 q h1 h2 h3)
        clear fra
        have hE3 : σ3 18 = .inr (ciE, eF ad rk (nI n) (nI bo) tr) := (fr3 18 (by omega) (by decide) (by decide)).trans hE
        have hf3 := pl_same hf (fun q h1 h2 => fr3 q (by omega) (by omega) (by omega))
        have yT : y.toInt = V i := by rw [ey]; exact q_oT (by omega) (by omega)
        refine lv_bipush (v := nI 30) hx hb d_Spectrum_cellsTaken_29 (by decide) ?_
        refine lv_iload_n hx hb d_Spectrum_cellsTaken_31 rfl (lv_at hl 3 rfl) ?_
        refine lv_isub hx hb d_Spectrum_cellsTaken_32 (xr_topi (y := nI (30 - w9)) (pk_sub hw9) ?_)
        refine lv_lshr hx hb d_Spectrum_cellsTaken_33 rfl ?_
        refine lv_topl (fun y1 ey1 => ?_)
        have yT1 : y1.toInt = V i / 2 ^ (30 - w9) := by rw [ey1, q_shr (by omega), yT]
        refine W.lcmp hx hb d_Spectrum_cellsTaken_34 ?_
        refine lv_if_eq hx hb d_Spectrum_cellsTaken_35 rfl (fun hd => ?_) (fun hd => ?_)
        · have e9 : V (i + 1) / 2 ^ (30 - w9) = V i / 2 ^ (30 - w9) := by rw [← xT1, ← yT1, (lg_cmp_eq _ _).mp hd]
          have e8 : ctF V w9 (i + 1) = ctF V w9 i := by rw [ctF, if_pos e9, Nat.add_zero]
          refine lv_iinc (k := 0) (v := nI (i + 1 + 1)) (lv' := [(3, .int (nI (i + 1 + 1))), (2, .int (nI (ctF V w9 i))), (0, .ref (ad 18)), (1, .int (nI w9))]) hx hb d_Spectrum_cellsTaken_41 hl rfl (nI_1 (i + 1)) (by decide) rfl (fun ls hl => ?_)
          refine lv_goto hx hb d_Spectrum_cellsTaken_44 rfl ?_
          rw [← e8] at hl
          exact ih (i + 1) σ3 Cl3 Kn3 ls H locs (by omega) fr3 hC3 hK3 hp3 hm3 hl I
        · have e9 : ¬ V (i + 1) / 2 ^ (30 - w9) = V i / 2 ^ (30 - w9) := fun h => hd ((lg_cmp_eq _ _).mpr (Int64.toInt_inj.mp (by rw [xT1, yT1, h])))
          have e8 : ctF V w9 (i + 1) = ctF V w9 i + 1 := by rw [ctF, if_neg e9]
          refine lv_iinc (k := 1) (v := nI (ctF V w9 i + 1)) (lv' := [(2, .int (nI (ctF V w9 i + 1))), (3, .int (nI (i + 1))), (0, .ref (ad 18)), (1, .int (nI w9))]) hx hb d_Spectrum_cellsTaken_38 hl rfl (nI_1 (ctF V w9 i)) (by decide) rfl (fun ls hl => ?_)
          refine lv_iinc (k := 1) (v := nI (i + 1 + 1)) (lv' := [(3, .int (nI (i + 1 + 1))), (2, .int (nI (ctF V w9 i + 1))), (0, .ref (ad 18)), (1, .int (nI w9))]) hx hb d_Spectrum_cellsTaken_41 hl rfl (nI_1 (i + 1)) (by decide) rfl (fun ls hl => ?_)
          refine lv_goto hx hb d_Spectrum_cellsTaken_44 rfl ?_
          rw [← e8] at hl
          exact ih (i + 1) σ3 Cl3 Kn3 ls H locs (by omega) fr3 hC3 hK3 hp3 hm3 hl I
  exact loop (n - 1) 0 σ Cl Kn ls _ _ (by omega) fr0 hC hK hp9 hme hl I
set_option maxHeartbeats 4000000 in
set_option maxRecDepth 100000 in
theorem c_Spectrum_limbsForEdges {l : Launch} {D : va_G} {cI cJ cZ cC cG cP : ClassId} {N : Nat} {ad : Nat → Nat} {σ : Nat → va_E} {rk : Int32} {n bo : Nat} {tr : Int64} (hN : N = 193) (hE : σ 18 = .inr (ciE, eF ad rk (nI n) (nI bo) tr)) (hn : n ≤ 6) (hbo : bo ≤ 6000000) :
    Met l y_Spectrum_limbsForEdges v_Spectrum_limbsForEdges (xrm 5) (va_Pc [.ref (ad 18)] (xS D classes (xT cI cJ cZ cC cG cP) N ad σ)) (va_Qi (fun r σ2 => ∃ b : Nat, r = nI ((n * (b + 30 + 1) + 6) / 30 + 1) ∧ bo < 2 ^ b ∧ (∀ k, k < b → 2 ^ k ≤ bo) ∧ σ2 = σ) (xS D classes (xT cI cJ cZ cC cG cP) N ad) (xA N ad)) 0 0 (xA N ad) := by
  refine xr_met rfl (Nat.le_of_ble_eq_true rfl) ?_
  intro p e s m args below meth c ls hx hb X hr hlk hl I
  have hl : lv_has ls 1 [(0, .ref (ad 18))] := hl
  refine lv_aload_n hx hb d_Spectrum_limbsForEdges_0 rfl (lv_at hl 0 rfl) ?_
  refine xr_get X I fin_E 18 (by omega) hE rfl 11 (by decide) (List.mem_cons_of_mem _ k_d4fb48ecc0) rfl rfl d_Spectrum_limbsForEdges_1 ?_
  refine lv_aload_n hx hb d_Spectrum_limbsForEdges_4 rfl (lv_at hl 0 rfl) ?_
  refine xr_get X I fin_E 18 (by omega) hE rfl 12 (by decide) (List.mem_cons_of_mem _ k_8a8601670a) rfl rfl d_Spectrum_limbsForEdges_5 ?_
  refine lv_i2l hx hb d_Spectrum_limbsForEdges_8 (nI_l (by omega)) ?_
  refine xr_calli (xr_runSN (kc := 0) (kr := 5) (n := 1) (As := [.long (lN bo)]) (rest := [.int (nI n)]) X I (c_SpectrumDesk_bitsOf (v := bo) (by omega)) (xg k_5f25c3479c) X.2.2.1 (List.mem_cons_of_mem _ k_7d37d71315) (List.mem_cons_of_mem _ k_6836736ab7) (by decide +kernel) (by decide) rfl hl.1 rfl (Nat.le_of_ble_eq_true rfl) d_Spectrum_limbsForEdges_9) I (fun r1 σ9 H locs hp I => ?_)
  obtain ⟨b, rfl, b1, b2, h9⟩ := hp; rw [h9] at I; clear h9
  have hb23 : b ≤ 23 := by rcases Nat.lt_or_ge 23 b with h | h; have := b2 23 h; omega; exact h
  refine lv_bipush (v := nI 30) hx hb d_Spectrum_limbsForEdges_12 (by decide) ?_
  refine lv_iadd hx hb d_Spectrum_limbsForEdges_14 (xr_topi (y := nI (b + 30)) (nI_add b 30) ?_)
  refine lv_iconst (v := nI 1) hx hb d_Spectrum_limbsForEdges_15 (by decide) ?_
  refine lv_iadd hx hb d_Spectrum_limbsForEdges_16 (xr_topi (y := nI ((b + 30) + 1)) (nI_add (b + 30) 1) ?_)
  refine lv_imul hx hb d_Spectrum_limbsForEdges_17 (xr_topi (y := nI (n * ((b + 30) + 1))) (pk_mul n ((b + 30) + 1)) ?_)
  have hnb : n * (b + 30 + 1) ≤ 6 * 54 := Nat.mul_le_mul hn (by omega)
  refine lv_bipush (v := nI 6) hx hb d_Spectrum_limbsForEdges_18 (by decide) ?_
  refine lv_iadd hx hb d_Spectrum_limbsForEdges_20 (xr_topi (y := nI ((n * ((b + 30) + 1)) + 6)) (nI_add (n * ((b + 30) + 1)) 6) ?_)
  refine lv_bipush (v := nI 30) hx hb d_Spectrum_limbsForEdges_21 (by decide) ?_
  refine lv_idiv hx hb d_Spectrum_limbsForEdges_23 (by decide) ?_
  refine xr_topi (y := nI ((n * (b + 30 + 1) + 6) / 30)) (pk_div (by omega) (by decide) (by decide)) ?_
  refine lv_iconst (v := nI 1) hx hb d_Spectrum_limbsForEdges_24 (by decide) ?_
  refine lv_iadd hx hb d_Spectrum_limbsForEdges_25 (xr_topi (y := nI (((n * (b + 30 + 1) + 6) / 30) + 1)) (nI_add ((n * (b + 30 + 1) + 6) / 30) 1) ?_)
  exact xr_iret X I hr hlk ⟨b, rfl, b1, b2, rfl⟩ d_Spectrum_limbsForEdges_26
set_option maxHeartbeats 4000000 in
set_option maxRecDepth 100000 in
theorem c_Spectrum_traceFits {l : Launch} {D : va_G} {cI cJ cZ cC cG cP : ClassId} {N : Nat} {ad : Nat → Nat} {σ : Nat → va_E} {bo : Nat} {rk : Int32} {n lf : Nat} {tr : Int64} (hN : N = 193) (hE : σ 18 = .inr (ciE, eF ad rk (nI n) (nI bo) tr)) {pf : Nat → Int} {Ff : Nat → Nat → Int32} {sf : Nat → Int32} {Cl : Nat → Int64} {Kn : Nat → Int32} {V : Nat → Int} (hC : σ 177 = .inl (cJ, 6, .inr (.inl Cl))) (hK : σ 178 = .inl (cZ, 6, .inl Kn)) (hf : pl ad cI cG σ 100 12 n lf Ff sf) (hp9 : prb ad cI cG σ) (hn : n ≤ 6) (hl2 : 2 ≤ lf) (hl12 : lf ≤ 12) (his : pl_is Ff n lf pf) (hsz : pl_sz n lf pf) (hbo : bo ≤ 6000000) (hsz2 : ∀ x : Int, -((bo : Int) * 1073741824) ≤ x → x ≤ (bo : Int) * 1073741824 + 1 → pl_sz n lf (low x n pf n)) (hfc : fcH (fun x => lessI (low x n pf n) n) n ((bo : Int) * 1073741824) V) (hme : memo n V Cl Kn) (hVr : ∀ i, i < n → -((bo : Int) * 1073741824) ≤ V i ∧ V i ≤ (bo : Int) * 1073741824) (htr : -6000000 ≤ tr.toInt ∧ tr.toInt ≤ 6000000) (hfit : smF V n ≤ tr.toInt * 1073741824 ∧ tr.toInt * 1073741824 < smF V n + n) :
    Met l y_Spectrum_traceFits v_Spectrum_traceFits (xrm 6) (va_Pc [.ref (ad 18)] (xS D classes (xT cI cJ cZ cC cG cP) N ad σ)) (va_Qi (fun r σ2 => r = nI 1 ∧ ∃ (Cl' : Nat → Int64) (Kn' : Nat → Int32), (∀ q, (q < 110 ∨ 120 ≤ q) → q ≠ 177 → q ≠ 178 → σ2 q = σ q) ∧ σ2 177 = .inl (cJ, 6, .inr (.inl Cl')) ∧ σ2 178 = .inl (cZ, 6, .inl Kn') ∧ prb ad cI cG σ2 ∧ memo n V Cl' Kn') (xS D classes (xT cI cJ cZ cC cG cP) N ad) (xA N ad)) 0 0 (xA N ad) := by
  refine xr_met rfl (Nat.le_of_ble_eq_true rfl) ?_
  intro p e s m args below meth c ls hx hb X hr hlk hl I
  have hl : lv_has ls 4 [(0, .ref (ad 18))] := hl
  have hE0 := hE
  have hC0 := hC
  have hK0 := hK
  have hf0 := hf
  have hp0 := hp9
  have hm0 := hme
  have fr0 : (∀ q, (q < 110 ∨ 120 ≤ q) → q ≠ 177 → q ≠ 178 → σ q = σ q) := fun _ _ _ _ => rfl
  have hsm : ∀ j : Nat, j ≤ n → -((j : Int) * 6442450944000000) ≤ smF V j ∧ smF V j ≤ (j : Int) * 6442450944000000 := smF_bd hbo hVr
  have tT : (tr * 1073741824).toInt = tr.toInt * 1073741824 := by rw [Int64.toInt_mul, show (1073741824 : Int64).toInt = 1073741824 by decide]; exact Int.bmod_eq_of_le (by omega) (by omega)
  refine lv_lconst (v := 0) hx hb d_Spectrum_traceFits_0 (by decide) ?_
  refine lv_lstore_n (lv' := [(1, .long 0), (0, .ref (ad 18))]) hx hb d_Spectrum_traceFits_1 rfl hl (by decide) rfl (fun ls hl => ?_)
  refine lv_iconst (v := nI 0) hx hb d_Spectrum_traceFits_2 (by decide) ?_
  refine lv_istore_n (lv' := [(3, .int (nI 0)), (1, .long 0), (0, .ref (ad 18))]) hx hb d_Spectrum_traceFits_3 rfl hl (by decide) rfl (fun ls hl => ?_)
  have loop : ∀ (j : Nat) (i : Nat) (su : Int64) (σ1 : Nat → va_E) (Cl1 : Nat → Int64) (Kn1 : Nat → Int32) (ls : Array Slot) (H : Heap) (locs : List Loc), i + j = n → su.toInt = smF V i → (∀ q, (q < 110 ∨ 120 ≤ q) → q ≠ 177 → q ≠ 178 → σ1 q = σ q) → σ1 177 = .inl (cJ, 6, .inr (.inl Cl1)) → σ1 178 = .inl (cZ, 6, .inl Kn1) → prb ad cI cG σ1 → memo n V Cl1 Kn1 → lv_has ls 4 [(3, .int (nI i)), (1, .long su), (0, .ref (ad 18))] → xI D classes N ad s.heap (σ1) H locs → W p l e (xrm 6) s m args below meth c H locs 0 0 (MQ below (va_Qi (fun r σ2 => r = nI 1 ∧ ∃ (Cl' : Nat → Int64) (Kn' : Nat → Int32), (∀ q, (q < 110 ∨ 120 ≤ q) → q ≠ 177 → q ≠ 178 → σ2 q = σ q) ∧ σ2 177 = .inl (cJ, 6, .inr (.inl Cl')) ∧ σ2 178 = .inl (cZ, 6, .inl Kn') ∧ prb ad cI cG σ2 ∧ memo n V Cl' Kn') (xS D classes (xT cI cJ cZ cC cG cP) N ad) (xA N ad)) args s 0 0 (xA N ad)) (F0 m 4 ls []) := by
    intro j
    induction j with
    | zero =>
      intro i su σ1 Cl1 Kn1 ls H locs hk hsu fr1 hC1 hK1 hp1 hm1 hl I
      obtain rfl : i = n := by omega
      have hE1 : σ1 18 = .inr (ciE, eF ad rk (nI i) (nI bo) tr) := (fr1 18 (by omega) (by decide) (by decide)).trans hE
      obtain ⟨q1, q2⟩ := hsm i (Nat.le_refl _)
      refine lv_iload_n hx hb d_Spectrum_traceFits_4 rfl (lv_at hl 0 rfl) ?_
      refine lv_aload_n hx hb d_Spectrum_traceFits_5 rfl (lv_at hl 2 rfl) ?_
      refine xr_get X I fin_E 18 (by omega) hE1 rfl 11 (by decide) (List.mem_cons_of_mem _ k_d4fb48ecc0) rfl rfl d_Spectrum_traceFits_6 ?_
      refine lv_icmp_ge hx hb d_Spectrum_traceFits_9 rfl (fun hc => ?_) (fun hc => ?_)
      · refine lv_lload_n hx hb d_Spectrum_traceFits_26 rfl (lv_at hl 1 rfl) ?_
        refine lv_aload_n hx hb d_Spectrum_traceFits_27 rfl (lv_at hl 2 rfl) ?_
        refine xr_get X I fin_E 18 (by omega) hE1 rfl 13 (by decide) (List.mem_cons_of_mem _ k_7d46834701) rfl rfl d_Spectrum_traceFits_28 ?_
        refine lv_ldc2 (v := 1073741824) hx hb X.1.2.2.2.1 (X.1.2.2.2.2 _ (List.mem_cons_of_mem _ k_86a0bb5680)) d_Spectrum_traceFits_31 ?_
        refine lv_lmul hx hb d_Spectrum_traceFits_34 ?_
        refine W.lcmp hx hb d_Spectrum_traceFits_35 ?_
        refine lv_if_gt hx hb d_Spectrum_traceFits_36 rfl (fun hd => ?_) (fun hd => ?_)
        · exact absurd ((lg_cmp_gt _ _).mp hd) (fun h => by have h := Int64.lt_iff_toInt_lt.mp h; rw [tT, hsu] at h; omega)
        · refine lv_aload_n hx hb d_Spectrum_traceFits_39 rfl (lv_at hl 2 rfl) ?_
          refine xr_get X I fin_E 18 (by omega) hE1 rfl 13 (by decide) (List.mem_cons_of_mem _ k_7d46834701) rfl rfl d_Spectrum_traceFits_40 ?_
          refine lv_ldc2 (v := 1073741824) hx hb X.1.2.2.2.1 (X.1.2.2.2.2 _ (List.mem_cons_of_mem _ k_86a0bb5680)) d_Spectrum_traceFits_43 ?_
          refine lv_lmul hx hb d_Spectrum_traceFits_46 ?_
          refine lv_lload_n hx hb d_Spectrum_traceFits_47 rfl (lv_at hl 1 rfl) ?_
          refine lv_aload_n hx hb d_Spectrum_traceFits_48 rfl (lv_at hl 2 rfl) ?_
          refine xr_get X I fin_E 18 (by omega) hE1 rfl 11 (by decide) (List.mem_cons_of_mem _ k_d4fb48ecc0) rfl rfl d_Spectrum_traceFits_49 ?_
          refine lv_i2l hx hb d_Spectrum_traceFits_52 (nI_l (by omega)) ?_
          refine lv_ladd hx hb d_Spectrum_traceFits_53 ?_
          refine W.lcmp hx hb d_Spectrum_traceFits_54 ?_
          have nT : (su + lN i).toInt = smF V i + (i : Int) := by rw [Int64.toInt_add, hsu, lN_toInt (by omega)]; exact Int.bmod_eq_of_le (by omega) (by omega)
          refine lv_if_ge hx hb d_Spectrum_traceFits_55 rfl (fun he => ?_) (fun he => ?_)
          · exact absurd ((lg_cmp_ge _ _).mp he) (fun h => by have h := Int64.le_iff_toInt_le.mp h; rw [tT, nT] at h; omega)
          · refine lv_iconst (v := nI 1) hx hb d_Spectrum_traceFits_58 (by decide) ?_
            refine lv_goto hx hb d_Spectrum_traceFits_59 rfl ?_
            exact xr_zret X I hr hlk (by decide +kernel) ⟨rfl, ⟨Cl1, Kn1, fr1, hC1, hK1, hp1, hm1⟩⟩ d_Spectrum_traceFits_63
      · exact absurd (nI_le (Nat.le_refl _) (by omega)) hc
    | succ j ih =>
      intro i su σ1 Cl1 Kn1 ls H locs hk hsu fr1 hC1 hK1 hp1 hm1 hl I
      have hE1 : σ1 18 = .inr (ciE, eF ad rk (nI n) (nI bo) tr) := (fr1 18 (by omega) (by decide) (by decide)).trans hE
      have hf1 := pl_same hf (fun q h1 h2 => fr1 q (by omega) (by omega) (by omega))
      refine lv_iload_n hx hb d_Spectrum_traceFits_4 rfl (lv_at hl 0 rfl) ?_
      refine lv_aload_n hx hb d_Spectrum_traceFits_5 rfl (lv_at hl 2 rfl) ?_
      refine xr_get X I fin_E 18 (by omega) hE1 rfl 11 (by decide) (List.mem_cons_of_mem _ k_d4fb48ecc0) rfl rfl d_Spectrum_traceFits_6 ?_
      refine lv_icmp_ge hx hb d_Spectrum_traceFits_9 rfl (fun hc => ?_) (fun hc => ?_)
      · exact absurd hc (nI_ge (by omega) (by omega))
      · obtain ⟨v1, v2⟩ := hVr i (by omega)
        obtain ⟨q1, q2⟩ := hsm i (by omega)
        refine lv_lload_n hx hb d_Spectrum_traceFits_12 rfl (lv_at hl 1 rfl) ?_
        refine lv_aload_n hx hb d_Spectrum_traceFits_13 rfl (lv_at hl 2 rfl) ?_
        refine lv_iload_n hx hb d_Spectrum_traceFits_14 rfl (lv_at hl 0 rfl) ?_
        refine xr_calll (xr_runV (kc := 5) (kr := 6) (n := 1) (As := [.int (nI i)]) (rest := [.long su]) X I (by omega) hE1 rfl (c_Spectrum_finestCell (V := V) (pf := pf) (i9 := i) hN hE1 hC1 hK1 hf1 hp1 hn hl2 hl12 his hsz hbo hsz2 hfc hm1 (by omega)) (xg k_15467f5cf6) (List.mem_cons_of_mem _ k_68700135ef) (List.mem_cons_of_mem _ k_fa0ad0c072) (List.mem_cons_of_mem _ k_38a2eed932) (List.mem_cons_of_mem _ k_c663d572ae) (by decide +kernel) (by decide) rfl hl.1 rfl (Nat.le_of_ble_eq_true rfl) d_Spectrum_traceFits_15) I (fun x σ2 H locs hp I => ?_)
        obtain ⟨ex, Cl2, Kn2, fra, hC2, hK2, hp2, hm2⟩ := hp
        have fr2 : (∀ q, (q < 110 ∨ 120 ≤ q) → q ≠ 177 → q ≠ 178 → σ2 q = σ q) := fun q h1 h2 h3 => (fra q h1 h2 h3).trans (fr1 q h1 h2 h3)
        clear fra
        have hE2 : σ2 18 = .inr (ciE, eF ad rk (nI n) (nI bo) tr) := (fr2 18 (by omega) (by decide) (by decide)).trans hE
        have hf2 := pl_same hf (fun q h1 h2 => fr2 q (by omega) (by omega) (by omega))
        have xTi : x.toInt = V i := by rw [ex]; exact q_oT (by omega) (by omega)
        refine lv_ladd hx hb d_Spectrum_traceFits_18 ?_
        refine lv_topl (fun s9 es9 => ?_)
        have sT : s9.toInt = smF V (i + 1) := by rw [es9, Int64.toInt_add, hsu, xTi, smF]; exact Int.bmod_eq_of_le (by omega) (by omega)
        refine lv_lstore_n (lv' := [(1, .long s9), (3, .int (nI i)), (0, .ref (ad 18))]) hx hb d_Spectrum_traceFits_19 rfl hl (by decide) rfl (fun ls hl => ?_)
        refine lv_iinc (k := 1) (v := nI (i + 1)) (lv' := [(3, .int (nI (i + 1))), (1, .long s9), (0, .ref (ad 18))]) hx hb d_Spectrum_traceFits_20 hl rfl (nI_1 i) (by decide) rfl (fun ls hl => ?_)
        refine lv_goto hx hb d_Spectrum_traceFits_23 rfl ?_
        exact ih (i + 1) s9 σ2 Cl2 Kn2 ls H locs (by omega) sT fr2 hC2 hK2 hp2 hm2 hl I
  exact loop n 0 0 σ Cl Kn ls _ _ (by omega) rfl fr0 hC hK hp9 hme hl I
set_option maxHeartbeats 4000000 in
set_option maxRecDepth 100000 in
theorem c_Spectrum_blocksInterlace {l : Launch} {D : va_G} {cI cJ cZ cC cG cP : ClassId} {N : Nat} {ad : Nat → Nat} {σ : Nat → va_E} {bo : Nat} {rk : Int32} {n lf : Nat} {tr : Int64} (hN : N = 193) (hE : σ 18 = .inr (ciE, eF ad rk (nI n) (nI bo) tr)) {pf : Nat → Int} {Ff : Nat → Nat → Int32} {sf : Nat → Int32} {Cl : Nat → Int64} {Kn : Nat → Int32} {V : Nat → Int} (hC : σ 177 = .inl (cJ, 6, .inr (.inl Cl))) (hK : σ 178 = .inl (cZ, 6, .inl Kn)) (hf : pl ad cI cG σ 100 12 n lf Ff sf) (hp9 : prb ad cI cG σ) (hn : n ≤ 6) (hl2 : 2 ≤ lf) (hl12 : lf ≤ 12) (his : pl_is Ff n lf pf) (hsz : pl_sz n lf pf) (hbo : bo ≤ 6000000) (hsz2 : ∀ x : Int, -((bo : Int) * 1073741824) ≤ x → x ≤ (bo : Int) * 1073741824 + 1 → pl_sz n lf (low x n pf n)) (hfc : fcH (fun x => lessI (low x n pf n) n) n ((bo : Int) * 1073741824) V) (hme : memo n V Cl Kn) (hVr : ∀ i, i < n → -((bo : Int) * 1073741824) ≤ V i ∧ V i ≤ (bo : Int) * 1073741824) {pb : Nat → Nat → Int} (hBl : σ 19 = .inl (cP, 7, .inr (.inr (.inr (.inr (bl_g ad)))))) (hbk : bks ad cI cG σ n pb) (hszb : ∀ i k, i < n → k ≤ n → pl_sz k 20 (low (V i) k (mulp 1073741824 k (pb k) k) k)) (hint : ∀ i k, i < n → 1 ≤ k → k < n → ¬ lessI (low (V i) n pf n) n < lessI (low (V i) k (mulp 1073741824 k (pb k) k) k) k ∧ lessI (low (V i) n pf n) n - lessI (low (V i) k (mulp 1073741824 k (pb k) k) k) k ≤ nI n - nI k) :
    Met l y_Spectrum_blocksInterlace v_Spectrum_blocksInterlace (xrm 6) (va_Pc [.ref (ad 18)] (xS D classes (xT cI cJ cZ cC cG cP) N ad σ)) (va_Qi (fun r σ2 => r = nI 1 ∧ ∃ (Cl' : Nat → Int64) (Kn' : Nat → Int32), (∀ q, (q < 110 ∨ 120 ≤ q) → q ≠ 177 → q ≠ 178 → σ2 q = σ q) ∧ σ2 177 = .inl (cJ, 6, .inr (.inl Cl')) ∧ σ2 178 = .inl (cZ, 6, .inl Kn') ∧ prb ad cI cG σ2 ∧ memo n V Cl' Kn') (xS D classes (xT cI cJ cZ cC cG cP) N ad) (xA N ad)) 0 0 (xA N ad) := by
  refine xr_met rfl (Nat.le_of_ble_eq_true rfl) ?_
  intro p e s m args below meth c ls hx hb X hr hlk hl I
  have hl : lv_has ls 7 [(0, .ref (ad 18))] := hl
  have hE0 := hE
  have hC0 := hC
  have hK0 := hK
  have hf0 := hf
  have hp0 := hp9
  have hm0 := hme
  have fr0 : (∀ q, (q < 110 ∨ 120 ≤ q) → q ≠ 177 → q ≠ 178 → σ q = σ q) := fun _ _ _ _ => rfl
  refine lv_iconst (v := nI 0) hx hb d_Spectrum_blocksInterlace_0 (by decide) ?_
  refine lv_istore_n (lv' := [(1, .int (nI 0)), (0, .ref (ad 18))]) hx hb d_Spectrum_blocksInterlace_1 rfl hl (by decide) rfl (fun ls hl => ?_)
  have outer : ∀ (f : Nat) (i : Nat) (σ1 : Nat → va_E) (Cl1 : Nat → Int64) (Kn1 : Nat → Int32) (ls : Array Slot) (H : Heap) (locs : List Loc), i + f = n → (∀ q, (q < 110 ∨ 120 ≤ q) → q ≠ 177 → q ≠ 178 → σ1 q = σ q) → σ1 177 = .inl (cJ, 6, .inr (.inl Cl1)) → σ1 178 = .inl (cZ, 6, .inl Kn1) → prb ad cI cG σ1 → memo n V Cl1 Kn1 → lv_has ls 7 [(1, .int (nI i)), (0, .ref (ad 18))] → xI D classes N ad s.heap (σ1) H locs → W p l e (xrm 6) s m args below meth c H locs 0 0 (MQ below (va_Qi (fun r σ2 => r = nI 1 ∧ ∃ (Cl' : Nat → Int64) (Kn' : Nat → Int32), (∀ q, (q < 110 ∨ 120 ≤ q) → q ≠ 177 → q ≠ 178 → σ2 q = σ q) ∧ σ2 177 = .inl (cJ, 6, .inr (.inl Cl')) ∧ σ2 178 = .inl (cZ, 6, .inl Kn') ∧ prb ad cI cG σ2 ∧ memo n V Cl' Kn') (xS D classes (xT cI cJ cZ cC cG cP) N ad) (xA N ad)) args s 0 0 (xA N ad)) (F0 m 2 ls []) := by
    intro f
    induction f with
    | zero =>
      intro i σ1 Cl1 Kn1 ls H locs hk fr1 hC1 hK1 hp1 hm1 hl I
      obtain rfl : i = n := by omega
      have hE1 : σ1 18 = .inr (ciE, eF ad rk (nI i) (nI bo) tr) := (fr1 18 (by omega) (by decide) (by decide)).trans hE
      refine lv_iload_n hx hb d_Spectrum_blocksInterlace_2 rfl (lv_at hl 0 rfl) ?_
      refine lv_aload_n hx hb d_Spectrum_blocksInterlace_3 rfl (lv_at hl 1 rfl) ?_
      refine xr_get X I fin_E 18 (by omega) hE1 rfl 11 (by decide) (List.mem_cons_of_mem _ k_d4fb48ecc0) rfl rfl d_Spectrum_blocksInterlace_4 ?_
      refine lv_icmp_ge hx hb d_Spectrum_blocksInterlace_7 rfl (fun hc => ?_) (fun hc => ?_)
      · refine lv_iconst (v := nI 1) hx hb d_Spectrum_blocksInterlace_86 (by decide) ?_
        exact xr_zret X I hr hlk (by decide +kernel) ⟨rfl, ⟨Cl1, Kn1, fr1, hC1, hK1, hp1, hm1⟩⟩ d_Spectrum_blocksInterlace_87
      · exact absurd (nI_le (Nat.le_refl _) (by omega)) hc
    | succ f ih =>
      intro i σ1 Cl1 Kn1 ls H locs hk fr1 hC1 hK1 hp1 hm1 hl I
      have hE1 : σ1 18 = .inr (ciE, eF ad rk (nI n) (nI bo) tr) := (fr1 18 (by omega) (by decide) (by decide)).trans hE
      have hf1 := pl_same hf (fun q h1 h2 => fr1 q (by omega) (by omega) (by omega))
      refine lv_iload_n hx hb d_Spectrum_blocksInterlace_2 rfl (lv_at hl 0 rfl) ?_
      refine lv_aload_n hx hb d_Spectrum_blocksInterlace_3 rfl (lv_at hl 1 rfl) ?_
      refine xr_get X I fin_E 18 (by omega) hE1 rfl 11 (by decide) (List.mem_cons_of_mem _ k_d4fb48ecc0) rfl rfl d_Spectrum_blocksInterlace_4 ?_
      refine lv_icmp_ge hx hb d_Spectrum_blocksInterlace_7 rfl (fun hc => ?_) (fun hc => ?_)
      · exact absurd hc (nI_ge (by omega) (by omega))
      · obtain ⟨v1, v2⟩ := hVr i (by omega)
        refine lv_aload_n hx hb d_Spectrum_blocksInterlace_10 rfl (lv_at hl 1 rfl) ?_
        refine lv_iload_n hx hb d_Spectrum_blocksInterlace_11 rfl (lv_at hl 0 rfl) ?_
        refine xr_calll (xr_runV (kc := 5) (kr := 6) (n := 1) (As := [.int (nI i)]) (rest := []) X I (by omega) hE1 rfl (c_Spectrum_finestCell (V := V) (pf := pf) (i9 := i) hN hE1 hC1 hK1 hf1 hp1 hn hl2 hl12 his hsz hbo hsz2 hfc hm1 (by omega)) (xg k_15467f5cf6) (List.mem_cons_of_mem _ k_68700135ef) (List.mem_cons_of_mem _ k_fa0ad0c072) (List.mem_cons_of_mem _ k_38a2eed932) (List.mem_cons_of_mem _ k_c663d572ae) (by decide +kernel) (by decide) rfl hl.1 rfl (Nat.le_of_ble_eq_true rfl) d_Spectrum_blocksInterlace_12) I (fun x σ2 H locs hp I => ?_)
        obtain ⟨ex, Cl2, Kn2, fra, hC2, hK2, hp2, hm2⟩ := hp
        have fr2 : (∀ q, (q < 110 ∨ 120 ≤ q) → q ≠ 177 → q ≠ 178 → σ2 q = σ q) := fun q h1 h2 h3 => (fra q h1 h2 h3).trans (fr1 q h1 h2 h3)
        clear fra
        have hE2 : σ2 18 = .inr (ciE, eF ad rk (nI n) (nI bo) tr) := (fr2 18 (by omega) (by decide) (by decide)).trans hE
        have hf2 := pl_same hf (fun q h1 h2 => fr2 q (by omega) (by omega) (by omega))
        have xTi : x.toInt = V i := by rw [ex]; exact q_oT (by omega) (by omega)
        refine lv_lstore_n (lv' := [(2, .long x), (1, .int (nI i)), (0, .ref (ad 18))]) hx hb d_Spectrum_blocksInterlace_15 rfl hl (by decide) rfl (fun ls hl => ?_)
        refine lv_aload_n hx hb d_Spectrum_blocksInterlace_16 rfl (lv_at hl 2 rfl) ?_
        refine lv_lload_n hx hb d_Spectrum_blocksInterlace_17 rfl (lv_at hl 0 rfl) ?_
        refine xr_calli (xr_runV (kc := 4) (kr := 6) (n := 1) (As := [.long x]) (rest := []) X I (by omega) hE2 rfl (c_Spectrum_howManyBelowEdge (v := x) (pf := pf) hN hE2 hf2 hp2 hn hl2 hl12 his hsz (by rw [xTi]; exact hsz2 (V i) (by omega) (by omega))) (xg k_1a3fb439f2) (List.mem_cons_of_mem _ k_97e08bc927) (List.mem_cons_of_mem _ k_1bd8a48ed1) (List.mem_cons_of_mem _ k_3bf7d3f7e0) (List.mem_cons_of_mem _ k_c663d572ae) (by decide +kernel) (by decide) rfl hl.1 rfl (Nat.le_of_ble_eq_true rfl) d_Spectrum_blocksInterlace_18) I (fun r1 σ3 H locs hp I => ?_)
        obtain ⟨er1, fra, hp3⟩ := hp
        rw [xTi] at er1
        have fr3 : (∀ q, (q < 110 ∨ 120 ≤ q) → q ≠ 177 → q ≠ 178 → σ3 q = σ q) := fun q h1 h2 h3 => (fra q (by omega)).trans (fr2 q h1 h2 h3)
        have hC3 := (fra 177 (by omega)).trans hC2
        have hK3 := (fra 178 (by omega)).trans hK2
        clear fra
        subst er1
        refine lv_istore (lv' := [(4, .int (lessI (low (V i) n pf n) n)), (2, .long x), (1, .int (nI i)), (0, .ref (ad 18))]) hx hb d_Spectrum_blocksInterlace_21 hl (by decide) rfl (fun ls hl => ?_)
        refine lv_iconst (v := nI 1) hx hb d_Spectrum_blocksInterlace_23 (by decide) ?_
        refine lv_istore (lv' := [(5, .int (nI 1)), (4, .int (lessI (low (V i) n pf n) n)), (2, .long x), (1, .int (nI i)), (0, .ref (ad 18))]) hx hb d_Spectrum_blocksInterlace_24 hl (by decide) rfl (fun ls hl => ?_)
        have inner : ∀ (j : Nat) (k : Nat) (σ4 : Nat → va_E) (ls : Array Slot) (H : Heap) (locs : List Loc), k + j = n → 1 ≤ k → (∀ q, (q < 110 ∨ 120 ≤ q) → q ≠ 177 → q ≠ 178 → σ4 q = σ q) → σ4 177 = .inl (cJ, 6, .inr (.inl Cl2)) → σ4 178 = .inl (cZ, 6, .inl Kn2) → prb ad cI cG σ4 → lv_has ls 7 [(5, .int (nI k)), (4, .int (lessI (low (V i) n pf n) n)), (2, .long x), (1, .int (nI i)), (0, .ref (ad 18))] → xI D classes N ad s.heap (σ4) H locs → W p l e (xrm 6) s m args below meth c H locs 0 0 (MQ below (va_Qi (fun r σ2 => r = nI 1 ∧ ∃ (Cl' : Nat → Int64) (Kn' : Nat → Int32), (∀ q, (q < 110 ∨ 120 ≤ q) → q ≠ 177 → q ≠ 178 → σ2 q = σ q) ∧ σ2 177 = .inl (cJ, 6, .inr (.inl Cl')) ∧ σ2 178 = .inl (cZ, 6, .inl Kn') ∧ prb ad cI cG σ2 ∧ memo n V Cl' Kn') (xS D classes (xT cI cJ cZ cC cG cP) N ad) (xA N ad)) args s 0 0 (xA N ad)) (F0 m 26 ls []) := by
          intro j
          induction j with
          | zero =>
            intro k σ4 ls H locs hj hk1 fr4 hC4 hK4 hp4 hl I
            obtain rfl : k = n := by omega
            have hE4 : σ4 18 = .inr (ciE, eF ad rk (nI k) (nI bo) tr) := (fr4 18 (by omega) (by decide) (by decide)).trans hE
            refine lv_iload hx hb d_Spectrum_blocksInterlace_26 (lv_at hl 0 rfl) ?_
            refine lv_aload_n hx hb d_Spectrum_blocksInterlace_28 rfl (lv_at hl 4 rfl) ?_
            refine xr_get X I fin_E 18 (by omega) hE4 rfl 11 (by decide) (List.mem_cons_of_mem _ k_d4fb48ecc0) rfl rfl d_Spectrum_blocksInterlace_29 ?_
            refine lv_icmp_ge hx hb d_Spectrum_blocksInterlace_32 rfl (fun hc => ?_) (fun hc => ?_)
            · refine lv_iinc (k := 3) (v := nI (i + 1)) (lv' := [(1, .int (nI (i + 1))), (5, .int (nI k)), (4, .int (lessI (low (V i) k pf k) k)), (2, .long x), (0, .ref (ad 18))]) hx hb d_Spectrum_blocksInterlace_80 hl rfl (nI_1 i) (by decide) rfl (fun ls hl => ?_)
              refine lv_goto hx hb d_Spectrum_blocksInterlace_83 rfl ?_
              have hl := lv_sub hl [0, 4] rfl
              have hl : lv_has ls 7 [(1, .int (nI (i + 1))), (0, .ref (ad 18))] := hl
              exact ih (i + 1) σ4 Cl2 Kn2 ls H locs (by omega) fr4 hC4 hK4 hp4 hm2 hl I
            · exact absurd (nI_le (Nat.le_refl _) (by omega)) hc
          | succ j jh =>
            intro k σ4 ls H locs hj hk1 fr4 hC4 hK4 hp4 hl I
            have hE4 : σ4 18 = .inr (ciE, eF ad rk (nI n) (nI bo) tr) := (fr4 18 (by omega) (by decide) (by decide)).trans hE
            have hf4 := pl_same hf (fun q h1 h2 => fr4 q (by omega) (by omega) (by omega))
            refine lv_iload hx hb d_Spectrum_blocksInterlace_26 (lv_at hl 0 rfl) ?_
            refine lv_aload_n hx hb d_Spectrum_blocksInterlace_28 rfl (lv_at hl 4 rfl) ?_
            refine xr_get X I fin_E 18 (by omega) hE4 rfl 11 (by decide) (List.mem_cons_of_mem _ k_d4fb48ecc0) rfl rfl d_Spectrum_blocksInterlace_29 ?_
            refine lv_icmp_ge hx hb d_Spectrum_blocksInterlace_32 rfl (fun hc => ?_) (fun hc => ?_)
            · exact absurd hc (nI_ge (by omega) (by omega))
            · refine lv_aload_n hx hb d_Spectrum_blocksInterlace_35 rfl (lv_at hl 4 rfl) ?_
              refine lv_iload hx hb d_Spectrum_blocksInterlace_36 (lv_at hl 0 rfl) ?_
              refine lv_lload_n hx hb d_Spectrum_blocksInterlace_38 rfl (lv_at hl 2 rfl) ?_
              refine lv_ldc2 (v := 1073741824) hx hb X.1.2.2.2.1 (X.1.2.2.2.2 _ (List.mem_cons_of_mem _ k_86a0bb5680)) d_Spectrum_blocksInterlace_39 ?_
              obtain ⟨Fk, sk, b1, b2, b3⟩ := bks_keep hbk hn (fun q hq => fr4 q (by omega) (by omega) (by omega)) k (by omega)
              refine xr_callk (xr_runV (kc := 4) (kr := 6) (n := 3) (As := [.int (nI k), .long x, .long 1073741824]) (rest := []) X I (by omega) hE4 rfl (c_Spectrum_movedBlock (k9 := k) (tp := x) (bt := 1073741824) hN hE4 ((fr4 19 (by omega) (by decide) (by decide)).trans hBl) b1 hp4 (by omega) b2 b3) (xg k_95f0356f31) (List.mem_cons_of_mem _ k_957f68cc9d) (List.mem_cons_of_mem _ k_69fc3ab445) (List.mem_cons_of_mem _ k_c1bab79832) (List.mem_cons_of_mem _ k_c663d572ae) (by decide +kernel) (by decide) rfl hl.1 rfl (Nat.le_of_ble_eq_true rfl) d_Spectrum_blocksInterlace_42) I (fun σ5 H locs hp I => ?_)
              obtain ⟨F5, s5, fra, hp5, hi5⟩ := hp
              rw [xTi, show (1073741824 : Int64).toInt = 1073741824 by decide] at hi5
              refine xr_calli (xr_runV (kc := 2) (kr := 6) (n := 0) (As := []) (rest := []) X I (by omega) (pl_o hp5) rfl (c_Polynomial_rootsBelow (i := 110) (by omega) hp5 (by omega) (by decide) (by decide) (by decide) hi5 (hszb i k (by omega) (by omega))) (xg k_78be9b3f0a) (List.mem_cons_of_mem _ k_48413bf910) (List.mem_cons_of_mem _ k_29b5639176) (List.mem_cons_of_mem _ k_d43b154fc4) (List.mem_cons_of_mem _ k_a8ac99ee00) (by decide +kernel) (by decide) rfl hl.1 rfl (Nat.le_of_ble_eq_true rfl) d_Spectrum_blocksInterlace_45) I (fun r2 σ9 H locs hp I => ?_)
              obtain ⟨rfl, h9⟩ := hp; rw [h9] at I; clear h9
              have fr5 : (∀ q, (q < 110 ∨ 120 ≤ q) → q ≠ 177 → q ≠ 178 → σ5 q = σ q) := fun q h1 h2 h3 => (fra q (by omega)).trans (fr4 q h1 h2 h3)
              have hC5 := (fra 177 (by omega)).trans hC4
              have hK5 := (fra 178 (by omega)).trans hK4
              clear fra
              have hE5 : σ5 18 = .inr (ciE, eF ad rk (nI n) (nI bo) tr) := (fr5 18 (by omega) (by decide) (by decide)).trans hE
              have hf5 := pl_same hf (fun q h1 h2 => fr5 q (by omega) (by omega) (by omega))
              obtain ⟨z1, z2⟩ := hint i k (by omega) (by omega) (by omega)
              refine lv_istore (lv' := [(6, .int (lessI (low (V i) k (mulp 1073741824 k (pb k) k) k) k)), (5, .int (nI k)), (4, .int (lessI (low (V i) n pf n) n)), (2, .long x), (1, .int (nI i)), (0, .ref (ad 18))]) hx hb d_Spectrum_blocksInterlace_48 hl (by decide) rfl (fun ls hl => ?_)
              refine lv_iload hx hb d_Spectrum_blocksInterlace_50 (lv_at hl 0 rfl) ?_
              refine lv_iload hx hb d_Spectrum_blocksInterlace_52 (lv_at hl 2 rfl) ?_
              refine lv_icmp_gt hx hb d_Spectrum_blocksInterlace_54 rfl (fun hd => ?_) (fun hd => ?_)
              · exact absurd hd z1
              · refine lv_iload hx hb d_Spectrum_blocksInterlace_57 (lv_at hl 2 rfl) ?_
                refine lv_iload hx hb d_Spectrum_blocksInterlace_59 (lv_at hl 0 rfl) ?_
                refine lv_isub hx hb d_Spectrum_blocksInterlace_61 ?_
                refine lv_aload_n hx hb d_Spectrum_blocksInterlace_62 rfl (lv_at hl 5 rfl) ?_
                refine xr_get X I fin_E 18 (by omega) hE5 rfl 11 (by decide) (List.mem_cons_of_mem _ k_d4fb48ecc0) rfl rfl d_Spectrum_blocksInterlace_63 ?_
                refine lv_iload hx hb d_Spectrum_blocksInterlace_66 (lv_at hl 1 rfl) ?_
                refine lv_isub hx hb d_Spectrum_blocksInterlace_68 ?_
                refine lv_icmp_le hx hb d_Spectrum_blocksInterlace_69 rfl (fun he => ?_) (fun he => ?_)
                · refine lv_iinc (k := 1) (v := nI (k + 1)) (lv' := [(5, .int (nI (k + 1))), (6, .int (lessI (low (V i) k (mulp 1073741824 k (pb k) k) k) k)), (4, .int (lessI (low (V i) n pf n) n)), (2, .long x), (1, .int (nI i)), (0, .ref (ad 18))]) hx hb d_Spectrum_blocksInterlace_74 hl rfl (nI_1 k) (by decide) rfl (fun ls hl => ?_)
                  refine lv_goto hx hb d_Spectrum_blocksInterlace_77 rfl ?_
                  have hl := lv_sub hl [0, 2, 3, 4, 5] rfl
                  have hl : lv_has ls 7 [(5, .int (nI (k + 1))), (4, .int (lessI (low (V i) n pf n) n)), (2, .long x), (1, .int (nI i)), (0, .ref (ad 18))] := hl
                  exact jh (k + 1) σ5 ls H locs (by omega) (by omega) fr5 hC5 hK5 ⟨_, _, _, _, hp5⟩ hl I
                · exact absurd z2 he
        exact inner (n - 1) 1 σ3 ls H locs (by omega) (by omega) fr3 hC3 hK3 hp3 hl I
  exact outer n 0 σ Cl Kn ls _ _ (by omega) fr0 hC hK hp9 hme hl I
