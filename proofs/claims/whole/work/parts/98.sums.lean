/-! SpectrumDesk$Sums; SpectrumDesk$Limbs.takeLastDigit (written by wip/gen) -/
abbrev b_Sums_spreadOf : ByteArray := prog_8_method_4_code
abbrev y_Sums_spreadOf : MethodName := ⟨"SpectrumDesk$Sums", "spreadOf", "(II)J"⟩
abbrev v_Sums_spreadOf : List Cond := Cond.code y_Sums_spreadOf b_Sums_spreadOf 3 (some .long) :: AW
theorem d_Sums_spreadOf_0 : decode b_Sums_spreadOf 0 = .ok (.aload_n 0, 1) := by decide +kernel
theorem d_Sums_spreadOf_1 : decode b_Sums_spreadOf 1 = .ok (.getfield 20, 3) := by decide +kernel
theorem d_Sums_spreadOf_4 : decode b_Sums_spreadOf 4 = .ok (.i2l, 1) := by decide +kernel
theorem d_Sums_spreadOf_5 : decode b_Sums_spreadOf 5 = .ok (.aload_n 0, 1) := by decide +kernel
theorem d_Sums_spreadOf_6 : decode b_Sums_spreadOf 6 = .ok (.getfield 17, 3) := by decide +kernel
theorem d_Sums_spreadOf_9 : decode b_Sums_spreadOf 9 = .ok (.iload_n 1, 1) := by decide +kernel
theorem d_Sums_spreadOf_10 : decode b_Sums_spreadOf 10 = .ok (.aaload, 1) := by decide +kernel
theorem d_Sums_spreadOf_11 : decode b_Sums_spreadOf 11 = .ok (.iload_n 2, 1) := by decide +kernel
theorem d_Sums_spreadOf_12 : decode b_Sums_spreadOf 12 = .ok (.iaload, 1) := by decide +kernel
theorem d_Sums_spreadOf_13 : decode b_Sums_spreadOf 13 = .ok (.i2l, 1) := by decide +kernel
theorem d_Sums_spreadOf_14 : decode b_Sums_spreadOf 14 = .ok (.lmul, 1) := by decide +kernel
theorem d_Sums_spreadOf_15 : decode b_Sums_spreadOf 15 = .ok (.aload_n 0, 1) := by decide +kernel
theorem d_Sums_spreadOf_16 : decode b_Sums_spreadOf 16 = .ok (.getfield 9, 3) := by decide +kernel
theorem d_Sums_spreadOf_19 : decode b_Sums_spreadOf 19 = .ok (.iload_n 1, 1) := by decide +kernel
theorem d_Sums_spreadOf_20 : decode b_Sums_spreadOf 20 = .ok (.iaload, 1) := by decide +kernel
theorem d_Sums_spreadOf_21 : decode b_Sums_spreadOf 21 = .ok (.i2l, 1) := by decide +kernel
theorem d_Sums_spreadOf_22 : decode b_Sums_spreadOf 22 = .ok (.aload_n 0, 1) := by decide +kernel
theorem d_Sums_spreadOf_23 : decode b_Sums_spreadOf 23 = .ok (.getfield 9, 3) := by decide +kernel
theorem d_Sums_spreadOf_26 : decode b_Sums_spreadOf 26 = .ok (.iload_n 2, 1) := by decide +kernel
theorem d_Sums_spreadOf_27 : decode b_Sums_spreadOf 27 = .ok (.iaload, 1) := by decide +kernel
theorem d_Sums_spreadOf_28 : decode b_Sums_spreadOf 28 = .ok (.i2l, 1) := by decide +kernel
theorem d_Sums_spreadOf_29 : decode b_Sums_spreadOf 29 = .ok (.lmul, 1) := by decide +kernel
theorem d_Sums_spreadOf_30 : decode b_Sums_spreadOf 30 = .ok (.lsub, 1) := by decide +kernel
theorem d_Sums_spreadOf_31 : decode b_Sums_spreadOf 31 = .ok (.lreturn, 1) := by decide +kernel
abbrev b_Sums_clear : ByteArray := prog_8_method_2_code
abbrev y_Sums_clear : MethodName := ⟨"SpectrumDesk$Sums", "clear", "()V"⟩
abbrev v_Sums_clear : List Cond := Cond.code y_Sums_clear b_Sums_clear 2 none :: AW
theorem d_Sums_clear_0 : decode b_Sums_clear 0 = .ok (.aload_n 0, 1) := by decide +kernel
theorem d_Sums_clear_1 : decode b_Sums_clear 1 = .ok (.iconst 0, 1) := by decide +kernel
theorem d_Sums_clear_2 : decode b_Sums_clear 2 = .ok (.putfield 20, 3) := by decide +kernel
theorem d_Sums_clear_5 : decode b_Sums_clear 5 = .ok (.aload_n 0, 1) := by decide +kernel
theorem d_Sums_clear_6 : decode b_Sums_clear 6 = .ok (.getfield 9, 3) := by decide +kernel
theorem d_Sums_clear_9 : decode b_Sums_clear 9 = .ok (.iconst 0, 1) := by decide +kernel
theorem d_Sums_clear_10 : decode b_Sums_clear 10 = .ok (.invokestatic 24, 3) := by decide +kernel
theorem d_Sums_clear_13 : decode b_Sums_clear 13 = .ok (.iconst 0, 1) := by decide +kernel
theorem d_Sums_clear_14 : decode b_Sums_clear 14 = .ok (.istore_n 1, 1) := by decide +kernel
theorem d_Sums_clear_15 : decode b_Sums_clear 15 = .ok (.iload_n 1, 1) := by decide +kernel
theorem d_Sums_clear_16 : decode b_Sums_clear 16 = .ok (.bipush (6), 2) := by decide +kernel
theorem d_Sums_clear_18 : decode b_Sums_clear 18 = .ok (.if_icmp .ge (19), 3) := by decide +kernel
theorem d_Sums_clear_21 : decode b_Sums_clear 21 = .ok (.aload_n 0, 1) := by decide +kernel
theorem d_Sums_clear_22 : decode b_Sums_clear 22 = .ok (.getfield 17, 3) := by decide +kernel
theorem d_Sums_clear_25 : decode b_Sums_clear 25 = .ok (.iload_n 1, 1) := by decide +kernel
theorem d_Sums_clear_26 : decode b_Sums_clear 26 = .ok (.aaload, 1) := by decide +kernel
theorem d_Sums_clear_27 : decode b_Sums_clear 27 = .ok (.iconst 0, 1) := by decide +kernel
theorem d_Sums_clear_28 : decode b_Sums_clear 28 = .ok (.invokestatic 24, 3) := by decide +kernel
theorem d_Sums_clear_31 : decode b_Sums_clear 31 = .ok (.iinc 1 (1), 3) := by decide +kernel
theorem d_Sums_clear_34 : decode b_Sums_clear 34 = .ok (.goto (-19), 3) := by decide +kernel
theorem d_Sums_clear_37 : decode b_Sums_clear 37 = .ok (.return_, 1) := by decide +kernel
abbrev b_Sums_take : ByteArray := prog_8_method_3_code
abbrev y_Sums_take : MethodName := ⟨"SpectrumDesk$Sums", "take", "([II)V"⟩
abbrev v_Sums_take : List Cond := Cond.code y_Sums_take b_Sums_take 5 none :: AW
theorem d_Sums_take_0 : decode b_Sums_take 0 = .ok (.aload_n 0, 1) := by decide +kernel
theorem d_Sums_take_1 : decode b_Sums_take 1 = .ok (.dup, 1) := by decide +kernel
theorem d_Sums_take_2 : decode b_Sums_take 2 = .ok (.getfield 20, 3) := by decide +kernel
theorem d_Sums_take_5 : decode b_Sums_take 5 = .ok (.iconst 1, 1) := by decide +kernel
theorem d_Sums_take_6 : decode b_Sums_take 6 = .ok (.iadd, 1) := by decide +kernel
theorem d_Sums_take_7 : decode b_Sums_take 7 = .ok (.putfield 20, 3) := by decide +kernel
theorem d_Sums_take_10 : decode b_Sums_take 10 = .ok (.iconst 0, 1) := by decide +kernel
theorem d_Sums_take_11 : decode b_Sums_take 11 = .ok (.istore_n 3, 1) := by decide +kernel
theorem d_Sums_take_12 : decode b_Sums_take 12 = .ok (.iload_n 3, 1) := by decide +kernel
theorem d_Sums_take_13 : decode b_Sums_take 13 = .ok (.iload_n 2, 1) := by decide +kernel
theorem d_Sums_take_14 : decode b_Sums_take 14 = .ok (.if_icmp .ge (56), 3) := by decide +kernel
theorem d_Sums_take_17 : decode b_Sums_take 17 = .ok (.aload_n 0, 1) := by decide +kernel
theorem d_Sums_take_18 : decode b_Sums_take 18 = .ok (.getfield 9, 3) := by decide +kernel
theorem d_Sums_take_21 : decode b_Sums_take 21 = .ok (.iload_n 3, 1) := by decide +kernel
theorem d_Sums_take_22 : decode b_Sums_take 22 = .ok (.dup2, 1) := by decide +kernel
theorem d_Sums_take_23 : decode b_Sums_take 23 = .ok (.iaload, 1) := by decide +kernel
theorem d_Sums_take_24 : decode b_Sums_take 24 = .ok (.aload_n 1, 1) := by decide +kernel
theorem d_Sums_take_25 : decode b_Sums_take 25 = .ok (.iload_n 3, 1) := by decide +kernel
theorem d_Sums_take_26 : decode b_Sums_take 26 = .ok (.iaload, 1) := by decide +kernel
theorem d_Sums_take_27 : decode b_Sums_take 27 = .ok (.iadd, 1) := by decide +kernel
theorem d_Sums_take_28 : decode b_Sums_take 28 = .ok (.iastore, 1) := by decide +kernel
theorem d_Sums_take_29 : decode b_Sums_take 29 = .ok (.iconst 0, 1) := by decide +kernel
theorem d_Sums_take_30 : decode b_Sums_take 30 = .ok (.istore 4, 2) := by decide +kernel
theorem d_Sums_take_32 : decode b_Sums_take 32 = .ok (.iload 4, 2) := by decide +kernel
theorem d_Sums_take_34 : decode b_Sums_take 34 = .ok (.iload_n 2, 1) := by decide +kernel
theorem d_Sums_take_35 : decode b_Sums_take 35 = .ok (.if_icmp .ge (29), 3) := by decide +kernel
theorem d_Sums_take_38 : decode b_Sums_take 38 = .ok (.aload_n 0, 1) := by decide +kernel
theorem d_Sums_take_39 : decode b_Sums_take 39 = .ok (.getfield 17, 3) := by decide +kernel
theorem d_Sums_take_42 : decode b_Sums_take 42 = .ok (.iload_n 3, 1) := by decide +kernel
theorem d_Sums_take_43 : decode b_Sums_take 43 = .ok (.aaload, 1) := by decide +kernel
theorem d_Sums_take_44 : decode b_Sums_take 44 = .ok (.iload 4, 2) := by decide +kernel
theorem d_Sums_take_46 : decode b_Sums_take 46 = .ok (.dup2, 1) := by decide +kernel
theorem d_Sums_take_47 : decode b_Sums_take 47 = .ok (.iaload, 1) := by decide +kernel
theorem d_Sums_take_48 : decode b_Sums_take 48 = .ok (.aload_n 1, 1) := by decide +kernel
theorem d_Sums_take_49 : decode b_Sums_take 49 = .ok (.iload_n 3, 1) := by decide +kernel
theorem d_Sums_take_50 : decode b_Sums_take 50 = .ok (.iaload, 1) := by decide +kernel
theorem d_Sums_take_51 : decode b_Sums_take 51 = .ok (.aload_n 1, 1) := by decide +kernel
theorem d_Sums_take_52 : decode b_Sums_take 52 = .ok (.iload 4, 2) := by decide +kernel
theorem d_Sums_take_54 : decode b_Sums_take 54 = .ok (.iaload, 1) := by decide +kernel
theorem d_Sums_take_55 : decode b_Sums_take 55 = .ok (.imul, 1) := by decide +kernel
theorem d_Sums_take_56 : decode b_Sums_take 56 = .ok (.iadd, 1) := by decide +kernel
theorem d_Sums_take_57 : decode b_Sums_take 57 = .ok (.iastore, 1) := by decide +kernel
theorem d_Sums_take_58 : decode b_Sums_take 58 = .ok (.iinc 4 (1), 3) := by decide +kernel
theorem d_Sums_take_61 : decode b_Sums_take 61 = .ok (.goto (-29), 3) := by decide +kernel
theorem d_Sums_take_64 : decode b_Sums_take 64 = .ok (.iinc 3 (1), 3) := by decide +kernel
theorem d_Sums_take_67 : decode b_Sums_take 67 = .ok (.goto (-55), 3) := by decide +kernel
theorem d_Sums_take_70 : decode b_Sums_take 70 = .ok (.return_, 1) := by decide +kernel
abbrev b_Limbs_takeLastDigit : ByteArray := prog_4_method_9_code
abbrev y_Limbs_takeLastDigit : MethodName := ⟨"SpectrumDesk$Limbs", "takeLastDigit", "([I)I"⟩
abbrev v_Limbs_takeLastDigit : List Cond := Cond.code y_Limbs_takeLastDigit b_Limbs_takeLastDigit 4 (some .int) :: AW
theorem d_Limbs_takeLastDigit_0 : decode b_Limbs_takeLastDigit 0 = .ok (.lconst 0, 1) := by decide +kernel
theorem d_Limbs_takeLastDigit_1 : decode b_Limbs_takeLastDigit 1 = .ok (.lstore_n 1, 1) := by decide +kernel
theorem d_Limbs_takeLastDigit_2 : decode b_Limbs_takeLastDigit 2 = .ok (.aload_n 0, 1) := by decide +kernel
theorem d_Limbs_takeLastDigit_3 : decode b_Limbs_takeLastDigit 3 = .ok (.arraylength, 1) := by decide +kernel
theorem d_Limbs_takeLastDigit_4 : decode b_Limbs_takeLastDigit 4 = .ok (.iconst 1, 1) := by decide +kernel
theorem d_Limbs_takeLastDigit_5 : decode b_Limbs_takeLastDigit 5 = .ok (.isub, 1) := by decide +kernel
theorem d_Limbs_takeLastDigit_6 : decode b_Limbs_takeLastDigit 6 = .ok (.istore_n 3, 1) := by decide +kernel
theorem d_Limbs_takeLastDigit_7 : decode b_Limbs_takeLastDigit 7 = .ok (.iload_n 3, 1) := by decide +kernel
theorem d_Limbs_takeLastDigit_8 : decode b_Limbs_takeLastDigit 8 = .ok (.ifCond .lt (34), 3) := by decide +kernel
theorem d_Limbs_takeLastDigit_11 : decode b_Limbs_takeLastDigit 11 = .ok (.lload_n 1, 1) := by decide +kernel
theorem d_Limbs_takeLastDigit_12 : decode b_Limbs_takeLastDigit 12 = .ok (.bipush (30), 2) := by decide +kernel
theorem d_Limbs_takeLastDigit_14 : decode b_Limbs_takeLastDigit 14 = .ok (.lshl, 1) := by decide +kernel
theorem d_Limbs_takeLastDigit_15 : decode b_Limbs_takeLastDigit 15 = .ok (.aload_n 0, 1) := by decide +kernel
theorem d_Limbs_takeLastDigit_16 : decode b_Limbs_takeLastDigit 16 = .ok (.iload_n 3, 1) := by decide +kernel
theorem d_Limbs_takeLastDigit_17 : decode b_Limbs_takeLastDigit 17 = .ok (.iaload, 1) := by decide +kernel
theorem d_Limbs_takeLastDigit_18 : decode b_Limbs_takeLastDigit 18 = .ok (.i2l, 1) := by decide +kernel
theorem d_Limbs_takeLastDigit_19 : decode b_Limbs_takeLastDigit 19 = .ok (.lor, 1) := by decide +kernel
theorem d_Limbs_takeLastDigit_20 : decode b_Limbs_takeLastDigit 20 = .ok (.lstore_n 1, 1) := by decide +kernel
theorem d_Limbs_takeLastDigit_21 : decode b_Limbs_takeLastDigit 21 = .ok (.aload_n 0, 1) := by decide +kernel
theorem d_Limbs_takeLastDigit_22 : decode b_Limbs_takeLastDigit 22 = .ok (.iload_n 3, 1) := by decide +kernel
theorem d_Limbs_takeLastDigit_23 : decode b_Limbs_takeLastDigit 23 = .ok (.lload_n 1, 1) := by decide +kernel
theorem d_Limbs_takeLastDigit_24 : decode b_Limbs_takeLastDigit 24 = .ok (.ldc2_w 42, 3) := by decide +kernel
theorem d_Limbs_takeLastDigit_27 : decode b_Limbs_takeLastDigit 27 = .ok (.ldiv, 1) := by decide +kernel
theorem d_Limbs_takeLastDigit_28 : decode b_Limbs_takeLastDigit 28 = .ok (.l2i, 1) := by decide +kernel
theorem d_Limbs_takeLastDigit_29 : decode b_Limbs_takeLastDigit 29 = .ok (.iastore, 1) := by decide +kernel
theorem d_Limbs_takeLastDigit_30 : decode b_Limbs_takeLastDigit 30 = .ok (.lload_n 1, 1) := by decide +kernel
theorem d_Limbs_takeLastDigit_31 : decode b_Limbs_takeLastDigit 31 = .ok (.ldc2_w 42, 3) := by decide +kernel
theorem d_Limbs_takeLastDigit_34 : decode b_Limbs_takeLastDigit 34 = .ok (.lrem, 1) := by decide +kernel
theorem d_Limbs_takeLastDigit_35 : decode b_Limbs_takeLastDigit 35 = .ok (.lstore_n 1, 1) := by decide +kernel
theorem d_Limbs_takeLastDigit_36 : decode b_Limbs_takeLastDigit 36 = .ok (.iinc 3 (-1), 3) := by decide +kernel
theorem d_Limbs_takeLastDigit_39 : decode b_Limbs_takeLastDigit 39 = .ok (.goto (-32), 3) := by decide +kernel
theorem d_Limbs_takeLastDigit_42 : decode b_Limbs_takeLastDigit 42 = .ok (.lload_n 1, 1) := by decide +kernel
theorem d_Limbs_takeLastDigit_43 : decode b_Limbs_takeLastDigit 43 = .ok (.l2i, 1) := by decide +kernel
theorem d_Limbs_takeLastDigit_44 : decode b_Limbs_takeLastDigit 44 = .ok (.ireturn, 1) := by decide +kernel
theorem k_8c6ddb8eb6 : (Jvm.Cond.fieldLink "SpectrumDesk$Sums" (20 : Nat) "SpectrumDesk$Sums" "rows" "I") ∈ AW := aw_1 (List.mem_of_getElem? (i := 46) (by decide +kernel)) (by decide +kernel)
theorem k_2bde48038e : (Jvm.Cond.fieldLink "SpectrumDesk$Sums" (17 : Nat) "SpectrumDesk$Sums" "paired" "[[I") ∈ AW := aw_1 (List.mem_of_getElem? (i := 45) (by decide +kernel)) (by decide +kernel)
theorem k_97ba546b54 : (Jvm.Cond.fieldLink "SpectrumDesk$Sums" (9 : Nat) "SpectrumDesk$Sums" "single" "[I") ∈ AW := aw_1 (List.mem_of_getElem? (i := 44) (by decide +kernel)) (by decide +kernel)
theorem k_e8107a7739 : (Jvm.Cond.methodLink "SpectrumDesk$Sums" (24 : Nat) ({ cls := "java/util/Arrays", name := "fill", desc := "([II)V" } : Jvm.MethodName)) ∈ AW := aw_4 (List.mem_of_getElem? (i := 85) (by decide +kernel)) (by decide +kernel)
theorem k_9100ce256e : (Jvm.Cond.constantLong "SpectrumDesk$Limbs" (42 : Nat) (10 : Int64)) ∈ AW := aw_3 (List.mem_of_getElem? (i := 194) (by decide +kernel)) (by decide +kernel)
theorem k_78ccf9a33c : (Jvm.Cond.code ({ cls := "SpectrumDesk$Sums", name := "spreadOf", desc := "(II)J" } : Jvm.MethodName) prog_8_method_4_code (3 : Nat) (Option.some Jvm.ClassFile.FieldType.long)) ∈ AW := aw_2 (List.mem_of_getElem? (i := 6) (by decide +kernel)) (by decide +kernel)
theorem k_52c39eb4bc : (Jvm.Cond.code ({ cls := "SpectrumDesk$Sums", name := "clear", desc := "()V" } : Jvm.MethodName) prog_8_method_2_code (2 : Nat) (Option.none : Option Jvm.ClassFile.FieldType)) ∈ AW := aw_4 (List.mem_of_getElem? (i := 84) (by decide +kernel)) (by decide +kernel)
theorem k_a01269f3dd : (Jvm.Cond.code ({ cls := "SpectrumDesk$Sums", name := "take", desc := "([II)V" } : Jvm.MethodName) prog_8_method_3_code (5 : Nat) (Option.none : Option Jvm.ClassFile.FieldType)) ∈ AW := aw_1 (List.mem_of_getElem? (i := 238) (by decide +kernel)) (by decide +kernel)
theorem k_2bc258271a : (Jvm.Cond.code ({ cls := "SpectrumDesk$Limbs", name := "takeLastDigit", desc := "([I)I" } : Jvm.MethodName) prog_4_method_9_code (4 : Nat) (Option.some Jvm.ClassFile.FieldType.int)) ∈ AW := aw_3 (List.mem_of_getElem? (i := 193) (by decide +kernel)) (by decide +kernel)
set_option maxHeartbeats 4000000 in
set_option maxRecDepth 100000 in
theorem c_Sums_spreadOf {l : Launch} {D : va_G} {cI cJ cZ cC cG cP : ClassId} {N : Nat} {ad : Nat → Nat} {σ : Nat → va_E} {rw : Nat} {S : Nat → Int32} {P : Nat → Nat → Int32} (hN : N = 193) (hU : σ 9 = .inr (ciU, [.ref (ad 10), .ref (ad 11), .int (nI rw)])) (hS : σ 10 = .inl (cI, 6, .inl S)) (hP : mat ad cI cG σ 11 12 P) {i j : Nat} (hi : i < 6) (hj : j < 6) :
    Met l y_Sums_spreadOf v_Sums_spreadOf (xrm 0) (va_Pc [.ref (ad 9), .int (nI i), .int (nI j)] (xS D classes (xT cI cJ cZ cC cG cP) N ad σ)) (va_Ql (fun r σ2 => r = (nI rw).toInt64 * (P i j).toInt64 - (S i).toInt64 * (S j).toInt64 ∧ σ2 = σ) (xS D classes (xT cI cJ cZ cC cG cP) N ad) (xA N ad)) 0 0 (xA N ad) := by
  refine xr_met rfl (Nat.le_of_ble_eq_true rfl) ?_
  intro p e s m args below meth c ls hx hb X hr hlk hl I
  have hl : lv_has ls 3 [(0, .ref (ad 9)), (1, .int (nI i)), (2, .int (nI j))] := hl
  refine lv_aload_n hx hb d_Sums_spreadOf_0 rfl (lv_at hl 0 rfl) ?_
  refine xr_get X I fin_U 9 (by omega) hU rfl 2 (by decide) (List.mem_cons_of_mem _ k_8c6ddb8eb6) rfl rfl d_Sums_spreadOf_1 ?_
  refine lv_i2l hx hb d_Sums_spreadOf_4 rfl ?_
  refine lv_aload_n hx hb d_Sums_spreadOf_5 rfl (lv_at hl 0 rfl) ?_
  refine xr_get X I fin_U 9 (by omega) hU rfl 1 (by decide) (List.mem_cons_of_mem _ k_2bde48038e) rfl rfl d_Sums_spreadOf_6 ?_
  refine lv_iload_n hx hb d_Sums_spreadOf_9 rfl (lv_at hl 1 rfl) ?_
  refine xr_aald X I 11 4 (by omega) (hP).1 rfl rfl (by omega) (by decide) (mx_at (by omega)) d_Sums_spreadOf_10 ?_
  refine lv_iload_n hx hb d_Sums_spreadOf_11 rfl (lv_at hl 2 rfl) ?_
  refine xr_iald X I (12 + i) 0 (by omega) ((hP).2 _ (by omega)) rfl (by omega) (by decide) d_Sums_spreadOf_12 ?_
  refine lv_i2l hx hb d_Sums_spreadOf_13 rfl ?_
  refine lv_lmul hx hb d_Sums_spreadOf_14 ?_
  refine lv_aload_n hx hb d_Sums_spreadOf_15 rfl (lv_at hl 0 rfl) ?_
  refine xr_get X I fin_U 9 (by omega) hU rfl 0 (by decide) (List.mem_cons_of_mem _ k_97ba546b54) rfl rfl d_Sums_spreadOf_16 ?_
  refine lv_iload_n hx hb d_Sums_spreadOf_19 rfl (lv_at hl 1 rfl) ?_
  refine xr_iald X I 10 0 (by omega) hS rfl (by omega) (by decide) d_Sums_spreadOf_20 ?_
  refine lv_i2l hx hb d_Sums_spreadOf_21 rfl ?_
  refine lv_aload_n hx hb d_Sums_spreadOf_22 rfl (lv_at hl 0 rfl) ?_
  refine xr_get X I fin_U 9 (by omega) hU rfl 0 (by decide) (List.mem_cons_of_mem _ k_97ba546b54) rfl rfl d_Sums_spreadOf_23 ?_
  refine lv_iload_n hx hb d_Sums_spreadOf_26 rfl (lv_at hl 2 rfl) ?_
  refine xr_iald X I 10 0 (by omega) hS rfl (by omega) (by decide) d_Sums_spreadOf_27 ?_
  refine lv_i2l hx hb d_Sums_spreadOf_28 rfl ?_
  refine lv_lmul hx hb d_Sums_spreadOf_29 ?_
  refine lv_lsub hx hb d_Sums_spreadOf_30 ?_
  exact xr_lret X I hr hlk ⟨rfl, rfl⟩ d_Sums_spreadOf_31
set_option maxHeartbeats 4000000 in
set_option maxRecDepth 100000 in
theorem c_Sums_clear {l : Launch} {D : va_G} {cI cJ cZ cC cG cP : ClassId} {N : Nat} {ad : Nat → Nat} {σ : Nat → va_E} {rw : Nat} {S : Nat → Int32} {P : Nat → Nat → Int32} (hN : N = 193) (hU : σ 9 = .inr (ciU, [.ref (ad 10), .ref (ad 11), .int (nI rw)])) (hS : σ 10 = .inl (cI, 6, .inl S)) (hP : mat ad cI cG σ 11 12 P) :
    Met l y_Sums_clear v_Sums_clear (xrm 1) (va_Pc [.ref (ad 9)] (xS D classes (xT cI cJ cZ cC cG cP) N ad σ)) (va_Qv (fun σ2 => ∃ (S' : Nat → Int32) (P' : Nat → Nat → Int32), (∀ q, q < 9 ∨ 18 ≤ q → σ2 q = σ q) ∧ σ2 9 = .inr (ciU, [.ref (ad 10), .ref (ad 11), .int (nI 0)]) ∧ σ2 10 = .inl (cI, 6, .inl S') ∧ mat ad cI cG σ2 11 12 P' ∧ (∀ i, i < 6 → S' i = nI 0) ∧ ∀ i j, i < 6 → j < 6 → P' i j = nI 0) (xS D classes (xT cI cJ cZ cC cG cP) N ad) (xA N ad)) 0 0 (xA N ad) := by
  refine xr_met rfl (Nat.le_of_ble_eq_true rfl) ?_
  intro p e s m args below meth c ls hx hb X hr hlk hl I
  have hl : lv_has ls 2 [(0, .ref (ad 9))] := hl
  refine lv_aload_n hx hb d_Sums_clear_0 rfl (lv_at hl 0 rfl) ?_
  refine lv_iconst (v := nI 0) hx hb d_Sums_clear_1 (by decide) ?_
  refine xr_put (ty := .int) X I fin_U t_U t_U_ok n_U 9 (by omega) hU rfl 2 (by decide) (List.mem_cons_of_mem _ k_8c6ddb8eb6) rfl rfl (by decide +kernel) rfl rfl (Nat.le_of_ble_eq_true rfl) d_Sums_clear_2 (fun H locs I => ?_)
  have I : xI D classes N ad s.heap (va_up σ 9 (.inr (ciU, [.ref (ad 10), .ref (ad 11), .int (nI 0)]))) H locs := I
  refine lv_aload_n hx hb d_Sums_clear_5 rfl (lv_at hl 0 rfl) ?_
  refine xr_get X I fin_U 9 (by omega) (va_up_self _ _ _) rfl 0 (by decide) (List.mem_cons_of_mem _ k_97ba546b54) rfl rfl d_Sums_clear_6 ?_
  refine lv_iconst (v := nI 0) hx hb d_Sums_clear_9 (by decide) ?_
  refine xr_callv (xr_runS (kc := 0) (kr := 1) (n := 2) (As := [.ref (ad 10), .int (nI 0)]) (rest := []) X I (c_Arrays_fill2 (a := 10) (v := nI 0) (by omega) ((va_up_ne _ _ (by decide)).trans hS) (by decide)) (xg k_fe7515a6f7) (List.mem_cons_of_mem _ k_e8107a7739) (List.mem_cons_of_mem _ k_09018f8637) (List.mem_cons_of_mem _ k_9b51368402) (by decide +kernel) (by decide) rfl hl.1 rfl (Nat.le_of_ble_eq_true rfl) d_Sums_clear_10) I (fun σ1 H locs hp I => ?_)
  obtain ⟨S1, h9, s1, -⟩ := hp
  have u1 : σ1 9 = .inr (ciU, [.ref (ad 10), .ref (ad 11), .int (nI 0)]) := by rw [h9]; exact (va_up_ne _ _ (by decide)).trans (va_up_self _ _ _)
  have u2 : σ1 10 = .inl (cI, 6, .inl S1) := by rw [h9]; exact va_up_self _ _ _
  have u3 : mat ad cI cG σ1 11 12 P := mat_same hP (by rw [h9]; exact (va_up_ne _ _ (by decide)).trans (va_up_ne _ _ (by decide))) (fun q h1 h2 => by rw [h9]; exact (va_up_ne _ _ (by omega)).trans (va_up_ne _ _ (by omega)))
  have u4 : ∀ q, q < 9 ∨ 18 ≤ q → σ1 q = σ q := fun q hq => by rw [h9]; exact (va_up_ne _ _ (by omega)).trans (va_up_ne _ _ (by omega))
  clear h9
  refine lv_iconst (v := nI 0) hx hb d_Sums_clear_13 (by decide) ?_
  refine lv_istore_n (lv' := [(1, .int (nI 0)), (0, .ref (ad 9))]) hx hb d_Sums_clear_14 rfl hl (by decide) rfl (fun ls hl => ?_)
  have loop : ∀ (q9 : Nat) (k : Nat) (σ2 : Nat → va_E) (P2 : Nat → Nat → Int32) (ls : Array Slot) (H : Heap) (locs : List Loc), k + q9 = 6 → σ2 9 = .inr (ciU, [.ref (ad 10), .ref (ad 11), .int (nI 0)]) → σ2 10 = .inl (cI, 6, .inl S1) → mat ad cI cG σ2 11 12 P2 → (∀ q, q < 9 ∨ 18 ≤ q → σ2 q = σ q) → (∀ i j, i < k → j < 6 → P2 i j = nI 0) → lv_has ls 2 [(1, .int (nI k)), (0, .ref (ad 9))] → xI D classes N ad s.heap (σ2) H locs → W p l e (xrm 1) s m args below meth c H locs 0 0 (MQ below (va_Qv (fun σ2 => ∃ (S' : Nat → Int32) (P' : Nat → Nat → Int32), (∀ q, q < 9 ∨ 18 ≤ q → σ2 q = σ q) ∧ σ2 9 = .inr (ciU, [.ref (ad 10), .ref (ad 11), .int (nI 0)]) ∧ σ2 10 = .inl (cI, 6, .inl S') ∧ mat ad cI cG σ2 11 12 P' ∧ (∀ i, i < 6 → S' i = nI 0) ∧ ∀ i j, i < 6 → j < 6 → P' i j = nI 0) (xS D classes (xT cI cJ cZ cC cG cP) N ad) (xA N ad)) args s 0 0 (xA N ad)) (F0 m 15 ls []) := by
    intro q9
    induction q9 with
    | zero =>
      intro k σ2 P2 ls H locs hk i1 i2 i3 i4 i5 hl I
      obtain rfl : k = 6 := by omega
      refine lv_iload_n hx hb d_Sums_clear_15 rfl (lv_at hl 0 rfl) ?_
      refine lv_bipush (v := nI 6) hx hb d_Sums_clear_16 (by decide) ?_
      refine lv_icmp_ge hx hb d_Sums_clear_18 rfl (fun hc => ?_) (fun hc => ?_)
      · exact xr_vret X I hr hlk ⟨S1, P2, i4, i1, i2, i3, fun i hi => s1 i hi, fun i j hi hj => i5 i j hi hj⟩ d_Sums_clear_37
      · exact absurd (by decide) hc
    | succ q9 ih =>
      intro k σ2 P2 ls H locs hk i1 i2 i3 i4 i5 hl I
      refine lv_iload_n hx hb d_Sums_clear_15 rfl (lv_at hl 0 rfl) ?_
      refine lv_bipush (v := nI 6) hx hb d_Sums_clear_16 (by decide) ?_
      refine lv_icmp_ge hx hb d_Sums_clear_18 rfl (fun hc => ?_) (fun hc => ?_)
      · exact absurd hc (nI_ge (by omega) (by decide))
      · refine lv_aload_n hx hb d_Sums_clear_21 rfl (lv_at hl 1 rfl) ?_
        refine xr_get X I fin_U 9 (by omega) i1 rfl 1 (by decide) (List.mem_cons_of_mem _ k_2bde48038e) rfl rfl d_Sums_clear_22 ?_
        refine lv_iload_n hx hb d_Sums_clear_25 rfl (lv_at hl 0 rfl) ?_
        refine xr_aald X I 11 4 (by omega) (i3).1 rfl rfl (by omega) (by decide) (mx_at (by omega)) d_Sums_clear_26 ?_
        refine lv_iconst (v := nI 0) hx hb d_Sums_clear_27 (by decide) ?_
        refine xr_callv (xr_runS (kc := 0) (kr := 1) (n := 2) (As := [.ref (ad (12 + k)), .int (nI 0)]) (rest := []) X I (c_Arrays_fill2 (σ := σ2) (a := 12 + k) (v := nI 0) (by omega) (i3.2 k (by omega)) (by decide)) (xg k_fe7515a6f7) (List.mem_cons_of_mem _ k_e8107a7739) (List.mem_cons_of_mem _ k_09018f8637) (List.mem_cons_of_mem _ k_9b51368402) (by decide +kernel) (by decide) rfl hl.1 rfl (Nat.le_of_ble_eq_true rfl) d_Sums_clear_28) I (fun σ3 H locs hp I => ?_)
        obtain ⟨f2, rfl, f3, -⟩ := hp
        refine lv_iinc (k := 0) (v := nI (k + 1)) (lv' := [(1, .int (nI (k + 1))), (0, .ref (ad 9))]) hx hb d_Sums_clear_31 hl rfl (nI_1 k) (by decide) rfl (fun ls hl => ?_)
        refine lv_goto hx hb d_Sums_clear_34 rfl ?_
        refine ih (k + 1) _ _ ls H locs (by omega) ((va_up_ne _ _ (by omega)).trans i1) ((va_up_ne _ _ (by omega)).trans i2) (mat_row i3 (by omega) (by omega) f2) (fun q hq => (va_up_ne _ _ (by omega)).trans (i4 q hq)) (fun i j hi hj => ?_) hl I
        by_cases e9 : i = k
        · rw [e9, va_up_self]; exact f3 j hj
        · rw [va_up_ne _ _ e9]; exact i5 i j (by omega) hj
  exact loop 6 0 σ1 P ls _ _ (by omega) u1 u2 u3 u4 (fun i j hi => absurd hi (Nat.not_lt_zero _)) hl I
set_option maxHeartbeats 4000000 in
set_option maxRecDepth 100000 in
theorem c_Sums_take {l : Launch} {D : va_G} {cI cJ cZ cC cG cP : ClassId} {N : Nat} {ad : Nat → Nat} {σ : Nat → va_E} {rw : Nat} {S : Nat → Int32} {P : Nat → Nat → Int32} (hN : N = 193) (hU : σ 9 = .inr (ciU, [.ref (ad 10), .ref (ad 11), .int (nI rw)])) (hS : σ 10 = .inl (cI, 6, .inl S)) (hP : mat ad cI cG σ 11 12 P) {n : Nat} {g : Nat → Int32} (hn : n ≤ 6) (hg : σ 8 = .inl (cI, 6, .inl g)) :
    Met l y_Sums_take v_Sums_take (xrm 0) (va_Pc [.ref (ad 9), .ref (ad 8), .int (nI n)] (xS D classes (xT cI cJ cZ cC cG cP) N ad σ)) (va_Qv (fun σ2 => ∃ (S' : Nat → Int32) (P' : Nat → Nat → Int32), (∀ q, q < 9 ∨ 18 ≤ q → σ2 q = σ q) ∧ σ2 9 = .inr (ciU, [.ref (ad 10), .ref (ad 11), .int (nI (rw + 1))]) ∧ σ2 10 = .inl (cI, 6, .inl S') ∧ mat ad cI cG σ2 11 12 P' ∧ (∀ i, S' i = if i < n then S i + g i else S i) ∧ ∀ i j, i < 6 → P' i j = if i < n ∧ j < n then P i j + g i * g j else P i j) (xS D classes (xT cI cJ cZ cC cG cP) N ad) (xA N ad)) 0 0 (xA N ad) := by
  refine xr_met rfl (Nat.le_of_ble_eq_true rfl) ?_
  intro p e s m args below meth c ls hx hb X hr hlk hl I
  have hl : lv_has ls 5 [(0, .ref (ad 9)), (1, .ref (ad 8)), (2, .int (nI n))] := hl
  refine lv_aload_n hx hb d_Sums_take_0 rfl (lv_at hl 0 rfl) ?_
  refine lv_dup hx hb d_Sums_take_1 rfl ?_
  refine xr_get X I fin_U 9 (by omega) hU rfl 2 (by decide) (List.mem_cons_of_mem _ k_8c6ddb8eb6) rfl rfl d_Sums_take_2 ?_
  refine lv_iconst (v := nI 1) hx hb d_Sums_take_5 (by decide) ?_
  refine lv_iadd hx hb d_Sums_take_6 (xr_topi (y := nI (rw + 1)) (nI_add rw 1) ?_)
  refine xr_put (ty := .int) X I fin_U t_U t_U_ok n_U 9 (by omega) hU rfl 2 (by decide) (List.mem_cons_of_mem _ k_8c6ddb8eb6) rfl rfl (by decide +kernel) rfl rfl (Nat.le_of_ble_eq_true rfl) d_Sums_take_7 (fun H locs I => ?_)
  have I : xI D classes N ad s.heap (va_up σ 9 (.inr (ciU, [.ref (ad 10), .ref (ad 11), .int (nI (rw + 1))]))) H locs := I
  refine lv_iconst (v := nI 0) hx hb d_Sums_take_10 (by decide) ?_
  refine lv_istore_n (lv' := [(3, .int (nI 0)), (0, .ref (ad 9)), (1, .ref (ad 8)), (2, .int (nI n))]) hx hb d_Sums_take_11 rfl hl (by decide) rfl (fun ls hl => ?_)
  have outer : ∀ (q9 : Nat) (i : Nat) (σ2 : Nat → va_E) (S2 : Nat → Int32) (P2 : Nat → Nat → Int32) (ls : Array Slot) (H : Heap) (locs : List Loc), i + q9 = n → σ2 9 = .inr (ciU, [.ref (ad 10), .ref (ad 11), .int (nI (rw + 1))]) → σ2 10 = .inl (cI, 6, .inl S2) → mat ad cI cG σ2 11 12 P2 → (∀ q, q < 9 ∨ 18 ≤ q → σ2 q = σ q) → (∀ q, S2 q = if q < i then S q + g q else S q) → (∀ a b, a < 6 → P2 a b = if (a < i ∧ b < n) ∨ (a = i ∧ b < 0) then P a b + g a * g b else P a b) → lv_has ls 5 [(3, .int (nI i)), (0, .ref (ad 9)), (1, .ref (ad 8)), (2, .int (nI n))] → xI D classes N ad s.heap (σ2) H locs → W p l e (xrm 0) s m args below meth c H locs 0 0 (MQ below (va_Qv (fun σ2 => ∃ (S' : Nat → Int32) (P' : Nat → Nat → Int32), (∀ q, q < 9 ∨ 18 ≤ q → σ2 q = σ q) ∧ σ2 9 = .inr (ciU, [.ref (ad 10), .ref (ad 11), .int (nI (rw + 1))]) ∧ σ2 10 = .inl (cI, 6, .inl S') ∧ mat ad cI cG σ2 11 12 P' ∧ (∀ i, S' i = if i < n then S i + g i else S i) ∧ ∀ i j, i < 6 → P' i j = if i < n ∧ j < n then P i j + g i * g j else P i j) (xS D classes (xT cI cJ cZ cC cG cP) N ad) (xA N ad)) args s 0 0 (xA N ad)) (F0 m 12 ls []) := by
    intro q9
    induction q9 with
    | zero =>
      intro i σ2 S2 P2 ls H locs hk i1 i2 i3 i4 i5 i6 hl I
      obtain rfl : i = n := by omega
      refine lv_iload_n hx hb d_Sums_take_12 rfl (lv_at hl 0 rfl) ?_
      refine lv_iload_n hx hb d_Sums_take_13 rfl (lv_at hl 3 rfl) ?_
      refine lv_icmp_ge hx hb d_Sums_take_14 rfl (fun hc => ?_) (fun hc => ?_)
      · refine xr_vret X I hr hlk ⟨S2, P2, i4, i1, i2, i3, i5, fun a b ha => ?_⟩ d_Sums_take_70
        rw [i6 a b ha]
        by_cases h : a < i ∧ b < i
        · rw [if_pos h, if_pos (Or.inl h)]
        · rw [if_neg h, if_neg (by omega)]
      · exact absurd (nI_le (Nat.le_refl _) (by omega)) hc
    | succ q9 ih =>
      intro i σ2 S2 P2 ls H locs hk i1 i2 i3 i4 i5 i6 hl I
      refine lv_iload_n hx hb d_Sums_take_12 rfl (lv_at hl 0 rfl) ?_
      refine lv_iload_n hx hb d_Sums_take_13 rfl (lv_at hl 3 rfl) ?_
      refine lv_icmp_ge hx hb d_Sums_take_14 rfl (fun hc => ?_) (fun hc => ?_)
      · exact absurd hc (nI_ge (by omega) (by omega))
      · refine lv_aload_n hx hb d_Sums_take_17 rfl (lv_at hl 1 rfl) ?_
        refine xr_get X I fin_U 9 (by omega) i1 rfl 0 (by decide) (List.mem_cons_of_mem _ k_97ba546b54) rfl rfl d_Sums_take_18 ?_
        refine lv_iload_n hx hb d_Sums_take_21 rfl (lv_at hl 0 rfl) ?_
        refine lv_dup2_11 hx hb d_Sums_take_22 rfl rfl ?_
        refine xr_iald X I 10 0 (by omega) i2 rfl (by omega) (by decide) d_Sums_take_23 ?_
        refine lv_aload_n hx hb d_Sums_take_24 rfl (lv_at hl 2 rfl) ?_
        refine lv_iload_n hx hb d_Sums_take_25 rfl (lv_at hl 0 rfl) ?_
        refine xr_iald X I 8 0 (by omega) ((i4 8 (by omega)).trans hg) rfl (by omega) (by decide) d_Sums_take_26 ?_
        refine lv_iadd hx hb d_Sums_take_27 ?_
        have e5 : S2 i + g i = S i + g i := by rw [i5 i, if_neg (Nat.lt_irrefl _)]
        refine xr_topi (y := S i + g i) e5 ?_
        refine xr_iast X I 10 0 (by omega) i2 rfl (by omega) (by decide) d_Sums_take_28 (fun H locs I => ?_)
        refine lv_iconst (v := nI 0) hx hb d_Sums_take_29 (by decide) ?_
        refine lv_istore (lv' := [(4, .int (nI 0)), (3, .int (nI i)), (0, .ref (ad 9)), (1, .ref (ad 8)), (2, .int (nI n))]) hx hb d_Sums_take_30 hl (by decide) rfl (fun ls hl => ?_)
        have inner : ∀ (r9 : Nat) (j : Nat) (σ2 : Nat → va_E) (S2 : Nat → Int32) (P2 : Nat → Nat → Int32) (ls : Array Slot) (H : Heap) (locs : List Loc), j + r9 = n → σ2 9 = .inr (ciU, [.ref (ad 10), .ref (ad 11), .int (nI (rw + 1))]) → σ2 10 = .inl (cI, 6, .inl S2) → mat ad cI cG σ2 11 12 P2 → (∀ q, q < 9 ∨ 18 ≤ q → σ2 q = σ q) → (∀ q, S2 q = if q < i + 1 then S q + g q else S q) → (∀ a b, a < 6 → P2 a b = if (a < i ∧ b < n) ∨ (a = i ∧ b < j) then P a b + g a * g b else P a b) → lv_has ls 5 [(4, .int (nI j)), (3, .int (nI i)), (0, .ref (ad 9)), (1, .ref (ad 8)), (2, .int (nI n))] → xI D classes N ad s.heap (σ2) H locs → W p l e (xrm 0) s m args below meth c H locs 0 0 (MQ below (va_Qv (fun σ2 => ∃ (S' : Nat → Int32) (P' : Nat → Nat → Int32), (∀ q, q < 9 ∨ 18 ≤ q → σ2 q = σ q) ∧ σ2 9 = .inr (ciU, [.ref (ad 10), .ref (ad 11), .int (nI (rw + 1))]) ∧ σ2 10 = .inl (cI, 6, .inl S') ∧ mat ad cI cG σ2 11 12 P' ∧ (∀ i, S' i = if i < n then S i + g i else S i) ∧ ∀ i j, i < 6 → P' i j = if i < n ∧ j < n then P i j + g i * g j else P i j) (xS D classes (xT cI cJ cZ cC cG cP) N ad) (xA N ad)) args s 0 0 (xA N ad)) (F0 m 32 ls []) := by
          intro r9
          induction r9 with
          | zero =>
            intro j σ2 S2 P2 ls H locs hj i1 i2 i3 i4 i5 i6 hl I
            obtain rfl : j = n := by omega
            refine lv_iload hx hb d_Sums_take_32 (lv_at hl 0 rfl) ?_
            refine lv_iload_n hx hb d_Sums_take_34 rfl (lv_at hl 4 rfl) ?_
            refine lv_icmp_ge hx hb d_Sums_take_35 rfl (fun hc => ?_) (fun hc => ?_)
            · refine lv_iinc (k := 1) (v := nI (i + 1)) (lv' := [(3, .int (nI (i + 1))), (4, .int (nI j)), (0, .ref (ad 9)), (1, .ref (ad 8)), (2, .int (nI j))]) hx hb d_Sums_take_64 hl rfl (nI_1 i) (by decide) rfl (fun ls hl => ?_)
              refine lv_goto hx hb d_Sums_take_67 rfl ?_
              have hl := lv_sub hl [0, 2, 3, 4] rfl
              have hl : lv_has ls 5 [(3, .int (nI (i + 1))), (0, .ref (ad 9)), (1, .ref (ad 8)), (2, .int (nI j))] := hl
              refine ih (i + 1) σ2 S2 P2 ls H locs (by omega) i1 i2 i3 i4 i5 (fun a b ha => ?_) hl I
              rw [i6 a b ha]
              by_cases h : (a < i ∧ b < j) ∨ (a = i ∧ b < j)
              · rw [if_pos h, if_pos (by omega)]
              · rw [if_neg h, if_neg (by omega)]
            · exact absurd (nI_le (Nat.le_refl _) (by omega)) hc
          | succ r9 jh =>
            intro j σ2 S2 P2 ls H locs hj i1 i2 i3 i4 i5 i6 hl I
            refine lv_iload hx hb d_Sums_take_32 (lv_at hl 0 rfl) ?_
            refine lv_iload_n hx hb d_Sums_take_34 rfl (lv_at hl 4 rfl) ?_
            refine lv_icmp_ge hx hb d_Sums_take_35 rfl (fun hc => ?_) (fun hc => ?_)
            · exact absurd hc (nI_ge (by omega) (by omega))
            · refine lv_aload_n hx hb d_Sums_take_38 rfl (lv_at hl 2 rfl) ?_
              refine xr_get X I fin_U 9 (by omega) i1 rfl 1 (by decide) (List.mem_cons_of_mem _ k_2bde48038e) rfl rfl d_Sums_take_39 ?_
              refine lv_iload_n hx hb d_Sums_take_42 rfl (lv_at hl 1 rfl) ?_
              refine xr_aald X I 11 4 (by omega) (i3).1 rfl rfl (by omega) (by decide) (mx_at (by omega)) d_Sums_take_43 ?_
              refine lv_iload hx hb d_Sums_take_44 (lv_at hl 0 rfl) ?_
              refine lv_dup2_11 hx hb d_Sums_take_46 rfl rfl ?_
              refine xr_iald X I (12 + i) 0 (by omega) ((i3).2 _ (by omega)) rfl (by omega) (by decide) d_Sums_take_47 ?_
              refine lv_aload_n hx hb d_Sums_take_48 rfl (lv_at hl 3 rfl) ?_
              refine lv_iload_n hx hb d_Sums_take_49 rfl (lv_at hl 1 rfl) ?_
              refine xr_iald X I 8 0 (by omega) ((i4 8 (by omega)).trans hg) rfl (by omega) (by decide) d_Sums_take_50 ?_
              refine lv_aload_n hx hb d_Sums_take_51 rfl (lv_at hl 3 rfl) ?_
              refine lv_iload hx hb d_Sums_take_52 (lv_at hl 0 rfl) ?_
              refine xr_iald X I 8 0 (by omega) ((i4 8 (by omega)).trans hg) rfl (by omega) (by decide) d_Sums_take_54 ?_
              refine lv_imul hx hb d_Sums_take_55 ?_
              refine lv_iadd hx hb d_Sums_take_56 ?_
              have e6 : P2 i j + g i * g j = P i j + g i * g j := by rw [i6 i j (by omega), if_neg (by omega)]
              refine xr_topi (y := P i j + g i * g j) e6 ?_
              refine xr_iast X I (12 + i) 0 (by omega) (i3.2 i (by omega)) rfl (by omega) (by decide) d_Sums_take_57 (fun H locs I => ?_)
              refine lv_iinc (k := 0) (v := nI (j + 1)) (lv' := [(4, .int (nI (j + 1))), (3, .int (nI i)), (0, .ref (ad 9)), (1, .ref (ad 8)), (2, .int (nI n))]) hx hb d_Sums_take_58 hl rfl (nI_1 j) (by decide) rfl (fun ls hl => ?_)
              refine lv_goto hx hb d_Sums_take_61 rfl ?_
              refine jh (j + 1) _ S2 _ ls H locs (by omega) ((va_up_ne _ _ (by omega)).trans i1) ((va_up_ne _ _ (by omega)).trans i2) (mat_row i3 (by omega) (by omega) _) (fun q hq => (va_up_ne _ _ (by omega)).trans (i4 q hq)) i5 (fun a b ha => ?_) hl I
              by_cases ea : a = i
              · rw [ea, va_up_self]
                by_cases eb : b = j
                · rw [eb, upd_s, if_pos (by omega)]
                · rw [upd_n eb, i6 i b (by omega)]
                  by_cases h : (i < i ∧ b < n) ∨ (i = i ∧ b < j)
                  · rw [if_pos h, if_pos (by omega)]
                  · rw [if_neg h, if_neg (by omega)]
              · rw [va_up_ne _ _ ea, i6 a b ha]
                by_cases h : (a < i ∧ b < n) ∨ (a = i ∧ b < j)
                · rw [if_pos h, if_pos (by omega)]
                · rw [if_neg h, if_neg (by omega)]
        refine inner n 0 _ _ P2 ls _ _ (by omega) ((va_up_ne _ _ (by decide)).trans i1) (va_up_self _ _ _) (mat_same i3 (va_up_ne _ _ (by decide)) (fun q h1 h2 => va_up_ne _ _ (by omega))) (fun q hq => (va_up_ne _ _ (by omega)).trans (i4 q hq)) (fun q => ?_) (fun a b ha => ?_) hl I
        · by_cases e9 : q = i
          · rw [e9, upd_s, if_pos (Nat.lt_succ_self _)]
          · rw [upd_n e9, i5 q]
            by_cases h : q < i
            · rw [if_pos h, if_pos (by omega)]
            · rw [if_neg h, if_neg (by omega)]
        · rw [i6 a b ha]
  exact outer n 0 _ S P ls _ _ (by omega) (va_up_self _ _ _) ((va_up_ne _ _ (by decide)).trans hS) (mat_same hP (va_up_ne _ _ (by decide)) (fun q h1 h2 => va_up_ne _ _ (by omega))) (fun q hq => va_up_ne _ _ (by omega)) (fun q => by rw [if_neg (Nat.not_lt_zero _)]) (fun a b ha => by rw [if_neg (by omega)]) hl I
set_option maxHeartbeats 4000000 in
set_option maxRecDepth 100000 in
theorem c_Limbs_takeLastDigit {l : Launch} {D : va_G} {cI cJ cZ cC cG cP : ClassId} {N : Nat} {ad : Nat → Nat} {σ : Nat → va_E} {a La : Nat} {f : Nat → Int32} (hNa : a < N) (hσa : σ a = .inl (cI, La, .inl f)) (hLa : La < 2 ^ 31) (hok : lm_ok f La) :
    Met l y_Limbs_takeLastDigit v_Limbs_takeLastDigit (xrm 0) (va_Pc [.ref (ad a)] (xS D classes (xT cI cJ cZ cC cG cP) N ad σ)) (va_Qi (fun r σ2 => ∃ f' : Nat → Int32, r = nI (lm_u f La % 10).toNat ∧ σ2 = va_up σ a (.inl (cI, La, .inl f')) ∧ lm_ok f' La ∧ lm_u f' La = lm_u f La / 10) (xS D classes (xT cI cJ cZ cC cG cP) N ad) (xA N ad)) 0 0 (xA N ad) := by
  refine xr_met rfl (Nat.le_of_ble_eq_true rfl) ?_
  intro p e s m args below meth c ls hx hb X hr hlk hl I
  have hl : lv_has ls 4 [(0, .ref (ad a))] := hl
  refine lv_lconst (v := lN 0) hx hb d_Limbs_takeLastDigit_0 (by decide) ?_
  refine lv_lstore_n (lv' := [(1, .long (lN 0)), (0, .ref (ad a))]) hx hb d_Limbs_takeLastDigit_1 rfl hl (by decide) rfl (fun ls hl => ?_)
  refine lv_aload_n hx hb d_Limbs_takeLastDigit_2 rfl (lv_at hl 1 rfl) ?_
  refine xr_alen X I a 0 hNa hσa rfl d_Limbs_takeLastDigit_3 ?_
  refine lv_iconst (v := nI 1) hx hb d_Limbs_takeLastDigit_4 (by decide) ?_
  refine lv_isub hx hb d_Limbs_takeLastDigit_5 ?_
  refine xr_topi (y := nP La) rfl ?_
  refine lv_istore_n (lv' := [(3, .int (nP La)), (1, .long (lN 0)), (0, .ref (ad a))]) hx hb d_Limbs_takeLastDigit_6 rfl hl (by decide) rfl (fun ls hl => ?_)
  have loop : ∀ (k : Nat) (lf : Nat) (f2 : Nat → Int32) (ls : Array Slot) (H : Heap) (locs : List Loc), k ≤ La → lf < 10 → (∀ j, j < k → f2 j = f j) → lm_ok f2 La → lm_u f La = (lm_u f2 La - lm_u f k) * 10 + lm_u f k + (lf : Int) * 1073741824 ^ k → lv_has ls 4 [(3, .int (nP k)), (1, .long (lN lf)), (0, .ref (ad a))] → xI D classes N ad s.heap (va_up σ a (.inl (cI, La, .inl f2))) H locs → W p l e (xrm 0) s m args below meth c H locs 0 0 (MQ below (va_Qi (fun r σ2 => ∃ f' : Nat → Int32, r = nI (lm_u f La % 10).toNat ∧ σ2 = va_up σ a (.inl (cI, La, .inl f')) ∧ lm_ok f' La ∧ lm_u f' La = lm_u f La / 10) (xS D classes (xT cI cJ cZ cC cG cP) N ad) (xA N ad)) args s 0 0 (xA N ad)) (F0 m 7 ls []) := by
    intro k
    induction k with
    | zero =>
      intro lf f2 ls H locs hk hlf hlow hok2 inv hl I
      refine lv_iload_n hx hb d_Limbs_takeLastDigit_7 rfl (lv_at hl 0 rfl) ?_
      refine lv_if_lt hx hb d_Limbs_takeLastDigit_8 rfl (fun hc => ?_) (fun hc => ?_)
      · refine lv_lload_n hx hb d_Limbs_takeLastDigit_42 rfl (lv_at hl 1 rfl) ?_
        refine lv_l2i hx hb d_Limbs_takeLastDigit_43 (q_l2iN (by omega)) ?_
        have hall : lm_u f La = lm_u f2 La * 10 + (lf : Int) := by simp [lm_u] at inv; omega
        exact xr_iret X I hr hlk ⟨f2, by congr 1; omega, rfl, hok2, by omega⟩ d_Limbs_takeLastDigit_44
      · exact absurd nP_0 hc
    | succ k ih =>
      intro lf f2 ls H locs hk hlf hlow hok2 inv hl I
      refine lv_iload_n hx hb d_Limbs_takeLastDigit_7 rfl (lv_at hl 0 rfl) ?_
      refine xr_topi (y := nI k) (nP_succ k) ?_
      refine lv_if_lt hx hb d_Limbs_takeLastDigit_8 rfl (fun hc => ?_) (fun hc => ?_)
      · exact absurd hc (nI_pos (by omega))
      · obtain ⟨x, x1, x2, x3⟩ := lm_nat hok (show k < La by omega)
        refine lv_lload_n hx hb d_Limbs_takeLastDigit_11 rfl (lv_at hl 1 rfl) ?_
        refine lv_bipush (v := nI 30) hx hb d_Limbs_takeLastDigit_12 (by decide) ?_
        refine lv_lshl hx hb d_Limbs_takeLastDigit_14 rfl ?_
        refine xr_topl (y := lN (lf * 2 ^ 30)) (wb_shl lf (k := 30) (by decide)) ?_
        refine lv_aload_n hx hb d_Limbs_takeLastDigit_15 rfl (lv_at hl 2 rfl) ?_
        refine lv_iload_n hx hb d_Limbs_takeLastDigit_16 rfl (lv_at hl 0 rfl) ?_
        refine xr_topi (y := nI k) (nP_succ k) ?_
        refine xr_iald X I a 0 hNa (va_up_self _ _ _) rfl (by omega) hLa d_Limbs_takeLastDigit_17 ?_
        refine xr_topi (y := nI x) ((hlow k (by omega)).trans x2) ?_
        refine lv_i2l hx hb d_Limbs_takeLastDigit_18 (nI_l (by omega)) ?_
        refine lv_lor hx hb d_Limbs_takeLastDigit_19 ?_
        refine xr_topl (y := lN (lf * 1073741824 + x)) (q_or30 x1) ?_
        refine lv_lstore_n (lv' := [(1, .long (lN (lf * 1073741824 + x))), (3, .int (nP (k + 1))), (0, .ref (ad a))]) hx hb d_Limbs_takeLastDigit_20 rfl hl (by decide) rfl (fun ls hl => ?_)
        refine lv_aload_n hx hb d_Limbs_takeLastDigit_21 rfl (lv_at hl 2 rfl) ?_
        refine lv_iload_n hx hb d_Limbs_takeLastDigit_22 rfl (lv_at hl 1 rfl) ?_
        have hk9 : nP (k + 1) = nI k := nP_succ k
        rw [hk9]
        refine lv_lload_n hx hb d_Limbs_takeLastDigit_23 rfl (lv_at hl 0 rfl) ?_
        refine lv_ldc2 (v := 10) hx hb X.1.2.2.2.1 (X.1.2.2.2.2 _ (List.mem_cons_of_mem _ k_9100ce256e)) d_Limbs_takeLastDigit_24 ?_
        refine xr_topl (y := lN 10) (by decide +kernel) ?_
        refine lv_ldiv hx hb d_Limbs_takeLastDigit_27 (by decide) ?_
        refine xr_topl (y := lN ((lf * 1073741824 + x) / 10)) (pk_lDiv (by omega) (by decide) (by decide)) ?_
        refine lv_l2i hx hb d_Limbs_takeLastDigit_28 (q_l2iN (by omega)) ?_
        refine xr_iast X I a 0 hNa (va_up_self _ _ _) rfl (by omega) hLa d_Limbs_takeLastDigit_29 (fun H locs I => ?_)
        rw [va_up_up] at I
        refine lv_lload_n hx hb d_Limbs_takeLastDigit_30 rfl (lv_at hl 0 rfl) ?_
        refine lv_ldc2 (v := 10) hx hb X.1.2.2.2.1 (X.1.2.2.2.2 _ (List.mem_cons_of_mem _ k_9100ce256e)) d_Limbs_takeLastDigit_31 ?_
        refine xr_topl (y := lN 10) (by decide +kernel) ?_
        refine lv_lrem hx hb d_Limbs_takeLastDigit_34 (by decide) ?_
        refine xr_topl (y := lN ((lf * 1073741824 + x) % 10)) (pk_lRem (by omega) (by decide) (by decide)) ?_
        refine lv_lstore_n (lv' := [(1, .long (lN ((lf * 1073741824 + x) % 10))), (3, .int (nP (k + 1))), (0, .ref (ad a))]) hx hb d_Limbs_takeLastDigit_35 rfl hl (by decide) rfl (fun ls hl => ?_)
        refine lv_iinc (k := 1) (v := nP k) (lv' := [(3, .int (nP k)), (1, .long (lN ((lf * 1073741824 + x) % 10))), (0, .ref (ad a))]) hx hb d_Limbs_takeLastDigit_36 hl rfl (nP_dec k) (by decide) rfl (fun ls hl => ?_)
        refine lv_goto hx hb d_Limbs_takeLastDigit_39 rfl ?_
        refine ih ((lf * 1073741824 + x) % 10) _ ls H locs (by omega) (by omega) (fun j hj => (upd_n (by omega)).trans (hlow j (by omega))) (lm_ok_upd hok2 (by rw [nI_toInt (by omega)]; omega)) ?_ hl I
        rw [lm_u_set (show k < La by omega), nI_toInt (by omega), hlow k (by omega), x3]
        have e1 : lm_u f (k + 1) = lm_u f k + (x : Int) * 1073741824 ^ k := by rw [lm_u, x3]
        rw [e1] at inv
        have e2 : (((lf * 1073741824 + x) / 10 : Nat) : Int) * 10 + (((lf * 1073741824 + x) % 10 : Nat) : Int) = (lf : Int) * 1073741824 + x := by omega
        rw [Int.pow_succ] at inv
        generalize (((lf * 1073741824 + x) / 10 : Nat) : Int) = q9 at *
        generalize (((lf * 1073741824 + x) % 10 : Nat) : Int) = r9 at *
        grind
  exact loop La 0 f ls _ _ (Nat.le_refl _) (by decide) (fun _ _ => rfl) hok (by simp) hl (by rw [va_up_same hσa]; exact I)
