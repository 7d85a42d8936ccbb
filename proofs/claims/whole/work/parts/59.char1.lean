/-! the reference: characterize, bigTenth (written by wip/gen) -/
abbrev b_SpectrumDeskModel_characterize : ByteArray := prog_10_method_34_code
abbrev y_SpectrumDeskModel_characterize : MethodName := ⟨"SpectrumDeskModel", "characterize", "(II)V"⟩
abbrev v_SpectrumDeskModel_characterize : List Cond := Cond.code y_SpectrumDeskModel_characterize b_SpectrumDeskModel_characterize 5 none :: AW
theorem d_SpectrumDeskModel_characterize_0 : decode b_SpectrumDeskModel_characterize 0 = .ok (.aload_n 0, 1) := by decide +kernel
theorem d_SpectrumDeskModel_characterize_1 : decode b_SpectrumDeskModel_characterize 1 = .ok (.getfield 46, 3) := by decide +kernel
theorem d_SpectrumDeskModel_characterize_4 : decode b_SpectrumDeskModel_characterize 4 = .ok (.iload_n 2, 1) := by decide +kernel
theorem d_SpectrumDeskModel_characterize_5 : decode b_SpectrumDeskModel_characterize 5 = .ok (.bipush (8), 2) := by decide +kernel
theorem d_SpectrumDeskModel_characterize_7 : decode b_SpectrumDeskModel_characterize 7 = .ok (.idiv, 1) := by decide +kernel
theorem d_SpectrumDeskModel_characterize_8 : decode b_SpectrumDeskModel_characterize 8 = .ok (.iload_n 1, 1) := by decide +kernel
theorem d_SpectrumDeskModel_characterize_9 : decode b_SpectrumDeskModel_characterize 9 = .ok (.iastore, 1) := by decide +kernel
theorem d_SpectrumDeskModel_characterize_10 : decode b_SpectrumDeskModel_characterize 10 = .ok (.iconst 0, 1) := by decide +kernel
theorem d_SpectrumDeskModel_characterize_11 : decode b_SpectrumDeskModel_characterize 11 = .ok (.istore_n 3, 1) := by decide +kernel
theorem d_SpectrumDeskModel_characterize_12 : decode b_SpectrumDeskModel_characterize 12 = .ok (.iload_n 3, 1) := by decide +kernel
theorem d_SpectrumDeskModel_characterize_13 : decode b_SpectrumDeskModel_characterize 13 = .ok (.iload_n 1, 1) := by decide +kernel
theorem d_SpectrumDeskModel_characterize_14 : decode b_SpectrumDeskModel_characterize 14 = .ok (.if_icmp .gt (17), 3) := by decide +kernel
theorem d_SpectrumDeskModel_characterize_17 : decode b_SpectrumDeskModel_characterize 17 = .ok (.aload_n 0, 1) := by decide +kernel
theorem d_SpectrumDeskModel_characterize_18 : decode b_SpectrumDeskModel_characterize 18 = .ok (.iload_n 2, 1) := by decide +kernel
theorem d_SpectrumDeskModel_characterize_19 : decode b_SpectrumDeskModel_characterize 19 = .ok (.iload_n 3, 1) := by decide +kernel
theorem d_SpectrumDeskModel_characterize_20 : decode b_SpectrumDeskModel_characterize 20 = .ok (.iadd, 1) := by decide +kernel
theorem d_SpectrumDeskModel_characterize_21 : decode b_SpectrumDeskModel_characterize 21 = .ok (.lconst 0, 1) := by decide +kernel
theorem d_SpectrumDeskModel_characterize_22 : decode b_SpectrumDeskModel_characterize 22 = .ok (.invokevirtual 104, 3) := by decide +kernel
theorem d_SpectrumDeskModel_characterize_25 : decode b_SpectrumDeskModel_characterize 25 = .ok (.iinc 3 (1), 3) := by decide +kernel
theorem d_SpectrumDeskModel_characterize_28 : decode b_SpectrumDeskModel_characterize 28 = .ok (.goto (-16), 3) := by decide +kernel
theorem d_SpectrumDeskModel_characterize_31 : decode b_SpectrumDeskModel_characterize 31 = .ok (.iconst 0, 1) := by decide +kernel
theorem d_SpectrumDeskModel_characterize_32 : decode b_SpectrumDeskModel_characterize 32 = .ok (.istore_n 3, 1) := by decide +kernel
theorem d_SpectrumDeskModel_characterize_33 : decode b_SpectrumDeskModel_characterize 33 = .ok (.iload_n 3, 1) := by decide +kernel
theorem d_SpectrumDeskModel_characterize_34 : decode b_SpectrumDeskModel_characterize 34 = .ok (.iconst 1, 1) := by decide +kernel
theorem d_SpectrumDeskModel_characterize_35 : decode b_SpectrumDeskModel_characterize 35 = .ok (.iload_n 1, 1) := by decide +kernel
theorem d_SpectrumDeskModel_characterize_36 : decode b_SpectrumDeskModel_characterize 36 = .ok (.ishl, 1) := by decide +kernel
theorem d_SpectrumDeskModel_characterize_37 : decode b_SpectrumDeskModel_characterize 37 = .ok (.if_icmp .ge (47), 3) := by decide +kernel
theorem d_SpectrumDeskModel_characterize_40 : decode b_SpectrumDeskModel_characterize 40 = .ok (.aload_n 0, 1) := by decide +kernel
theorem d_SpectrumDeskModel_characterize_41 : decode b_SpectrumDeskModel_characterize 41 = .ok (.iload_n 3, 1) := by decide +kernel
theorem d_SpectrumDeskModel_characterize_42 : decode b_SpectrumDeskModel_characterize 42 = .ok (.invokevirtual 118, 3) := by decide +kernel
theorem d_SpectrumDeskModel_characterize_45 : decode b_SpectrumDeskModel_characterize 45 = .ok (.iload_n 3, 1) := by decide +kernel
theorem d_SpectrumDeskModel_characterize_46 : decode b_SpectrumDeskModel_characterize 46 = .ok (.invokestatic 101, 3) := by decide +kernel
theorem d_SpectrumDeskModel_characterize_49 : decode b_SpectrumDeskModel_characterize 49 = .ok (.istore 4, 2) := by decide +kernel
theorem d_SpectrumDeskModel_characterize_51 : decode b_SpectrumDeskModel_characterize 51 = .ok (.aload_n 0, 1) := by decide +kernel
theorem d_SpectrumDeskModel_characterize_52 : decode b_SpectrumDeskModel_characterize 52 = .ok (.iload_n 2, 1) := by decide +kernel
theorem d_SpectrumDeskModel_characterize_53 : decode b_SpectrumDeskModel_characterize 53 = .ok (.iload_n 1, 1) := by decide +kernel
theorem d_SpectrumDeskModel_characterize_54 : decode b_SpectrumDeskModel_characterize 54 = .ok (.iadd, 1) := by decide +kernel
theorem d_SpectrumDeskModel_characterize_55 : decode b_SpectrumDeskModel_characterize 55 = .ok (.iload 4, 2) := by decide +kernel
theorem d_SpectrumDeskModel_characterize_57 : decode b_SpectrumDeskModel_characterize 57 = .ok (.isub, 1) := by decide +kernel
theorem d_SpectrumDeskModel_characterize_58 : decode b_SpectrumDeskModel_characterize 58 = .ok (.bipush (40), 2) := by decide +kernel
theorem d_SpectrumDeskModel_characterize_60 : decode b_SpectrumDeskModel_characterize 60 = .ok (.iload_n 3, 1) := by decide +kernel
theorem d_SpectrumDeskModel_characterize_61 : decode b_SpectrumDeskModel_characterize 61 = .ok (.iadd, 1) := by decide +kernel
theorem d_SpectrumDeskModel_characterize_62 : decode b_SpectrumDeskModel_characterize 62 = .ok (.iload 4, 2) := by decide +kernel
theorem d_SpectrumDeskModel_characterize_64 : decode b_SpectrumDeskModel_characterize 64 = .ok (.iconst 2, 1) := by decide +kernel
theorem d_SpectrumDeskModel_characterize_65 : decode b_SpectrumDeskModel_characterize 65 = .ok (.irem, 1) := by decide +kernel
theorem d_SpectrumDeskModel_characterize_66 : decode b_SpectrumDeskModel_characterize 66 = .ok (.iconst 1, 1) := by decide +kernel
theorem d_SpectrumDeskModel_characterize_67 : decode b_SpectrumDeskModel_characterize 67 = .ok (.if_icmp .ne (7), 3) := by decide +kernel
theorem d_SpectrumDeskModel_characterize_70 : decode b_SpectrumDeskModel_characterize 70 = .ok (.iconst 1, 1) := by decide +kernel
theorem d_SpectrumDeskModel_characterize_71 : decode b_SpectrumDeskModel_characterize 71 = .ok (.goto (4), 3) := by decide +kernel
theorem d_SpectrumDeskModel_characterize_74 : decode b_SpectrumDeskModel_characterize 74 = .ok (.iconst 0, 1) := by decide +kernel
theorem d_SpectrumDeskModel_characterize_75 : decode b_SpectrumDeskModel_characterize 75 = .ok (.invokevirtual 115, 3) := by decide +kernel
theorem d_SpectrumDeskModel_characterize_78 : decode b_SpectrumDeskModel_characterize 78 = .ok (.iinc 3 (1), 3) := by decide +kernel
theorem d_SpectrumDeskModel_characterize_81 : decode b_SpectrumDeskModel_characterize 81 = .ok (.goto (-48), 3) := by decide +kernel
theorem d_SpectrumDeskModel_characterize_84 : decode b_SpectrumDeskModel_characterize 84 = .ok (.return_, 1) := by decide +kernel
abbrev b_SpectrumDeskModel_bigTenth : ByteArray := prog_10_method_16_code
abbrev y_SpectrumDeskModel_bigTenth : MethodName := ⟨"SpectrumDeskModel", "bigTenth", "(I)I"⟩
abbrev v_SpectrumDeskModel_bigTenth : List Cond := Cond.code y_SpectrumDeskModel_bigTenth b_SpectrumDeskModel_bigTenth 5 (some .int) :: AW
theorem d_SpectrumDeskModel_bigTenth_0 : decode b_SpectrumDeskModel_bigTenth 0 = .ok (.iconst 0, 1) := by decide +kernel
theorem d_SpectrumDeskModel_bigTenth_1 : decode b_SpectrumDeskModel_bigTenth 1 = .ok (.istore_n 2, 1) := by decide +kernel
theorem d_SpectrumDeskModel_bigTenth_2 : decode b_SpectrumDeskModel_bigTenth 2 = .ok (.aload_n 0, 1) := by decide +kernel
theorem d_SpectrumDeskModel_bigTenth_3 : decode b_SpectrumDeskModel_bigTenth 3 = .ok (.getfield 13, 3) := by decide +kernel
theorem d_SpectrumDeskModel_bigTenth_6 : decode b_SpectrumDeskModel_bigTenth 6 = .ok (.iload_n 1, 1) := by decide +kernel
theorem d_SpectrumDeskModel_bigTenth_7 : decode b_SpectrumDeskModel_bigTenth 7 = .ok (.iaload, 1) := by decide +kernel
theorem d_SpectrumDeskModel_bigTenth_8 : decode b_SpectrumDeskModel_bigTenth 8 = .ok (.iconst 1, 1) := by decide +kernel
theorem d_SpectrumDeskModel_bigTenth_9 : decode b_SpectrumDeskModel_bigTenth 9 = .ok (.isub, 1) := by decide +kernel
theorem d_SpectrumDeskModel_bigTenth_10 : decode b_SpectrumDeskModel_bigTenth 10 = .ok (.istore_n 3, 1) := by decide +kernel
theorem d_SpectrumDeskModel_bigTenth_11 : decode b_SpectrumDeskModel_bigTenth 11 = .ok (.iload_n 3, 1) := by decide +kernel
theorem d_SpectrumDeskModel_bigTenth_12 : decode b_SpectrumDeskModel_bigTenth 12 = .ok (.ifCond .lt (51), 3) := by decide +kernel
theorem d_SpectrumDeskModel_bigTenth_15 : decode b_SpectrumDeskModel_bigTenth 15 = .ok (.iload_n 2, 1) := by decide +kernel
theorem d_SpectrumDeskModel_bigTenth_16 : decode b_SpectrumDeskModel_bigTenth 16 = .ok (.ldc 20, 2) := by decide +kernel
theorem d_SpectrumDeskModel_bigTenth_18 : decode b_SpectrumDeskModel_bigTenth 18 = .ok (.imul, 1) := by decide +kernel
theorem d_SpectrumDeskModel_bigTenth_19 : decode b_SpectrumDeskModel_bigTenth 19 = .ok (.aload_n 0, 1) := by decide +kernel
theorem d_SpectrumDeskModel_bigTenth_20 : decode b_SpectrumDeskModel_bigTenth 20 = .ok (.getfield 7, 3) := by decide +kernel
theorem d_SpectrumDeskModel_bigTenth_23 : decode b_SpectrumDeskModel_bigTenth 23 = .ok (.sipush (300), 3) := by decide +kernel
theorem d_SpectrumDeskModel_bigTenth_26 : decode b_SpectrumDeskModel_bigTenth 26 = .ok (.iload_n 1, 1) := by decide +kernel
theorem d_SpectrumDeskModel_bigTenth_27 : decode b_SpectrumDeskModel_bigTenth 27 = .ok (.imul, 1) := by decide +kernel
theorem d_SpectrumDeskModel_bigTenth_28 : decode b_SpectrumDeskModel_bigTenth 28 = .ok (.iload_n 3, 1) := by decide +kernel
theorem d_SpectrumDeskModel_bigTenth_29 : decode b_SpectrumDeskModel_bigTenth 29 = .ok (.iadd, 1) := by decide +kernel
theorem d_SpectrumDeskModel_bigTenth_30 : decode b_SpectrumDeskModel_bigTenth 30 = .ok (.iaload, 1) := by decide +kernel
theorem d_SpectrumDeskModel_bigTenth_31 : decode b_SpectrumDeskModel_bigTenth 31 = .ok (.iadd, 1) := by decide +kernel
theorem d_SpectrumDeskModel_bigTenth_32 : decode b_SpectrumDeskModel_bigTenth 32 = .ok (.istore 4, 2) := by decide +kernel
theorem d_SpectrumDeskModel_bigTenth_34 : decode b_SpectrumDeskModel_bigTenth 34 = .ok (.aload_n 0, 1) := by decide +kernel
theorem d_SpectrumDeskModel_bigTenth_35 : decode b_SpectrumDeskModel_bigTenth 35 = .ok (.getfield 7, 3) := by decide +kernel
theorem d_SpectrumDeskModel_bigTenth_38 : decode b_SpectrumDeskModel_bigTenth 38 = .ok (.sipush (300), 3) := by decide +kernel
theorem d_SpectrumDeskModel_bigTenth_41 : decode b_SpectrumDeskModel_bigTenth 41 = .ok (.iload_n 1, 1) := by decide +kernel
theorem d_SpectrumDeskModel_bigTenth_42 : decode b_SpectrumDeskModel_bigTenth 42 = .ok (.imul, 1) := by decide +kernel
theorem d_SpectrumDeskModel_bigTenth_43 : decode b_SpectrumDeskModel_bigTenth 43 = .ok (.iload_n 3, 1) := by decide +kernel
theorem d_SpectrumDeskModel_bigTenth_44 : decode b_SpectrumDeskModel_bigTenth 44 = .ok (.iadd, 1) := by decide +kernel
theorem d_SpectrumDeskModel_bigTenth_45 : decode b_SpectrumDeskModel_bigTenth 45 = .ok (.iload 4, 2) := by decide +kernel
theorem d_SpectrumDeskModel_bigTenth_47 : decode b_SpectrumDeskModel_bigTenth 47 = .ok (.bipush (10), 2) := by decide +kernel
theorem d_SpectrumDeskModel_bigTenth_49 : decode b_SpectrumDeskModel_bigTenth 49 = .ok (.idiv, 1) := by decide +kernel
theorem d_SpectrumDeskModel_bigTenth_50 : decode b_SpectrumDeskModel_bigTenth 50 = .ok (.iastore, 1) := by decide +kernel
theorem d_SpectrumDeskModel_bigTenth_51 : decode b_SpectrumDeskModel_bigTenth 51 = .ok (.iload 4, 2) := by decide +kernel
theorem d_SpectrumDeskModel_bigTenth_53 : decode b_SpectrumDeskModel_bigTenth 53 = .ok (.bipush (10), 2) := by decide +kernel
theorem d_SpectrumDeskModel_bigTenth_55 : decode b_SpectrumDeskModel_bigTenth 55 = .ok (.irem, 1) := by decide +kernel
theorem d_SpectrumDeskModel_bigTenth_56 : decode b_SpectrumDeskModel_bigTenth 56 = .ok (.istore_n 2, 1) := by decide +kernel
theorem d_SpectrumDeskModel_bigTenth_57 : decode b_SpectrumDeskModel_bigTenth 57 = .ok (.iinc 3 (-1), 3) := by decide +kernel
theorem d_SpectrumDeskModel_bigTenth_60 : decode b_SpectrumDeskModel_bigTenth 60 = .ok (.goto (-49), 3) := by decide +kernel
theorem d_SpectrumDeskModel_bigTenth_63 : decode b_SpectrumDeskModel_bigTenth 63 = .ok (.aload_n 0, 1) := by decide +kernel
theorem d_SpectrumDeskModel_bigTenth_64 : decode b_SpectrumDeskModel_bigTenth 64 = .ok (.iload_n 1, 1) := by decide +kernel
theorem d_SpectrumDeskModel_bigTenth_65 : decode b_SpectrumDeskModel_bigTenth 65 = .ok (.invokevirtual 21, 3) := by decide +kernel
theorem d_SpectrumDeskModel_bigTenth_68 : decode b_SpectrumDeskModel_bigTenth 68 = .ok (.iload_n 2, 1) := by decide +kernel
theorem d_SpectrumDeskModel_bigTenth_69 : decode b_SpectrumDeskModel_bigTenth 69 = .ok (.ireturn, 1) := by decide +kernel
theorem k_6a4351da1e : (Jvm.Cond.methodLink "SpectrumDeskModel" (118 : Nat) ({ cls := "SpectrumDeskModel", name := "findMinor", desc := "(I)V" } : Jvm.MethodName)) ∈ AW := aw_5 (List.mem_of_getElem? (i := 41) (by decide +kernel)) (by decide +kernel)
theorem k_6d74628b97 : (Jvm.Cond.instanceMethod ({ cls := "SpectrumDeskModel", name := "findMinor", desc := "(I)V" } : Jvm.MethodName)) ∈ AW := aw_5 (List.mem_of_getElem? (i := 43) (by decide +kernel)) (by decide +kernel)
theorem k_f3cc4f02c5 : (Jvm.Cond.selects "SpectrumDeskModel" ({ cls := "SpectrumDeskModel", name := "findMinor", desc := "(I)V" } : Jvm.MethodName) ({ cls := "SpectrumDeskModel", name := "findMinor", desc := "(I)V" } : Jvm.MethodName)) ∈ AW := aw_p (by decide +kernel) (by decide +kernel)
theorem k_65cc42cfc5 : (Jvm.Cond.code ({ cls := "SpectrumDeskModel", name := "characterize", desc := "(II)V" } : Jvm.MethodName) prog_10_method_34_code (5 : Nat) (Option.none : Option Jvm.ClassFile.FieldType)) ∈ AW := aw_5 (List.mem_of_getElem? (i := 35) (by decide +kernel)) (by decide +kernel)
theorem k_1735d08270 : (Jvm.Cond.code ({ cls := "SpectrumDeskModel", name := "bigTenth", desc := "(I)I" } : Jvm.MethodName) prog_10_method_16_code (5 : Nat) (Option.some Jvm.ClassFile.FieldType.int)) ∈ AW := aw_5 (List.mem_of_getElem? (i := 92) (by decide +kernel)) (by decide +kernel)
set_option maxHeartbeats 4000000 in
set_option maxRecDepth 100000 in
theorem c_SpectrumDeskModel_characterize {l : Launch} {D : va_G} {cI cJ cZ cC cG cP : ClassId} {ad : Nat → Nat} {σ0 : Nat → va_E} {th nn rws ps le eq : Int32} {P L M G : Nat → Int32} {Z : Nat → Int} (hG : σ0 187 = .inl (cI, 5, .inl G)) (hB : RB P L M Z) {k9 : Nat} (hk9 : k9 ≤ 6) {A9 : Nat → Int32} (hA9 : σ0 188 = .inl (cI, 36, .inl A9)) (hAb : ∀ i j, i < 6 → j < 6 → bd 1000000 ((A9 (6 * i + j)).toInt)) :
    Met l y_SpectrumDeskModel_characterize v_SpectrumDeskModel_characterize (xrm 4) (va_Pc [.ref (ad 183), .int (nI k9), .int (nI 0)] (xS D classes (xT cI cJ cZ cC cG cP) 193 ad (rw3 σ0 ciM cI cZ (mfs ad th nn rws ps le eq) P L M))) (va_Qv (fun σ2 => ∃ (P' L' M' : Nat → Int32) (Z' : Nat → Int), σ2 = rw3 (va_up σ0 187 (.inl (cI, 5, .inl (upd G 0 (nI k9))))) ciM cI cZ (mfs ad th nn rws ps le eq) P' L' M' ∧ RB P' L' M' Z' ∧ (∀ e, e ≤ k9 → Z' e = chF (fun i j => (A9 (6 * i + j)).toInt) k9 (2 ^ k9) e) ∧ (∀ v, k9 < v ∧ v < 40 ∨ 106 ≤ v → Z' v = Z v)) (xS D classes (xT cI cJ cZ cC cG cP) 193 ad) (xA 193 ad)) 0 0 (xA 193 ad) := by
  refine xr_met rfl (Nat.le_of_ble_eq_true rfl) ?_
  intro p e s m args below meth c ls hx hb X hr hlk hl I
  have hl : lv_has ls 5 [(0, .ref (ad 183)), (1, .int (nI k9)), (2, .int (nI 0))] := hl
  have hp6 : 2 ^ k9 ≤ 64 := Nat.pow_le_pow_right (by decide) hk9 (n := 2)
  refine lv_aload_n hx hb d_SpectrumDeskModel_characterize_0 rfl (lv_at hl 0 rfl) ?_
  refine xr_get X I fin_M 183 (by decide) (r183 ..) rfl 3 (by decide) (List.mem_cons_of_mem _ k_176eac5e1f) rfl rfl d_SpectrumDeskModel_characterize_1 ?_
  refine lv_iload_n hx hb d_SpectrumDeskModel_characterize_4 rfl (lv_at hl 2 rfl) ?_
  refine lv_bipush (v := nI 8) hx hb d_SpectrumDeskModel_characterize_5 (by decide) ?_
  refine lv_idiv hx hb d_SpectrumDeskModel_characterize_7 (by decide) ?_
  refine xr_topi (y := nI 0) (by decide) ?_
  refine lv_iload_n hx hb d_SpectrumDeskModel_characterize_8 rfl (lv_at hl 1 rfl) ?_
  refine xr_iast X I 187 0 (by decide) ((r_o (by decide)).trans hG) rfl (by omega) (by decide) d_SpectrumDeskModel_characterize_9 (fun H locs I => ?_)
  rw [rw3_o (by decide)] at I
  have hA8 : (va_up σ0 187 (.inl (cI, 5, .inl (upd G 0 (nI k9))))) 188 = .inl (cI, 36, .inl A9) := (va_up_ne _ _ (by decide)).trans hA9
  have sets : ∀ (j : Nat) (st : Nat) (P2 L2 M2 : Nat → Int32) (Z2 : Nat → Int) (ls : Array Slot) (H : Heap) (locs : List Loc), st + j = 2 ^ k9 → RB P2 L2 M2 Z2 → (∀ e, e ≤ k9 → Z2 e = chF (fun i j => (A9 (6 * i + j)).toInt) k9 st e) → (∀ v, k9 < v ∧ v < 40 ∨ 106 ≤ v → Z2 v = Z v) → lv_has ls 5 [(3, .int (nI st)), (0, .ref (ad 183)), (1, .int (nI k9)), (2, .int (nI 0))] → xI D classes 193 ad s.heap (rw3 (va_up σ0 187 (.inl (cI, 5, .inl (upd G 0 (nI k9))))) ciM cI cZ (mfs ad th nn rws ps le eq) P2 L2 M2) H locs → W p l e (xrm 4) s m args below meth c H locs 0 0 (MQ below (va_Qv (fun σ2 => ∃ (P' L' M' : Nat → Int32) (Z' : Nat → Int), σ2 = rw3 (va_up σ0 187 (.inl (cI, 5, .inl (upd G 0 (nI k9))))) ciM cI cZ (mfs ad th nn rws ps le eq) P' L' M' ∧ RB P' L' M' Z' ∧ (∀ e, e ≤ k9 → Z' e = chF (fun i j => (A9 (6 * i + j)).toInt) k9 (2 ^ k9) e) ∧ (∀ v, k9 < v ∧ v < 40 ∨ 106 ≤ v → Z' v = Z v)) (xS D classes (xT cI cJ cZ cC cG cP) 193 ad) (xA 193 ad)) args s 0 0 (xA 193 ad)) (F0 m 33 ls []) := by
    intro j
    induction j with
    | zero =>
      intro st P2 L2 M2 Z2 ls H locs hk h2 h3 h4 hl I
      obtain rfl : st = 2 ^ k9 := by omega
      refine lv_iload_n hx hb d_SpectrumDeskModel_characterize_33 rfl (lv_at hl 0 rfl) ?_
      refine lv_iconst (v := nI 1) hx hb d_SpectrumDeskModel_characterize_34 (by decide) ?_
      refine lv_iload_n hx hb d_SpectrumDeskModel_characterize_35 rfl (lv_at hl 2 rfl) ?_
      refine lv_ishl hx hb d_SpectrumDeskModel_characterize_36 ?_
      refine xr_topi (y := nI (2 ^ k9)) (mb_one k9 hk9) ?_
      refine lv_icmp_ge hx hb d_SpectrumDeskModel_characterize_37 rfl (fun hc => ?_) (fun hc => ?_)
      · exact xr_vret X I hr hlk ⟨P2, L2, M2, Z2, rfl, h2, h3, h4⟩ d_SpectrumDeskModel_characterize_84
      · exact absurd (nI_le (Nat.le_refl _) (by omega)) hc
    | succ j ih =>
      intro st P2 L2 M2 Z2 ls H locs hk h2 h3 h4 hl I
      refine lv_iload_n hx hb d_SpectrumDeskModel_characterize_33 rfl (lv_at hl 0 rfl) ?_
      refine lv_iconst (v := nI 1) hx hb d_SpectrumDeskModel_characterize_34 (by decide) ?_
      refine lv_iload_n hx hb d_SpectrumDeskModel_characterize_35 rfl (lv_at hl 2 rfl) ?_
      refine lv_ishl hx hb d_SpectrumDeskModel_characterize_36 ?_
      refine xr_topi (y := nI (2 ^ k9)) (mb_one k9 hk9) ?_
      refine lv_icmp_ge hx hb d_SpectrumDeskModel_characterize_37 rfl (fun hc => ?_) (fun hc => ?_)
      · exact absurd hc (nI_ge (by omega) (by omega))
      · obtain ⟨hs1, hs2⟩ := mb_sz k9 hk9 st (by omega)
        refine lv_aload_n hx hb d_SpectrumDeskModel_characterize_40 rfl (lv_at hl 1 rfl) ?_
        refine lv_iload_n hx hb d_SpectrumDeskModel_characterize_41 rfl (lv_at hl 0 rfl) ?_
        refine xr_callv (xr_runV (kc := 3) (kr := 4) (n := 1) (As := [.int (nI st)]) (rest := []) X I (by decide) (r183 ..) rfl (c_SpectrumDeskModel_findMinor (s9 := st) (va_up_self _ _ _) h2 hs2 hA8 hAb) (xg k_e6e20e2407) (List.mem_cons_of_mem _ k_6a4351da1e) (List.mem_cons_of_mem _ k_6d74628b97) (List.mem_cons_of_mem _ k_f3cc4f02c5) (List.mem_cons_of_mem _ k_30fa15c9ac) (by decide +kernel) (by decide) rfl hl.1 rfl (Nat.le_of_ble_eq_true rfl) d_SpectrumDeskModel_characterize_42) I (fun σ9 H locs hp I => ?_)
        obtain ⟨P3, L3, M3, Z3, rfl, g2, g3, g4⟩ := hp
        refine lv_iload_n hx hb d_SpectrumDeskModel_characterize_45 rfl (lv_at hl 0 rfl) ?_
        refine xr_calli (xr_runS (kc := 0) (kr := 4) (n := 1) (As := [.int (nI st)]) (rest := []) X I (c_SpectrumDeskModel_sizeOf hs2) (xg k_5bb586f254) (List.mem_cons_of_mem _ k_56215041f4) (List.mem_cons_of_mem _ k_5eb33858fb) (List.mem_cons_of_mem _ k_30fa15c9ac) (by decide +kernel) (by decide) rfl hl.1 rfl (Nat.le_of_ble_eq_true rfl) d_SpectrumDeskModel_characterize_46) I (fun r1 σ9 H locs hp I => ?_)
        obtain ⟨rfl, h9⟩ := hp; rw [h9] at I; clear h9
        have v1 : Z3 (k9 - pcn st 6) = chF (fun i j => (A9 (6 * i + j)).toInt) k9 st (k9 - pcn st 6) := (g4 _ (by omega)).trans (h3 _ (by omega))
        have v2 : Z3 (40 + st) = mn (fun i j => (A9 (6 * i + j)).toInt) st st := g3 st (Nat.le_refl _) (mb_self st hs2)
        have r1 : rbd (Z3 (k9 - pcn st 6)) := by rw [v1]; exact sm_rbd (sm_of (by decide) (chF_sm hAb (by omega)))
        have r2 : rbd (Z3 (40 + st)) := by rw [v2]; exact sm_rbd (sm_of (by decide) (mn_bd hAb))
        refine lv_istore (lv' := [(4, .int (nI (pcn st 6))), (3, .int (nI st)), (0, .ref (ad 183)), (1, .int (nI k9)), (2, .int (nI 0))]) hx hb d_SpectrumDeskModel_characterize_49 hl (by decide) rfl (fun ls hl => ?_)
        refine lv_aload_n hx hb d_SpectrumDeskModel_characterize_51 rfl (lv_at hl 2 rfl) ?_
        refine lv_iload_n hx hb d_SpectrumDeskModel_characterize_52 rfl (lv_at hl 4 rfl) ?_
        refine lv_iload_n hx hb d_SpectrumDeskModel_characterize_53 rfl (lv_at hl 3 rfl) ?_
        refine lv_iadd hx hb d_SpectrumDeskModel_characterize_54 (xr_topi (y := nI k9) (by rw [nI_add, Nat.zero_add]) ?_)
        refine lv_iload hx hb d_SpectrumDeskModel_characterize_55 (lv_at hl 0 rfl) ?_
        refine lv_isub hx hb d_SpectrumDeskModel_characterize_57 (xr_topi (y := nI (k9 - pcn st 6)) (pk_sub (by omega)) ?_)
        refine lv_bipush (v := nI 40) hx hb d_SpectrumDeskModel_characterize_58 (by decide) ?_
        refine lv_iload_n hx hb d_SpectrumDeskModel_characterize_60 rfl (lv_at hl 1 rfl) ?_
        refine lv_iadd hx hb d_SpectrumDeskModel_characterize_61 (xr_topi (y := nI (40 + st)) (nI_add 40 st) ?_)
        refine lv_iload hx hb d_SpectrumDeskModel_characterize_62 (lv_at hl 0 rfl) ?_
        refine lv_iconst (v := nI 2) hx hb d_SpectrumDeskModel_characterize_64 (by decide) ?_
        refine lv_irem hx hb d_SpectrumDeskModel_characterize_65 (by decide) ?_
        refine xr_topi (y := nI (pcn st 6 % 2)) (pk_rem (by omega) (by decide) (by decide)) ?_
        refine lv_iconst (v := nI 1) hx hb d_SpectrumDeskModel_characterize_66 (by decide) ?_
        refine lv_icmp_ne hx hb d_SpectrumDeskModel_characterize_67 rfl (fun hd => ?_) (fun hd => ?_)
        · have hodd : ¬ pcn st 6 % 2 = 1 := fun h => hd (by rw [h])
          refine lv_iconst (v := nI 0) hx hb d_SpectrumDeskModel_characterize_74 (by decide) ?_
          refine xr_callv (xr_runV (kc := 2) (kr := 4) (n := 3) (As := [.int (nI (k9 - pcn st 6)), .int (nI (40 + st)), .int (nI 0)]) (rest := []) X I (by decide) (r183 ..) rfl (c_SpectrumDeskModel_bigAdd0 (w := k9 - pcn st 6) (u := 40 + st) mfs_ok (by omega) (by omega) (by omega) (g2 (k9 - pcn st 6) (by omega)) (g2 (40 + st) (by omega)) r1 r2) (xg k_dd45f20b23) (List.mem_cons_of_mem _ k_1f49c5cd66) (List.mem_cons_of_mem _ k_a10028f3d7) (List.mem_cons_of_mem _ k_758e0597f6) (List.mem_cons_of_mem _ k_30fa15c9ac) (by decide +kernel) (by decide) rfl hl.1 rfl (Nat.le_of_ble_eq_true rfl) d_SpectrumDeskModel_characterize_75) I (fun σ9 H locs hp I => ?_)
          obtain ⟨P4, L4, M4, rfl, hf4, hx4⟩ := hp
          have k4 := RB_up g2 hf4 hx4
          rw [v1, v2] at k4
          refine lv_iinc (k := 1) (v := nI (st + 1)) (lv' := [(3, .int (nI (st + 1))), (4, .int (nI (pcn st 6))), (0, .ref (ad 183)), (1, .int (nI k9)), (2, .int (nI 0))]) hx hb d_SpectrumDeskModel_characterize_78 hl rfl (nI_1 st) (by decide) rfl (fun ls hl => ?_)
          refine lv_goto hx hb d_SpectrumDeskModel_characterize_81 rfl ?_
          have hl := lv_sub hl [0, 2, 3, 4] rfl
          have hl : lv_has ls 5 [(3, .int (nI (st + 1))), (0, .ref (ad 183)), (1, .int (nI k9)), (2, .int (nI 0))] := hl
          refine ih (st + 1) P4 L4 M4 _ ls H locs (by omega) k4 (fun e he => ?_) (fun v hv => (va_up_ne _ _ (by omega)).trans ((g4 v (by omega)).trans (h4 v hv))) hl I
          simp only [chF]; rw [if_neg hodd]
          by_cases e9 : e = k9 - pcn st 6
          · rw [e9, va_up_self, va_up_self]
          · rw [va_up_ne _ _ e9, va_up_ne _ _ e9]; exact (g4 e (by omega)).trans (h3 e he)
        · have hodd : pcn st 6 % 2 = 1 := (nI_eq (by omega) (by decide)).mp hd
          refine lv_iconst (v := nI 1) hx hb d_SpectrumDeskModel_characterize_70 (by decide) ?_
          refine lv_goto hx hb d_SpectrumDeskModel_characterize_71 rfl ?_
          refine xr_callv (xr_runV (kc := 2) (kr := 4) (n := 3) (As := [.int (nI (k9 - pcn st 6)), .int (nI (40 + st)), .int (nI 1)]) (rest := []) X I (by decide) (r183 ..) rfl (c_SpectrumDeskModel_bigAdd1 (w := k9 - pcn st 6) (u := 40 + st) mfs_ok (by omega) (by omega) (by omega) (g2 (k9 - pcn st 6) (by omega)) (g2 (40 + st) (by omega)) r1 r2) (xg k_dd45f20b23) (List.mem_cons_of_mem _ k_1f49c5cd66) (List.mem_cons_of_mem _ k_a10028f3d7) (List.mem_cons_of_mem _ k_758e0597f6) (List.mem_cons_of_mem _ k_30fa15c9ac) (by decide +kernel) (by decide) rfl hl.1 rfl (Nat.le_of_ble_eq_true rfl) d_SpectrumDeskModel_characterize_75) I (fun σ9 H locs hp I => ?_)
          obtain ⟨P4, L4, M4, rfl, hf4, hx4⟩ := hp
          have k4 := RB_up g2 hf4 hx4
          rw [v1, v2] at k4
          refine lv_iinc (k := 1) (v := nI (st + 1)) (lv' := [(3, .int (nI (st + 1))), (4, .int (nI (pcn st 6))), (0, .ref (ad 183)), (1, .int (nI k9)), (2, .int (nI 0))]) hx hb d_SpectrumDeskModel_characterize_78 hl rfl (nI_1 st) (by decide) rfl (fun ls hl => ?_)
          refine lv_goto hx hb d_SpectrumDeskModel_characterize_81 rfl ?_
          have hl := lv_sub hl [0, 2, 3, 4] rfl
          have hl : lv_has ls 5 [(3, .int (nI (st + 1))), (0, .ref (ad 183)), (1, .int (nI k9)), (2, .int (nI 0))] := hl
          refine ih (st + 1) P4 L4 M4 _ ls H locs (by omega) k4 (fun e he => ?_) (fun v hv => (va_up_ne _ _ (by omega)).trans ((g4 v (by omega)).trans (h4 v hv))) hl I
          simp only [chF]; rw [if_pos hodd]
          by_cases e9 : e = k9 - pcn st 6
          · rw [e9, va_up_self, va_up_self]
          · rw [va_up_ne _ _ e9, va_up_ne _ _ e9]; exact (g4 e (by omega)).trans (h3 e he)
  have zeros : ∀ (j : Nat) (e9 : Nat) (P2 L2 M2 : Nat → Int32) (Z2 : Nat → Int) (ls : Array Slot) (H : Heap) (locs : List Loc), e9 + j = k9 + 1 → RB P2 L2 M2 Z2 → (∀ e, e < e9 → Z2 e = 0) → (∀ v, e9 ≤ v → Z2 v = Z v) → lv_has ls 5 [(3, .int (nI e9)), (0, .ref (ad 183)), (1, .int (nI k9)), (2, .int (nI 0))] → xI D classes 193 ad s.heap (rw3 (va_up σ0 187 (.inl (cI, 5, .inl (upd G 0 (nI k9))))) ciM cI cZ (mfs ad th nn rws ps le eq) P2 L2 M2) H locs → W p l e (xrm 4) s m args below meth c H locs 0 0 (MQ below (va_Qv (fun σ2 => ∃ (P' L' M' : Nat → Int32) (Z' : Nat → Int), σ2 = rw3 (va_up σ0 187 (.inl (cI, 5, .inl (upd G 0 (nI k9))))) ciM cI cZ (mfs ad th nn rws ps le eq) P' L' M' ∧ RB P' L' M' Z' ∧ (∀ e, e ≤ k9 → Z' e = chF (fun i j => (A9 (6 * i + j)).toInt) k9 (2 ^ k9) e) ∧ (∀ v, k9 < v ∧ v < 40 ∨ 106 ≤ v → Z' v = Z v)) (xS D classes (xT cI cJ cZ cC cG cP) 193 ad) (xA 193 ad)) args s 0 0 (xA 193 ad)) (F0 m 12 ls []) := by
    intro j
    induction j with
    | zero =>
      intro e9 P2 L2 M2 Z2 ls H locs hk h2 h3 h4 hl I
      obtain rfl : e9 = k9 + 1 := by omega
      refine lv_iload_n hx hb d_SpectrumDeskModel_characterize_12 rfl (lv_at hl 0 rfl) ?_
      refine lv_iload_n hx hb d_SpectrumDeskModel_characterize_13 rfl (lv_at hl 2 rfl) ?_
      refine lv_icmp_gt hx hb d_SpectrumDeskModel_characterize_14 rfl (fun hc => ?_) (fun hc => ?_)
      · refine lv_iconst (v := nI 0) hx hb d_SpectrumDeskModel_characterize_31 (by decide) ?_
        refine lv_istore_n (lv' := [(3, .int (nI 0)), (0, .ref (ad 183)), (1, .int (nI k9)), (2, .int (nI 0))]) hx hb d_SpectrumDeskModel_characterize_32 rfl hl (by decide) rfl (fun ls hl => ?_)
        exact sets (2 ^ k9) 0 P2 L2 M2 Z2 ls H locs (by omega) h2 (fun e he => h3 e (by omega)) (fun v hv => h4 v (by omega)) hl I
      · exact absurd (nI_lt (Nat.lt_succ_self _) (by omega)) hc
    | succ j ih =>
      intro e9 P2 L2 M2 Z2 ls H locs hk h2 h3 h4 hl I
      refine lv_iload_n hx hb d_SpectrumDeskModel_characterize_12 rfl (lv_at hl 0 rfl) ?_
      refine lv_iload_n hx hb d_SpectrumDeskModel_characterize_13 rfl (lv_at hl 2 rfl) ?_
      refine lv_icmp_gt hx hb d_SpectrumDeskModel_characterize_14 rfl (fun hc => ?_) (fun hc => ?_)
      · exact absurd hc (nI_nlt (by omega) (by omega))
      · refine lv_aload_n hx hb d_SpectrumDeskModel_characterize_17 rfl (lv_at hl 1 rfl) ?_
        refine lv_iload_n hx hb d_SpectrumDeskModel_characterize_18 rfl (lv_at hl 3 rfl) ?_
        refine lv_iload_n hx hb d_SpectrumDeskModel_characterize_19 rfl (lv_at hl 0 rfl) ?_
        refine lv_iadd hx hb d_SpectrumDeskModel_characterize_20 (xr_topi (y := nI e9) (by rw [nI_add, Nat.zero_add]) ?_)
        refine lv_lconst (v := 0) hx hb d_SpectrumDeskModel_characterize_21 (by decide) ?_
        refine xr_callv (xr_runV (kc := 0) (kr := 4) (n := 2) (As := [.int (nI e9), .long 0]) (rest := []) X I (by decide) (r183 ..) rfl (c_SpectrumDeskModel_bigSet (w := e9) (v := 0) mfs_ok (by omega)) (xg k_5f300b8d49) (List.mem_cons_of_mem _ k_7a89662665) (List.mem_cons_of_mem _ k_203da126f2) (List.mem_cons_of_mem _ k_e2b6114fa3) (List.mem_cons_of_mem _ k_30fa15c9ac) (by decide +kernel) (by decide) rfl hl.1 rfl (Nat.le_of_ble_eq_true rfl) d_SpectrumDeskModel_characterize_22) I (fun σ9 H locs hp I => ?_)
        obtain ⟨P3, L3, M3, rfl, hf3, hx3⟩ := hp
        have k3 := RB_up h2 hf3 hx3
        refine lv_iinc (k := 0) (v := nI (e9 + 1)) (lv' := [(3, .int (nI (e9 + 1))), (0, .ref (ad 183)), (1, .int (nI k9)), (2, .int (nI 0))]) hx hb d_SpectrumDeskModel_characterize_25 hl rfl (nI_1 e9) (by decide) rfl (fun ls hl => ?_)
        refine lv_goto hx hb d_SpectrumDeskModel_characterize_28 rfl ?_
        refine ih (e9 + 1) P3 L3 M3 _ ls H locs (by omega) k3 (fun e he => ?_) (fun v hv => (va_up_ne _ _ (by omega)).trans (h4 v (by omega))) hl I
        by_cases q9 : e = e9
        · rw [q9, va_up_self]; decide
        · rw [va_up_ne _ _ q9]; exact h3 e (by omega)
  refine lv_iconst (v := nI 0) hx hb d_SpectrumDeskModel_characterize_10 (by decide) ?_
  refine lv_istore_n (lv' := [(3, .int (nI 0)), (0, .ref (ad 183)), (1, .int (nI k9)), (2, .int (nI 0))]) hx hb d_SpectrumDeskModel_characterize_11 rfl hl (by decide) rfl (fun ls hl => ?_)
  exact zeros (k9 + 1) 0 P L M Z ls _ _ (by omega) hB (fun e he => absurd he (Nat.not_lt_zero _)) (fun _ _ => rfl) hl I
set_option maxHeartbeats 4000000 in
set_option maxRecDepth 100000 in
theorem c_SpectrumDeskModel_bigTenth {l : Launch} {D : va_G} {cI cJ cZ cC cG cP : ClassId} {ad : Nat → Nat} {σ0 : Nat → va_E} {fs : List Value} {P L M : Nat → Int32} {w n : Nat} (hF : mF ad fs) (hw : w < 112) (hn : n ≤ 300) (hL : L w = nI n) (hok : rg_ok P (300 * w) n) :
    Met l y_SpectrumDeskModel_bigTenth v_SpectrumDeskModel_bigTenth (xrm 1) (va_Pc [.ref (ad 183), .int (nI w)] (xS D classes (xT cI cJ cZ cC cG cP) 193 ad (rw3 σ0 ciM cI cZ fs P L M))) (va_Qi (fun r σ2 => ∃ (P' : Nat → Int32) (n' : Nat), r = nI (rg P (300 * w) n % 10).toNat ∧ σ2 = rw3 σ0 ciM cI cZ fs P' (upd L w (nI n')) M ∧ n' ≤ n ∧ (∀ j, j < 300 * w ∨ 300 * w + 300 ≤ j → P' j = P j) ∧ rg_ok P' (300 * w) n' ∧ (0 < n' → P' (300 * w + (n' - 1)) ≠ 0) ∧ rg P' (300 * w) n' = rg P (300 * w) n / 10) (xS D classes (xT cI cJ cZ cC cG cP) 193 ad) (xA 193 ad)) 0 0 (xA 193 ad) := by
  refine xr_met rfl (Nat.le_of_ble_eq_true rfl) ?_
  intro p e s m args below meth c ls hx hb X hr hlk hl I
  have hl : lv_has ls 5 [(0, .ref (ad 183)), (1, .int (nI w))] := hl
  refine lv_iconst (v := nI 0) hx hb d_SpectrumDeskModel_bigTenth_0 (by decide) ?_
  refine lv_istore_n (lv' := [(2, .int (nI 0)), (0, .ref (ad 183)), (1, .int (nI w))]) hx hb d_SpectrumDeskModel_bigTenth_1 rfl hl (by decide) rfl (fun ls hl => ?_)
  refine lv_aload_n hx hb d_SpectrumDeskModel_bigTenth_2 rfl (lv_at hl 1 rfl) ?_
  refine xr_get X I fin_M 183 (by decide) (r183 ..) rfl 1 (by decide) (List.mem_cons_of_mem _ k_4ae214c350) rfl (mF_lengths hF) d_SpectrumDeskModel_bigTenth_3 ?_
  refine lv_iload_n hx hb d_SpectrumDeskModel_bigTenth_6 rfl (lv_at hl 2 rfl) ?_
  refine xr_iald X I 185 0 (by decide) (r185 ..) rfl (by omega) (by decide) d_SpectrumDeskModel_bigTenth_7 ?_
  refine xr_topi (y := nI n) hL ?_
  refine lv_iconst (v := nI 1) hx hb d_SpectrumDeskModel_bigTenth_8 (by decide) ?_
  refine lv_isub hx hb d_SpectrumDeskModel_bigTenth_9 ?_
  refine xr_topi (y := nP n) rfl ?_
  refine lv_istore_n (lv' := [(3, .int (nP n)), (2, .int (nI 0)), (0, .ref (ad 183)), (1, .int (nI w))]) hx hb d_SpectrumDeskModel_bigTenth_10 rfl hl (by decide) rfl (fun ls hl => ?_)
  have loop : ∀ (k : Nat) (lf : Nat) (P2 : Nat → Int32) (ls : Array Slot) (H : Heap) (locs : List Loc), k ≤ n → lf < 10 → (∀ j, j < 300 * w ∨ 300 * w + 300 ≤ j → P2 j = P j) → (∀ j, j < k → P2 (300 * w + j) = P (300 * w + j)) → rg_ok P2 (300 * w) n → rg P (300 * w) n = (rg P2 (300 * w) n - rg P (300 * w) k) * 10 + rg P (300 * w) k + (lf : Int) * 16777216 ^ k → lv_has ls 5 [(3, .int (nP k)), (2, .int (nI lf)), (0, .ref (ad 183)), (1, .int (nI w))] → xI D classes 193 ad s.heap (rw3 σ0 ciM cI cZ fs P2 L M) H locs → W p l e (xrm 1) s m args below meth c H locs 0 0 (MQ below (va_Qi (fun r σ2 => ∃ (P' : Nat → Int32) (n' : Nat), r = nI (rg P (300 * w) n % 10).toNat ∧ σ2 = rw3 σ0 ciM cI cZ fs P' (upd L w (nI n')) M ∧ n' ≤ n ∧ (∀ j, j < 300 * w ∨ 300 * w + 300 ≤ j → P' j = P j) ∧ rg_ok P' (300 * w) n' ∧ (0 < n' → P' (300 * w + (n' - 1)) ≠ 0) ∧ rg P' (300 * w) n' = rg P (300 * w) n / 10) (xS D classes (xT cI cJ cZ cC cG cP) 193 ad) (xA 193 ad)) args s 0 0 (xA 193 ad)) (F0 m 11 ls []) := by
    intro k
    induction k with
    | zero =>
      intro lf P2 ls H locs hk hlf hfr hlow hok2 inv hl I
      refine lv_iload_n hx hb d_SpectrumDeskModel_bigTenth_11 rfl (lv_at hl 0 rfl) ?_
      refine lv_if_lt hx hb d_SpectrumDeskModel_bigTenth_12 rfl (fun hc => ?_) (fun hc => ?_)
      · refine lv_aload_n hx hb d_SpectrumDeskModel_bigTenth_63 rfl (lv_at hl 2 rfl) ?_
        refine lv_iload_n hx hb d_SpectrumDeskModel_bigTenth_64 rfl (lv_at hl 3 rfl) ?_
        have hall : rg P (300 * w) n = rg P2 (300 * w) n * 10 + (lf : Int) := by simp [rg] at inv; omega
        refine xr_callv (xr_runV (kc := 0) (kr := 1) (n := 1) (As := [.int (nI w)]) (rest := []) X I (by decide) (r183 ..) rfl (c_SpectrumDeskModel_bigTrim (P := P2) (L := L) (M := M) (n := n) hF hw hn hL) (xg k_10a67c202b) (List.mem_cons_of_mem _ k_fdf1e9da4b) (List.mem_cons_of_mem _ k_72a5102e81) (List.mem_cons_of_mem _ k_90f9c60262) (List.mem_cons_of_mem _ k_30fa15c9ac) (by decide +kernel) (by decide) rfl hl.1 rfl (Nat.le_of_ble_eq_true rfl) d_SpectrumDeskModel_bigTenth_65) I (fun σ1 H locs hp I => ?_)
        obtain ⟨n2, t1, rfl, t2, t3⟩ := hp
        refine lv_iload_n hx hb d_SpectrumDeskModel_bigTenth_68 rfl (lv_at hl 1 rfl) ?_
        exact xr_iret X I hr hlk ⟨P2, n2, by rw [hall]; congr 1; omega, rfl, t1, hfr, rg_ok_le hok2 t1, t3, by rw [t2, hall]; omega⟩ d_SpectrumDeskModel_bigTenth_69
      · exact absurd nP_0 hc
    | succ k ih =>
      intro lf P2 ls H locs hk hlf hfr hlow hok2 inv hl I
      refine lv_iload_n hx hb d_SpectrumDeskModel_bigTenth_11 rfl (lv_at hl 0 rfl) ?_
      refine xr_topi (y := nI k) (nP_succ k) ?_
      refine lv_if_lt hx hb d_SpectrumDeskModel_bigTenth_12 rfl (fun hc => ?_) (fun hc => ?_)
      · exact absurd hc (nI_pos (by omega))
      · obtain ⟨x, x1, x2, x3⟩ := rg_nat hok (show k < n by omega)
        refine lv_iload_n hx hb d_SpectrumDeskModel_bigTenth_15 rfl (lv_at hl 1 rfl) ?_
        refine lv_ldc (v := nI 16777216) hx hb X.1.2.2.2.1 (X.1.2.2.2.2 _ (List.mem_cons_of_mem _ k_0f8e24087a)) d_SpectrumDeskModel_bigTenth_16 ?_
        refine lv_imul hx hb d_SpectrumDeskModel_bigTenth_18 (xr_topi (y := nI (lf * 16777216)) (pk_mul lf 16777216) ?_)
        refine lv_aload_n hx hb d_SpectrumDeskModel_bigTenth_19 rfl (lv_at hl 2 rfl) ?_
        refine xr_get X I fin_M 183 (by decide) (r183 ..) rfl 0 (by decide) (List.mem_cons_of_mem _ k_eae5455160) rfl (mF_parts hF) d_SpectrumDeskModel_bigTenth_20 ?_
        refine lv_sipush (v := nI 300) hx hb d_SpectrumDeskModel_bigTenth_23 (by decide) ?_
        refine lv_iload_n hx hb d_SpectrumDeskModel_bigTenth_26 rfl (lv_at hl 3 rfl) ?_
        refine lv_imul hx hb d_SpectrumDeskModel_bigTenth_27 (xr_topi (y := nI (300 * w)) (pk_mul 300 w) ?_)
        refine lv_iload_n hx hb d_SpectrumDeskModel_bigTenth_28 rfl (lv_at hl 0 rfl) ?_
        refine xr_topi (y := nI k) (nP_succ k) ?_
        refine lv_iadd hx hb d_SpectrumDeskModel_bigTenth_29 (xr_topi (y := nI ((300 * w) + k)) (nI_add (300 * w) k) ?_)
        refine xr_iald X I 184 0 (by decide) (r184 ..) rfl (by omega) (by decide) d_SpectrumDeskModel_bigTenth_30 ?_
        refine xr_topi (y := nI x) ((hlow k (by omega)).trans x2) ?_
        refine lv_iadd hx hb d_SpectrumDeskModel_bigTenth_31 (xr_topi (y := nI ((lf * 16777216) + x)) (nI_add (lf * 16777216) x) ?_)
        refine lv_istore (lv' := [(4, .int (nI ((lf * 16777216) + x))), (3, .int (nP (k + 1))), (2, .int (nI lf)), (0, .ref (ad 183)), (1, .int (nI w))]) hx hb d_SpectrumDeskModel_bigTenth_32 hl (by decide) rfl (fun ls hl => ?_)
        refine lv_aload_n hx hb d_SpectrumDeskModel_bigTenth_34 rfl (lv_at hl 3 rfl) ?_
        refine xr_get X I fin_M 183 (by decide) (r183 ..) rfl 0 (by decide) (List.mem_cons_of_mem _ k_eae5455160) rfl (mF_parts hF) d_SpectrumDeskModel_bigTenth_35 ?_
        refine lv_sipush (v := nI 300) hx hb d_SpectrumDeskModel_bigTenth_38 (by decide) ?_
        refine lv_iload_n hx hb d_SpectrumDeskModel_bigTenth_41 rfl (lv_at hl 4 rfl) ?_
        refine lv_imul hx hb d_SpectrumDeskModel_bigTenth_42 (xr_topi (y := nI (300 * w)) (pk_mul 300 w) ?_)
        refine lv_iload_n hx hb d_SpectrumDeskModel_bigTenth_43 rfl (lv_at hl 1 rfl) ?_
        refine xr_topi (y := nI k) (nP_succ k) ?_
        refine lv_iadd hx hb d_SpectrumDeskModel_bigTenth_44 (xr_topi (y := nI ((300 * w) + k)) (nI_add (300 * w) k) ?_)
        refine lv_iload hx hb d_SpectrumDeskModel_bigTenth_45 (lv_at hl 0 rfl) ?_
        refine lv_bipush (v := nI 10) hx hb d_SpectrumDeskModel_bigTenth_47 (by decide) ?_
        refine lv_idiv hx hb d_SpectrumDeskModel_bigTenth_49 (by decide) ?_
        refine xr_topi (y := nI ((lf * 16777216 + x) / 10)) (pk_div (by omega) (by decide) (by decide)) ?_
        refine xr_iast X I 184 0 (by decide) (r184 ..) rfl (by omega) (by decide) d_SpectrumDeskModel_bigTenth_50 (fun H locs I => ?_)
        rw [rw3_P] at I
        refine lv_iload hx hb d_SpectrumDeskModel_bigTenth_51 (lv_at hl 0 rfl) ?_
        refine lv_bipush (v := nI 10) hx hb d_SpectrumDeskModel_bigTenth_53 (by decide) ?_
        refine lv_irem hx hb d_SpectrumDeskModel_bigTenth_55 (by decide) ?_
        refine xr_topi (y := nI ((lf * 16777216 + x) % 10)) (pk_rem (by omega) (by decide) (by decide)) ?_
        refine lv_istore_n (lv' := [(2, .int (nI ((lf * 16777216 + x) % 10))), (4, .int (nI ((lf * 16777216) + x))), (3, .int (nP (k + 1))), (0, .ref (ad 183)), (1, .int (nI w))]) hx hb d_SpectrumDeskModel_bigTenth_56 rfl hl (by decide) rfl (fun ls hl => ?_)
        refine lv_iinc (k := 2) (v := nP k) (lv' := [(3, .int (nP k)), (2, .int (nI ((lf * 16777216 + x) % 10))), (4, .int (nI ((lf * 16777216) + x))), (0, .ref (ad 183)), (1, .int (nI w))]) hx hb d_SpectrumDeskModel_bigTenth_57 hl rfl (nP_dec k) (by decide) rfl (fun ls hl => ?_)
        refine lv_goto hx hb d_SpectrumDeskModel_bigTenth_60 rfl ?_
        have hl := lv_sub hl [0, 1, 3, 4] rfl
        have hl : lv_has ls 5 [(3, .int (nP k)), (2, .int (nI ((lf * 16777216 + x) % 10))), (0, .ref (ad 183)), (1, .int (nI w))] := hl
        refine ih ((lf * 16777216 + x) % 10) _ ls H locs (by omega) (by omega) (fun j hj => (upd_n (by omega)).trans (hfr j hj)) (fun j hj => (upd_n (by omega)).trans (hlow j (by omega))) (rg_ok_upd hok2 (by rw [nI_toInt (by omega)]; omega)) ?_ hl I
        rw [rg_set (show k < n by omega), nI_toInt (by omega), hlow k (by omega), x3]
        have e1 : rg P (300 * w) (k + 1) = rg P (300 * w) k + (x : Int) * 16777216 ^ k := by rw [rg, x3]
        rw [e1] at inv
        have e2 : (((lf * 16777216 + x) / 10 : Nat) : Int) * 10 + (((lf * 16777216 + x) % 10 : Nat) : Int) = (lf : Int) * 16777216 + x := by omega
        rw [Int.pow_succ] at inv
        generalize (((lf * 16777216 + x) / 10 : Nat) : Int) = q9 at *
        generalize (((lf * 16777216 + x) % 10 : Nat) : Int) = r9 at *
        grind
  exact loop n 0 P ls _ _ (Nat.le_refl _) (by decide) (fun _ _ => rfl) (fun _ _ => rfl) hok (by simp) hl I
