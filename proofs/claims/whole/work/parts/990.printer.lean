/-! SpectrumDesk$Printer (written by wip/gen) -/
abbrev b_Printer_takeDigits : ByteArray := prog_6_method_3_code
abbrev y_Printer_takeDigits : MethodName := ⟨"SpectrumDesk$Printer", "takeDigits", "()I"⟩
abbrev v_Printer_takeDigits : List Cond := Cond.code y_Printer_takeDigits b_Printer_takeDigits 2 (some .int) :: AW
theorem d_Printer_takeDigits_0 : decode b_Printer_takeDigits 0 = .ok (.iconst 0, 1) := by decide +kernel
theorem d_Printer_takeDigits_1 : decode b_Printer_takeDigits 1 = .ok (.istore_n 1, 1) := by decide +kernel
theorem d_Printer_takeDigits_2 : decode b_Printer_takeDigits 2 = .ok (.iload_n 1, 1) := by decide +kernel
theorem d_Printer_takeDigits_3 : decode b_Printer_takeDigits 3 = .ok (.bipush (60), 2) := by decide +kernel
theorem d_Printer_takeDigits_5 : decode b_Printer_takeDigits 5 = .ok (.if_icmp .ge (41), 3) := by decide +kernel
theorem d_Printer_takeDigits_8 : decode b_Printer_takeDigits 8 = .ok (.aload_n 0, 1) := by decide +kernel
theorem d_Printer_takeDigits_9 : decode b_Printer_takeDigits 9 = .ok (.getfield 13, 3) := by decide +kernel
theorem d_Printer_takeDigits_12 : decode b_Printer_takeDigits 12 = .ok (.iload_n 1, 1) := by decide +kernel
theorem d_Printer_takeDigits_13 : decode b_Printer_takeDigits 13 = .ok (.aload_n 0, 1) := by decide +kernel
theorem d_Printer_takeDigits_14 : decode b_Printer_takeDigits 14 = .ok (.getfield 19, 3) := by decide +kernel
theorem d_Printer_takeDigits_17 : decode b_Printer_takeDigits 17 = .ok (.invokestatic 46, 3) := by decide +kernel
theorem d_Printer_takeDigits_20 : decode b_Printer_takeDigits 20 = .ok (.iastore, 1) := by decide +kernel
theorem d_Printer_takeDigits_21 : decode b_Printer_takeDigits 21 = .ok (.aload_n 0, 1) := by decide +kernel
theorem d_Printer_takeDigits_22 : decode b_Printer_takeDigits 22 = .ok (.getfield 19, 3) := by decide +kernel
theorem d_Printer_takeDigits_25 : decode b_Printer_takeDigits 25 = .ok (.aload_n 0, 1) := by decide +kernel
theorem d_Printer_takeDigits_26 : decode b_Printer_takeDigits 26 = .ok (.getfield 19, 3) := by decide +kernel
theorem d_Printer_takeDigits_29 : decode b_Printer_takeDigits 29 = .ok (.arraylength, 1) := by decide +kernel
theorem d_Printer_takeDigits_30 : decode b_Printer_takeDigits 30 = .ok (.invokestatic 22, 3) := by decide +kernel
theorem d_Printer_takeDigits_33 : decode b_Printer_takeDigits 33 = .ok (.ifCond .ne (7), 3) := by decide +kernel
theorem d_Printer_takeDigits_36 : decode b_Printer_takeDigits 36 = .ok (.iload_n 1, 1) := by decide +kernel
theorem d_Printer_takeDigits_37 : decode b_Printer_takeDigits 37 = .ok (.iconst 1, 1) := by decide +kernel
theorem d_Printer_takeDigits_38 : decode b_Printer_takeDigits 38 = .ok (.iadd, 1) := by decide +kernel
theorem d_Printer_takeDigits_39 : decode b_Printer_takeDigits 39 = .ok (.ireturn, 1) := by decide +kernel
theorem d_Printer_takeDigits_40 : decode b_Printer_takeDigits 40 = .ok (.iinc 1 (1), 3) := by decide +kernel
theorem d_Printer_takeDigits_43 : decode b_Printer_takeDigits 43 = .ok (.goto (-41), 3) := by decide +kernel
theorem d_Printer_takeDigits_46 : decode b_Printer_takeDigits 46 = .ok (.bipush (60), 2) := by decide +kernel
theorem d_Printer_takeDigits_48 : decode b_Printer_takeDigits 48 = .ok (.ireturn, 1) := by decide +kernel
abbrev b_Printer_print : ByteArray := prog_6_method_2_code
abbrev y_Printer_print : MethodName := ⟨"SpectrumDesk$Printer", "print", "([I)V"⟩
abbrev v_Printer_print : List Cond := Cond.code y_Printer_print b_Printer_print 5 none :: AW
theorem d_Printer_print_0 : decode b_Printer_print 0 = .ok (.aload_n 1, 1) := by decide +kernel
theorem d_Printer_print_1 : decode b_Printer_print 1 = .ok (.aload_n 1, 1) := by decide +kernel
theorem d_Printer_print_2 : decode b_Printer_print 2 = .ok (.arraylength, 1) := by decide +kernel
theorem d_Printer_print_3 : decode b_Printer_print 3 = .ok (.invokestatic 22, 3) := by decide +kernel
theorem d_Printer_print_6 : decode b_Printer_print 6 = .ok (.ifCond .ge (7), 3) := by decide +kernel
theorem d_Printer_print_9 : decode b_Printer_print 9 = .ok (.iconst 1, 1) := by decide +kernel
theorem d_Printer_print_10 : decode b_Printer_print 10 = .ok (.goto (4), 3) := by decide +kernel
theorem d_Printer_print_13 : decode b_Printer_print 13 = .ok (.iconst 0, 1) := by decide +kernel
theorem d_Printer_print_14 : decode b_Printer_print 14 = .ok (.istore_n 2, 1) := by decide +kernel
theorem d_Printer_print_15 : decode b_Printer_print 15 = .ok (.aload_n 0, 1) := by decide +kernel
theorem d_Printer_print_16 : decode b_Printer_print 16 = .ok (.getfield 19, 3) := by decide +kernel
theorem d_Printer_print_19 : decode b_Printer_print 19 = .ok (.iconst 0, 1) := by decide +kernel
theorem d_Printer_print_20 : decode b_Printer_print 20 = .ok (.invokestatic 26, 3) := by decide +kernel
theorem d_Printer_print_23 : decode b_Printer_print 23 = .ok (.aload_n 0, 1) := by decide +kernel
theorem d_Printer_print_24 : decode b_Printer_print 24 = .ok (.getfield 19, 3) := by decide +kernel
theorem d_Printer_print_27 : decode b_Printer_print 27 = .ok (.aload_n 1, 1) := by decide +kernel
theorem d_Printer_print_28 : decode b_Printer_print 28 = .ok (.iload_n 2, 1) := by decide +kernel
theorem d_Printer_print_29 : decode b_Printer_print 29 = .ok (.ifCond .eq (9), 3) := by decide +kernel
theorem d_Printer_print_32 : decode b_Printer_print 32 = .ok (.ldc2_w 32, 3) := by decide +kernel
theorem d_Printer_print_35 : decode b_Printer_print 35 = .ok (.goto (4), 3) := by decide +kernel
theorem d_Printer_print_38 : decode b_Printer_print 38 = .ok (.lconst 1, 1) := by decide +kernel
theorem d_Printer_print_39 : decode b_Printer_print 39 = .ok (.iconst 0, 1) := by decide +kernel
theorem d_Printer_print_40 : decode b_Printer_print 40 = .ok (.aload_n 0, 1) := by decide +kernel
theorem d_Printer_print_41 : decode b_Printer_print 41 = .ok (.getfield 19, 3) := by decide +kernel
theorem d_Printer_print_44 : decode b_Printer_print 44 = .ok (.arraylength, 1) := by decide +kernel
theorem d_Printer_print_45 : decode b_Printer_print 45 = .ok (.invokestatic 34, 3) := by decide +kernel
theorem d_Printer_print_48 : decode b_Printer_print 48 = .ok (.aload_n 0, 1) := by decide +kernel
theorem d_Printer_print_49 : decode b_Printer_print 49 = .ok (.invokevirtual 38, 3) := by decide +kernel
theorem d_Printer_print_52 : decode b_Printer_print 52 = .ok (.istore_n 3, 1) := by decide +kernel
theorem d_Printer_print_53 : decode b_Printer_print 53 = .ok (.aload_n 0, 1) := by decide +kernel
theorem d_Printer_print_54 : decode b_Printer_print 54 = .ok (.iconst 0, 1) := by decide +kernel
theorem d_Printer_print_55 : decode b_Printer_print 55 = .ok (.putfield 42, 3) := by decide +kernel
theorem d_Printer_print_58 : decode b_Printer_print 58 = .ok (.iload_n 2, 1) := by decide +kernel
theorem d_Printer_print_59 : decode b_Printer_print 59 = .ok (.ifCond .eq (21), 3) := by decide +kernel
theorem d_Printer_print_62 : decode b_Printer_print 62 = .ok (.aload_n 0, 1) := by decide +kernel
theorem d_Printer_print_63 : decode b_Printer_print 63 = .ok (.getfield 9, 3) := by decide +kernel
theorem d_Printer_print_66 : decode b_Printer_print 66 = .ok (.aload_n 0, 1) := by decide +kernel
theorem d_Printer_print_67 : decode b_Printer_print 67 = .ok (.dup, 1) := by decide +kernel
theorem d_Printer_print_68 : decode b_Printer_print 68 = .ok (.getfield 42, 3) := by decide +kernel
theorem d_Printer_print_71 : decode b_Printer_print 71 = .ok (.dup_x1, 1) := by decide +kernel
theorem d_Printer_print_72 : decode b_Printer_print 72 = .ok (.iconst 1, 1) := by decide +kernel
theorem d_Printer_print_73 : decode b_Printer_print 73 = .ok (.iadd, 1) := by decide +kernel
theorem d_Printer_print_74 : decode b_Printer_print 74 = .ok (.putfield 42, 3) := by decide +kernel
theorem d_Printer_print_77 : decode b_Printer_print 77 = .ok (.bipush (45), 2) := by decide +kernel
theorem d_Printer_print_79 : decode b_Printer_print 79 = .ok (.castore, 1) := by decide +kernel
theorem d_Printer_print_80 : decode b_Printer_print 80 = .ok (.iload_n 3, 1) := by decide +kernel
theorem d_Printer_print_81 : decode b_Printer_print 81 = .ok (.iconst 1, 1) := by decide +kernel
theorem d_Printer_print_82 : decode b_Printer_print 82 = .ok (.isub, 1) := by decide +kernel
theorem d_Printer_print_83 : decode b_Printer_print 83 = .ok (.istore 4, 2) := by decide +kernel
theorem d_Printer_print_85 : decode b_Printer_print 85 = .ok (.iload 4, 2) := by decide +kernel
theorem d_Printer_print_87 : decode b_Printer_print 87 = .ok (.ifCond .lt (36), 3) := by decide +kernel
theorem d_Printer_print_90 : decode b_Printer_print 90 = .ok (.aload_n 0, 1) := by decide +kernel
theorem d_Printer_print_91 : decode b_Printer_print 91 = .ok (.getfield 9, 3) := by decide +kernel
theorem d_Printer_print_94 : decode b_Printer_print 94 = .ok (.aload_n 0, 1) := by decide +kernel
theorem d_Printer_print_95 : decode b_Printer_print 95 = .ok (.dup, 1) := by decide +kernel
theorem d_Printer_print_96 : decode b_Printer_print 96 = .ok (.getfield 42, 3) := by decide +kernel
theorem d_Printer_print_99 : decode b_Printer_print 99 = .ok (.dup_x1, 1) := by decide +kernel
theorem d_Printer_print_100 : decode b_Printer_print 100 = .ok (.iconst 1, 1) := by decide +kernel
theorem d_Printer_print_101 : decode b_Printer_print 101 = .ok (.iadd, 1) := by decide +kernel
theorem d_Printer_print_102 : decode b_Printer_print 102 = .ok (.putfield 42, 3) := by decide +kernel
theorem d_Printer_print_105 : decode b_Printer_print 105 = .ok (.bipush (48), 2) := by decide +kernel
theorem d_Printer_print_107 : decode b_Printer_print 107 = .ok (.aload_n 0, 1) := by decide +kernel
theorem d_Printer_print_108 : decode b_Printer_print 108 = .ok (.getfield 13, 3) := by decide +kernel
theorem d_Printer_print_111 : decode b_Printer_print 111 = .ok (.iload 4, 2) := by decide +kernel
theorem d_Printer_print_113 : decode b_Printer_print 113 = .ok (.iaload, 1) := by decide +kernel
theorem d_Printer_print_114 : decode b_Printer_print 114 = .ok (.iadd, 1) := by decide +kernel
theorem d_Printer_print_115 : decode b_Printer_print 115 = .ok (.i2c, 1) := by decide +kernel
theorem d_Printer_print_116 : decode b_Printer_print 116 = .ok (.castore, 1) := by decide +kernel
theorem d_Printer_print_117 : decode b_Printer_print 117 = .ok (.iinc 4 (-1), 3) := by decide +kernel
theorem d_Printer_print_120 : decode b_Printer_print 120 = .ok (.goto (-35), 3) := by decide +kernel
theorem d_Printer_print_123 : decode b_Printer_print 123 = .ok (.return_, 1) := by decide +kernel
theorem k_3f4b3a3a13 : (Jvm.Cond.fieldLink "SpectrumDesk$Printer" (13 : Nat) "SpectrumDesk$Printer" "digits" "[I") ∈ AW := aw_1 (List.mem_of_getElem? (i := 187) (by decide +kernel)) (by decide +kernel)
theorem k_3119f0cb75 : (Jvm.Cond.fieldLink "SpectrumDesk$Printer" (19 : Nat) "SpectrumDesk$Printer" "rest" "[I") ∈ AW := aw_1 (List.mem_of_getElem? (i := 188) (by decide +kernel)) (by decide +kernel)
theorem k_3739ba2175 : (Jvm.Cond.methodLink "SpectrumDesk$Printer" (46 : Nat) ({ cls := "SpectrumDesk$Limbs", name := "takeLastDigit", desc := "([I)I" } : Jvm.MethodName)) ∈ AW := aw_3 (List.mem_of_getElem? (i := 191) (by decide +kernel)) (by decide +kernel)
theorem k_dc5bc4f088 : (Jvm.Cond.static ({ cls := "SpectrumDesk$Limbs", name := "takeLastDigit", desc := "([I)I" } : Jvm.MethodName)) ∈ AW := aw_3 (List.mem_of_getElem? (i := 192) (by decide +kernel)) (by decide +kernel)
theorem k_242d96987b : (Jvm.Cond.methodLink "SpectrumDesk$Printer" (22 : Nat) ({ cls := "SpectrumDesk$Limbs", name := "sign", desc := "([II)I" } : Jvm.MethodName)) ∈ AW := aw_3 (List.mem_of_getElem? (i := 181) (by decide +kernel)) (by decide +kernel)
theorem k_f3b489d452 : (Jvm.Cond.fieldLink "SpectrumDesk$Printer" (9 : Nat) "SpectrumDesk$Printer" "text" "[C") ∈ AW := aw_1 (List.mem_of_getElem? (i := 185) (by decide +kernel)) (by decide +kernel)
theorem k_a023dcfb45 : (Jvm.Cond.fieldLink "SpectrumDesk$Printer" (42 : Nat) "SpectrumDesk$Printer" "length" "I") ∈ AW := aw_1 (List.mem_of_getElem? (i := 189) (by decide +kernel)) (by decide +kernel)
theorem k_3e0be45279 : (Jvm.Cond.methodLink "SpectrumDesk$Printer" (26 : Nat) ({ cls := "java/util/Arrays", name := "fill", desc := "([II)V" } : Jvm.MethodName)) ∈ AW := aw_3 (List.mem_of_getElem? (i := 184) (by decide +kernel)) (by decide +kernel)
theorem k_d78f3e5e2b : (Jvm.Cond.methodLink "SpectrumDesk$Printer" (34 : Nat) ({ cls := "SpectrumDesk$Limbs", name := "addTimes", desc := "([I[IJII)V" } : Jvm.MethodName)) ∈ AW := aw_3 (List.mem_of_getElem? (i := 186) (by decide +kernel)) (by decide +kernel)
theorem k_7450398b79 : (Jvm.Cond.methodLink "SpectrumDesk$Printer" (38 : Nat) ({ cls := "SpectrumDesk$Printer", name := "takeDigits", desc := "()I" } : Jvm.MethodName)) ∈ AW := aw_3 (List.mem_of_getElem? (i := 187) (by decide +kernel)) (by decide +kernel)
theorem k_bc1ed0fcf0 : (Jvm.Cond.instanceMethod ({ cls := "SpectrumDesk$Printer", name := "takeDigits", desc := "()I" } : Jvm.MethodName)) ∈ AW := aw_3 (List.mem_of_getElem? (i := 189) (by decide +kernel)) (by decide +kernel)
theorem k_9e492d2bbe : (Jvm.Cond.selects "SpectrumDesk$Printer" ({ cls := "SpectrumDesk$Printer", name := "takeDigits", desc := "()I" } : Jvm.MethodName) ({ cls := "SpectrumDesk$Printer", name := "takeDigits", desc := "()I" } : Jvm.MethodName)) ∈ AW := aw_p (by decide +kernel) (by decide +kernel)
theorem k_b565313e6f : (Jvm.Cond.initialized "SpectrumDesk$Printer") ∈ AW := aw_1 (List.mem_of_getElem? (i := 9) (by decide +kernel)) (by decide +kernel)
theorem k_01c21d232e : (Jvm.Cond.constantLong "SpectrumDesk$Printer" (32 : Nat) (-1 : Int64)) ∈ AW := aw_3 (List.mem_of_getElem? (i := 185) (by decide +kernel)) (by decide +kernel)
theorem k_cef822cc58 : (Jvm.Cond.code ({ cls := "SpectrumDesk$Printer", name := "takeDigits", desc := "()I" } : Jvm.MethodName) prog_6_method_3_code (2 : Nat) (Option.some Jvm.ClassFile.FieldType.int)) ∈ AW := aw_3 (List.mem_of_getElem? (i := 190) (by decide +kernel)) (by decide +kernel)
theorem k_dda136cea5 : (Jvm.Cond.code ({ cls := "SpectrumDesk$Printer", name := "print", desc := "([I)V" } : Jvm.MethodName) prog_6_method_2_code (5 : Nat) (Option.none : Option Jvm.ClassFile.FieldType)) ∈ AW := aw_3 (List.mem_of_getElem? (i := 180) (by decide +kernel)) (by decide +kernel)
set_option maxHeartbeats 4000000 in
set_option maxRecDepth 100000 in
theorem c_Printer_takeDigits {l : Launch} {D : va_G} {cI cJ cZ cC cG cP : ClassId} {N : Nat} {ad : Nat → Nat} {σ : Nat → va_E} {ln : Int32} {Dg Rs : Nat → Int32} (hN : N = 193) (hR : σ 179 = .inr (ciR, [.ref (ad 180), .ref (ad 181), .ref (ad 182), .int ln])) (hD : σ 181 = .inl (cI, 60, .inl Dg)) (hRs : σ 182 = .inl (cI, 6, .inl Rs)) {v9 : Nat} (hv : v9 < 10 ^ 50) (hok : lm_ok Rs 6) (hval : lm_u Rs 6 = (v9 : Int)) :
    Met l y_Printer_takeDigits v_Printer_takeDigits (xrm 1) (va_Pc [.ref (ad 179)] (xS D classes (xT cI cJ cZ cC cG cP) N ad σ)) (va_Qi (fun r σ2 => ∃ (k9 : Nat) (Dg' Rs' : Nat → Int32), r = nI k9 ∧ dl v9 k9 ∧ k9 ≤ 51 ∧ (∀ q, q ≠ 181 → q ≠ 182 → σ2 q = σ q) ∧ σ2 181 = .inl (cI, 60, .inl Dg') ∧ σ2 182 = .inl (cI, 6, .inl Rs') ∧ ∀ j, j < k9 → Dg' j = nI (v9 / 10 ^ j % 10)) (xS D classes (xT cI cJ cZ cC cG cP) N ad) (xA N ad)) 0 0 (xA N ad) := by
  refine xr_met rfl (Nat.le_of_ble_eq_true rfl) ?_
  intro p e s m args below meth c ls hx hb X hr hlk hl I
  have hl : lv_has ls 2 [(0, .ref (ad 179))] := hl
  refine lv_iconst (v := nI 0) hx hb d_Printer_takeDigits_0 (by decide) ?_
  refine lv_istore_n (lv' := [(1, .int (nI 0)), (0, .ref (ad 179))]) hx hb d_Printer_takeDigits_1 rfl hl (by decide) rfl (fun ls hl => ?_)
  have loop : ∀ (q9 : Nat) (k : Nat) (σ2 : Nat → va_E) (D2 R2 : Nat → Int32) (ls : Array Slot) (H : Heap) (locs : List Loc), k + q9 = 60 → (∀ q, q ≠ 181 → q ≠ 182 → σ2 q = σ q) → σ2 181 = .inl (cI, 60, .inl D2) → σ2 182 = .inl (cI, 6, .inl R2) → lm_ok R2 6 → lm_u R2 6 = ((v9 / 10 ^ k : Nat) : Int) → (k = 0 ∨ 10 ^ k ≤ v9) → (∀ j, j < k → D2 j = nI (v9 / 10 ^ j % 10)) → lv_has ls 2 [(1, .int (nI k)), (0, .ref (ad 179))] → xI D classes N ad s.heap (σ2) H locs → W p l e (xrm 1) s m args below meth c H locs 0 0 (MQ below (va_Qi (fun r σ2 => ∃ (k9 : Nat) (Dg' Rs' : Nat → Int32), r = nI k9 ∧ dl v9 k9 ∧ k9 ≤ 51 ∧ (∀ q, q ≠ 181 → q ≠ 182 → σ2 q = σ q) ∧ σ2 181 = .inl (cI, 60, .inl Dg') ∧ σ2 182 = .inl (cI, 6, .inl Rs') ∧ ∀ j, j < k9 → Dg' j = nI (v9 / 10 ^ j % 10)) (xS D classes (xT cI cJ cZ cC cG cP) N ad) (xA N ad)) args s 0 0 (xA N ad)) (F0 m 2 ls []) := by
    intro q9
    induction q9 with
    | zero =>
      intro k σ2 D2 R2 ls H locs hk i1 i2 i3 i4 i5 i7 i8 hl I
      exact absurd hk (dl_fuel2 hv i7)
    | succ q9 ih =>
      intro k σ2 D2 R2 ls H locs hk i1 i2 i3 i4 i5 i7 i8 hl I
      have hk9 : k ≤ 50 := dl_small hv i7
      refine lv_iload_n hx hb d_Printer_takeDigits_2 rfl (lv_at hl 0 rfl) ?_
      refine lv_bipush (v := nI 60) hx hb d_Printer_takeDigits_3 (by decide) ?_
      refine lv_icmp_ge hx hb d_Printer_takeDigits_5 rfl (fun hc => ?_) (fun hc => ?_)
      · exact absurd hc (nI_ge (by omega) (by decide))
      · refine lv_aload_n hx hb d_Printer_takeDigits_8 rfl (lv_at hl 1 rfl) ?_
        refine xr_get X I fin_R 179 (by omega) ((i1 179 (by decide) (by decide)).trans hR) rfl 1 (by decide) (List.mem_cons_of_mem _ k_3f4b3a3a13) rfl rfl d_Printer_takeDigits_9 ?_
        refine lv_iload_n hx hb d_Printer_takeDigits_12 rfl (lv_at hl 0 rfl) ?_
        refine lv_aload_n hx hb d_Printer_takeDigits_13 rfl (lv_at hl 1 rfl) ?_
        refine xr_get X I fin_R 179 (by omega) ((i1 179 (by decide) (by decide)).trans hR) rfl 2 (by decide) (List.mem_cons_of_mem _ k_3119f0cb75) rfl rfl d_Printer_takeDigits_14 ?_
        refine xr_calli (xr_runS (kc := 0) (kr := 1) (n := 1) (As := [.ref (ad 182)]) (rest := [.int (nI k), .ref (ad 181)]) X I (c_Limbs_takeLastDigit (σ := σ2) (a := 182) (by omega) i3 (by decide) i4) (xg k_2bc258271a) (List.mem_cons_of_mem _ k_3739ba2175) (List.mem_cons_of_mem _ k_dc5bc4f088) (List.mem_cons_of_mem _ k_b15d0305ca) (by decide +kernel) (by decide) rfl hl.1 rfl (Nat.le_of_ble_eq_true rfl) d_Printer_takeDigits_17) I (fun r1 σ9 H locs hp I => ?_)
        obtain ⟨f3, hr1, rfl, j4, j5⟩ := hp
        have j6 : lm_u f3 6 = ((v9 / 10 ^ (k + 1) : Nat) : Int) := by rw [j5, i5, Nat.pow_succ, ← Nat.div_div_eq_div_mul]; omega
        have hd1 : r1 = nI (v9 / 10 ^ k % 10) := by rw [hr1, i5]; exact congrArg nI (by omega)
        refine xr_topi (y := nI (v9 / 10 ^ k % 10)) hd1 ?_
        refine xr_iast X I 181 0 (by omega) ((va_up_ne _ _ (by decide)).trans i2) rfl (by omega) (by decide) d_Printer_takeDigits_20 (fun H locs I => ?_)
        refine lv_aload_n hx hb d_Printer_takeDigits_21 rfl (lv_at hl 1 rfl) ?_
        refine xr_get X I fin_R 179 (by omega) ((va_up_ne _ _ (by decide)).trans ((va_up_ne _ _ (by decide)).trans ((i1 179 (by decide) (by decide)).trans hR))) rfl 2 (by decide) (List.mem_cons_of_mem _ k_3119f0cb75) rfl rfl d_Printer_takeDigits_22 ?_
        refine lv_aload_n hx hb d_Printer_takeDigits_25 rfl (lv_at hl 1 rfl) ?_
        refine xr_get X I fin_R 179 (by omega) ((va_up_ne _ _ (by decide)).trans ((va_up_ne _ _ (by decide)).trans ((i1 179 (by decide) (by decide)).trans hR))) rfl 2 (by decide) (List.mem_cons_of_mem _ k_3119f0cb75) rfl rfl d_Printer_takeDigits_26 ?_
        refine xr_alen X I 182 0 (by omega) ((va_up_ne _ _ (by decide)).trans (va_up_self _ _ _)) rfl d_Printer_takeDigits_29 ?_
        have hsi : lm_si f3 6 ((v9 / 10 ^ (k + 1) : Nat) : Int) := lm_si_u j4 j6 (Nat.lt_of_le_of_lt (Nat.div_le_self _ _) hv)
        refine xr_calli (xr_runS (kc := 0) (kr := 1) (n := 2) (As := [.ref (ad 182), .int (nI 6)]) (rest := []) X I (c_Limbs_sign (a := 182) (n := 6) (by omega) ((va_up_ne _ _ (by decide)).trans (va_up_self _ _ _)) (by decide) (by decide) (by decide) hsi) (xg k_507de67514) (List.mem_cons_of_mem _ k_242d96987b) (List.mem_cons_of_mem _ k_7f7b95cb8b) (List.mem_cons_of_mem _ k_b15d0305ca) (by decide +kernel) (by decide) rfl hl.1 rfl (Nat.le_of_ble_eq_true rfl) d_Printer_takeDigits_30) I (fun r2 σ9 H locs hp I => ?_)
        obtain ⟨rfl, h9⟩ := hp; rw [h9] at I; clear h9
        have ja : ∀ j, j < k + 1 → upd D2 k (nI (v9 / 10 ^ k % 10)) j = nI (v9 / 10 ^ j % 10) := fun j hj => by
          by_cases h : j = k
          · rw [h, upd_s]
          · rw [upd_n h]; exact i8 j (by omega)
        have jo : ∀ q, q ≠ 181 → q ≠ 182 → va_up (va_up σ2 182 (.inl (cI, 6, .inl f3))) 181 (.inl (cI, 60, .inl (upd D2 k (nI (v9 / 10 ^ k % 10))))) q = σ q := fun q h1 h2 => (va_up_ne _ _ h1).trans ((va_up_ne _ _ h2).trans (i1 q h1 h2))
        refine lv_if_ne hx hb d_Printer_takeDigits_33 rfl (fun hd => ?_) (fun hd => ?_)
        · have hz : v9 / 10 ^ (k + 1) ≠ 0 := fun h => hd (sg_zero.mpr (by rw [h]; rfl))
          refine lv_iinc (k := 0) (v := nI (k + 1)) (lv' := [(1, .int (nI (k + 1))), (0, .ref (ad 179))]) hx hb d_Printer_takeDigits_40 hl rfl (nI_1 k) (by decide) rfl (fun ls hl => ?_)
          refine lv_goto hx hb d_Printer_takeDigits_43 rfl ?_
          exact ih (k + 1) _ _ _ ls H locs (by omega) jo (va_up_self _ _ _) ((va_up_ne _ _ (by decide)).trans (va_up_self _ _ _)) j4 j6 (Or.inr (dl_more hz)) ja hl I
        · have hz : v9 / 10 ^ (k + 1) = 0 := by have h := sg_zero.mp hd; omega
          refine lv_iload_n hx hb d_Printer_takeDigits_36 rfl (lv_at hl 0 rfl) ?_
          refine lv_iconst (v := nI 1) hx hb d_Printer_takeDigits_37 (by decide) ?_
          refine lv_iadd hx hb d_Printer_takeDigits_38 (xr_topi (y := nI (k + 1)) (nI_add k 1) ?_)
          exact xr_iret X I hr hlk ⟨k + 1, _, _, rfl, dl_end i7 hz, by omega, jo, va_up_self _ _ _, (va_up_ne _ _ (by decide)).trans (va_up_self _ _ _), ja⟩ d_Printer_takeDigits_39
  exact loop 60 0 σ Dg Rs ls _ _ (by omega) (fun _ _ _ => rfl) hD hRs hok (by rw [hval, Nat.pow_zero, Nat.div_one]) (Or.inl rfl) (fun j hj => absurd hj (Nat.not_lt_zero _)) hl I
set_option maxHeartbeats 4000000 in
set_option maxRecDepth 100000 in
theorem c_Printer_print {l : Launch} {D : va_G} {cI cJ cZ cC cG cP : ClassId} {N : Nat} {ad : Nat → Nat} {σ : Nat → va_E} {ln : Int32} {Dg Rs : Nat → Int32} (hN : N = 193) (hR : σ 179 = .inr (ciR, [.ref (ad 180), .ref (ad 181), .ref (ad 182), .int ln])) (hD : σ 181 = .inl (cI, 60, .inl Dg)) (hRs : σ 182 = .inl (cI, 6, .inl Rs)) {x9 : Int} {b : Nat} {g Tx : Nat → Int32} (hT : σ 180 = .inl (cC, 61, .inl Tx)) (hb9 : b < 179) (hg : σ b = .inl (cI, 6, .inl g)) (hx9 : lm_si g 6 x9) (hv : x9.natAbs < 10 ^ 50) :
    Met l y_Printer_print v_Printer_print (xrm 2) (va_Pc [.ref (ad 179), .ref (ad b)] (xS D classes (xT cI cJ cZ cC cG cP) N ad σ)) (va_Qv (fun σ2 => ∃ (k9 : Nat) (T' D' R' : Nat → Int32), dl x9.natAbs k9 ∧ (∀ q, q < 179 ∨ 183 ≤ q → σ2 q = σ q) ∧ σ2 179 = .inr (ciR, [.ref (ad 180), .ref (ad 181), .ref (ad 182), .int (nI ((if x9 < 0 then 1 else 0) + k9))]) ∧ σ2 180 = .inl (cC, 61, .inl T') ∧ σ2 181 = .inl (cI, 60, .inl D') ∧ σ2 182 = .inl (cI, 6, .inl R') ∧ (x9 < 0 → T' 0 = nI 45) ∧ ∀ j, j < k9 → T' ((if x9 < 0 then 1 else 0) + j) = nI (48 + x9.natAbs / 10 ^ (k9 - 1 - j) % 10)) (xS D classes (xT cI cJ cZ cC cG cP) N ad) (xA N ad)) 0 0 (xA N ad) := by
  refine xr_met rfl (Nat.le_of_ble_eq_true rfl) ?_
  intro p e s m args below meth c ls hx hb X hr hlk hl I
  have hl : lv_has ls 5 [(0, .ref (ad 179)), (1, .ref (ad b))] := hl
  refine lv_aload_n hx hb d_Printer_print_0 rfl (lv_at hl 1 rfl) ?_
  refine lv_aload_n hx hb d_Printer_print_1 rfl (lv_at hl 1 rfl) ?_
  refine xr_alen X I b 0 (by omega) hg rfl d_Printer_print_2 ?_
  refine xr_calli (xr_runS (kc := 0) (kr := 2) (n := 2) (As := [.ref (ad b), .int (nI 6)]) (rest := []) X I (c_Limbs_sign (a := b) (n := 6) (by omega) hg (by decide) (by decide) (by decide) hx9) (xg k_507de67514) (List.mem_cons_of_mem _ k_242d96987b) (List.mem_cons_of_mem _ k_7f7b95cb8b) (List.mem_cons_of_mem _ k_b15d0305ca) (by decide +kernel) (by decide) rfl hl.1 rfl (Nat.le_of_ble_eq_true rfl) d_Printer_print_3) I (fun r2 σ9 H locs hp I => ?_)
  obtain ⟨rfl, h9⟩ := hp; rw [h9] at I; clear h9
  have prt : ∀ (k9 z9 : Nat) (Dg3 Rs3 : Nat → Int32) (i6 : dl x9.natAbs k9) (i9 : z9 = (if x9 < 0 then 1 else 0)) (ib : z9 ≤ 1 ∧ k9 ≤ 51) (ia : ∀ j, j < k9 → Dg3 j = nI (x9.natAbs / 10 ^ j % 10)) (r9 : Nat) (σ3 : Nat → va_E) (T3 : Nat → Int32) (ls : Array Slot) (H : Heap) (locs : List Loc), r9 ≤ k9 → σ3 179 = .inr (ciR, [.ref (ad 180), .ref (ad 181), .ref (ad 182), .int (nI (z9 + (k9 - r9)))]) → σ3 180 = .inl (cC, 61, .inl T3) → σ3 181 = .inl (cI, 60, .inl Dg3) → σ3 182 = .inl (cI, 6, .inl Rs3) → (∀ q, q < 179 ∨ 183 ≤ q → σ3 q = σ q) → (x9 < 0 → T3 0 = nI 45) → (∀ j, j < k9 - r9 → T3 (z9 + j) = nI (48 + x9.natAbs / 10 ^ (k9 - 1 - j) % 10)) → lv_has ls 5 [(4, .int (nP r9)), (3, .int (nI k9)), (2, .int (nI z9)), (0, .ref (ad 179)), (1, .ref (ad b))] → xI D classes N ad s.heap (σ3) H locs → W p l e (xrm 2) s m args below meth c H locs 0 0 (MQ below (va_Qv (fun σ2 => ∃ (k9 : Nat) (T' D' R' : Nat → Int32), dl x9.natAbs k9 ∧ (∀ q, q < 179 ∨ 183 ≤ q → σ2 q = σ q) ∧ σ2 179 = .inr (ciR, [.ref (ad 180), .ref (ad 181), .ref (ad 182), .int (nI ((if x9 < 0 then 1 else 0) + k9))]) ∧ σ2 180 = .inl (cC, 61, .inl T') ∧ σ2 181 = .inl (cI, 60, .inl D') ∧ σ2 182 = .inl (cI, 6, .inl R') ∧ (x9 < 0 → T' 0 = nI 45) ∧ ∀ j, j < k9 → T' ((if x9 < 0 then 1 else 0) + j) = nI (48 + x9.natAbs / 10 ^ (k9 - 1 - j) % 10)) (xS D classes (xT cI cJ cZ cC cG cP) N ad) (xA N ad)) args s 0 0 (xA N ad)) (F0 m 85 ls []) := by
    intro k9 z9 Dg3 Rs3 i6 i9 ib ia r9
    induction r9 with
    | zero =>
      intro σ3 T3 ls H locs hk i1 i2 i3 i4 i5 i7 i8 hl I
      refine lv_iload hx hb d_Printer_print_85 (lv_at hl 0 rfl) ?_
      refine lv_if_lt hx hb d_Printer_print_87 rfl (fun hc => ?_) (fun hc => ?_)
      · exact xr_vret X I hr hlk ⟨k9, T3, Dg3, Rs3, i6, i5, by rw [i1, Nat.sub_zero, i9], i2, i3, i4, i7, fun j hj => by rw [← i9]; exact i8 j (by omega)⟩ d_Printer_print_123
      · exact absurd nP_0 hc
    | succ r9 ih =>
      intro σ3 T3 ls H locs hk i1 i2 i3 i4 i5 i7 i8 hl I
      refine lv_iload hx hb d_Printer_print_85 (lv_at hl 0 rfl) ?_
      refine xr_topi (y := nI r9) (nP_succ r9) ?_
      refine lv_if_lt hx hb d_Printer_print_87 rfl (fun hc => ?_) (fun hc => ?_)
      · exact absurd hc (nI_pos (by omega))
      · refine lv_aload_n hx hb d_Printer_print_90 rfl (lv_at hl 3 rfl) ?_
        refine xr_get X I fin_R 179 (by omega) i1 rfl 0 (by decide) (List.mem_cons_of_mem _ k_f3b489d452) rfl rfl d_Printer_print_91 ?_
        refine lv_aload_n hx hb d_Printer_print_94 rfl (lv_at hl 3 rfl) ?_
        refine lv_dup hx hb d_Printer_print_95 rfl ?_
        refine xr_get X I fin_R 179 (by omega) i1 rfl 3 (by decide) (List.mem_cons_of_mem _ k_a023dcfb45) rfl rfl d_Printer_print_96 ?_
        refine lv_dup_x1 hx hb d_Printer_print_99 rfl rfl ?_
        refine lv_iconst (v := nI 1) hx hb d_Printer_print_100 (by decide) ?_
        refine lv_iadd hx hb d_Printer_print_101 (xr_topi (y := nI (z9 + (k9 - r9))) (by rw [nI_add]; congr 1; omega) ?_)
        refine xr_put (ty := .int) X I fin_R t_R t_R_ok n_R 179 (by omega) i1 rfl 3 (by decide) (List.mem_cons_of_mem _ k_a023dcfb45) rfl rfl (by decide +kernel) rfl rfl (Nat.le_of_ble_eq_true rfl) d_Printer_print_102 (fun H locs I => ?_)
        have I : xI D classes N ad s.heap (va_up σ3 179 (.inr (ciR, [.ref (ad 180), .ref (ad 181), .ref (ad 182), .int (nI (z9 + (k9 - r9)))]))) H locs := I
        refine lv_bipush (v := nI 48) hx hb d_Printer_print_105 (by decide) ?_
        refine lv_aload_n hx hb d_Printer_print_107 rfl (lv_at hl 3 rfl) ?_
        refine xr_get X I fin_R 179 (by omega) (va_up_self _ _ _) rfl 1 (by decide) (List.mem_cons_of_mem _ k_3f4b3a3a13) rfl rfl d_Printer_print_108 ?_
        refine lv_iload hx hb d_Printer_print_111 (lv_at hl 0 rfl) ?_
        refine xr_topi (y := nI r9) (nP_succ r9) ?_
        refine xr_iald X I 181 0 (by omega) ((va_up_ne _ _ (by decide)).trans i3) rfl (by omega) (by decide) d_Printer_print_113 ?_
        refine xr_topi (y := nI (x9.natAbs / 10 ^ r9 % 10)) (ia r9 (by omega)) ?_
        refine lv_iadd hx hb d_Printer_print_114 (xr_topi (y := nI (48 + (x9.natAbs / 10 ^ r9 % 10))) (nI_add 48 (x9.natAbs / 10 ^ r9 % 10)) ?_)
        refine lv_i2c hx hb d_Printer_print_115 (q_i2c (by omega)) ?_
        refine xr_cast X I 180 3 (by omega) ((va_up_ne _ _ (by decide)).trans i2) rfl (by omega) (by decide) d_Printer_print_116 (fun H locs I => ?_)
        rw [q_narC (by omega)] at I
        refine lv_iinc (k := 0) (v := nP r9) (lv' := [(4, .int (nP r9)), (3, .int (nI k9)), (2, .int (nI z9)), (0, .ref (ad 179)), (1, .ref (ad b))]) hx hb d_Printer_print_117 hl rfl (nP_dec r9) (by decide) rfl (fun ls hl => ?_)
        refine lv_goto hx hb d_Printer_print_120 rfl ?_
        refine ih _ (upd T3 (z9 + (k9 - (r9 + 1))) (nI (48 + x9.natAbs / 10 ^ r9 % 10))) ls H locs (by omega) ((va_up_ne _ _ (by decide)).trans (va_up_self _ _ _)) (va_up_self _ _ _) ((va_up_ne _ _ (by decide)).trans ((va_up_ne _ _ (by decide)).trans i3)) ((va_up_ne _ _ (by decide)).trans ((va_up_ne _ _ (by decide)).trans i4)) (fun q hq => (va_up_ne _ _ (by omega)).trans ((va_up_ne _ _ (by omega)).trans (i5 q hq))) (fun h => ?_) (fun j hj => ?_) hl I
        · rw [upd_n (by rw [i9, if_pos h]; omega)]; exact i7 h
        · by_cases h : j = k9 - (r9 + 1)
          · rw [h, upd_s, show k9 - 1 - (k9 - (r9 + 1)) = r9 by omega]
          · rw [upd_n (by omega)]; exact i8 j (by omega)
  refine lv_if_ge hx hb d_Printer_print_6 rfl (fun hc => ?_) (fun hc => ?_)
  · have hx0 : ¬ x9 < 0 := sg_ge0.mp hc
    refine lv_iconst (v := nI 0) hx hb d_Printer_print_13 (by decide) ?_
    refine lv_istore_n (lv' := [(2, .int (nI 0)), (0, .ref (ad 179)), (1, .ref (ad b))]) hx hb d_Printer_print_14 rfl hl (by decide) rfl (fun ls hl => ?_)
    refine lv_aload_n hx hb d_Printer_print_15 rfl (lv_at hl 1 rfl) ?_
    refine xr_get X I fin_R 179 (by omega) hR rfl 2 (by decide) (List.mem_cons_of_mem _ k_3119f0cb75) rfl rfl d_Printer_print_16 ?_
    refine lv_iconst (v := nI 0) hx hb d_Printer_print_19 (by decide) ?_
    refine xr_callv (xr_runS (kc := 0) (kr := 2) (n := 2) (As := [.ref (ad 182), .int (nI 0)]) (rest := []) X I (c_Arrays_fill2 (σ := σ) (a := 182) (v := nI 0) (by omega) hRs (by decide)) (xg k_fe7515a6f7) (List.mem_cons_of_mem _ k_3e0be45279) (List.mem_cons_of_mem _ k_09018f8637) (List.mem_cons_of_mem _ k_9b51368402) (by decide +kernel) (by decide) rfl hl.1 rfl (Nat.le_of_ble_eq_true rfl) d_Printer_print_20) I (fun σ1 H locs hp I => ?_)
    obtain ⟨R1, rfl, r1, -⟩ := hp
    refine lv_aload_n hx hb d_Printer_print_23 rfl (lv_at hl 1 rfl) ?_
    refine xr_get X I fin_R 179 (by omega) ((va_up_ne _ _ (by decide)).trans hR) rfl 2 (by decide) (List.mem_cons_of_mem _ k_3119f0cb75) rfl rfl d_Printer_print_24 ?_
    refine lv_aload_n hx hb d_Printer_print_27 rfl (lv_at hl 2 rfl) ?_
    refine lv_iload_n hx hb d_Printer_print_28 rfl (lv_at hl 0 rfl) ?_
    refine lv_if_eq hx hb d_Printer_print_29 rfl (fun he => ?_) (fun he => ?_)
    · refine lv_lconst (v := 1) hx hb d_Printer_print_38 (by decide) ?_
      refine lv_iconst (v := nI 0) hx hb d_Printer_print_39 (by decide) ?_
      refine lv_aload_n hx hb d_Printer_print_40 rfl (lv_at hl 1 rfl) ?_
      refine xr_get X I fin_R 179 (by omega) ((va_up_ne _ _ (by decide)).trans hR) rfl 2 (by decide) (List.mem_cons_of_mem _ k_3119f0cb75) rfl rfl d_Printer_print_41 ?_
      refine xr_alen X I 182 0 (by omega) (va_up_self _ _ _) rfl d_Printer_print_44 ?_
      have r2 : lm_is R1 6 0 := lm_is_zero (fun j hj => r1 j hj)
      refine xr_callv (xr_runS (kc := 0) (kr := 2) (n := 5) (As := [.ref (ad 182), .ref (ad b), .long 1, .int (nI 0), .int (nI 6)]) (rest := []) X I (c_Limbs_addTimes (a := 182) (b := b) (off := 0) (n := 6) (d := (1 : Int64)) (by omega) (by omega) (va_up_self _ _ _) ((va_up_ne _ _ (by omega)).trans hg) (by omega) (by decide) (by decide) (by decide) (by decide) (by decide) (by decide) r2 hx9.1) (xg k_c80bea473c) (List.mem_cons_of_mem _ k_d78f3e5e2b) (List.mem_cons_of_mem _ k_0ef42f4896) (List.mem_cons_of_mem _ k_b15d0305ca) (by decide +kernel) (by decide) rfl hl.1 rfl (Nat.le_of_ble_eq_true rfl) d_Printer_print_45) I (fun σ9 H locs hp I => ?_)
      obtain ⟨R2, rfl, -, r3⟩ := hp
      rw [va_up_up] at I
      obtain ⟨r4, r5⟩ := lm_abs (v := x9.natAbs) hv r3 (by rw [show (1 : Int64).toInt = 1 by decide]; omega)
      refine lv_aload_n hx hb d_Printer_print_48 rfl (lv_at hl 1 rfl) ?_
      refine xr_calli (xr_runV (kc := 1) (kr := 2) (n := 0) (As := []) (rest := []) X I (by omega) ((va_up_ne _ _ (by decide)).trans hR) rfl (c_Printer_takeDigits (v9 := x9.natAbs) hN ((va_up_ne _ _ (by decide)).trans hR) ((va_up_ne _ _ (by decide)).trans hD) (va_up_self _ _ _) hv r4 r5) (xg k_cef822cc58) (List.mem_cons_of_mem _ k_7450398b79) (List.mem_cons_of_mem _ k_bc1ed0fcf0) (List.mem_cons_of_mem _ k_9e492d2bbe) (List.mem_cons_of_mem _ k_b565313e6f) (by decide +kernel) (by decide) rfl hl.1 rfl (Nat.le_of_ble_eq_true rfl) d_Printer_print_49) I (fun r6 σ2 H locs hp I => ?_)
      obtain ⟨k9, D2, R3, rfl, q1, q2, q3, q4, q5, q6⟩ := hp
      have s1 : ∀ q, q ≠ 181 → q ≠ 182 → σ2 q = σ q := fun q h1 h2 => (q3 q h1 h2).trans (va_up_ne _ _ h2)
      refine lv_istore_n (lv' := [(3, .int (nI k9)), (2, .int (nI 0)), (0, .ref (ad 179)), (1, .ref (ad b))]) hx hb d_Printer_print_52 rfl hl (by decide) rfl (fun ls hl => ?_)
      refine lv_aload_n hx hb d_Printer_print_53 rfl (lv_at hl 2 rfl) ?_
      refine lv_iconst (v := nI 0) hx hb d_Printer_print_54 (by decide) ?_
      refine xr_put (ty := .int) X I fin_R t_R t_R_ok n_R 179 (by omega) ((s1 179 (by decide) (by decide)).trans hR) rfl 3 (by decide) (List.mem_cons_of_mem _ k_a023dcfb45) rfl rfl (by decide +kernel) rfl rfl (Nat.le_of_ble_eq_true rfl) d_Printer_print_55 (fun H locs I => ?_)
      have I : xI D classes N ad s.heap (va_up σ2 179 (.inr (ciR, [.ref (ad 180), .ref (ad 181), .ref (ad 182), .int (nI 0)]))) H locs := I
      refine lv_iload_n hx hb d_Printer_print_58 rfl (lv_at hl 1 rfl) ?_
      refine lv_if_eq hx hb d_Printer_print_59 rfl (fun hf => ?_) (fun hf => ?_)
      · refine lv_iload_n hx hb d_Printer_print_80 rfl (lv_at hl 0 rfl) ?_
        refine lv_iconst (v := nI 1) hx hb d_Printer_print_81 (by decide) ?_
        refine lv_isub hx hb d_Printer_print_82 (xr_topi (y := nP k9) rfl ?_)
        refine lv_istore (lv' := [(4, .int (nP k9)), (3, .int (nI k9)), (2, .int (nI 0)), (0, .ref (ad 179)), (1, .ref (ad b))]) hx hb d_Printer_print_83 hl (by decide) rfl (fun ls hl => ?_)
        exact prt k9 0 D2 R3 q1 (by rw [if_neg hx0]) ⟨by decide, q2⟩ q6 k9 _ Tx ls H locs (Nat.le_refl _) (by rw [Nat.sub_self]; exact va_up_self _ _ _) ((va_up_ne _ _ (by decide)).trans ((s1 180 (by decide) (by decide)).trans hT)) ((va_up_ne _ _ (by decide)).trans q4) ((va_up_ne _ _ (by decide)).trans q5) (fun q hq => (va_up_ne _ _ (by omega)).trans (s1 q (by omega) (by omega))) (fun h => absurd h hx0) (fun j hj => by omega) hl I
      · exact absurd rfl hf
    · exact absurd rfl he
  · have hx0 : x9 < 0 := Decidable.not_not.mp (fun h => hc (sg_ge0.mpr h))
    refine lv_iconst (v := nI 1) hx hb d_Printer_print_9 (by decide) ?_
    refine lv_goto hx hb d_Printer_print_10 rfl ?_
    refine lv_istore_n (lv' := [(2, .int (nI 1)), (0, .ref (ad 179)), (1, .ref (ad b))]) hx hb d_Printer_print_14 rfl hl (by decide) rfl (fun ls hl => ?_)
    refine lv_aload_n hx hb d_Printer_print_15 rfl (lv_at hl 1 rfl) ?_
    refine xr_get X I fin_R 179 (by omega) hR rfl 2 (by decide) (List.mem_cons_of_mem _ k_3119f0cb75) rfl rfl d_Printer_print_16 ?_
    refine lv_iconst (v := nI 0) hx hb d_Printer_print_19 (by decide) ?_
    refine xr_callv (xr_runS (kc := 0) (kr := 2) (n := 2) (As := [.ref (ad 182), .int (nI 0)]) (rest := []) X I (c_Arrays_fill2 (σ := σ) (a := 182) (v := nI 0) (by omega) hRs (by decide)) (xg k_fe7515a6f7) (List.mem_cons_of_mem _ k_3e0be45279) (List.mem_cons_of_mem _ k_09018f8637) (List.mem_cons_of_mem _ k_9b51368402) (by decide +kernel) (by decide) rfl hl.1 rfl (Nat.le_of_ble_eq_true rfl) d_Printer_print_20) I (fun σ1 H locs hp I => ?_)
    obtain ⟨R1, rfl, r1, -⟩ := hp
    refine lv_aload_n hx hb d_Printer_print_23 rfl (lv_at hl 1 rfl) ?_
    refine xr_get X I fin_R 179 (by omega) ((va_up_ne _ _ (by decide)).trans hR) rfl 2 (by decide) (List.mem_cons_of_mem _ k_3119f0cb75) rfl rfl d_Printer_print_24 ?_
    refine lv_aload_n hx hb d_Printer_print_27 rfl (lv_at hl 2 rfl) ?_
    refine lv_iload_n hx hb d_Printer_print_28 rfl (lv_at hl 0 rfl) ?_
    refine lv_if_eq hx hb d_Printer_print_29 rfl (fun he => ?_) (fun he => ?_)
    · exact absurd he (by decide)
    · refine lv_ldc2 (v := (-1)) hx hb X.1.2.2.2.1 (X.1.2.2.2.2 _ (List.mem_cons_of_mem _ k_01c21d232e)) d_Printer_print_32 ?_
      refine lv_goto hx hb d_Printer_print_35 rfl ?_
      refine lv_iconst (v := nI 0) hx hb d_Printer_print_39 (by decide) ?_
      refine lv_aload_n hx hb d_Printer_print_40 rfl (lv_at hl 1 rfl) ?_
      refine xr_get X I fin_R 179 (by omega) ((va_up_ne _ _ (by decide)).trans hR) rfl 2 (by decide) (List.mem_cons_of_mem _ k_3119f0cb75) rfl rfl d_Printer_print_41 ?_
      refine xr_alen X I 182 0 (by omega) (va_up_self _ _ _) rfl d_Printer_print_44 ?_
      have r2 : lm_is R1 6 0 := lm_is_zero (fun j hj => r1 j hj)
      refine xr_callv (xr_runS (kc := 0) (kr := 2) (n := 5) (As := [.ref (ad 182), .ref (ad b), .long ((-1)), .int (nI 0), .int (nI 6)]) (rest := []) X I (c_Limbs_addTimes (a := 182) (b := b) (off := 0) (n := 6) (d := (-1 : Int64)) (by omega) (by omega) (va_up_self _ _ _) ((va_up_ne _ _ (by omega)).trans hg) (by omega) (by decide) (by decide) (by decide) (by decide) (by decide) (by decide) r2 hx9.1) (xg k_c80bea473c) (List.mem_cons_of_mem _ k_d78f3e5e2b) (List.mem_cons_of_mem _ k_0ef42f4896) (List.mem_cons_of_mem _ k_b15d0305ca) (by decide +kernel) (by decide) rfl hl.1 rfl (Nat.le_of_ble_eq_true rfl) d_Printer_print_45) I (fun σ9 H locs hp I => ?_)
      obtain ⟨R2, rfl, -, r3⟩ := hp
      rw [va_up_up] at I
      obtain ⟨r4, r5⟩ := lm_abs (v := x9.natAbs) hv r3 (by rw [show (-1 : Int64).toInt = -1 by decide]; omega)
      refine lv_aload_n hx hb d_Printer_print_48 rfl (lv_at hl 1 rfl) ?_
      refine xr_calli (xr_runV (kc := 1) (kr := 2) (n := 0) (As := []) (rest := []) X I (by omega) ((va_up_ne _ _ (by decide)).trans hR) rfl (c_Printer_takeDigits (v9 := x9.natAbs) hN ((va_up_ne _ _ (by decide)).trans hR) ((va_up_ne _ _ (by decide)).trans hD) (va_up_self _ _ _) hv r4 r5) (xg k_cef822cc58) (List.mem_cons_of_mem _ k_7450398b79) (List.mem_cons_of_mem _ k_bc1ed0fcf0) (List.mem_cons_of_mem _ k_9e492d2bbe) (List.mem_cons_of_mem _ k_b565313e6f) (by decide +kernel) (by decide) rfl hl.1 rfl (Nat.le_of_ble_eq_true rfl) d_Printer_print_49) I (fun r6 σ2 H locs hp I => ?_)
      obtain ⟨k9, D2, R3, rfl, q1, q2, q3, q4, q5, q6⟩ := hp
      have s1 : ∀ q, q ≠ 181 → q ≠ 182 → σ2 q = σ q := fun q h1 h2 => (q3 q h1 h2).trans (va_up_ne _ _ h2)
      refine lv_istore_n (lv' := [(3, .int (nI k9)), (2, .int (nI 1)), (0, .ref (ad 179)), (1, .ref (ad b))]) hx hb d_Printer_print_52 rfl hl (by decide) rfl (fun ls hl => ?_)
      refine lv_aload_n hx hb d_Printer_print_53 rfl (lv_at hl 2 rfl) ?_
      refine lv_iconst (v := nI 0) hx hb d_Printer_print_54 (by decide) ?_
      refine xr_put (ty := .int) X I fin_R t_R t_R_ok n_R 179 (by omega) ((s1 179 (by decide) (by decide)).trans hR) rfl 3 (by decide) (List.mem_cons_of_mem _ k_a023dcfb45) rfl rfl (by decide +kernel) rfl rfl (Nat.le_of_ble_eq_true rfl) d_Printer_print_55 (fun H locs I => ?_)
      have I : xI D classes N ad s.heap (va_up σ2 179 (.inr (ciR, [.ref (ad 180), .ref (ad 181), .ref (ad 182), .int (nI 0)]))) H locs := I
      refine lv_iload_n hx hb d_Printer_print_58 rfl (lv_at hl 1 rfl) ?_
      refine lv_if_eq hx hb d_Printer_print_59 rfl (fun hf => ?_) (fun hf => ?_)
      · exact absurd hf (by decide)
      · refine lv_aload_n hx hb d_Printer_print_62 rfl (lv_at hl 2 rfl) ?_
        refine xr_get X I fin_R 179 (by omega) (va_up_self _ _ _) rfl 0 (by decide) (List.mem_cons_of_mem _ k_f3b489d452) rfl rfl d_Printer_print_63 ?_
        refine lv_aload_n hx hb d_Printer_print_66 rfl (lv_at hl 2 rfl) ?_
        refine lv_dup hx hb d_Printer_print_67 rfl ?_
        refine xr_get X I fin_R 179 (by omega) (va_up_self _ _ _) rfl 3 (by decide) (List.mem_cons_of_mem _ k_a023dcfb45) rfl rfl d_Printer_print_68 ?_
        refine lv_dup_x1 hx hb d_Printer_print_71 rfl rfl ?_
        refine lv_iconst (v := nI 1) hx hb d_Printer_print_72 (by decide) ?_
        refine lv_iadd hx hb d_Printer_print_73 (xr_topi (y := nI (0 + 1)) (nI_add 0 1) ?_)
        refine xr_put (ty := .int) X I fin_R t_R t_R_ok n_R 179 (by omega) (va_up_self _ _ _) rfl 3 (by decide) (List.mem_cons_of_mem _ k_a023dcfb45) rfl rfl (by decide +kernel) rfl rfl (Nat.le_of_ble_eq_true rfl) d_Printer_print_74 (fun H locs I => ?_)
        rw [va_up_up] at I
        have I : xI D classes N ad s.heap (va_up σ2 179 (.inr (ciR, [.ref (ad 180), .ref (ad 181), .ref (ad 182), .int (nI 1)]))) H locs := I
        refine lv_bipush (v := nI 45) hx hb d_Printer_print_77 (by decide) ?_
        refine xr_cast X I 180 3 (by omega) ((va_up_ne _ _ (by decide)).trans ((s1 180 (by decide) (by decide)).trans hT)) rfl (by decide) (by decide) d_Printer_print_79 (fun H locs I => ?_)
        rw [show vp_nar .char (nI 45) = nI 45 by decide] at I
        refine lv_iload_n hx hb d_Printer_print_80 rfl (lv_at hl 0 rfl) ?_
        refine lv_iconst (v := nI 1) hx hb d_Printer_print_81 (by decide) ?_
        refine lv_isub hx hb d_Printer_print_82 (xr_topi (y := nP k9) rfl ?_)
        refine lv_istore (lv' := [(4, .int (nP k9)), (3, .int (nI k9)), (2, .int (nI 1)), (0, .ref (ad 179)), (1, .ref (ad b))]) hx hb d_Printer_print_83 hl (by decide) rfl (fun ls hl => ?_)
        exact prt k9 1 D2 R3 q1 (by rw [if_pos hx0]) ⟨by decide, q2⟩ q6 k9 _ (upd Tx 0 (nI 45)) ls H locs (Nat.le_refl _) (by rw [Nat.sub_self]; exact (va_up_ne _ _ (by decide)).trans (va_up_self _ _ _)) (va_up_self _ _ _) ((va_up_ne _ _ (by decide)).trans ((va_up_ne _ _ (by decide)).trans q4)) ((va_up_ne _ _ (by decide)).trans ((va_up_ne _ _ (by decide)).trans q5)) (fun q hq => (va_up_ne _ _ (by omega)).trans ((va_up_ne _ _ (by omega)).trans (s1 q (by omega) (by omega)))) (fun _ => upd_s) (fun j hj => by omega) hl I
