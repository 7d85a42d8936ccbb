/-! the reference: lessThan, isAtLeast, cellOf (written by wip/gen) -/
abbrev b_SpectrumDeskModel_lessThan : ByteArray := prog_10_method_38_code
abbrev y_SpectrumDeskModel_lessThan : MethodName := ⟨"SpectrumDeskModel", "lessThan", "(I)I"⟩
abbrev v_SpectrumDeskModel_lessThan : List Cond := Cond.code y_SpectrumDeskModel_lessThan b_SpectrumDeskModel_lessThan 2 (some .int) :: AW
theorem d_SpectrumDeskModel_lessThan_0 : decode b_SpectrumDeskModel_lessThan 0 = .ok (.aload_n 0, 1) := by decide +kernel
theorem d_SpectrumDeskModel_lessThan_1 : decode b_SpectrumDeskModel_lessThan 1 = .ok (.iload_n 1, 1) := by decide +kernel
theorem d_SpectrumDeskModel_lessThan_2 : decode b_SpectrumDeskModel_lessThan 2 = .ok (.invokevirtual 139, 3) := by decide +kernel
theorem d_SpectrumDeskModel_lessThan_5 : decode b_SpectrumDeskModel_lessThan 5 = .ok (.aload_n 0, 1) := by decide +kernel
theorem d_SpectrumDeskModel_lessThan_6 : decode b_SpectrumDeskModel_lessThan 6 = .ok (.getfield 136, 3) := by decide +kernel
theorem d_SpectrumDeskModel_lessThan_9 : decode b_SpectrumDeskModel_lessThan 9 = .ok (.ireturn, 1) := by decide +kernel
abbrev b_SpectrumDeskModel_isAtLeast : ByteArray := prog_10_method_43_code
abbrev y_SpectrumDeskModel_isAtLeast : MethodName := ⟨"SpectrumDeskModel", "isAtLeast", "(I)Z"⟩
abbrev v_SpectrumDeskModel_isAtLeast : List Cond := Cond.code y_SpectrumDeskModel_isAtLeast b_SpectrumDeskModel_isAtLeast 2 (some .boolean) :: AW
theorem d_SpectrumDeskModel_isAtLeast_0 : decode b_SpectrumDeskModel_isAtLeast 0 = .ok (.aload_n 0, 1) := by decide +kernel
theorem d_SpectrumDeskModel_isAtLeast_1 : decode b_SpectrumDeskModel_isAtLeast 1 = .ok (.iconst 0, 1) := by decide +kernel
theorem d_SpectrumDeskModel_isAtLeast_2 : decode b_SpectrumDeskModel_isAtLeast 2 = .ok (.invokevirtual 154, 3) := by decide +kernel
theorem d_SpectrumDeskModel_isAtLeast_5 : decode b_SpectrumDeskModel_isAtLeast 5 = .ok (.iload_n 1, 1) := by decide +kernel
theorem d_SpectrumDeskModel_isAtLeast_6 : decode b_SpectrumDeskModel_isAtLeast 6 = .ok (.if_icmp .gt (7), 3) := by decide +kernel
theorem d_SpectrumDeskModel_isAtLeast_9 : decode b_SpectrumDeskModel_isAtLeast 9 = .ok (.iconst 1, 1) := by decide +kernel
theorem d_SpectrumDeskModel_isAtLeast_10 : decode b_SpectrumDeskModel_isAtLeast 10 = .ok (.goto (4), 3) := by decide +kernel
theorem d_SpectrumDeskModel_isAtLeast_13 : decode b_SpectrumDeskModel_isAtLeast 13 = .ok (.iconst 0, 1) := by decide +kernel
theorem d_SpectrumDeskModel_isAtLeast_14 : decode b_SpectrumDeskModel_isAtLeast 14 = .ok (.ireturn, 1) := by decide +kernel
abbrev b_SpectrumDeskModel_cellOf : ByteArray := prog_10_method_44_code
abbrev y_SpectrumDeskModel_cellOf : MethodName := ⟨"SpectrumDeskModel", "cellOf", "(II)J"⟩
abbrev v_SpectrumDeskModel_cellOf : List Cond := Cond.code y_SpectrumDeskModel_cellOf b_SpectrumDeskModel_cellOf 9 (some .long) :: AW
theorem d_SpectrumDeskModel_cellOf_0 : decode b_SpectrumDeskModel_cellOf 0 = .ok (.ldc2_w 157, 3) := by decide +kernel
theorem d_SpectrumDeskModel_cellOf_3 : decode b_SpectrumDeskModel_cellOf 3 = .ok (.iload_n 2, 1) := by decide +kernel
theorem d_SpectrumDeskModel_cellOf_4 : decode b_SpectrumDeskModel_cellOf 4 = .ok (.lshl, 1) := by decide +kernel
theorem d_SpectrumDeskModel_cellOf_5 : decode b_SpectrumDeskModel_cellOf 5 = .ok (.lneg, 1) := by decide +kernel
theorem d_SpectrumDeskModel_cellOf_6 : decode b_SpectrumDeskModel_cellOf 6 = .ok (.lstore_n 3, 1) := by decide +kernel
theorem d_SpectrumDeskModel_cellOf_7 : decode b_SpectrumDeskModel_cellOf 7 = .ok (.ldc2_w 157, 3) := by decide +kernel
theorem d_SpectrumDeskModel_cellOf_10 : decode b_SpectrumDeskModel_cellOf 10 = .ok (.iload_n 2, 1) := by decide +kernel
theorem d_SpectrumDeskModel_cellOf_11 : decode b_SpectrumDeskModel_cellOf 11 = .ok (.lshl, 1) := by decide +kernel
theorem d_SpectrumDeskModel_cellOf_12 : decode b_SpectrumDeskModel_cellOf 12 = .ok (.lstore 5, 2) := by decide +kernel
theorem d_SpectrumDeskModel_cellOf_14 : decode b_SpectrumDeskModel_cellOf 14 = .ok (.aload_n 0, 1) := by decide +kernel
theorem d_SpectrumDeskModel_cellOf_15 : decode b_SpectrumDeskModel_cellOf 15 = .ok (.bipush (109), 2) := by decide +kernel
theorem d_SpectrumDeskModel_cellOf_17 : decode b_SpectrumDeskModel_cellOf 17 = .ok (.lconst 1, 1) := by decide +kernel
theorem d_SpectrumDeskModel_cellOf_18 : decode b_SpectrumDeskModel_cellOf 18 = .ok (.iload_n 2, 1) := by decide +kernel
theorem d_SpectrumDeskModel_cellOf_19 : decode b_SpectrumDeskModel_cellOf 19 = .ok (.lshl, 1) := by decide +kernel
theorem d_SpectrumDeskModel_cellOf_20 : decode b_SpectrumDeskModel_cellOf 20 = .ok (.invokevirtual 104, 3) := by decide +kernel
theorem d_SpectrumDeskModel_cellOf_23 : decode b_SpectrumDeskModel_cellOf 23 = .ok (.lload 5, 2) := by decide +kernel
theorem d_SpectrumDeskModel_cellOf_25 : decode b_SpectrumDeskModel_cellOf 25 = .ok (.lload_n 3, 1) := by decide +kernel
theorem d_SpectrumDeskModel_cellOf_26 : decode b_SpectrumDeskModel_cellOf 26 = .ok (.lsub, 1) := by decide +kernel
theorem d_SpectrumDeskModel_cellOf_27 : decode b_SpectrumDeskModel_cellOf 27 = .ok (.lconst 1, 1) := by decide +kernel
theorem d_SpectrumDeskModel_cellOf_28 : decode b_SpectrumDeskModel_cellOf 28 = .ok (.lcmp, 1) := by decide +kernel
theorem d_SpectrumDeskModel_cellOf_29 : decode b_SpectrumDeskModel_cellOf 29 = .ok (.ifCond .le (44), 3) := by decide +kernel
theorem d_SpectrumDeskModel_cellOf_32 : decode b_SpectrumDeskModel_cellOf 32 = .ok (.lload_n 3, 1) := by decide +kernel
theorem d_SpectrumDeskModel_cellOf_33 : decode b_SpectrumDeskModel_cellOf 33 = .ok (.lload 5, 2) := by decide +kernel
theorem d_SpectrumDeskModel_cellOf_35 : decode b_SpectrumDeskModel_cellOf 35 = .ok (.lload_n 3, 1) := by decide +kernel
theorem d_SpectrumDeskModel_cellOf_36 : decode b_SpectrumDeskModel_cellOf 36 = .ok (.lsub, 1) := by decide +kernel
theorem d_SpectrumDeskModel_cellOf_37 : decode b_SpectrumDeskModel_cellOf 37 = .ok (.ldc2_w 159, 3) := by decide +kernel
theorem d_SpectrumDeskModel_cellOf_40 : decode b_SpectrumDeskModel_cellOf 40 = .ok (.ldiv, 1) := by decide +kernel
theorem d_SpectrumDeskModel_cellOf_41 : decode b_SpectrumDeskModel_cellOf 41 = .ok (.ladd, 1) := by decide +kernel
theorem d_SpectrumDeskModel_cellOf_42 : decode b_SpectrumDeskModel_cellOf 42 = .ok (.lstore 7, 2) := by decide +kernel
theorem d_SpectrumDeskModel_cellOf_44 : decode b_SpectrumDeskModel_cellOf 44 = .ok (.aload_n 0, 1) := by decide +kernel
theorem d_SpectrumDeskModel_cellOf_45 : decode b_SpectrumDeskModel_cellOf 45 = .ok (.bipush (108), 2) := by decide +kernel
theorem d_SpectrumDeskModel_cellOf_47 : decode b_SpectrumDeskModel_cellOf 47 = .ok (.lload 7, 2) := by decide +kernel
theorem d_SpectrumDeskModel_cellOf_49 : decode b_SpectrumDeskModel_cellOf 49 = .ok (.invokevirtual 104, 3) := by decide +kernel
theorem d_SpectrumDeskModel_cellOf_52 : decode b_SpectrumDeskModel_cellOf 52 = .ok (.aload_n 0, 1) := by decide +kernel
theorem d_SpectrumDeskModel_cellOf_53 : decode b_SpectrumDeskModel_cellOf 53 = .ok (.iload_n 1, 1) := by decide +kernel
theorem d_SpectrumDeskModel_cellOf_54 : decode b_SpectrumDeskModel_cellOf 54 = .ok (.invokevirtual 161, 3) := by decide +kernel
theorem d_SpectrumDeskModel_cellOf_57 : decode b_SpectrumDeskModel_cellOf 57 = .ok (.ifCond .eq (9), 3) := by decide +kernel
theorem d_SpectrumDeskModel_cellOf_60 : decode b_SpectrumDeskModel_cellOf 60 = .ok (.lload 7, 2) := by decide +kernel
theorem d_SpectrumDeskModel_cellOf_62 : decode b_SpectrumDeskModel_cellOf 62 = .ok (.lstore_n 3, 1) := by decide +kernel
theorem d_SpectrumDeskModel_cellOf_63 : decode b_SpectrumDeskModel_cellOf 63 = .ok (.goto (7), 3) := by decide +kernel
theorem d_SpectrumDeskModel_cellOf_66 : decode b_SpectrumDeskModel_cellOf 66 = .ok (.lload 7, 2) := by decide +kernel
theorem d_SpectrumDeskModel_cellOf_68 : decode b_SpectrumDeskModel_cellOf 68 = .ok (.lstore 5, 2) := by decide +kernel
theorem d_SpectrumDeskModel_cellOf_70 : decode b_SpectrumDeskModel_cellOf 70 = .ok (.goto (-47), 3) := by decide +kernel
theorem d_SpectrumDeskModel_cellOf_73 : decode b_SpectrumDeskModel_cellOf 73 = .ok (.lload_n 3, 1) := by decide +kernel
theorem d_SpectrumDeskModel_cellOf_74 : decode b_SpectrumDeskModel_cellOf 74 = .ok (.lreturn, 1) := by decide +kernel
theorem k_608a9280a6 : (Jvm.Cond.methodLink "SpectrumDeskModel" (139 : Nat) ({ cls := "SpectrumDeskModel", name := "weigh", desc := "(I)V" } : Jvm.MethodName)) ∈ AW := aw_5 (List.mem_of_getElem? (i := 101) (by decide +kernel)) (by decide +kernel)
theorem k_9be29ce48e : (Jvm.Cond.instanceMethod ({ cls := "SpectrumDeskModel", name := "weigh", desc := "(I)V" } : Jvm.MethodName)) ∈ AW := aw_5 (List.mem_of_getElem? (i := 103) (by decide +kernel)) (by decide +kernel)
theorem k_f13629996f : (Jvm.Cond.selects "SpectrumDeskModel" ({ cls := "SpectrumDeskModel", name := "weigh", desc := "(I)V" } : Jvm.MethodName) ({ cls := "SpectrumDeskModel", name := "weigh", desc := "(I)V" } : Jvm.MethodName)) ∈ AW := aw_p (by decide +kernel) (by decide +kernel)
theorem k_3baecd7f24 : (Jvm.Cond.methodLink "SpectrumDeskModel" (154 : Nat) ({ cls := "SpectrumDeskModel", name := "lessThan", desc := "(I)I" } : Jvm.MethodName)) ∈ AW := aw_5 (List.mem_of_getElem? (i := 123) (by decide +kernel)) (by decide +kernel)
theorem k_f6e6d76f54 : (Jvm.Cond.instanceMethod ({ cls := "SpectrumDeskModel", name := "lessThan", desc := "(I)I" } : Jvm.MethodName)) ∈ AW := aw_5 (List.mem_of_getElem? (i := 125) (by decide +kernel)) (by decide +kernel)
theorem k_6a49491994 : (Jvm.Cond.selects "SpectrumDeskModel" ({ cls := "SpectrumDeskModel", name := "lessThan", desc := "(I)I" } : Jvm.MethodName) ({ cls := "SpectrumDeskModel", name := "lessThan", desc := "(I)I" } : Jvm.MethodName)) ∈ AW := aw_p (by decide +kernel) (by decide +kernel)
theorem k_ad913d9892 : (Jvm.Cond.constantLong "SpectrumDeskModel" (159 : Nat) (2 : Int64)) ∈ AW := aw_5 (List.mem_of_getElem? (i := 118) (by decide +kernel)) (by decide +kernel)
theorem k_7a89662665 : (Jvm.Cond.methodLink "SpectrumDeskModel" (104 : Nat) ({ cls := "SpectrumDeskModel", name := "bigSet", desc := "(IJ)V" } : Jvm.MethodName)) ∈ AW := aw_5 (List.mem_of_getElem? (i := 36) (by decide +kernel)) (by decide +kernel)
theorem k_203da126f2 : (Jvm.Cond.instanceMethod ({ cls := "SpectrumDeskModel", name := "bigSet", desc := "(IJ)V" } : Jvm.MethodName)) ∈ AW := aw_5 (List.mem_of_getElem? (i := 38) (by decide +kernel)) (by decide +kernel)
theorem k_e2b6114fa3 : (Jvm.Cond.selects "SpectrumDeskModel" ({ cls := "SpectrumDeskModel", name := "bigSet", desc := "(IJ)V" } : Jvm.MethodName) ({ cls := "SpectrumDeskModel", name := "bigSet", desc := "(IJ)V" } : Jvm.MethodName)) ∈ AW := aw_p (by decide +kernel) (by decide +kernel)
theorem k_06b9e39d42 : (Jvm.Cond.methodLink "SpectrumDeskModel" (161 : Nat) ({ cls := "SpectrumDeskModel", name := "isAtLeast", desc := "(I)Z" } : Jvm.MethodName)) ∈ AW := aw_5 (List.mem_of_getElem? (i := 119) (by decide +kernel)) (by decide +kernel)
theorem k_36b5ef1bbf : (Jvm.Cond.instanceMethod ({ cls := "SpectrumDeskModel", name := "isAtLeast", desc := "(I)Z" } : Jvm.MethodName)) ∈ AW := aw_5 (List.mem_of_getElem? (i := 121) (by decide +kernel)) (by decide +kernel)
theorem k_abacde11fd : (Jvm.Cond.selects "SpectrumDeskModel" ({ cls := "SpectrumDeskModel", name := "isAtLeast", desc := "(I)Z" } : Jvm.MethodName) ({ cls := "SpectrumDeskModel", name := "isAtLeast", desc := "(I)Z" } : Jvm.MethodName)) ∈ AW := aw_p (by decide +kernel) (by decide +kernel)
theorem k_57c8867ebf : (Jvm.Cond.constantLong "SpectrumDeskModel" (157 : Nat) (8000000 : Int64)) ∈ AW := aw_5 (List.mem_of_getElem? (i := 117) (by decide +kernel)) (by decide +kernel)
theorem k_28e184ee74 : (Jvm.Cond.code ({ cls := "SpectrumDeskModel", name := "lessThan", desc := "(I)I" } : Jvm.MethodName) prog_10_method_38_code (2 : Nat) (Option.some Jvm.ClassFile.FieldType.int)) ∈ AW := aw_5 (List.mem_of_getElem? (i := 126) (by decide +kernel)) (by decide +kernel)
theorem k_b12ea24c8e : (Jvm.Cond.code ({ cls := "SpectrumDeskModel", name := "isAtLeast", desc := "(I)Z" } : Jvm.MethodName) prog_10_method_43_code (2 : Nat) (Option.some Jvm.ClassFile.FieldType.boolean)) ∈ AW := aw_5 (List.mem_of_getElem? (i := 122) (by decide +kernel)) (by decide +kernel)
theorem k_f126756040 : (Jvm.Cond.code ({ cls := "SpectrumDeskModel", name := "cellOf", desc := "(II)J" } : Jvm.MethodName) prog_10_method_44_code (9 : Nat) (Option.some Jvm.ClassFile.FieldType.long)) ∈ AW := aw_5 (List.mem_of_getElem? (i := 116) (by decide +kernel)) (by decide +kernel)
set_option maxHeartbeats 4000000 in
set_option maxRecDepth 100000 in
theorem c_SpectrumDeskModel_lessThan {l : Launch} {D : va_G} {cI cJ cZ cC cG cP : ClassId} {ad : Nat → Nat} {σ0 : Nat → va_E} {th nn rws ps le eq : Int32} {P L M G : Nat → Int32} {Z : Nat → Int} (hG : σ0 187 = .inl (cI, 5, .inl G)) (hB : RB P L M Z) {b dd : Nat} {p0 : Nat → Int} (hb9 : b < 4) (hd6 : dd ≤ 6) (hGb : G b = nI dd) (hp0 : ∀ k, k ≤ dd → Z (8 * b + k) = p0 k) (hH : wH (Z 108) (Z 109) dd p0) :
    Met l y_SpectrumDeskModel_lessThan v_SpectrumDeskModel_lessThan (xrm 4) (va_Pc [.ref (ad 183), .int (nI (8 * b))] (xS D classes (xT cI cJ cZ cC cG cP) 193 ad (rw3 σ0 ciM cI cZ (mfs ad th nn rws ps le eq) P L M))) (va_Qi (fun r σ2 => r = wL (Z 108) (Z 109) dd p0 ∧ wU σ0 cI cZ ad th nn rws ps G Z (Z 108) (Z 109) dd p0 σ2) (xS D classes (xT cI cJ cZ cC cG cP) 193 ad) (xA 193 ad)) 0 0 (xA 193 ad) := by
  refine xr_met rfl (Nat.le_of_ble_eq_true rfl) ?_
  intro p e s m args below meth c ls hx hb X hr hlk hl I
  have hl : lv_has ls 2 [(0, .ref (ad 183)), (1, .int (nI (8 * b)))] := hl
  refine lv_aload_n hx hb d_SpectrumDeskModel_lessThan_0 rfl (lv_at hl 0 rfl) ?_
  refine lv_iload_n hx hb d_SpectrumDeskModel_lessThan_1 rfl (lv_at hl 1 rfl) ?_
  refine xr_callv (xr_runV (kc := 3) (kr := 4) (n := 1) (As := [.int (nI (8 * b))]) (rest := []) X I (by decide) (r183 ..) rfl (c_SpectrumDeskModel_weigh hG hB hb9 hd6 hGb hp0 hH.1 hH.2.1 hH.2.2.1 hH.2.2.2) (xg k_0500b0c175) (List.mem_cons_of_mem _ k_608a9280a6) (List.mem_cons_of_mem _ k_9be29ce48e) (List.mem_cons_of_mem _ k_f13629996f) (List.mem_cons_of_mem _ k_30fa15c9ac) (by decide +kernel) (by decide) rfl hl.1 rfl (Nat.le_of_ble_eq_true rfl) d_SpectrumDeskModel_lessThan_2) I (fun σ1 H locs hp I => ?_)
  have hp : wU σ0 cI cZ ad th nn rws ps G Z (Z 108) (Z 109) dd p0 σ1 := hp
  obtain ⟨P1, L1, M1, Z1, rfl, hB1, hE1⟩ := hp
  refine lv_aload_n hx hb d_SpectrumDeskModel_lessThan_5 rfl (lv_at hl 0 rfl) ?_
  refine xr_get X I fin_M 183 (by decide) (r183 ..) rfl 12 (by decide) (List.mem_cons_of_mem _ k_15947873ae) rfl rfl d_SpectrumDeskModel_lessThan_6 ?_
  exact xr_iret X I hr hlk ⟨rfl, P1, L1, M1, Z1, rfl, hB1, hE1⟩ d_SpectrumDeskModel_lessThan_9
set_option maxHeartbeats 4000000 in
set_option maxRecDepth 100000 in
theorem c_SpectrumDeskModel_isAtLeast {l : Launch} {D : va_G} {cI cJ cZ cC cG cP : ClassId} {ad : Nat → Nat} {σ0 : Nat → va_E} {th nn rws ps le eq : Int32} {P L M G : Nat → Int32} {Z : Nat → Int} (hG : σ0 187 = .inl (cI, 5, .inl G)) (hB : RB P L M Z) {dd : Nat} {p0 : Nat → Int} (hd6 : dd ≤ 6) (hGb : G 0 = nI dd) (hp0 : ∀ k, k ≤ dd → Z (k) = p0 k) (hH : wH (Z 108) (Z 109) dd p0) {i : Int32} :
    Met l y_SpectrumDeskModel_isAtLeast v_SpectrumDeskModel_isAtLeast (xrm 5) (va_Pc [.ref (ad 183), .int i] (xS D classes (xT cI cJ cZ cC cG cP) 193 ad (rw3 σ0 ciM cI cZ (mfs ad th nn rws ps le eq) P L M))) (va_Qi (fun r σ2 => r = (if wL (Z 108) (Z 109) dd p0 ≤ i then nI 1 else nI 0) ∧ wU σ0 cI cZ ad th nn rws ps G Z (Z 108) (Z 109) dd p0 σ2) (xS D classes (xT cI cJ cZ cC cG cP) 193 ad) (xA 193 ad)) 0 0 (xA 193 ad) := by
  refine xr_met rfl (Nat.le_of_ble_eq_true rfl) ?_
  intro p e s m args below meth c ls hx hb X hr hlk hl I
  have hl : lv_has ls 2 [(0, .ref (ad 183)), (1, .int i)] := hl
  refine lv_aload_n hx hb d_SpectrumDeskModel_isAtLeast_0 rfl (lv_at hl 0 rfl) ?_
  refine lv_iconst (v := nI 0) hx hb d_SpectrumDeskModel_isAtLeast_1 (by decide) ?_
  refine xr_calli (xr_runV (kc := 4) (kr := 5) (n := 1) (As := [.int (nI 0)]) (rest := []) X I (by decide) (r183 ..) rfl (c_SpectrumDeskModel_lessThan (b := 0) hG hB (by decide) hd6 hGb (fun k hk => by rw [Nat.mul_zero, Nat.zero_add]; exact hp0 k hk) hH) (xg k_28e184ee74) (List.mem_cons_of_mem _ k_3baecd7f24) (List.mem_cons_of_mem _ k_f6e6d76f54) (List.mem_cons_of_mem _ k_6a49491994) (List.mem_cons_of_mem _ k_30fa15c9ac) (by decide +kernel) (by decide) rfl hl.1 rfl (Nat.le_of_ble_eq_true rfl) d_SpectrumDeskModel_isAtLeast_2) I (fun r1 σ1 H locs hp I => ?_)
  obtain ⟨rfl, hu⟩ := hp
  obtain ⟨P1, L1, M1, Z1, rfl, hB1, hE1⟩ := hu
  refine lv_iload_n hx hb d_SpectrumDeskModel_isAtLeast_5 rfl (lv_at hl 1 rfl) ?_
  refine lv_icmp_gt hx hb d_SpectrumDeskModel_isAtLeast_6 rfl (fun hc => ?_) (fun hc => ?_)
  · refine lv_iconst (v := nI 0) hx hb d_SpectrumDeskModel_isAtLeast_13 (by decide) ?_
    exact xr_zret X I hr hlk (by decide +kernel) ⟨by rw [if_neg (Int32.not_le.mpr hc)], P1, L1, M1, Z1, rfl, hB1, hE1⟩ d_SpectrumDeskModel_isAtLeast_14
  · refine lv_iconst (v := nI 1) hx hb d_SpectrumDeskModel_isAtLeast_9 (by decide) ?_
    refine lv_goto hx hb d_SpectrumDeskModel_isAtLeast_10 rfl ?_
    exact xr_zret X I hr hlk (by decide +kernel) ⟨by rw [if_pos (Int32.not_lt.mp hc)], P1, L1, M1, Z1, rfl, hB1, hE1⟩ d_SpectrumDeskModel_isAtLeast_14
set_option maxHeartbeats 4000000 in
set_option maxRecDepth 100000 in
theorem c_SpectrumDeskModel_cellOf {l : Launch} {D : va_G} {cI cJ cZ cC cG cP : ClassId} {ad : Nat → Nat} {σ0 : Nat → va_E} {th nn rws ps le eq : Int32} {P L M G : Nat → Int32} {Z : Nat → Int} (hG : σ0 187 = .inl (cI, 5, .inl G)) (hB : RB P L M Z) {dd w9 : Nat} {p0 : Nat → Int} {i : Int32} (hw9 : w9 ≤ 30) (hd6 : dd ≤ 6) (hGb : G 0 = nI dd) (hp0 : ∀ k, k ≤ dd → Z k = p0 k) (hpb : ∀ k, k ≤ dd → bd (2 ^ 150) (p0 k)) :
    Met l y_SpectrumDeskModel_cellOf v_SpectrumDeskModel_cellOf (xrm 6) (va_Pc [.ref (ad 183), .int i, .int (nI w9)] (xS D classes (xT cI cJ cZ cC cG cP) 193 ad (rw3 σ0 ciM cI cZ (mfs ad th nn rws ps le eq) P L M))) (va_Ql (fun r σ2 => cellP p0 dd w9 i r ∧ mE σ0 cI cZ ad th nn rws ps G Z σ2) (xS D classes (xT cI cJ cZ cC cG cP) 193 ad) (xA 193 ad)) 0 0 (xA 193 ad) := by
  refine xr_met rfl (Nat.le_of_ble_eq_true rfl) ?_
  intro p e s m args below meth c ls hx hb X hr hlk hl I
  have hl : lv_has ls 9 [(0, .ref (ad 183)), (1, .int i), (2, .int (nI w9))] := hl
  have hp2 := q_p2 hw9
  have loop : ∀ (k : Nat) (hi lo : Int64) (s2 : Nat → va_E) (G2 : Nat → Int32) (zz : Unit) (P2 L2 M2 : Nat → Int32) (Z2 : Nat → Int) (le2 eq2 : Int32) (ls : Array Slot) (H : Heap) (locs : List Loc), hi.toInt - lo.toInt ≤ (k : Int) + 1 → lo.toInt < hi.toInt → -(8000000 * 2 ^ w9) ≤ lo.toInt → hi.toInt ≤ 8000000 * 2 ^ w9 → (lo.toInt = -(8000000 * 2 ^ w9) ∨ wL lo.toInt (2 ^ w9) dd p0 ≤ i) → (hi.toInt = 8000000 * 2 ^ w9 ∨ ¬ wL hi.toInt (2 ^ w9) dd p0 ≤ i) → s2 187 = .inl (cI, 5, .inl G2) → (∀ q, q ≠ 187 → s2 q = σ0 q) → (∀ a, a ≠ 4 → G2 a = G a) → RB P2 L2 M2 Z2 → zOK Z Z2 → Z2 109 = 2 ^ w9 → lv_has ls 9 [(5, .long hi), (3, .long lo), (0, .ref (ad 183)), (1, .int i), (2, .int (nI w9))] → xI D classes 193 ad s.heap (rw3 s2 ciM cI cZ (mfs ad th nn rws ps le2 eq2) P2 L2 M2) H locs → W p l e (xrm 6) s m args below meth c H locs 0 0 (MQ below (va_Ql (fun r σ2 => cellP p0 dd w9 i r ∧ mE σ0 cI cZ ad th nn rws ps G Z σ2) (xS D classes (xT cI cJ cZ cC cG cP) 193 ad) (xA 193 ad)) args s 0 0 (xA 193 ad)) (F0 m 23 ls []) := by
    intro k
    induction k with
    | zero =>
      intro hi lo s2 G2 zz P2 L2 M2 Z2 le2 eq2 ls H locs hk hlt b1 b2 hlo hhi hG2 hs2 hg2 hB2 hz2 hz9 hl I
      have b3 : 8000000 * 2 ^ w9 ≤ (8589934592000000 : Int) := by omega
      have hm := q_mid (show -8589934592000000 ≤ lo.toInt by omega) (show hi.toInt ≤ 8589934592000000 by omega) hlt
      refine lv_lload hx hb d_SpectrumDeskModel_cellOf_23 (lv_at hl 0 rfl) ?_
      refine lv_lload_n hx hb d_SpectrumDeskModel_cellOf_25 rfl (lv_at hl 1 rfl) ?_
      refine lv_lsub hx hb d_SpectrumDeskModel_cellOf_26 ?_
      refine lv_lconst (v := 1) hx hb d_SpectrumDeskModel_cellOf_27 (by decide) ?_
      refine W.lcmp hx hb d_SpectrumDeskModel_cellOf_28 ?_
      refine lv_if_le hx hb d_SpectrumDeskModel_cellOf_29 rfl (fun hc => ?_) (fun hc => ?_)
      · have h1 : hi.toInt = lo.toInt + 1 := by have h := Int64.le_iff_toInt_le.mp ((lg_cmp_le _ _).mp hc); rw [hm.1, show (1 : Int64).toInt = 1 by decide] at h; omega
        refine lv_lload_n hx hb d_SpectrumDeskModel_cellOf_73 rfl (lv_at hl 1 rfl) ?_
        exact xr_lret X I hr hlk ⟨⟨b1, by omega, hlo, by rw [← h1]; exact hhi⟩, s2, G2, P2, L2, M2, Z2, le2, eq2, rfl, hG2, hs2, hg2, hB2, hz2⟩ d_SpectrumDeskModel_cellOf_74
      · exact absurd ((lg_cmp_le _ _).mpr (Int64.le_iff_toInt_le.mpr (by rw [hm.1, show (1 : Int64).toInt = 1 by decide]; simp at hk; omega))) hc
    | succ k ih =>
      intro hi lo s2 G2 zz P2 L2 M2 Z2 le2 eq2 ls H locs hk hlt b1 b2 hlo hhi hG2 hs2 hg2 hB2 hz2 hz9 hl I
      have b3 : 8000000 * 2 ^ w9 ≤ (8589934592000000 : Int) := by omega
      have hm := q_mid (show -8589934592000000 ≤ lo.toInt by omega) (show hi.toInt ≤ 8589934592000000 by omega) hlt
      refine lv_lload hx hb d_SpectrumDeskModel_cellOf_23 (lv_at hl 0 rfl) ?_
      refine lv_lload_n hx hb d_SpectrumDeskModel_cellOf_25 rfl (lv_at hl 1 rfl) ?_
      refine lv_lsub hx hb d_SpectrumDeskModel_cellOf_26 ?_
      refine lv_lconst (v := 1) hx hb d_SpectrumDeskModel_cellOf_27 (by decide) ?_
      refine W.lcmp hx hb d_SpectrumDeskModel_cellOf_28 ?_
      refine lv_if_le hx hb d_SpectrumDeskModel_cellOf_29 rfl (fun hc => ?_) (fun hc => ?_)
      · have h1 : hi.toInt = lo.toInt + 1 := by have h := Int64.le_iff_toInt_le.mp ((lg_cmp_le _ _).mp hc); rw [hm.1, show (1 : Int64).toInt = 1 by decide] at h; omega
        refine lv_lload_n hx hb d_SpectrumDeskModel_cellOf_73 rfl (lv_at hl 1 rfl) ?_
        exact xr_lret X I hr hlk ⟨⟨b1, by omega, hlo, by rw [← h1]; exact hhi⟩, s2, G2, P2, L2, M2, Z2, le2, eq2, rfl, hG2, hs2, hg2, hB2, hz2⟩ d_SpectrumDeskModel_cellOf_74
      · have hgt : 1 < hi.toInt - lo.toInt := by rcases Int.lt_or_le 1 (hi.toInt - lo.toInt) with h | h; exact h; exact absurd ((lg_cmp_le _ _).mpr (Int64.le_iff_toInt_le.mpr (by rw [hm.1, show (1 : Int64).toInt = 1 by decide]; exact h))) hc
        refine lv_lload_n hx hb d_SpectrumDeskModel_cellOf_32 rfl (lv_at hl 1 rfl) ?_
        refine lv_lload hx hb d_SpectrumDeskModel_cellOf_33 (lv_at hl 0 rfl) ?_
        refine lv_lload_n hx hb d_SpectrumDeskModel_cellOf_35 rfl (lv_at hl 1 rfl) ?_
        refine lv_lsub hx hb d_SpectrumDeskModel_cellOf_36 ?_
        refine lv_ldc2 (v := 2) hx hb X.1.2.2.2.1 (X.1.2.2.2.2 _ (List.mem_cons_of_mem _ k_ad913d9892)) d_SpectrumDeskModel_cellOf_37 ?_
        refine lv_ldiv hx hb d_SpectrumDeskModel_cellOf_40 (by decide) ?_
        refine lv_ladd hx hb d_SpectrumDeskModel_cellOf_41 ?_
        refine lv_topl (fun mi emi => ?_)
        have hmi : mi.toInt = lo.toInt + (hi.toInt - lo.toInt) / 2 := by rw [emi]; exact hm.2
        refine lv_lstore (lv' := [(7, .long mi), (5, .long hi), (3, .long lo), (0, .ref (ad 183)), (1, .int i), (2, .int (nI w9))]) hx hb d_SpectrumDeskModel_cellOf_42 hl (by decide) rfl (fun ls hl => ?_)
        refine lv_aload_n hx hb d_SpectrumDeskModel_cellOf_44 rfl (lv_at hl 3 rfl) ?_
        refine lv_bipush (v := nI 108) hx hb d_SpectrumDeskModel_cellOf_45 (by decide) ?_
        refine lv_lload hx hb d_SpectrumDeskModel_cellOf_47 (lv_at hl 0 rfl) ?_
        refine xr_callv (xr_runV (kc := 0) (kr := 6) (n := 2) (As := [.int (nI 108), .long mi]) (rest := []) X I (by decide) (r183 ..) rfl (c_SpectrumDeskModel_bigSet (w := 108) (v := mi) mfs_ok (by decide)) (xg k_5f300b8d49) (List.mem_cons_of_mem _ k_7a89662665) (List.mem_cons_of_mem _ k_203da126f2) (List.mem_cons_of_mem _ k_e2b6114fa3) (List.mem_cons_of_mem _ k_30fa15c9ac) (by decide +kernel) (by decide) rfl hl.1 rfl (Nat.le_of_ble_eq_true rfl) d_SpectrumDeskModel_cellOf_49) I (fun σ1 H locs hp I => ?_)
        obtain ⟨P3, L3, M3, rfl, hf, hx9⟩ := hp
        have hB3 := RB_up hB2 hf hx9
        refine lv_aload_n hx hb d_SpectrumDeskModel_cellOf_52 rfl (lv_at hl 3 rfl) ?_
        refine lv_iload_n hx hb d_SpectrumDeskModel_cellOf_53 rfl (lv_at hl 4 rfl) ?_
        have e8 : va_up Z2 108 mi.toInt 108 = mi.toInt := va_up_self _ _ _
        have e9 : va_up Z2 108 mi.toInt 109 = 2 ^ w9 := (va_up_ne _ _ (by decide)).trans hz9
        have hpp : ∀ k, k ≤ dd → va_up Z2 108 mi.toInt k = p0 k := fun k hk => (va_up_ne _ _ (by omega)).trans ((hz2 k (by omega)).trans (hp0 k hk))
        have hHH : wH (va_up Z2 108 mi.toInt 108) (va_up Z2 108 mi.toInt 109) dd p0 := by rw [e8, e9]; exact wH_of hd6 (bd_53 (by omega) (by omega)) (bd_53 (by omega) (by omega)) hpb
        refine xr_calli (xr_runV (kc := 5) (kr := 6) (n := 1) (As := [.int i]) (rest := []) X I (by decide) (r183 ..) rfl (c_SpectrumDeskModel_isAtLeast (i := i) hG2 hB3 hd6 ((hg2 0 (by decide)).trans hGb) hpp hHH) (xg k_b12ea24c8e) (List.mem_cons_of_mem _ k_06b9e39d42) (List.mem_cons_of_mem _ k_36b5ef1bbf) (List.mem_cons_of_mem _ k_abacde11fd) (List.mem_cons_of_mem _ k_30fa15c9ac) (by decide +kernel) (by decide) rfl hl.1 rfl (Nat.le_of_ble_eq_true rfl) d_SpectrumDeskModel_cellOf_54) I (fun r1 σ1 H locs hp I => ?_)
        obtain ⟨rfl, P4, L4, M4, Z4, rfl, hB4, hE4⟩ := hp
        rw [e8, e9] at I hE4 ⊢
        refine lv_if_eq hx hb d_SpectrumDeskModel_cellOf_57 rfl (fun hd => ?_) (fun hd => ?_)
        · have hn : ¬ wL mi.toInt (2 ^ w9) dd p0 ≤ i := fun h => by rw [if_pos h] at hd; exact absurd hd (by decide)
          refine lv_lload hx hb d_SpectrumDeskModel_cellOf_66 (lv_at hl 0 rfl) ?_
          refine lv_lstore (lv' := [(5, .long mi), (7, .long mi), (3, .long lo), (0, .ref (ad 183)), (1, .int i), (2, .int (nI w9))]) hx hb d_SpectrumDeskModel_cellOf_68 hl (by decide) rfl (fun ls hl => ?_)
          refine lv_goto hx hb d_SpectrumDeskModel_cellOf_70 rfl ?_
          have hl := lv_sub hl [0, 2, 3, 4, 5] rfl
          have hl : lv_has ls 9 [(5, .long mi), (3, .long lo), (0, .ref (ad 183)), (1, .int i), (2, .int (nI w9))] := hl
          exact ih mi lo _ _ () P4 L4 M4 Z4 _ _ ls H locs (by omega) (by omega) b1 (by omega) hlo (Or.inr hn) (va_up_self _ _ _) (fun q hq => (va_up_ne _ _ hq).trans (hs2 q hq)) (fun a ha => (upd_n ha).trans (hg2 a ha)) hB4 (zOK_mv (zOK_up hz2 (by decide)) (by omega) hE4) ((hE4 109 (by decide)).trans ((mvX_out (by omega)).trans e9)) hl I
        · have hn : wL mi.toInt (2 ^ w9) dd p0 ≤ i := Decidable.byContradiction fun h => by rw [if_neg h] at hd; exact absurd rfl hd
          refine lv_lload hx hb d_SpectrumDeskModel_cellOf_60 (lv_at hl 0 rfl) ?_
          refine lv_lstore_n (lv' := [(3, .long mi), (7, .long mi), (5, .long hi), (0, .ref (ad 183)), (1, .int i), (2, .int (nI w9))]) hx hb d_SpectrumDeskModel_cellOf_62 rfl hl (by decide) rfl (fun ls hl => ?_)
          refine lv_goto hx hb d_SpectrumDeskModel_cellOf_63 rfl ?_
          refine lv_goto hx hb d_SpectrumDeskModel_cellOf_70 rfl ?_
          have hl := lv_sub hl [2, 0, 3, 4, 5] rfl
          have hl : lv_has ls 9 [(5, .long hi), (3, .long mi), (0, .ref (ad 183)), (1, .int i), (2, .int (nI w9))] := hl
          exact ih hi mi _ _ () P4 L4 M4 Z4 _ _ ls H locs (by omega) (by omega) (by omega) b2 (Or.inr hn) hhi (va_up_self _ _ _) (fun q hq => (va_up_ne _ _ hq).trans (hs2 q hq)) (fun a ha => (upd_n ha).trans (hg2 a ha)) hB4 (zOK_mv (zOK_up hz2 (by decide)) (by omega) hE4) ((hE4 109 (by decide)).trans ((mvX_out (by omega)).trans e9)) hl I
  refine lv_ldc2 (v := lN 8000000) hx hb X.1.2.2.2.1 (X.1.2.2.2.2 _ (List.mem_cons_of_mem _ k_57c8867ebf)) d_SpectrumDeskModel_cellOf_0 ?_
  refine lv_iload_n hx hb d_SpectrumDeskModel_cellOf_3 rfl (lv_at hl 2 rfl) ?_
  refine lv_lshl hx hb d_SpectrumDeskModel_cellOf_4 rfl ?_
  refine lv_lneg hx hb d_SpectrumDeskModel_cellOf_5 ?_
  refine lv_topl (fun lo0 el0 => ?_)
  refine lv_lstore_n (lv' := [(3, .long lo0), (0, .ref (ad 183)), (1, .int i), (2, .int (nI w9))]) hx hb d_SpectrumDeskModel_cellOf_6 rfl hl (by decide) rfl (fun ls hl => ?_)
  refine lv_ldc2 (v := lN 8000000) hx hb X.1.2.2.2.1 (X.1.2.2.2.2 _ (List.mem_cons_of_mem _ k_57c8867ebf)) d_SpectrumDeskModel_cellOf_7 ?_
  refine lv_iload_n hx hb d_SpectrumDeskModel_cellOf_10 rfl (lv_at hl 3 rfl) ?_
  refine lv_lshl hx hb d_SpectrumDeskModel_cellOf_11 rfl ?_
  refine lv_topl (fun hi0 eh0 => ?_)
  have q1 : hi0.toInt = 8000000 * 2 ^ w9 := by rw [eh0]; exact q_shl hw9 (by decide)
  have q2 : lo0.toInt = -(8000000 * 2 ^ w9) := by rw [el0, q_lneg (by rw [q_shl hw9 (by decide)]; omega), q_shl hw9 (by decide)]; rfl
  refine lv_lstore (lv' := [(5, .long hi0), (3, .long lo0), (0, .ref (ad 183)), (1, .int i), (2, .int (nI w9))]) hx hb d_SpectrumDeskModel_cellOf_12 hl (by decide) rfl (fun ls hl => ?_)
  refine lv_aload_n hx hb d_SpectrumDeskModel_cellOf_14 rfl (lv_at hl 2 rfl) ?_
  refine lv_bipush (v := nI 109) hx hb d_SpectrumDeskModel_cellOf_15 (by decide) ?_
  refine lv_lconst (v := lN 1) hx hb d_SpectrumDeskModel_cellOf_17 (by decide) ?_
  refine lv_iload_n hx hb d_SpectrumDeskModel_cellOf_18 rfl (lv_at hl 4 rfl) ?_
  refine lv_lshl hx hb d_SpectrumDeskModel_cellOf_19 rfl ?_
  refine lv_topl (fun gr eg => ?_)
  have q3 : gr.toInt = 2 ^ w9 := by rw [eg, q_shl hw9 (by decide)]; simp
  refine xr_callv (xr_runV (kc := 0) (kr := 6) (n := 2) (As := [.int (nI 109), .long gr]) (rest := []) X I (by decide) (r183 ..) rfl (c_SpectrumDeskModel_bigSet (w := 109) (v := gr) mfs_ok (by decide)) (xg k_5f300b8d49) (List.mem_cons_of_mem _ k_7a89662665) (List.mem_cons_of_mem _ k_203da126f2) (List.mem_cons_of_mem _ k_e2b6114fa3) (List.mem_cons_of_mem _ k_30fa15c9ac) (by decide +kernel) (by decide) rfl hl.1 rfl (Nat.le_of_ble_eq_true rfl) d_SpectrumDeskModel_cellOf_20) I (fun σ1 H locs hp I => ?_)
  obtain ⟨P3, L3, M3, rfl, hf, hx9⟩ := hp
  have hB3 := RB_up hB hf hx9
  exact loop 20000000000000000 hi0 lo0 σ0 G () P3 L3 M3 _ le eq ls _ _ (by simp; omega) (by omega) (by omega) (by omega) (Or.inl q2) (Or.inl q1) hG (fun _ _ => rfl) (fun _ _ => rfl) hB3 (zOK_up zOK_rf (by decide)) (by rw [va_up_self]; exact q3) hl I
