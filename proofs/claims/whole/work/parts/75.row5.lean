/-! the reference: rowTrim, lower (written by wip/gen) -/
abbrev b_SpectrumDeskModel_rowTrim : ByteArray := prog_10_method_18_code
abbrev y_SpectrumDeskModel_rowTrim : MethodName := ⟨"SpectrumDeskModel", "rowTrim", "(I)V"⟩
abbrev v_SpectrumDeskModel_rowTrim : List Cond := Cond.code y_SpectrumDeskModel_rowTrim b_SpectrumDeskModel_rowTrim 2 none :: AW
theorem d_SpectrumDeskModel_rowTrim_0 : decode b_SpectrumDeskModel_rowTrim 0 = .ok (.aload_n 0, 1) := by decide +kernel
theorem d_SpectrumDeskModel_rowTrim_1 : decode b_SpectrumDeskModel_rowTrim 1 = .ok (.getfield 46, 3) := by decide +kernel
theorem d_SpectrumDeskModel_rowTrim_4 : decode b_SpectrumDeskModel_rowTrim 4 = .ok (.iload_n 1, 1) := by decide +kernel
theorem d_SpectrumDeskModel_rowTrim_5 : decode b_SpectrumDeskModel_rowTrim 5 = .ok (.bipush (8), 2) := by decide +kernel
theorem d_SpectrumDeskModel_rowTrim_7 : decode b_SpectrumDeskModel_rowTrim 7 = .ok (.idiv, 1) := by decide +kernel
theorem d_SpectrumDeskModel_rowTrim_8 : decode b_SpectrumDeskModel_rowTrim 8 = .ok (.iaload, 1) := by decide +kernel
theorem d_SpectrumDeskModel_rowTrim_9 : decode b_SpectrumDeskModel_rowTrim 9 = .ok (.ifCond .lt (37), 3) := by decide +kernel
theorem d_SpectrumDeskModel_rowTrim_12 : decode b_SpectrumDeskModel_rowTrim 12 = .ok (.aload_n 0, 1) := by decide +kernel
theorem d_SpectrumDeskModel_rowTrim_13 : decode b_SpectrumDeskModel_rowTrim 13 = .ok (.iload_n 1, 1) := by decide +kernel
theorem d_SpectrumDeskModel_rowTrim_14 : decode b_SpectrumDeskModel_rowTrim 14 = .ok (.aload_n 0, 1) := by decide +kernel
theorem d_SpectrumDeskModel_rowTrim_15 : decode b_SpectrumDeskModel_rowTrim 15 = .ok (.getfield 46, 3) := by decide +kernel
theorem d_SpectrumDeskModel_rowTrim_18 : decode b_SpectrumDeskModel_rowTrim 18 = .ok (.iload_n 1, 1) := by decide +kernel
theorem d_SpectrumDeskModel_rowTrim_19 : decode b_SpectrumDeskModel_rowTrim 19 = .ok (.bipush (8), 2) := by decide +kernel
theorem d_SpectrumDeskModel_rowTrim_21 : decode b_SpectrumDeskModel_rowTrim 21 = .ok (.idiv, 1) := by decide +kernel
theorem d_SpectrumDeskModel_rowTrim_22 : decode b_SpectrumDeskModel_rowTrim 22 = .ok (.iaload, 1) := by decide +kernel
theorem d_SpectrumDeskModel_rowTrim_23 : decode b_SpectrumDeskModel_rowTrim 23 = .ok (.iadd, 1) := by decide +kernel
theorem d_SpectrumDeskModel_rowTrim_24 : decode b_SpectrumDeskModel_rowTrim 24 = .ok (.invokevirtual 52, 3) := by decide +kernel
theorem d_SpectrumDeskModel_rowTrim_27 : decode b_SpectrumDeskModel_rowTrim 27 = .ok (.ifCond .ne (19), 3) := by decide +kernel
theorem d_SpectrumDeskModel_rowTrim_30 : decode b_SpectrumDeskModel_rowTrim 30 = .ok (.aload_n 0, 1) := by decide +kernel
theorem d_SpectrumDeskModel_rowTrim_31 : decode b_SpectrumDeskModel_rowTrim 31 = .ok (.getfield 46, 3) := by decide +kernel
theorem d_SpectrumDeskModel_rowTrim_34 : decode b_SpectrumDeskModel_rowTrim 34 = .ok (.iload_n 1, 1) := by decide +kernel
theorem d_SpectrumDeskModel_rowTrim_35 : decode b_SpectrumDeskModel_rowTrim 35 = .ok (.bipush (8), 2) := by decide +kernel
theorem d_SpectrumDeskModel_rowTrim_37 : decode b_SpectrumDeskModel_rowTrim 37 = .ok (.idiv, 1) := by decide +kernel
theorem d_SpectrumDeskModel_rowTrim_38 : decode b_SpectrumDeskModel_rowTrim 38 = .ok (.dup2, 1) := by decide +kernel
theorem d_SpectrumDeskModel_rowTrim_39 : decode b_SpectrumDeskModel_rowTrim 39 = .ok (.iaload, 1) := by decide +kernel
theorem d_SpectrumDeskModel_rowTrim_40 : decode b_SpectrumDeskModel_rowTrim 40 = .ok (.iconst 1, 1) := by decide +kernel
theorem d_SpectrumDeskModel_rowTrim_41 : decode b_SpectrumDeskModel_rowTrim 41 = .ok (.isub, 1) := by decide +kernel
theorem d_SpectrumDeskModel_rowTrim_42 : decode b_SpectrumDeskModel_rowTrim 42 = .ok (.iastore, 1) := by decide +kernel
theorem d_SpectrumDeskModel_rowTrim_43 : decode b_SpectrumDeskModel_rowTrim 43 = .ok (.goto (-43), 3) := by decide +kernel
theorem d_SpectrumDeskModel_rowTrim_46 : decode b_SpectrumDeskModel_rowTrim 46 = .ok (.return_, 1) := by decide +kernel
abbrev b_SpectrumDeskModel_lower : ByteArray := prog_10_method_42_code
abbrev y_SpectrumDeskModel_lower : MethodName := ⟨"SpectrumDeskModel", "lower", "()V"⟩
abbrev v_SpectrumDeskModel_lower : List Cond := Cond.code y_SpectrumDeskModel_lower b_SpectrumDeskModel_lower 3 none :: AW
theorem d_SpectrumDeskModel_lower_0 : decode b_SpectrumDeskModel_lower 0 = .ok (.aload_n 0, 1) := by decide +kernel
theorem d_SpectrumDeskModel_lower_1 : decode b_SpectrumDeskModel_lower 1 = .ok (.getfield 46, 3) := by decide +kernel
theorem d_SpectrumDeskModel_lower_4 : decode b_SpectrumDeskModel_lower 4 = .ok (.iconst 4, 1) := by decide +kernel
theorem d_SpectrumDeskModel_lower_5 : decode b_SpectrumDeskModel_lower 5 = .ok (.iaload, 1) := by decide +kernel
theorem d_SpectrumDeskModel_lower_6 : decode b_SpectrumDeskModel_lower 6 = .ok (.aload_n 0, 1) := by decide +kernel
theorem d_SpectrumDeskModel_lower_7 : decode b_SpectrumDeskModel_lower 7 = .ok (.getfield 46, 3) := by decide +kernel
theorem d_SpectrumDeskModel_lower_10 : decode b_SpectrumDeskModel_lower 10 = .ok (.iconst 3, 1) := by decide +kernel
theorem d_SpectrumDeskModel_lower_11 : decode b_SpectrumDeskModel_lower 11 = .ok (.iaload, 1) := by decide +kernel
theorem d_SpectrumDeskModel_lower_12 : decode b_SpectrumDeskModel_lower 12 = .ok (.isub, 1) := by decide +kernel
theorem d_SpectrumDeskModel_lower_13 : decode b_SpectrumDeskModel_lower 13 = .ok (.istore_n 1, 1) := by decide +kernel
theorem d_SpectrumDeskModel_lower_14 : decode b_SpectrumDeskModel_lower 14 = .ok (.aload_n 0, 1) := by decide +kernel
theorem d_SpectrumDeskModel_lower_15 : decode b_SpectrumDeskModel_lower 15 = .ok (.bipush (106), 2) := by decide +kernel
theorem d_SpectrumDeskModel_lower_17 : decode b_SpectrumDeskModel_lower 17 = .ok (.bipush (32), 2) := by decide +kernel
theorem d_SpectrumDeskModel_lower_19 : decode b_SpectrumDeskModel_lower 19 = .ok (.aload_n 0, 1) := by decide +kernel
theorem d_SpectrumDeskModel_lower_20 : decode b_SpectrumDeskModel_lower 20 = .ok (.getfield 46, 3) := by decide +kernel
theorem d_SpectrumDeskModel_lower_23 : decode b_SpectrumDeskModel_lower 23 = .ok (.iconst 4, 1) := by decide +kernel
theorem d_SpectrumDeskModel_lower_24 : decode b_SpectrumDeskModel_lower 24 = .ok (.iaload, 1) := by decide +kernel
theorem d_SpectrumDeskModel_lower_25 : decode b_SpectrumDeskModel_lower 25 = .ok (.iadd, 1) := by decide +kernel
theorem d_SpectrumDeskModel_lower_26 : decode b_SpectrumDeskModel_lower 26 = .ok (.invokevirtual 49, 3) := by decide +kernel
theorem d_SpectrumDeskModel_lower_29 : decode b_SpectrumDeskModel_lower 29 = .ok (.iconst 0, 1) := by decide +kernel
theorem d_SpectrumDeskModel_lower_30 : decode b_SpectrumDeskModel_lower 30 = .ok (.istore_n 2, 1) := by decide +kernel
theorem d_SpectrumDeskModel_lower_31 : decode b_SpectrumDeskModel_lower 31 = .ok (.iload_n 2, 1) := by decide +kernel
theorem d_SpectrumDeskModel_lower_32 : decode b_SpectrumDeskModel_lower 32 = .ok (.aload_n 0, 1) := by decide +kernel
theorem d_SpectrumDeskModel_lower_33 : decode b_SpectrumDeskModel_lower 33 = .ok (.getfield 46, 3) := by decide +kernel
theorem d_SpectrumDeskModel_lower_36 : decode b_SpectrumDeskModel_lower 36 = .ok (.iconst 4, 1) := by decide +kernel
theorem d_SpectrumDeskModel_lower_37 : decode b_SpectrumDeskModel_lower 37 = .ok (.iaload, 1) := by decide +kernel
theorem d_SpectrumDeskModel_lower_38 : decode b_SpectrumDeskModel_lower 38 = .ok (.if_icmp .gt (38), 3) := by decide +kernel
theorem d_SpectrumDeskModel_lower_41 : decode b_SpectrumDeskModel_lower 41 = .ok (.aload_n 0, 1) := by decide +kernel
theorem d_SpectrumDeskModel_lower_42 : decode b_SpectrumDeskModel_lower 42 = .ok (.bipush (105), 2) := by decide +kernel
theorem d_SpectrumDeskModel_lower_44 : decode b_SpectrumDeskModel_lower 44 = .ok (.bipush (32), 2) := by decide +kernel
theorem d_SpectrumDeskModel_lower_46 : decode b_SpectrumDeskModel_lower 46 = .ok (.iload_n 2, 1) := by decide +kernel
theorem d_SpectrumDeskModel_lower_47 : decode b_SpectrumDeskModel_lower 47 = .ok (.iadd, 1) := by decide +kernel
theorem d_SpectrumDeskModel_lower_48 : decode b_SpectrumDeskModel_lower 48 = .ok (.bipush (24), 2) := by decide +kernel
theorem d_SpectrumDeskModel_lower_50 : decode b_SpectrumDeskModel_lower 50 = .ok (.aload_n 0, 1) := by decide +kernel
theorem d_SpectrumDeskModel_lower_51 : decode b_SpectrumDeskModel_lower 51 = .ok (.getfield 46, 3) := by decide +kernel
theorem d_SpectrumDeskModel_lower_54 : decode b_SpectrumDeskModel_lower 54 = .ok (.iconst 3, 1) := by decide +kernel
theorem d_SpectrumDeskModel_lower_55 : decode b_SpectrumDeskModel_lower 55 = .ok (.iaload, 1) := by decide +kernel
theorem d_SpectrumDeskModel_lower_56 : decode b_SpectrumDeskModel_lower 56 = .ok (.iadd, 1) := by decide +kernel
theorem d_SpectrumDeskModel_lower_57 : decode b_SpectrumDeskModel_lower 57 = .ok (.invokevirtual 111, 3) := by decide +kernel
theorem d_SpectrumDeskModel_lower_60 : decode b_SpectrumDeskModel_lower 60 = .ok (.aload_n 0, 1) := by decide +kernel
theorem d_SpectrumDeskModel_lower_61 : decode b_SpectrumDeskModel_lower 61 = .ok (.bipush (32), 2) := by decide +kernel
theorem d_SpectrumDeskModel_lower_63 : decode b_SpectrumDeskModel_lower 63 = .ok (.iload_n 2, 1) := by decide +kernel
theorem d_SpectrumDeskModel_lower_64 : decode b_SpectrumDeskModel_lower 64 = .ok (.iadd, 1) := by decide +kernel
theorem d_SpectrumDeskModel_lower_65 : decode b_SpectrumDeskModel_lower 65 = .ok (.bipush (105), 2) := by decide +kernel
theorem d_SpectrumDeskModel_lower_67 : decode b_SpectrumDeskModel_lower 67 = .ok (.invokevirtual 49, 3) := by decide +kernel
theorem d_SpectrumDeskModel_lower_70 : decode b_SpectrumDeskModel_lower 70 = .ok (.iinc 2 (1), 3) := by decide +kernel
theorem d_SpectrumDeskModel_lower_73 : decode b_SpectrumDeskModel_lower 73 = .ok (.goto (-42), 3) := by decide +kernel
theorem d_SpectrumDeskModel_lower_76 : decode b_SpectrumDeskModel_lower 76 = .ok (.iconst 0, 1) := by decide +kernel
theorem d_SpectrumDeskModel_lower_77 : decode b_SpectrumDeskModel_lower 77 = .ok (.istore_n 2, 1) := by decide +kernel
theorem d_SpectrumDeskModel_lower_78 : decode b_SpectrumDeskModel_lower 78 = .ok (.iload_n 2, 1) := by decide +kernel
theorem d_SpectrumDeskModel_lower_79 : decode b_SpectrumDeskModel_lower 79 = .ok (.aload_n 0, 1) := by decide +kernel
theorem d_SpectrumDeskModel_lower_80 : decode b_SpectrumDeskModel_lower 80 = .ok (.getfield 46, 3) := by decide +kernel
theorem d_SpectrumDeskModel_lower_83 : decode b_SpectrumDeskModel_lower 83 = .ok (.iconst 3, 1) := by decide +kernel
theorem d_SpectrumDeskModel_lower_84 : decode b_SpectrumDeskModel_lower 84 = .ok (.iaload, 1) := by decide +kernel
theorem d_SpectrumDeskModel_lower_85 : decode b_SpectrumDeskModel_lower 85 = .ok (.if_icmp .gt (34), 3) := by decide +kernel
theorem d_SpectrumDeskModel_lower_88 : decode b_SpectrumDeskModel_lower 88 = .ok (.aload_n 0, 1) := by decide +kernel
theorem d_SpectrumDeskModel_lower_89 : decode b_SpectrumDeskModel_lower 89 = .ok (.bipush (105), 2) := by decide +kernel
theorem d_SpectrumDeskModel_lower_91 : decode b_SpectrumDeskModel_lower 91 = .ok (.bipush (106), 2) := by decide +kernel
theorem d_SpectrumDeskModel_lower_93 : decode b_SpectrumDeskModel_lower 93 = .ok (.bipush (24), 2) := by decide +kernel
theorem d_SpectrumDeskModel_lower_95 : decode b_SpectrumDeskModel_lower 95 = .ok (.iload_n 2, 1) := by decide +kernel
theorem d_SpectrumDeskModel_lower_96 : decode b_SpectrumDeskModel_lower 96 = .ok (.iadd, 1) := by decide +kernel
theorem d_SpectrumDeskModel_lower_97 : decode b_SpectrumDeskModel_lower 97 = .ok (.invokevirtual 111, 3) := by decide +kernel
theorem d_SpectrumDeskModel_lower_100 : decode b_SpectrumDeskModel_lower 100 = .ok (.aload_n 0, 1) := by decide +kernel
theorem d_SpectrumDeskModel_lower_101 : decode b_SpectrumDeskModel_lower 101 = .ok (.bipush (32), 2) := by decide +kernel
theorem d_SpectrumDeskModel_lower_103 : decode b_SpectrumDeskModel_lower 103 = .ok (.iload_n 2, 1) := by decide +kernel
theorem d_SpectrumDeskModel_lower_104 : decode b_SpectrumDeskModel_lower 104 = .ok (.iadd, 1) := by decide +kernel
theorem d_SpectrumDeskModel_lower_105 : decode b_SpectrumDeskModel_lower 105 = .ok (.iload_n 1, 1) := by decide +kernel
theorem d_SpectrumDeskModel_lower_106 : decode b_SpectrumDeskModel_lower 106 = .ok (.iadd, 1) := by decide +kernel
theorem d_SpectrumDeskModel_lower_107 : decode b_SpectrumDeskModel_lower 107 = .ok (.bipush (105), 2) := by decide +kernel
theorem d_SpectrumDeskModel_lower_109 : decode b_SpectrumDeskModel_lower 109 = .ok (.iconst 1, 1) := by decide +kernel
theorem d_SpectrumDeskModel_lower_110 : decode b_SpectrumDeskModel_lower 110 = .ok (.invokevirtual 115, 3) := by decide +kernel
theorem d_SpectrumDeskModel_lower_113 : decode b_SpectrumDeskModel_lower 113 = .ok (.iinc 2 (1), 3) := by decide +kernel
theorem d_SpectrumDeskModel_lower_116 : decode b_SpectrumDeskModel_lower 116 = .ok (.goto (-38), 3) := by decide +kernel
theorem d_SpectrumDeskModel_lower_119 : decode b_SpectrumDeskModel_lower 119 = .ok (.aload_n 0, 1) := by decide +kernel
theorem d_SpectrumDeskModel_lower_120 : decode b_SpectrumDeskModel_lower 120 = .ok (.bipush (32), 2) := by decide +kernel
theorem d_SpectrumDeskModel_lower_122 : decode b_SpectrumDeskModel_lower 122 = .ok (.invokevirtual 151, 3) := by decide +kernel
theorem d_SpectrumDeskModel_lower_125 : decode b_SpectrumDeskModel_lower 125 = .ok (.return_, 1) := by decide +kernel
theorem k_929dd6c9e6 : (Jvm.Cond.methodLink "SpectrumDeskModel" (151 : Nat) ({ cls := "SpectrumDeskModel", name := "rowTrim", desc := "(I)V" } : Jvm.MethodName)) ∈ AW := aw_5 (List.mem_of_getElem? (i := 155) (by decide +kernel)) (by decide +kernel)
theorem k_dd597f8cbe : (Jvm.Cond.instanceMethod ({ cls := "SpectrumDeskModel", name := "rowTrim", desc := "(I)V" } : Jvm.MethodName)) ∈ AW := aw_5 (List.mem_of_getElem? (i := 157) (by decide +kernel)) (by decide +kernel)
theorem k_35719f83cc : (Jvm.Cond.selects "SpectrumDeskModel" ({ cls := "SpectrumDeskModel", name := "rowTrim", desc := "(I)V" } : Jvm.MethodName) ({ cls := "SpectrumDeskModel", name := "rowTrim", desc := "(I)V" } : Jvm.MethodName)) ∈ AW := aw_p (by decide +kernel) (by decide +kernel)
theorem k_96805e01aa : (Jvm.Cond.code ({ cls := "SpectrumDeskModel", name := "rowTrim", desc := "(I)V" } : Jvm.MethodName) prog_10_method_18_code (2 : Nat) (Option.none : Option Jvm.ClassFile.FieldType)) ∈ AW := aw_5 (List.mem_of_getElem? (i := 158) (by decide +kernel)) (by decide +kernel)
theorem k_01e06e6942 : (Jvm.Cond.code ({ cls := "SpectrumDeskModel", name := "lower", desc := "()V" } : Jvm.MethodName) prog_10_method_42_code (3 : Nat) (Option.none : Option Jvm.ClassFile.FieldType)) ∈ AW := aw_5 (List.mem_of_getElem? (i := 154) (by decide +kernel)) (by decide +kernel)
set_option maxHeartbeats 4000000 in
set_option maxRecDepth 100000 in
theorem c_SpectrumDeskModel_rowTrim {l : Launch} {D : va_G} {cI cJ cZ cC cG cP : ClassId} {ad : Nat → Nat} {σ0 : Nat → va_E} {th nn rws ps le eq : Int32} {P L M G : Nat → Int32} {Z : Nat → Int} (hG : σ0 187 = .inl (cI, 5, .inl G)) (hB : RB P L M Z) {b c9 : Nat} (hb9 : b < 5) (hc9 : c9 ≤ 8) (hGb : G b = nP c9) :
    Met l y_SpectrumDeskModel_rowTrim v_SpectrumDeskModel_rowTrim (xrm 1) (va_Pc [.ref (ad 183), .int (nI (8 * b))] (xS D classes (xT cI cJ cZ cC cG cP) 193 ad (rw3 σ0 ciM cI cZ (mfs ad th nn rws ps le eq) P L M))) (va_Qv (fun σ2 => σ2 = rw3 (va_up σ0 187 (.inl (cI, 5, .inl (upd G b (nP (dgt (fun k => Z (8 * b + k)) c9)))))) ciM cI cZ (mfs ad th nn rws ps le eq) P L M) (xS D classes (xT cI cJ cZ cC cG cP) 193 ad) (xA 193 ad)) 0 0 (xA 193 ad) := by
  refine xr_met rfl (Nat.le_of_ble_eq_true rfl) ?_
  intro p e s m args below meth c ls hx hb X hr hlk hl I
  have hl : lv_has ls 2 [(0, .ref (ad 183)), (1, .int (nI (8 * b)))] := hl
  have loop : ∀ (e9 : Nat)  (ls : Array Slot) (H : Heap) (locs : List Loc), e9 ≤ c9 → dgt (fun k => Z (8 * b + k)) e9 = dgt (fun k => Z (8 * b + k)) c9 → lv_has ls 2 [(0, .ref (ad 183)), (1, .int (nI (8 * b)))] → xI D classes 193 ad s.heap (rw3 (va_up σ0 187 (.inl (cI, 5, .inl (upd G b (nP e9))))) ciM cI cZ (mfs ad th nn rws ps le eq) P L M) H locs → W p l e (xrm 1) s m args below meth c H locs 0 0 (MQ below (va_Qv (fun σ2 => σ2 = rw3 (va_up σ0 187 (.inl (cI, 5, .inl (upd G b (nP (dgt (fun k => Z (8 * b + k)) c9)))))) ciM cI cZ (mfs ad th nn rws ps le eq) P L M) (xS D classes (xT cI cJ cZ cC cG cP) 193 ad) (xA 193 ad)) args s 0 0 (xA 193 ad)) (F0 m 0 ls []) := by
    intro e9
    induction e9 with
    | zero =>
      intro ls H locs hk hv hl I
      refine lv_aload_n hx hb d_SpectrumDeskModel_rowTrim_0 rfl (lv_at hl 0 rfl) ?_
      refine xr_get X I fin_M 183 (by decide) (r183 ..) rfl 3 (by decide) (List.mem_cons_of_mem _ k_176eac5e1f) rfl rfl d_SpectrumDeskModel_rowTrim_1 ?_
      refine lv_iload_n hx hb d_SpectrumDeskModel_rowTrim_4 rfl (lv_at hl 1 rfl) ?_
      refine lv_bipush (v := nI 8) hx hb d_SpectrumDeskModel_rowTrim_5 (by decide) ?_
      refine lv_idiv hx hb d_SpectrumDeskModel_rowTrim_7 (by decide) ?_
      refine xr_topi (y := nI b) (q_div8 (by omega)) ?_
      refine xr_iald X I 187 0 (by decide) ((r_o (by decide)).trans (va_up_self _ _ _)) rfl (by omega) (by decide) d_SpectrumDeskModel_rowTrim_8 ?_
      refine xr_topi (y := nP 0) upd_s ?_
      refine lv_if_lt hx hb d_SpectrumDeskModel_rowTrim_9 rfl (fun hc => ?_) (fun hc => ?_)
      · exact xr_vret X I hr hlk (by rw [← hv]; rfl) d_SpectrumDeskModel_rowTrim_46
      · exact absurd nP_0 hc
    | succ e9 ih =>
      intro ls H locs hk hv hl I
      refine lv_aload_n hx hb d_SpectrumDeskModel_rowTrim_0 rfl (lv_at hl 0 rfl) ?_
      refine xr_get X I fin_M 183 (by decide) (r183 ..) rfl 3 (by decide) (List.mem_cons_of_mem _ k_176eac5e1f) rfl rfl d_SpectrumDeskModel_rowTrim_1 ?_
      refine lv_iload_n hx hb d_SpectrumDeskModel_rowTrim_4 rfl (lv_at hl 1 rfl) ?_
      refine lv_bipush (v := nI 8) hx hb d_SpectrumDeskModel_rowTrim_5 (by decide) ?_
      refine lv_idiv hx hb d_SpectrumDeskModel_rowTrim_7 (by decide) ?_
      refine xr_topi (y := nI b) (q_div8 (by omega)) ?_
      refine xr_iald X I 187 0 (by decide) ((r_o (by decide)).trans (va_up_self _ _ _)) rfl (by omega) (by decide) d_SpectrumDeskModel_rowTrim_8 ?_
      refine xr_topi (y := nP (e9 + 1)) upd_s ?_
      refine xr_topi (y := nI e9) (nP_succ e9) ?_
      refine lv_if_lt hx hb d_SpectrumDeskModel_rowTrim_9 rfl (fun hc => ?_) (fun hc => ?_)
      · exact absurd hc (nI_pos (by omega))
      · refine lv_aload_n hx hb d_SpectrumDeskModel_rowTrim_12 rfl (lv_at hl 0 rfl) ?_
        refine lv_iload_n hx hb d_SpectrumDeskModel_rowTrim_13 rfl (lv_at hl 1 rfl) ?_
        refine lv_aload_n hx hb d_SpectrumDeskModel_rowTrim_14 rfl (lv_at hl 0 rfl) ?_
        refine xr_get X I fin_M 183 (by decide) (r183 ..) rfl 3 (by decide) (List.mem_cons_of_mem _ k_176eac5e1f) rfl rfl d_SpectrumDeskModel_rowTrim_15 ?_
        refine lv_iload_n hx hb d_SpectrumDeskModel_rowTrim_18 rfl (lv_at hl 1 rfl) ?_
        refine lv_bipush (v := nI 8) hx hb d_SpectrumDeskModel_rowTrim_19 (by decide) ?_
        refine lv_idiv hx hb d_SpectrumDeskModel_rowTrim_21 (by decide) ?_
        refine xr_topi (y := nI b) (q_div8 (by omega)) ?_
        refine xr_iald X I 187 0 (by decide) ((r_o (by decide)).trans (va_up_self _ _ _)) rfl (by omega) (by decide) d_SpectrumDeskModel_rowTrim_22 ?_
        refine xr_topi (y := nP (e9 + 1)) upd_s ?_
        refine xr_topi (y := nI e9) (nP_succ e9) ?_
        refine lv_iadd hx hb d_SpectrumDeskModel_rowTrim_23 (xr_topi (y := nI ((8 * b) + e9)) (nI_add (8 * b) e9) ?_)
        refine xr_calli (xr_runV (kc := 0) (kr := 1) (n := 1) (As := [.int (nI ((8 * b) + e9))]) (rest := []) X I (by decide) (r183 ..) rfl (c_SpectrumDeskModel_bigSign (w := 8 * b + e9) mfs_ok (by omega) (hB (8 * b + e9) (by omega))) (xg k_e13fc765ad) (List.mem_cons_of_mem _ k_6487c7a510) (List.mem_cons_of_mem _ k_b18f58b667) (List.mem_cons_of_mem _ k_0ad4753b22) (List.mem_cons_of_mem _ k_30fa15c9ac) (by decide +kernel) (by decide) rfl hl.1 rfl (Nat.le_of_ble_eq_true rfl) d_SpectrumDeskModel_rowTrim_24) I (fun r1 σ1 H locs hp I => ?_)
        obtain ⟨rfl, rfl⟩ := hp
        refine lv_if_ne hx hb d_SpectrumDeskModel_rowTrim_27 rfl (fun hs => ?_) (fun hs => ?_)
        · have hz : Z (8 * b + e9) ≠ 0 := fun h => hs (sg_zero.mpr h)
          exact xr_vret X I hr hlk (by rw [← hv, dgt, if_neg hz]) d_SpectrumDeskModel_rowTrim_46
        · have hz : Z (8 * b + e9) = 0 := sg_zero.mp hs
          refine lv_aload_n hx hb d_SpectrumDeskModel_rowTrim_30 rfl (lv_at hl 0 rfl) ?_
          refine xr_get X I fin_M 183 (by decide) (r183 ..) rfl 3 (by decide) (List.mem_cons_of_mem _ k_176eac5e1f) rfl rfl d_SpectrumDeskModel_rowTrim_31 ?_
          refine lv_iload_n hx hb d_SpectrumDeskModel_rowTrim_34 rfl (lv_at hl 1 rfl) ?_
          refine lv_bipush (v := nI 8) hx hb d_SpectrumDeskModel_rowTrim_35 (by decide) ?_
          refine lv_idiv hx hb d_SpectrumDeskModel_rowTrim_37 (by decide) ?_
          refine xr_topi (y := nI b) (q_div8 (by omega)) ?_
          refine lv_dup2_11 hx hb d_SpectrumDeskModel_rowTrim_38 rfl rfl ?_
          refine xr_iald X I 187 0 (by decide) ((r_o (by decide)).trans (va_up_self _ _ _)) rfl (by omega) (by decide) d_SpectrumDeskModel_rowTrim_39 ?_
          refine xr_topi (y := nP (e9 + 1)) upd_s ?_
          refine xr_topi (y := nI e9) (nP_succ e9) ?_
          refine lv_iconst (v := nI 1) hx hb d_SpectrumDeskModel_rowTrim_40 (by decide) ?_
          refine lv_isub hx hb d_SpectrumDeskModel_rowTrim_41 (xr_topi (y := nP e9) rfl ?_)
          refine xr_iast X I 187 0 (by decide) ((r_o (by decide)).trans (va_up_self _ _ _)) rfl (by omega) (by decide) d_SpectrumDeskModel_rowTrim_42 (fun H locs I => ?_)
          rw [rw3_o (by decide)] at I
          rw [va_up_up, upd_upd] at I
          refine lv_goto hx hb d_SpectrumDeskModel_rowTrim_43 rfl ?_
          exact ih ls H locs (by omega) (by rw [← hv, dgt, if_pos hz]) hl I
  exact loop c9 ls _ _ (Nat.le_refl _) rfl hl (by rw [upd_same hGb, va_up_same hG]; exact I)
set_option maxHeartbeats 4000000 in
set_option maxRecDepth 100000 in
theorem c_SpectrumDeskModel_lower {l : Launch} {D : va_G} {cI cJ cZ cC cG cP : ClassId} {ad : Nat → Nat} {σ0 : Nat → va_E} {th nn rws ps le eq : Int32} {P L M G : Nat → Int32} {Z : Nat → Int} (hG : σ0 187 = .inl (cI, 5, .inl G)) (hB : RB P L M Z) {dm ds : Nat} (hds : ds ≤ dm) (hdm : dm ≤ 6) (hG3 : G 3 = nI ds) (hG4 : G 4 = nI dm) (hs4 : ∀ k, k ≤ dm → sm (Z (32 + k))) (hs3 : ∀ k, k ≤ ds → sm (Z (24 + k))) :
    Met l y_SpectrumDeskModel_lower v_SpectrumDeskModel_lower (xrm 3) (va_Pc [.ref (ad 183)] (xS D classes (xT cI cJ cZ cC cG cP) 193 ad (rw3 σ0 ciM cI cZ (mfs ad th nn rws ps le eq) P L M))) (va_Qv (fun σ2 => ∃ (P' L' M' : Nat → Int32) (X' : Nat → Int), σ2 = rw3 (va_up σ0 187 (.inl (cI, 5, .inl (upd G 4 (nP (dgt (fun k => lwA Z dm ds (dm + 1) (ds + 1) (8 * 4 + k)) (dm + 1))))))) ciM cI cZ (mfs ad th nn rws ps le eq) P' L' M' ∧ RB P' L' M' X' ∧ lwI Z dm ds (dm + 1) (ds + 1) X') (xS D classes (xT cI cJ cZ cC cG cP) 193 ad) (xA 193 ad)) 0 0 (xA 193 ad) := by
  refine xr_met rfl (Nat.le_of_ble_eq_true rfl) ?_
  intro p e s m args below meth c ls hx hb X hr hlk hl I
  have hl : lv_has ls 3 [(0, .ref (ad 183))] := hl
  refine lv_aload_n hx hb d_SpectrumDeskModel_lower_0 rfl (lv_at hl 0 rfl) ?_
  refine xr_get X I fin_M 183 (by decide) (r183 ..) rfl 3 (by decide) (List.mem_cons_of_mem _ k_176eac5e1f) rfl rfl d_SpectrumDeskModel_lower_1 ?_
  refine lv_iconst (v := nI 4) hx hb d_SpectrumDeskModel_lower_4 (by decide) ?_
  refine xr_iald X I 187 0 (by decide) ((r_o (by decide)).trans hG) rfl (by omega) (by decide) d_SpectrumDeskModel_lower_5 ?_
  refine xr_topi (y := nI dm) hG4 ?_
  refine lv_aload_n hx hb d_SpectrumDeskModel_lower_6 rfl (lv_at hl 0 rfl) ?_
  refine xr_get X I fin_M 183 (by decide) (r183 ..) rfl 3 (by decide) (List.mem_cons_of_mem _ k_176eac5e1f) rfl rfl d_SpectrumDeskModel_lower_7 ?_
  refine lv_iconst (v := nI 3) hx hb d_SpectrumDeskModel_lower_10 (by decide) ?_
  refine xr_iald X I 187 0 (by decide) ((r_o (by decide)).trans hG) rfl (by omega) (by decide) d_SpectrumDeskModel_lower_11 ?_
  refine xr_topi (y := nI ds) hG3 ?_
  refine lv_isub hx hb d_SpectrumDeskModel_lower_12 (xr_topi (y := nI (dm - ds)) (pk_sub hds) ?_)
  refine lv_istore_n (lv' := [(1, .int (nI (dm - ds))), (0, .ref (ad 183))]) hx hb d_SpectrumDeskModel_lower_13 rfl hl (by decide) rfl (fun ls hl => ?_)
  refine lv_aload_n hx hb d_SpectrumDeskModel_lower_14 rfl (lv_at hl 1 rfl) ?_
  refine lv_bipush (v := nI 106) hx hb d_SpectrumDeskModel_lower_15 (by decide) ?_
  refine lv_bipush (v := nI 32) hx hb d_SpectrumDeskModel_lower_17 (by decide) ?_
  refine lv_aload_n hx hb d_SpectrumDeskModel_lower_19 rfl (lv_at hl 1 rfl) ?_
  refine xr_get X I fin_M 183 (by decide) (r183 ..) rfl 3 (by decide) (List.mem_cons_of_mem _ k_176eac5e1f) rfl rfl d_SpectrumDeskModel_lower_20 ?_
  refine lv_iconst (v := nI 4) hx hb d_SpectrumDeskModel_lower_23 (by decide) ?_
  refine xr_iald X I 187 0 (by decide) ((r_o (by decide)).trans hG) rfl (by omega) (by decide) d_SpectrumDeskModel_lower_24 ?_
  refine xr_topi (y := nI dm) hG4 ?_
  refine lv_iadd hx hb d_SpectrumDeskModel_lower_25 (xr_topi (y := nI (32 + dm)) (nI_add 32 dm) ?_)
  refine xr_callv (xr_runV (kc := 0) (kr := 3) (n := 2) (As := [.int (nI 106), .int (nI (32 + dm))]) (rest := []) X I (by decide) (r183 ..) rfl (c_SpectrumDeskModel_bigCopy (w := 106) (u := 32 + dm) mfs_ok (by decide) (by omega) (by omega) (hB (32 + dm) (by omega))) (xg k_b9c8150a19) (List.mem_cons_of_mem _ k_4f43ed96b8) (List.mem_cons_of_mem _ k_c9c9b5ab57) (List.mem_cons_of_mem _ k_5d491bf207) (List.mem_cons_of_mem _ k_30fa15c9ac) (by decide +kernel) (by decide) rfl hl.1 rfl (Nat.le_of_ble_eq_true rfl) d_SpectrumDeskModel_lower_26) I (fun σ1 H locs hp I => ?_)
  obtain ⟨P1, L1, M1, rfl, hf, hx9⟩ := hp
  have h1 := RB_up hB hf hx9
  clear hf hx9
  refine lv_iconst (v := nI 0) hx hb d_SpectrumDeskModel_lower_29 (by decide) ?_
  refine lv_istore_n (lv' := [(2, .int (nI 0)), (1, .int (nI (dm - ds))), (0, .ref (ad 183))]) hx hb d_SpectrumDeskModel_lower_30 rfl hl (by decide) rfl (fun ls hl => ?_)
  have second : ∀ (j : Nat) (k : Nat) (P2 L2 M2 : Nat → Int32) (X2 : Nat → Int) (ls : Array Slot) (H : Heap) (locs : List Loc), k + j = ds + 1 → RB P2 L2 M2 X2 → lwI Z dm ds (dm + 1) k X2 → lv_has ls 3 [(2, .int (nI k)), (1, .int (nI (dm - ds))), (0, .ref (ad 183))] → xI D classes 193 ad s.heap (rw3 σ0 ciM cI cZ (mfs ad th nn rws ps le eq) P2 L2 M2) H locs → W p l e (xrm 3) s m args below meth c H locs 0 0 (MQ below (va_Qv (fun σ2 => ∃ (P' L' M' : Nat → Int32) (X' : Nat → Int), σ2 = rw3 (va_up σ0 187 (.inl (cI, 5, .inl (upd G 4 (nP (dgt (fun k => lwA Z dm ds (dm + 1) (ds + 1) (8 * 4 + k)) (dm + 1))))))) ciM cI cZ (mfs ad th nn rws ps le eq) P' L' M' ∧ RB P' L' M' X' ∧ lwI Z dm ds (dm + 1) (ds + 1) X') (xS D classes (xT cI cJ cZ cC cG cP) 193 ad) (xA 193 ad)) args s 0 0 (xA 193 ad)) (F0 m 78 ls []) := by
    intro j
    induction j with
    | zero =>
      intro k P2 L2 M2 X2 ls H locs hk h2 h3 hl I
      obtain rfl : k = ds + 1 := by omega
      refine lv_iload_n hx hb d_SpectrumDeskModel_lower_78 rfl (lv_at hl 0 rfl) ?_
      refine lv_aload_n hx hb d_SpectrumDeskModel_lower_79 rfl (lv_at hl 2 rfl) ?_
      refine xr_get X I fin_M 183 (by decide) (r183 ..) rfl 3 (by decide) (List.mem_cons_of_mem _ k_176eac5e1f) rfl rfl d_SpectrumDeskModel_lower_80 ?_
      refine lv_iconst (v := nI 3) hx hb d_SpectrumDeskModel_lower_83 (by decide) ?_
      refine xr_iald X I 187 0 (by decide) ((r_o (by decide)).trans hG) rfl (by omega) (by decide) d_SpectrumDeskModel_lower_84 ?_
      refine xr_topi (y := nI ds) hG3 ?_
      refine lv_icmp_gt hx hb d_SpectrumDeskModel_lower_85 rfl (fun hc => ?_) (fun hc => ?_)
      · refine lv_aload_n hx hb d_SpectrumDeskModel_lower_119 rfl (lv_at hl 2 rfl) ?_
        refine lv_bipush (v := nI 32) hx hb d_SpectrumDeskModel_lower_120 (by decide) ?_
        refine xr_callv (xr_runV (kc := 1) (kr := 3) (n := 1) (As := [.int (nI 32)]) (rest := []) X I (by decide) (r183 ..) rfl (c_SpectrumDeskModel_rowTrim (b := 4) (c9 := dm + 1) hG h2 (by decide) (by omega) (by rw [nP_succ]; exact hG4)) (xg k_96805e01aa) (List.mem_cons_of_mem _ k_929dd6c9e6) (List.mem_cons_of_mem _ k_dd597f8cbe) (List.mem_cons_of_mem _ k_35719f83cc) (List.mem_cons_of_mem _ k_30fa15c9ac) (by decide +kernel) (by decide) rfl hl.1 rfl (Nat.le_of_ble_eq_true rfl) d_SpectrumDeskModel_lower_122) I (fun σ9 H locs hp I => ?_)
        rw [hp, dgt_congr (g := fun k => lwA Z dm ds (dm + 1) (ds + 1) (8 * 4 + k)) (fun k hk => h3.1 _ (by omega) (by omega))] at I
        exact xr_vret X I hr hlk ⟨P2, L2, M2, X2, rfl, h2, h3⟩ d_SpectrumDeskModel_lower_125
      · exact absurd (nI_lt (Nat.lt_succ_self _) (by omega)) hc
    | succ j ih =>
      intro k P2 L2 M2 X2 ls H locs hk h2 h3 hl I
      refine lv_iload_n hx hb d_SpectrumDeskModel_lower_78 rfl (lv_at hl 0 rfl) ?_
      refine lv_aload_n hx hb d_SpectrumDeskModel_lower_79 rfl (lv_at hl 2 rfl) ?_
      refine xr_get X I fin_M 183 (by decide) (r183 ..) rfl 3 (by decide) (List.mem_cons_of_mem _ k_176eac5e1f) rfl rfl d_SpectrumDeskModel_lower_80 ?_
      refine lv_iconst (v := nI 3) hx hb d_SpectrumDeskModel_lower_83 (by decide) ?_
      refine xr_iald X I 187 0 (by decide) ((r_o (by decide)).trans hG) rfl (by omega) (by decide) d_SpectrumDeskModel_lower_84 ?_
      refine xr_topi (y := nI ds) hG3 ?_
      refine lv_icmp_gt hx hb d_SpectrumDeskModel_lower_85 rfl (fun hc => ?_) (fun hc => ?_)
      · exact absurd hc (nI_nlt (by omega) (by omega))
      · refine lv_aload_n hx hb d_SpectrumDeskModel_lower_88 rfl (lv_at hl 2 rfl) ?_
        refine lv_bipush (v := nI 105) hx hb d_SpectrumDeskModel_lower_89 (by decide) ?_
        refine lv_bipush (v := nI 106) hx hb d_SpectrumDeskModel_lower_91 (by decide) ?_
        refine lv_bipush (v := nI 24) hx hb d_SpectrumDeskModel_lower_93 (by decide) ?_
        refine lv_iload_n hx hb d_SpectrumDeskModel_lower_95 rfl (lv_at hl 0 rfl) ?_
        refine lv_iadd hx hb d_SpectrumDeskModel_lower_96 (xr_topi (y := nI (24 + k)) (nI_add 24 k) ?_)
        obtain ⟨v1, v2⟩ := lwI_b (show k ≤ ds by omega) hds hdm h3
        have v3 := h3.2
        obtain ⟨la, la1, la2⟩ := rb_sm (h2 106 (by decide)) (by rw [v3]; exact hs4 dm (Nat.le_refl _))
        obtain ⟨lb, lb1, lb2⟩ := rb_sm (h2 (24 + k) (by omega)) (by rw [v2]; exact hs3 k (by omega))
        refine xr_callv (xr_runV (kc := 1) (kr := 3) (n := 3) (As := [.int (nI 105), .int (nI 106), .int (nI (24 + k))]) (rest := []) X I (by decide) (r183 ..) rfl (c_SpectrumDeskModel_bigProduct (w := 105) (u := 106) (v := 24 + k) mfs_ok (by decide) (by decide) (by omega) (by decide) (by omega) la2 lb2 (by omega) (h2 106 (by decide)) (h2 (24 + k) (by omega))) (xg k_d838ee6d72) (List.mem_cons_of_mem _ k_bbee4b637e) (List.mem_cons_of_mem _ k_55f9d50ad7) (List.mem_cons_of_mem _ k_ea9d46a281) (List.mem_cons_of_mem _ k_30fa15c9ac) (by decide +kernel) (by decide) rfl hl.1 rfl (Nat.le_of_ble_eq_true rfl) d_SpectrumDeskModel_lower_97) I (fun σ9 H locs hp I => ?_)
        obtain ⟨P4, L4, M4, rfl, hf, hx9⟩ := hp
        have g4 := RB_up h2 hf hx9
        clear hf hx9
        have w1 : va_up X2 105 (X2 106 * X2 (24 + k)) (32 + k + (dm - ds)) = X2 (32 + k + (dm - ds)) := va_up_ne _ _ (by omega)
        have w2 : va_up X2 105 (X2 106 * X2 (24 + k)) 105 = X2 106 * X2 (24 + k) := va_up_self _ _ _
        refine lv_aload_n hx hb d_SpectrumDeskModel_lower_100 rfl (lv_at hl 2 rfl) ?_
        refine lv_bipush (v := nI 32) hx hb d_SpectrumDeskModel_lower_101 (by decide) ?_
        refine lv_iload_n hx hb d_SpectrumDeskModel_lower_103 rfl (lv_at hl 0 rfl) ?_
        refine lv_iadd hx hb d_SpectrumDeskModel_lower_104 (xr_topi (y := nI (32 + k)) (nI_add 32 k) ?_)
        refine lv_iload_n hx hb d_SpectrumDeskModel_lower_105 rfl (lv_at hl 1 rfl) ?_
        refine lv_iadd hx hb d_SpectrumDeskModel_lower_106 (xr_topi (y := nI ((32 + k) + (dm - ds))) (nI_add (32 + k) (dm - ds)) ?_)
        refine lv_bipush (v := nI 105) hx hb d_SpectrumDeskModel_lower_107 (by decide) ?_
        refine lv_iconst (v := nI 1) hx hb d_SpectrumDeskModel_lower_109 (by decide) ?_
        refine xr_callv (xr_runV (kc := 2) (kr := 3) (n := 3) (As := [.int (nI ((32 + k) + (dm - ds))), .int (nI 105), .int (nI 1)]) (rest := []) X I (by decide) (r183 ..) rfl (c_SpectrumDeskModel_bigAdd1 (w := 32 + k + (dm - ds)) (u := 105) mfs_ok (by omega) (by decide) (by omega) (g4 (32 + k + (dm - ds)) (by omega)) (g4 105 (by decide)) (by rw [w1, v1, Nat.add_assoc]; exact sm_mul (hs4 _ (by omega)) (hs3 ds (Nat.le_refl _))) (by rw [w2, v2, v3]; exact sm_mul (hs4 dm (Nat.le_refl _)) (hs3 k (by omega)))) (xg k_dd45f20b23) (List.mem_cons_of_mem _ k_1f49c5cd66) (List.mem_cons_of_mem _ k_a10028f3d7) (List.mem_cons_of_mem _ k_758e0597f6) (List.mem_cons_of_mem _ k_30fa15c9ac) (by decide +kernel) (by decide) rfl hl.1 rfl (Nat.le_of_ble_eq_true rfl) d_SpectrumDeskModel_lower_110) I (fun σ9 H locs hp I => ?_)
        obtain ⟨P5, L5, M5, rfl, hf, hx9⟩ := hp
        have g5 := RB_up g4 hf hx9
        clear hf hx9
        rw [w1, w2, v1, v2, v3] at g5
        refine lv_iinc (k := 0) (v := nI (k + 1)) (lv' := [(2, .int (nI (k + 1))), (1, .int (nI (dm - ds))), (0, .ref (ad 183))]) hx hb d_SpectrumDeskModel_lower_113 hl rfl (nI_1 k) (by decide) rfl (fun ls hl => ?_)
        refine lv_goto hx hb d_SpectrumDeskModel_lower_116 rfl ?_
        exact ih (k + 1) P5 L5 M5 _ ls H locs (by omega) g5 (lwI_bs (by omega) hds hdm h3 _) hl I
  have first : ∀ (j : Nat) (k : Nat) (P2 L2 M2 : Nat → Int32) (X2 : Nat → Int) (ls : Array Slot) (H : Heap) (locs : List Loc), k + j = dm + 1 → RB P2 L2 M2 X2 → lwI Z dm ds k 0 X2 → lv_has ls 3 [(2, .int (nI k)), (1, .int (nI (dm - ds))), (0, .ref (ad 183))] → xI D classes 193 ad s.heap (rw3 σ0 ciM cI cZ (mfs ad th nn rws ps le eq) P2 L2 M2) H locs → W p l e (xrm 3) s m args below meth c H locs 0 0 (MQ below (va_Qv (fun σ2 => ∃ (P' L' M' : Nat → Int32) (X' : Nat → Int), σ2 = rw3 (va_up σ0 187 (.inl (cI, 5, .inl (upd G 4 (nP (dgt (fun k => lwA Z dm ds (dm + 1) (ds + 1) (8 * 4 + k)) (dm + 1))))))) ciM cI cZ (mfs ad th nn rws ps le eq) P' L' M' ∧ RB P' L' M' X' ∧ lwI Z dm ds (dm + 1) (ds + 1) X') (xS D classes (xT cI cJ cZ cC cG cP) 193 ad) (xA 193 ad)) args s 0 0 (xA 193 ad)) (F0 m 31 ls []) := by
    intro j
    induction j with
    | zero =>
      intro k P2 L2 M2 X2 ls H locs hk h2 h3 hl I
      obtain rfl : k = dm + 1 := by omega
      refine lv_iload_n hx hb d_SpectrumDeskModel_lower_31 rfl (lv_at hl 0 rfl) ?_
      refine lv_aload_n hx hb d_SpectrumDeskModel_lower_32 rfl (lv_at hl 2 rfl) ?_
      refine xr_get X I fin_M 183 (by decide) (r183 ..) rfl 3 (by decide) (List.mem_cons_of_mem _ k_176eac5e1f) rfl rfl d_SpectrumDeskModel_lower_33 ?_
      refine lv_iconst (v := nI 4) hx hb d_SpectrumDeskModel_lower_36 (by decide) ?_
      refine xr_iald X I 187 0 (by decide) ((r_o (by decide)).trans hG) rfl (by omega) (by decide) d_SpectrumDeskModel_lower_37 ?_
      refine xr_topi (y := nI dm) hG4 ?_
      refine lv_icmp_gt hx hb d_SpectrumDeskModel_lower_38 rfl (fun hc => ?_) (fun hc => ?_)
      · refine lv_iconst (v := nI 0) hx hb d_SpectrumDeskModel_lower_76 (by decide) ?_
        refine lv_istore_n (lv' := [(2, .int (nI 0)), (1, .int (nI (dm - ds))), (0, .ref (ad 183))]) hx hb d_SpectrumDeskModel_lower_77 rfl hl (by decide) rfl (fun ls hl => ?_)
        exact second (ds + 1) 0 P2 L2 M2 X2 ls H locs (by omega) h2 h3 hl I
      · exact absurd (nI_lt (Nat.lt_succ_self _) (by omega)) hc
    | succ j ih =>
      intro k P2 L2 M2 X2 ls H locs hk h2 h3 hl I
      refine lv_iload_n hx hb d_SpectrumDeskModel_lower_31 rfl (lv_at hl 0 rfl) ?_
      refine lv_aload_n hx hb d_SpectrumDeskModel_lower_32 rfl (lv_at hl 2 rfl) ?_
      refine xr_get X I fin_M 183 (by decide) (r183 ..) rfl 3 (by decide) (List.mem_cons_of_mem _ k_176eac5e1f) rfl rfl d_SpectrumDeskModel_lower_33 ?_
      refine lv_iconst (v := nI 4) hx hb d_SpectrumDeskModel_lower_36 (by decide) ?_
      refine xr_iald X I 187 0 (by decide) ((r_o (by decide)).trans hG) rfl (by omega) (by decide) d_SpectrumDeskModel_lower_37 ?_
      refine xr_topi (y := nI dm) hG4 ?_
      refine lv_icmp_gt hx hb d_SpectrumDeskModel_lower_38 rfl (fun hc => ?_) (fun hc => ?_)
      · exact absurd hc (nI_nlt (by omega) (by omega))
      · refine lv_aload_n hx hb d_SpectrumDeskModel_lower_41 rfl (lv_at hl 2 rfl) ?_
        refine lv_bipush (v := nI 105) hx hb d_SpectrumDeskModel_lower_42 (by decide) ?_
        refine lv_bipush (v := nI 32) hx hb d_SpectrumDeskModel_lower_44 (by decide) ?_
        refine lv_iload_n hx hb d_SpectrumDeskModel_lower_46 rfl (lv_at hl 0 rfl) ?_
        refine lv_iadd hx hb d_SpectrumDeskModel_lower_47 (xr_topi (y := nI (32 + k)) (nI_add 32 k) ?_)
        refine lv_bipush (v := nI 24) hx hb d_SpectrumDeskModel_lower_48 (by decide) ?_
        refine lv_aload_n hx hb d_SpectrumDeskModel_lower_50 rfl (lv_at hl 2 rfl) ?_
        refine xr_get X I fin_M 183 (by decide) (r183 ..) rfl 3 (by decide) (List.mem_cons_of_mem _ k_176eac5e1f) rfl rfl d_SpectrumDeskModel_lower_51 ?_
        refine lv_iconst (v := nI 3) hx hb d_SpectrumDeskModel_lower_54 (by decide) ?_
        refine xr_iald X I 187 0 (by decide) ((r_o (by decide)).trans hG) rfl (by omega) (by decide) d_SpectrumDeskModel_lower_55 ?_
        refine xr_topi (y := nI ds) hG3 ?_
        refine lv_iadd hx hb d_SpectrumDeskModel_lower_56 (xr_topi (y := nI (24 + ds)) (nI_add 24 ds) ?_)
        obtain ⟨v1, v2⟩ := lwI_a (show k ≤ dm by omega) hdm (by omega) h3
        obtain ⟨la, la1, la2⟩ := rb_sm (h2 (32 + k) (by omega)) (by rw [v1]; exact hs4 k (by omega))
        obtain ⟨lb, lb1, lb2⟩ := rb_sm (h2 (24 + ds) (by omega)) (by rw [v2]; exact hs3 ds (Nat.le_refl _))
        refine xr_callv (xr_runV (kc := 1) (kr := 3) (n := 3) (As := [.int (nI 105), .int (nI (32 + k)), .int (nI (24 + ds))]) (rest := []) X I (by decide) (r183 ..) rfl (c_SpectrumDeskModel_bigProduct (w := 105) (u := 32 + k) (v := 24 + ds) mfs_ok (by decide) (by omega) (by omega) (by omega) (by omega) la2 lb2 (by omega) (h2 (32 + k) (by omega)) (h2 (24 + ds) (by omega))) (xg k_d838ee6d72) (List.mem_cons_of_mem _ k_bbee4b637e) (List.mem_cons_of_mem _ k_55f9d50ad7) (List.mem_cons_of_mem _ k_ea9d46a281) (List.mem_cons_of_mem _ k_30fa15c9ac) (by decide +kernel) (by decide) rfl hl.1 rfl (Nat.le_of_ble_eq_true rfl) d_SpectrumDeskModel_lower_57) I (fun σ9 H locs hp I => ?_)
        obtain ⟨P4, L4, M4, rfl, hf, hx9⟩ := hp
        have g4 := RB_up h2 hf hx9
        clear hf hx9
        have w2 : va_up X2 105 (X2 (32 + k) * X2 (24 + ds)) 105 = X2 (32 + k) * X2 (24 + ds) := va_up_self _ _ _
        refine lv_aload_n hx hb d_SpectrumDeskModel_lower_60 rfl (lv_at hl 2 rfl) ?_
        refine lv_bipush (v := nI 32) hx hb d_SpectrumDeskModel_lower_61 (by decide) ?_
        refine lv_iload_n hx hb d_SpectrumDeskModel_lower_63 rfl (lv_at hl 0 rfl) ?_
        refine lv_iadd hx hb d_SpectrumDeskModel_lower_64 (xr_topi (y := nI (32 + k)) (nI_add 32 k) ?_)
        refine lv_bipush (v := nI 105) hx hb d_SpectrumDeskModel_lower_65 (by decide) ?_
        refine xr_callv (xr_runV (kc := 0) (kr := 3) (n := 2) (As := [.int (nI (32 + k)), .int (nI 105)]) (rest := []) X I (by decide) (r183 ..) rfl (c_SpectrumDeskModel_bigCopy (w := 32 + k) (u := 105) mfs_ok (by omega) (by decide) (by omega) (g4 105 (by decide))) (xg k_b9c8150a19) (List.mem_cons_of_mem _ k_4f43ed96b8) (List.mem_cons_of_mem _ k_c9c9b5ab57) (List.mem_cons_of_mem _ k_5d491bf207) (List.mem_cons_of_mem _ k_30fa15c9ac) (by decide +kernel) (by decide) rfl hl.1 rfl (Nat.le_of_ble_eq_true rfl) d_SpectrumDeskModel_lower_67) I (fun σ9 H locs hp I => ?_)
        obtain ⟨P5, L5, M5, rfl, hf, hx9⟩ := hp
        have g5 := RB_up g4 hf hx9
        clear hf hx9
        rw [w2, v1, v2] at g5
        refine lv_iinc (k := 0) (v := nI (k + 1)) (lv' := [(2, .int (nI (k + 1))), (1, .int (nI (dm - ds))), (0, .ref (ad 183))]) hx hb d_SpectrumDeskModel_lower_70 hl rfl (nI_1 k) (by decide) rfl (fun ls hl => ?_)
        refine lv_goto hx hb d_SpectrumDeskModel_lower_73 rfl ?_
        exact ih (k + 1) P5 L5 M5 _ ls H locs (by omega) g5 (lwI_as (by omega) hdm h3 _) hl I
  exact first (dm + 1) 0 P1 L1 M1 _ ls _ _ (by omega) h1 lwI_0 hl I
