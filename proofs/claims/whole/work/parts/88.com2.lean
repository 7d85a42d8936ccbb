/-! the reference: distinct, multiplicity, apart (written by wip/gen) -/
abbrev b_SpectrumDeskModel_distinct : ByteArray := prog_10_method_49_code
abbrev y_SpectrumDeskModel_distinct : MethodName := ⟨"SpectrumDeskModel", "distinct", "()I"⟩
abbrev v_SpectrumDeskModel_distinct : List Cond := Cond.code y_SpectrumDeskModel_distinct b_SpectrumDeskModel_distinct 1 (some .int) :: AW
theorem d_SpectrumDeskModel_distinct_0 : decode b_SpectrumDeskModel_distinct 0 = .ok (.aload_n 0, 1) := by decide +kernel
theorem d_SpectrumDeskModel_distinct_1 : decode b_SpectrumDeskModel_distinct 1 = .ok (.iconst 0, 1) := by decide +kernel
theorem d_SpectrumDeskModel_distinct_2 : decode b_SpectrumDeskModel_distinct 2 = .ok (.putfield 79, 3) := by decide +kernel
theorem d_SpectrumDeskModel_distinct_5 : decode b_SpectrumDeskModel_distinct 5 = .ok (.aload_n 0, 1) := by decide +kernel
theorem d_SpectrumDeskModel_distinct_6 : decode b_SpectrumDeskModel_distinct 6 = .ok (.invokevirtual 168, 3) := by decide +kernel
theorem d_SpectrumDeskModel_distinct_9 : decode b_SpectrumDeskModel_distinct 9 = .ok (.aload_n 0, 1) := by decide +kernel
theorem d_SpectrumDeskModel_distinct_10 : decode b_SpectrumDeskModel_distinct 10 = .ok (.getfield 63, 3) := by decide +kernel
theorem d_SpectrumDeskModel_distinct_13 : decode b_SpectrumDeskModel_distinct 13 = .ok (.aload_n 0, 1) := by decide +kernel
theorem d_SpectrumDeskModel_distinct_14 : decode b_SpectrumDeskModel_distinct 14 = .ok (.getfield 46, 3) := by decide +kernel
theorem d_SpectrumDeskModel_distinct_17 : decode b_SpectrumDeskModel_distinct 17 = .ok (.iconst 1, 1) := by decide +kernel
theorem d_SpectrumDeskModel_distinct_18 : decode b_SpectrumDeskModel_distinct 18 = .ok (.iaload, 1) := by decide +kernel
theorem d_SpectrumDeskModel_distinct_19 : decode b_SpectrumDeskModel_distinct 19 = .ok (.isub, 1) := by decide +kernel
theorem d_SpectrumDeskModel_distinct_20 : decode b_SpectrumDeskModel_distinct 20 = .ok (.ireturn, 1) := by decide +kernel
abbrev b_SpectrumDeskModel_multiplicity : ByteArray := prog_10_method_48_code
abbrev y_SpectrumDeskModel_multiplicity : MethodName := ⟨"SpectrumDeskModel", "multiplicity", "(I)I"⟩
abbrev v_SpectrumDeskModel_multiplicity : List Cond := Cond.code y_SpectrumDeskModel_multiplicity b_SpectrumDeskModel_multiplicity 2 (some .int) :: AW
theorem d_SpectrumDeskModel_multiplicity_0 : decode b_SpectrumDeskModel_multiplicity 0 = .ok (.aload_n 0, 1) := by decide +kernel
theorem d_SpectrumDeskModel_multiplicity_1 : decode b_SpectrumDeskModel_multiplicity 1 = .ok (.iload_n 1, 1) := by decide +kernel
theorem d_SpectrumDeskModel_multiplicity_2 : decode b_SpectrumDeskModel_multiplicity 2 = .ok (.ifCond .lt (11), 3) := by decide +kernel
theorem d_SpectrumDeskModel_multiplicity_5 : decode b_SpectrumDeskModel_multiplicity 5 = .ok (.iload_n 1, 1) := by decide +kernel
theorem d_SpectrumDeskModel_multiplicity_6 : decode b_SpectrumDeskModel_multiplicity 6 = .ok (.aload_n 0, 1) := by decide +kernel
theorem d_SpectrumDeskModel_multiplicity_7 : decode b_SpectrumDeskModel_multiplicity 7 = .ok (.getfield 63, 3) := by decide +kernel
theorem d_SpectrumDeskModel_multiplicity_10 : decode b_SpectrumDeskModel_multiplicity 10 = .ok (.if_icmp .lt (7), 3) := by decide +kernel
theorem d_SpectrumDeskModel_multiplicity_13 : decode b_SpectrumDeskModel_multiplicity 13 = .ok (.iconst 1, 1) := by decide +kernel
theorem d_SpectrumDeskModel_multiplicity_14 : decode b_SpectrumDeskModel_multiplicity 14 = .ok (.goto (4), 3) := by decide +kernel
theorem d_SpectrumDeskModel_multiplicity_17 : decode b_SpectrumDeskModel_multiplicity 17 = .ok (.iconst 0, 1) := by decide +kernel
theorem d_SpectrumDeskModel_multiplicity_18 : decode b_SpectrumDeskModel_multiplicity 18 = .ok (.putfield 79, 3) := by decide +kernel
theorem d_SpectrumDeskModel_multiplicity_21 : decode b_SpectrumDeskModel_multiplicity 21 = .ok (.aload_n 0, 1) := by decide +kernel
theorem d_SpectrumDeskModel_multiplicity_22 : decode b_SpectrumDeskModel_multiplicity 22 = .ok (.getfield 79, 3) := by decide +kernel
theorem d_SpectrumDeskModel_multiplicity_25 : decode b_SpectrumDeskModel_multiplicity 25 = .ok (.ifCond .le (5), 3) := by decide +kernel
theorem d_SpectrumDeskModel_multiplicity_28 : decode b_SpectrumDeskModel_multiplicity 28 = .ok (.iconst 0, 1) := by decide +kernel
theorem d_SpectrumDeskModel_multiplicity_29 : decode b_SpectrumDeskModel_multiplicity 29 = .ok (.ireturn, 1) := by decide +kernel
theorem d_SpectrumDeskModel_multiplicity_30 : decode b_SpectrumDeskModel_multiplicity 30 = .ok (.aload_n 0, 1) := by decide +kernel
theorem d_SpectrumDeskModel_multiplicity_31 : decode b_SpectrumDeskModel_multiplicity 31 = .ok (.invokevirtual 168, 3) := by decide +kernel
theorem d_SpectrumDeskModel_multiplicity_34 : decode b_SpectrumDeskModel_multiplicity 34 = .ok (.aload_n 0, 1) := by decide +kernel
theorem d_SpectrumDeskModel_multiplicity_35 : decode b_SpectrumDeskModel_multiplicity 35 = .ok (.bipush (110), 2) := by decide +kernel
theorem d_SpectrumDeskModel_multiplicity_37 : decode b_SpectrumDeskModel_multiplicity 37 = .ok (.aload_n 0, 1) := by decide +kernel
theorem d_SpectrumDeskModel_multiplicity_38 : decode b_SpectrumDeskModel_multiplicity 38 = .ok (.iload_n 1, 1) := by decide +kernel
theorem d_SpectrumDeskModel_multiplicity_39 : decode b_SpectrumDeskModel_multiplicity 39 = .ok (.iconst 0, 1) := by decide +kernel
theorem d_SpectrumDeskModel_multiplicity_40 : decode b_SpectrumDeskModel_multiplicity 40 = .ok (.invokevirtual 165, 3) := by decide +kernel
theorem d_SpectrumDeskModel_multiplicity_43 : decode b_SpectrumDeskModel_multiplicity 43 = .ok (.invokevirtual 104, 3) := by decide +kernel
theorem d_SpectrumDeskModel_multiplicity_46 : decode b_SpectrumDeskModel_multiplicity 46 = .ok (.aload_n 0, 1) := by decide +kernel
theorem d_SpectrumDeskModel_multiplicity_47 : decode b_SpectrumDeskModel_multiplicity 47 = .ok (.bipush (111), 2) := by decide +kernel
theorem d_SpectrumDeskModel_multiplicity_49 : decode b_SpectrumDeskModel_multiplicity 49 = .ok (.lconst 1, 1) := by decide +kernel
theorem d_SpectrumDeskModel_multiplicity_50 : decode b_SpectrumDeskModel_multiplicity 50 = .ok (.invokevirtual 104, 3) := by decide +kernel
theorem d_SpectrumDeskModel_multiplicity_53 : decode b_SpectrumDeskModel_multiplicity 53 = .ok (.aload_n 0, 1) := by decide +kernel
theorem d_SpectrumDeskModel_multiplicity_54 : decode b_SpectrumDeskModel_multiplicity 54 = .ok (.iconst 1, 1) := by decide +kernel
theorem d_SpectrumDeskModel_multiplicity_55 : decode b_SpectrumDeskModel_multiplicity 55 = .ok (.invokevirtual 171, 3) := by decide +kernel
theorem d_SpectrumDeskModel_multiplicity_58 : decode b_SpectrumDeskModel_multiplicity 58 = .ok (.iconst 1, 1) := by decide +kernel
theorem d_SpectrumDeskModel_multiplicity_59 : decode b_SpectrumDeskModel_multiplicity 59 = .ok (.if_icmp .le (11), 3) := by decide +kernel
theorem d_SpectrumDeskModel_multiplicity_62 : decode b_SpectrumDeskModel_multiplicity 62 = .ok (.aload_n 0, 1) := by decide +kernel
theorem d_SpectrumDeskModel_multiplicity_63 : decode b_SpectrumDeskModel_multiplicity 63 = .ok (.iload_n 1, 1) := by decide +kernel
theorem d_SpectrumDeskModel_multiplicity_64 : decode b_SpectrumDeskModel_multiplicity 64 = .ok (.invokevirtual 174, 3) := by decide +kernel
theorem d_SpectrumDeskModel_multiplicity_67 : decode b_SpectrumDeskModel_multiplicity 67 = .ok (.goto (-14), 3) := by decide +kernel
theorem d_SpectrumDeskModel_multiplicity_70 : decode b_SpectrumDeskModel_multiplicity 70 = .ok (.aload_n 0, 1) := by decide +kernel
theorem d_SpectrumDeskModel_multiplicity_71 : decode b_SpectrumDeskModel_multiplicity 71 = .ok (.iconst 0, 1) := by decide +kernel
theorem d_SpectrumDeskModel_multiplicity_72 : decode b_SpectrumDeskModel_multiplicity 72 = .ok (.invokevirtual 171, 3) := by decide +kernel
theorem d_SpectrumDeskModel_multiplicity_75 : decode b_SpectrumDeskModel_multiplicity 75 = .ok (.ireturn, 1) := by decide +kernel
abbrev b_SpectrumDeskModel_apart : ByteArray := prog_10_method_51_code
abbrev y_SpectrumDeskModel_apart : MethodName := ⟨"SpectrumDeskModel", "apart", "()I"⟩
abbrev v_SpectrumDeskModel_apart : List Cond := Cond.code y_SpectrumDeskModel_apart b_SpectrumDeskModel_apart 4 (some .int) :: AW
theorem d_SpectrumDeskModel_apart_0 : decode b_SpectrumDeskModel_apart 0 = .ok (.aload_n 0, 1) := by decide +kernel
theorem d_SpectrumDeskModel_apart_1 : decode b_SpectrumDeskModel_apart 1 = .ok (.iconst 0, 1) := by decide +kernel
theorem d_SpectrumDeskModel_apart_2 : decode b_SpectrumDeskModel_apart 2 = .ok (.putfield 79, 3) := by decide +kernel
theorem d_SpectrumDeskModel_apart_5 : decode b_SpectrumDeskModel_apart 5 = .ok (.aload_n 0, 1) := by decide +kernel
theorem d_SpectrumDeskModel_apart_6 : decode b_SpectrumDeskModel_apart 6 = .ok (.invokevirtual 168, 3) := by decide +kernel
theorem d_SpectrumDeskModel_apart_9 : decode b_SpectrumDeskModel_apart 9 = .ok (.iconst 0, 1) := by decide +kernel
theorem d_SpectrumDeskModel_apart_10 : decode b_SpectrumDeskModel_apart 10 = .ok (.istore_n 1, 1) := by decide +kernel
theorem d_SpectrumDeskModel_apart_11 : decode b_SpectrumDeskModel_apart 11 = .ok (.iload_n 1, 1) := by decide +kernel
theorem d_SpectrumDeskModel_apart_12 : decode b_SpectrumDeskModel_apart 12 = .ok (.bipush (30), 2) := by decide +kernel
theorem d_SpectrumDeskModel_apart_14 : decode b_SpectrumDeskModel_apart 14 = .ok (.if_icmp .gt (73), 3) := by decide +kernel
theorem d_SpectrumDeskModel_apart_17 : decode b_SpectrumDeskModel_apart 17 = .ok (.iconst 1, 1) := by decide +kernel
theorem d_SpectrumDeskModel_apart_18 : decode b_SpectrumDeskModel_apart 18 = .ok (.istore_n 2, 1) := by decide +kernel
theorem d_SpectrumDeskModel_apart_19 : decode b_SpectrumDeskModel_apart 19 = .ok (.iconst 0, 1) := by decide +kernel
theorem d_SpectrumDeskModel_apart_20 : decode b_SpectrumDeskModel_apart 20 = .ok (.istore_n 3, 1) := by decide +kernel
theorem d_SpectrumDeskModel_apart_21 : decode b_SpectrumDeskModel_apart 21 = .ok (.iload_n 3, 1) := by decide +kernel
theorem d_SpectrumDeskModel_apart_22 : decode b_SpectrumDeskModel_apart 22 = .ok (.aload_n 0, 1) := by decide +kernel
theorem d_SpectrumDeskModel_apart_23 : decode b_SpectrumDeskModel_apart 23 = .ok (.getfield 63, 3) := by decide +kernel
theorem d_SpectrumDeskModel_apart_26 : decode b_SpectrumDeskModel_apart 26 = .ok (.if_icmp .ge (49), 3) := by decide +kernel
theorem d_SpectrumDeskModel_apart_29 : decode b_SpectrumDeskModel_apart 29 = .ok (.iload_n 2, 1) := by decide +kernel
theorem d_SpectrumDeskModel_apart_30 : decode b_SpectrumDeskModel_apart 30 = .ok (.ifCond .eq (45), 3) := by decide +kernel
theorem d_SpectrumDeskModel_apart_33 : decode b_SpectrumDeskModel_apart 33 = .ok (.aload_n 0, 1) := by decide +kernel
theorem d_SpectrumDeskModel_apart_34 : decode b_SpectrumDeskModel_apart 34 = .ok (.bipush (110), 2) := by decide +kernel
theorem d_SpectrumDeskModel_apart_36 : decode b_SpectrumDeskModel_apart 36 = .ok (.aload_n 0, 1) := by decide +kernel
theorem d_SpectrumDeskModel_apart_37 : decode b_SpectrumDeskModel_apart 37 = .ok (.iload_n 3, 1) := by decide +kernel
theorem d_SpectrumDeskModel_apart_38 : decode b_SpectrumDeskModel_apart 38 = .ok (.iload_n 1, 1) := by decide +kernel
theorem d_SpectrumDeskModel_apart_39 : decode b_SpectrumDeskModel_apart 39 = .ok (.invokevirtual 165, 3) := by decide +kernel
theorem d_SpectrumDeskModel_apart_42 : decode b_SpectrumDeskModel_apart 42 = .ok (.invokevirtual 104, 3) := by decide +kernel
theorem d_SpectrumDeskModel_apart_45 : decode b_SpectrumDeskModel_apart 45 = .ok (.aload_n 0, 1) := by decide +kernel
theorem d_SpectrumDeskModel_apart_46 : decode b_SpectrumDeskModel_apart 46 = .ok (.bipush (111), 2) := by decide +kernel
theorem d_SpectrumDeskModel_apart_48 : decode b_SpectrumDeskModel_apart 48 = .ok (.lconst 1, 1) := by decide +kernel
theorem d_SpectrumDeskModel_apart_49 : decode b_SpectrumDeskModel_apart 49 = .ok (.iload_n 1, 1) := by decide +kernel
theorem d_SpectrumDeskModel_apart_50 : decode b_SpectrumDeskModel_apart 50 = .ok (.lshl, 1) := by decide +kernel
theorem d_SpectrumDeskModel_apart_51 : decode b_SpectrumDeskModel_apart 51 = .ok (.invokevirtual 104, 3) := by decide +kernel
theorem d_SpectrumDeskModel_apart_54 : decode b_SpectrumDeskModel_apart 54 = .ok (.aload_n 0, 1) := by decide +kernel
theorem d_SpectrumDeskModel_apart_55 : decode b_SpectrumDeskModel_apart 55 = .ok (.iconst 1, 1) := by decide +kernel
theorem d_SpectrumDeskModel_apart_56 : decode b_SpectrumDeskModel_apart 56 = .ok (.invokevirtual 171, 3) := by decide +kernel
theorem d_SpectrumDeskModel_apart_59 : decode b_SpectrumDeskModel_apart 59 = .ok (.iconst 1, 1) := by decide +kernel
theorem d_SpectrumDeskModel_apart_60 : decode b_SpectrumDeskModel_apart 60 = .ok (.if_icmp .ne (7), 3) := by decide +kernel
theorem d_SpectrumDeskModel_apart_63 : decode b_SpectrumDeskModel_apart 63 = .ok (.iconst 1, 1) := by decide +kernel
theorem d_SpectrumDeskModel_apart_64 : decode b_SpectrumDeskModel_apart 64 = .ok (.goto (4), 3) := by decide +kernel
theorem d_SpectrumDeskModel_apart_67 : decode b_SpectrumDeskModel_apart 67 = .ok (.iconst 0, 1) := by decide +kernel
theorem d_SpectrumDeskModel_apart_68 : decode b_SpectrumDeskModel_apart 68 = .ok (.istore_n 2, 1) := by decide +kernel
theorem d_SpectrumDeskModel_apart_69 : decode b_SpectrumDeskModel_apart 69 = .ok (.iinc 3 (1), 3) := by decide +kernel
theorem d_SpectrumDeskModel_apart_72 : decode b_SpectrumDeskModel_apart 72 = .ok (.goto (-51), 3) := by decide +kernel
theorem d_SpectrumDeskModel_apart_75 : decode b_SpectrumDeskModel_apart 75 = .ok (.iload_n 2, 1) := by decide +kernel
theorem d_SpectrumDeskModel_apart_76 : decode b_SpectrumDeskModel_apart 76 = .ok (.ifCond .eq (5), 3) := by decide +kernel
theorem d_SpectrumDeskModel_apart_79 : decode b_SpectrumDeskModel_apart 79 = .ok (.iload_n 1, 1) := by decide +kernel
theorem d_SpectrumDeskModel_apart_80 : decode b_SpectrumDeskModel_apart 80 = .ok (.ireturn, 1) := by decide +kernel
theorem d_SpectrumDeskModel_apart_81 : decode b_SpectrumDeskModel_apart 81 = .ok (.iinc 1 (1), 3) := by decide +kernel
theorem d_SpectrumDeskModel_apart_84 : decode b_SpectrumDeskModel_apart 84 = .ok (.goto (-73), 3) := by decide +kernel
theorem d_SpectrumDeskModel_apart_87 : decode b_SpectrumDeskModel_apart 87 = .ok (.iconst (-1), 1) := by decide +kernel
theorem d_SpectrumDeskModel_apart_88 : decode b_SpectrumDeskModel_apart 88 = .ok (.ireturn, 1) := by decide +kernel
theorem k_76aaa69389 : (Jvm.Cond.methodLink "SpectrumDeskModel" (168 : Nat) ({ cls := "SpectrumDeskModel", name := "findCommon", desc := "()V" } : Jvm.MethodName)) ∈ AW := aw_5 (List.mem_of_getElem? (i := 131) (by decide +kernel)) (by decide +kernel)
theorem k_35fe149e1a : (Jvm.Cond.instanceMethod ({ cls := "SpectrumDeskModel", name := "findCommon", desc := "()V" } : Jvm.MethodName)) ∈ AW := aw_5 (List.mem_of_getElem? (i := 133) (by decide +kernel)) (by decide +kernel)
theorem k_99072ea14d : (Jvm.Cond.selects "SpectrumDeskModel" ({ cls := "SpectrumDeskModel", name := "findCommon", desc := "()V" } : Jvm.MethodName) ({ cls := "SpectrumDeskModel", name := "findCommon", desc := "()V" } : Jvm.MethodName)) ∈ AW := aw_p (by decide +kernel) (by decide +kernel)
theorem k_02330b96b8 : (Jvm.Cond.methodLink "SpectrumDeskModel" (171 : Nat) ({ cls := "SpectrumDeskModel", name := "within", desc := "(I)I" } : Jvm.MethodName)) ∈ AW := aw_5 (List.mem_of_getElem? (i := 159) (by decide +kernel)) (by decide +kernel)
theorem k_50609dc0f8 : (Jvm.Cond.instanceMethod ({ cls := "SpectrumDeskModel", name := "within", desc := "(I)I" } : Jvm.MethodName)) ∈ AW := aw_5 (List.mem_of_getElem? (i := 161) (by decide +kernel)) (by decide +kernel)
theorem k_092b2b382f : (Jvm.Cond.selects "SpectrumDeskModel" ({ cls := "SpectrumDeskModel", name := "within", desc := "(I)I" } : Jvm.MethodName) ({ cls := "SpectrumDeskModel", name := "within", desc := "(I)I" } : Jvm.MethodName)) ∈ AW := aw_p (by decide +kernel) (by decide +kernel)
theorem k_a5e7ab01e1 : (Jvm.Cond.methodLink "SpectrumDeskModel" (174 : Nat) ({ cls := "SpectrumDeskModel", name := "halve", desc := "(I)V" } : Jvm.MethodName)) ∈ AW := aw_5 (List.mem_of_getElem? (i := 163) (by decide +kernel)) (by decide +kernel)
theorem k_32ba6f55d5 : (Jvm.Cond.instanceMethod ({ cls := "SpectrumDeskModel", name := "halve", desc := "(I)V" } : Jvm.MethodName)) ∈ AW := aw_5 (List.mem_of_getElem? (i := 165) (by decide +kernel)) (by decide +kernel)
theorem k_d2316389b7 : (Jvm.Cond.selects "SpectrumDeskModel" ({ cls := "SpectrumDeskModel", name := "halve", desc := "(I)V" } : Jvm.MethodName) ({ cls := "SpectrumDeskModel", name := "halve", desc := "(I)V" } : Jvm.MethodName)) ∈ AW := aw_p (by decide +kernel) (by decide +kernel)
theorem k_4e7a7cf6dd : (Jvm.Cond.code ({ cls := "SpectrumDeskModel", name := "distinct", desc := "()I" } : Jvm.MethodName) prog_10_method_49_code (1 : Nat) (Option.some Jvm.ClassFile.FieldType.int)) ∈ AW := aw_5 (List.mem_of_getElem? (i := 170) (by decide +kernel)) (by decide +kernel)
theorem k_9066bc991f : (Jvm.Cond.code ({ cls := "SpectrumDeskModel", name := "multiplicity", desc := "(I)I" } : Jvm.MethodName) prog_10_method_48_code (2 : Nat) (Option.some Jvm.ClassFile.FieldType.int)) ∈ AW := aw_5 (List.mem_of_getElem? (i := 130) (by decide +kernel)) (by decide +kernel)
theorem k_f149e5be28 : (Jvm.Cond.code ({ cls := "SpectrumDeskModel", name := "apart", desc := "()I" } : Jvm.MethodName) prog_10_method_51_code (4 : Nat) (Option.some Jvm.ClassFile.FieldType.int)) ∈ AW := aw_5 (List.mem_of_getElem? (i := 178) (by decide +kernel)) (by decide +kernel)
set_option maxHeartbeats 4000000 in
set_option maxRecDepth 100000 in
theorem c_SpectrumDeskModel_distinct {l : Launch} {D : va_G} {cI cJ cZ cC cG cP : ClassId} {ad : Nat → Nat} {σ σb : Nat → va_E} {th : Int32} {n : Nat} {A9 : Nat → Int32} {rw : Nat} {Dt : Nat → Int32} {ps : Nat} {Pr : Nat → Int32} (hS : mS ad cI cZ σb th n A9 rw Dt ps Pr σ) {pp : Nat → Int} (hpp : (chF (fun i j => (A9 (6 * i + j)).toInt) n (2 ^ n)) = pp) (hn1 : 1 ≤ n) (h3 : n ≤ 6) (hAb : ∀ i j, i < 6 → j < 6 → bd 1000000 ((A9 (6 * i + j)).toInt)) :
    Met l y_SpectrumDeskModel_distinct v_SpectrumDeskModel_distinct (xrm 6) (va_Pc [.ref (ad 183)] (xS D classes (xT cI cJ cZ cC cG cP) 193 ad σ)) (va_Qi (fun r σ2 => r = nI n - nP (cmC pp n) ∧ mS ad cI cZ σb (nI 0) n A9 rw Dt ps Pr σ2) (xS D classes (xT cI cJ cZ cC cG cP) 193 ad) (xA 193 ad)) 0 0 (xA 193 ad) := by
  obtain ⟨s0, G, Dg, P, L, M, Z, le, eq, rfl, h187, h188, h189, h190, h191, hfb, hB⟩ := hS
  refine xr_met rfl (Nat.le_of_ble_eq_true rfl) ?_
  intro p e s m args below meth c ls hx hb X hr hlk hl I
  have hl : lv_has ls 1 [(0, .ref (ad 183))] := hl
  refine lv_aload_n hx hb d_SpectrumDeskModel_distinct_0 rfl (lv_at hl 0 rfl) ?_
  refine lv_iconst (v := nI 0) hx hb d_SpectrumDeskModel_distinct_1 (by decide) ?_
  refine xr_put (ty := .int) X I fin_M t_M t_M_ok n_M 183 (by decide) (r183 ..) rfl 4 (by decide) (List.mem_cons_of_mem _ k_90bbbe5d04) rfl rfl (by decide +kernel) rfl rfl (Nat.le_of_ble_eq_true rfl) d_SpectrumDeskModel_distinct_2 (fun H locs I => ?_)
  rw [rw3_F] at I
  have I : xI D classes 193 ad s.heap (rw3 s0 ciM cI cZ (mfs ad (nI 0) (nI n) (nI rw) (nI ps) le eq) P L M) H locs := I
  refine lv_aload_n hx hb d_SpectrumDeskModel_distinct_5 rfl (lv_at hl 0 rfl) ?_
  have p6 : 2 ^ n ≤ 64 := Nat.pow_le_pow_right (by decide) h3 (n := 2)
  have hwt : wt pp (n + 1) n 6 := by rw [← hpp]; exact chF_wt6 hAb h3
  refine xr_callv (xr_runV (kc := 5) (kr := 6) (n := 0) (As := []) (rest := []) X I (by decide) (r183 ..) rfl (c_SpectrumDeskModel_findCommon (n9 := n) (p0 := pp) h187 hB rfl hn1 h3 h188 hAb hpp (prs_all hn1 h3 hwt).1) (xg k_be16f71de5) (List.mem_cons_of_mem _ k_76aaa69389) (List.mem_cons_of_mem _ k_35fe149e1a) (List.mem_cons_of_mem _ k_99072ea14d) (List.mem_cons_of_mem _ k_30fa15c9ac) (by decide +kernel) (by decide) rfl hl.1 rfl (Nat.le_of_ble_eq_true rfl) d_SpectrumDeskModel_distinct_6) I (fun σ9 H locs hp I => ?_)
  obtain ⟨Pf, Lf, Mf, Gf, Xf, rfl, hBf, f0, f1, hg0, hg1, hc1, hc7⟩ := hp
  refine lv_aload_n hx hb d_SpectrumDeskModel_distinct_9 rfl (lv_at hl 0 rfl) ?_
  refine xr_get X I fin_M 183 (by decide) (r183 ..) rfl 5 (by decide) (List.mem_cons_of_mem _ k_b1a46e2c09) rfl rfl d_SpectrumDeskModel_distinct_10 ?_
  refine lv_aload_n hx hb d_SpectrumDeskModel_distinct_13 rfl (lv_at hl 0 rfl) ?_
  refine xr_get X I fin_M 183 (by decide) (r183 ..) rfl 3 (by decide) (List.mem_cons_of_mem _ k_176eac5e1f) rfl rfl d_SpectrumDeskModel_distinct_14 ?_
  refine lv_iconst (v := nI 1) hx hb d_SpectrumDeskModel_distinct_17 (by decide) ?_
  refine xr_iald X I 187 0 (by decide) ((r_o (by decide)).trans (va_up_self _ _ _)) rfl (by omega) (by decide) d_SpectrumDeskModel_distinct_18 ?_
  refine xr_topi (y := nP (cmC pp n)) hg1 ?_
  refine lv_isub hx hb d_SpectrumDeskModel_distinct_19 ?_
  exact xr_iret X I hr hlk ⟨rfl, ⟨va_up s0 187 (.inl (cI, 5, .inl Gf)), Gf, Dg, Pf, Lf, Mf, Xf, le, eq, rfl, (va_up_self _ _ _), ((va_up_ne _ _ (by decide)).trans h188), ((va_up_ne _ _ (by decide)).trans h189), ((va_up_ne _ _ (by decide)).trans h190), ((va_up_ne _ _ (by decide)).trans h191), (fun q hq => (va_up_ne _ _ (by omega)).trans (hfb q hq)), hBf⟩⟩ d_SpectrumDeskModel_distinct_20
set_option maxHeartbeats 4000000 in
set_option maxRecDepth 100000 in
theorem c_SpectrumDeskModel_multiplicity_bad {l : Launch} {D : va_G} {cI cJ cZ cC cG cP : ClassId} {ad : Nat → Nat} {σ σb : Nat → va_E} {th : Int32} {n : Nat} {A9 : Nat → Int32} {rw : Nat} {Dt : Nat → Int32} {ps : Nat} {Pr : Nat → Int32} (hS : mS ad cI cZ σb th n A9 rw Dt ps Pr σ) {i9 : Int32} (h1 : i9 < 0 ∨ nI n ≤ i9) :
    Met l y_SpectrumDeskModel_multiplicity v_SpectrumDeskModel_multiplicity (xrm 0) (va_Pc [.ref (ad 183), .int i9] (xS D classes (xT cI cJ cZ cC cG cP) 193 ad σ)) (va_Qi (fun r σ2 => r = nI 0 ∧ mS ad cI cZ σb (nI 1) n A9 rw Dt ps Pr σ2) (xS D classes (xT cI cJ cZ cC cG cP) 193 ad) (xA 193 ad)) 0 0 (xA 193 ad) := by
  obtain ⟨s0, G, Dg, P, L, M, Z, le, eq, rfl, h187, h188, h189, h190, h191, hfb, hB⟩ := hS
  refine xr_met rfl (Nat.le_of_ble_eq_true rfl) ?_
  intro p e s m args below meth c ls hx hb X hr hlk hl I
  have hl : lv_has ls 2 [(0, .ref (ad 183)), (1, .int i9)] := hl
  refine lv_aload_n hx hb d_SpectrumDeskModel_multiplicity_0 rfl (lv_at hl 0 rfl) ?_
  refine lv_iload_n hx hb d_SpectrumDeskModel_multiplicity_1 rfl (lv_at hl 1 rfl) ?_
  refine lv_if_lt hx hb d_SpectrumDeskModel_multiplicity_2 rfl (fun hc => ?_) (fun hc => ?_)
  · refine lv_iconst (v := nI 1) hx hb d_SpectrumDeskModel_multiplicity_13 (by decide) ?_
    refine lv_goto hx hb d_SpectrumDeskModel_multiplicity_14 rfl ?_
    refine xr_put (ty := .int) X I fin_M t_M t_M_ok n_M 183 (by decide) (r183 ..) rfl 4 (by decide) (List.mem_cons_of_mem _ k_90bbbe5d04) rfl rfl (by decide +kernel) rfl rfl (Nat.le_of_ble_eq_true rfl) d_SpectrumDeskModel_multiplicity_18 (fun H locs I => ?_)
    rw [rw3_F] at I
    have I : xI D classes 193 ad s.heap (rw3 s0 ciM cI cZ (mfs ad (nI 1) (nI n) (nI rw) (nI ps) le eq) P L M) H locs := I
    refine lv_aload_n hx hb d_SpectrumDeskModel_multiplicity_21 rfl (lv_at hl 0 rfl) ?_
    refine xr_get X I fin_M 183 (by decide) (r183 ..) rfl 4 (by decide) (List.mem_cons_of_mem _ k_90bbbe5d04) rfl rfl d_SpectrumDeskModel_multiplicity_22 ?_
    refine lv_if_le hx hb d_SpectrumDeskModel_multiplicity_25 rfl (fun hz => ?_) (fun hz => ?_)
    · exact absurd hz (by decide)
    · refine lv_iconst (v := nI 0) hx hb d_SpectrumDeskModel_multiplicity_28 (by decide) ?_
      exact xr_iret X I hr hlk ⟨rfl, ⟨s0, G, Dg, P, L, M, Z, le, eq, rfl, h187, h188, h189, h190, h191, hfb, hB⟩⟩ d_SpectrumDeskModel_multiplicity_29
  · refine lv_iload_n hx hb d_SpectrumDeskModel_multiplicity_5 rfl (lv_at hl 1 rfl) ?_
    refine lv_aload_n hx hb d_SpectrumDeskModel_multiplicity_6 rfl (lv_at hl 0 rfl) ?_
    refine xr_get X I fin_M 183 (by decide) (r183 ..) rfl 5 (by decide) (List.mem_cons_of_mem _ k_b1a46e2c09) rfl rfl d_SpectrumDeskModel_multiplicity_7 ?_
    refine lv_icmp_lt hx hb d_SpectrumDeskModel_multiplicity_10 rfl (fun hd => ?_) (fun hd => ?_)
    · exact absurd h1 (fun h => h.elim hc (fun h => q_le_lt h hd))
    · refine lv_iconst (v := nI 1) hx hb d_SpectrumDeskModel_multiplicity_13 (by decide) ?_
      refine lv_goto hx hb d_SpectrumDeskModel_multiplicity_14 rfl ?_
      refine xr_put (ty := .int) X I fin_M t_M t_M_ok n_M 183 (by decide) (r183 ..) rfl 4 (by decide) (List.mem_cons_of_mem _ k_90bbbe5d04) rfl rfl (by decide +kernel) rfl rfl (Nat.le_of_ble_eq_true rfl) d_SpectrumDeskModel_multiplicity_18 (fun H locs I => ?_)
      rw [rw3_F] at I
      have I : xI D classes 193 ad s.heap (rw3 s0 ciM cI cZ (mfs ad (nI 1) (nI n) (nI rw) (nI ps) le eq) P L M) H locs := I
      refine lv_aload_n hx hb d_SpectrumDeskModel_multiplicity_21 rfl (lv_at hl 0 rfl) ?_
      refine xr_get X I fin_M 183 (by decide) (r183 ..) rfl 4 (by decide) (List.mem_cons_of_mem _ k_90bbbe5d04) rfl rfl d_SpectrumDeskModel_multiplicity_22 ?_
      refine lv_if_le hx hb d_SpectrumDeskModel_multiplicity_25 rfl (fun hz => ?_) (fun hz => ?_)
      · exact absurd hz (by decide)
      · refine lv_iconst (v := nI 0) hx hb d_SpectrumDeskModel_multiplicity_28 (by decide) ?_
        exact xr_iret X I hr hlk ⟨rfl, ⟨s0, G, Dg, P, L, M, Z, le, eq, rfl, h187, h188, h189, h190, h191, hfb, hB⟩⟩ d_SpectrumDeskModel_multiplicity_29
set_option maxHeartbeats 4000000 in
set_option maxRecDepth 100000 in
theorem c_SpectrumDeskModel_multiplicity_ok {l : Launch} {D : va_G} {cI cJ cZ cC cG cP : ClassId} {ad : Nat → Nat} {σ σb : Nat → va_E} {th : Int32} {n : Nat} {A9 : Nat → Int32} {rw : Nat} {Dt : Nat → Int32} {ps : Nat} {Pr : Nat → Int32} (hS : mS ad cI cZ σb th n A9 rw Dt ps Pr σ) {i9 fu : Nat} {pp : Nat → Int} (hpp : (chF (fun i j => (A9 (6 * i + j)).toInt) n (2 ^ n)) = pp) (hn1 : 1 ≤ n) (h3 : n ≤ 6) (hAb : ∀ i j, i < 6 → j < 6 → bd 1000000 ((A9 (6 * i + j)).toInt)) (h1 : i9 < n) (hfu : fu ≤ 332) (hend : ∀ x : Int64, cellP pp n 0 (nI i9) x → mlOK pp (cmF pp n) n (cmC pp n - 1) (nI i9) fu (x.toInt) 1) :
    Met l y_SpectrumDeskModel_multiplicity v_SpectrumDeskModel_multiplicity (xrm 7) (va_Pc [.ref (ad 183), .int (nI i9)] (xS D classes (xT cI cJ cZ cC cG cP) 193 ad σ)) (va_Qi (fun r σ2 => ∃ x : Int64, cellP pp n 0 (nI i9) x ∧ r = mltF pp (cmF pp n) n (cmC pp n - 1) (nI i9) fu (x.toInt) 1 ∧ mS ad cI cZ σb (nI 0) n A9 rw Dt ps Pr σ2) (xS D classes (xT cI cJ cZ cC cG cP) 193 ad) (xA 193 ad)) 0 0 (xA 193 ad) := by
  obtain ⟨s0, G, Dg, P, L, M, Z, le, eq, rfl, h187, h188, h189, h190, h191, hfb, hB⟩ := hS
  refine xr_met rfl (Nat.le_of_ble_eq_true rfl) ?_
  intro p e s m args below meth c ls hx hb X hr hlk hl I
  have hl : lv_has ls 2 [(0, .ref (ad 183)), (1, .int (nI i9))] := hl
  refine lv_aload_n hx hb d_SpectrumDeskModel_multiplicity_0 rfl (lv_at hl 0 rfl) ?_
  refine lv_iload_n hx hb d_SpectrumDeskModel_multiplicity_1 rfl (lv_at hl 1 rfl) ?_
  refine lv_if_lt hx hb d_SpectrumDeskModel_multiplicity_2 rfl (fun hc => ?_) (fun hc => ?_)
  · exact absurd hc (nI_pos (by omega))
  · refine lv_iload_n hx hb d_SpectrumDeskModel_multiplicity_5 rfl (lv_at hl 1 rfl) ?_
    refine lv_aload_n hx hb d_SpectrumDeskModel_multiplicity_6 rfl (lv_at hl 0 rfl) ?_
    refine xr_get X I fin_M 183 (by decide) (r183 ..) rfl 5 (by decide) (List.mem_cons_of_mem _ k_b1a46e2c09) rfl rfl d_SpectrumDeskModel_multiplicity_7 ?_
    refine lv_icmp_lt hx hb d_SpectrumDeskModel_multiplicity_10 rfl (fun hc => ?_) (fun hc => ?_)
    · refine lv_iconst (v := nI 0) hx hb d_SpectrumDeskModel_multiplicity_17 (by decide) ?_
      refine xr_put (ty := .int) X I fin_M t_M t_M_ok n_M 183 (by decide) (r183 ..) rfl 4 (by decide) (List.mem_cons_of_mem _ k_90bbbe5d04) rfl rfl (by decide +kernel) rfl rfl (Nat.le_of_ble_eq_true rfl) d_SpectrumDeskModel_multiplicity_18 (fun H locs I => ?_)
      rw [rw3_F] at I
      have I : xI D classes 193 ad s.heap (rw3 s0 ciM cI cZ (mfs ad (nI 0) (nI n) (nI rw) (nI ps) le eq) P L M) H locs := I
      refine lv_aload_n hx hb d_SpectrumDeskModel_multiplicity_21 rfl (lv_at hl 0 rfl) ?_
      refine xr_get X I fin_M 183 (by decide) (r183 ..) rfl 4 (by decide) (List.mem_cons_of_mem _ k_90bbbe5d04) rfl rfl d_SpectrumDeskModel_multiplicity_22 ?_
      refine lv_if_le hx hb d_SpectrumDeskModel_multiplicity_25 rfl (fun hc => ?_) (fun hc => ?_)
      · refine lv_aload_n hx hb d_SpectrumDeskModel_multiplicity_30 rfl (lv_at hl 0 rfl) ?_
        have p6 : 2 ^ n ≤ 64 := Nat.pow_le_pow_right (by decide) h3 (n := 2)
        have hwt : wt pp (n + 1) n 6 := by rw [← hpp]; exact chF_wt6 hAb h3
        refine xr_callv (xr_runV (kc := 5) (kr := 7) (n := 0) (As := []) (rest := []) X I (by decide) (r183 ..) rfl (c_SpectrumDeskModel_findCommon (n9 := n) (p0 := pp) h187 hB rfl hn1 h3 h188 hAb hpp (prs_all hn1 h3 hwt).1) (xg k_be16f71de5) (List.mem_cons_of_mem _ k_76aaa69389) (List.mem_cons_of_mem _ k_35fe149e1a) (List.mem_cons_of_mem _ k_99072ea14d) (List.mem_cons_of_mem _ k_30fa15c9ac) (by decide +kernel) (by decide) rfl hl.1 rfl (Nat.le_of_ble_eq_true rfl) d_SpectrumDeskModel_multiplicity_31) I (fun σ9 H locs hp I => ?_)
        obtain ⟨Pf, Lf, Mf, Gf, Xf, rfl, hBf, f0, f1, hg0, hg1, hc1, hc7⟩ := hp
        obtain ⟨qd, hqd⟩ : ∃ qd, cmC pp n = qd + 1 := ⟨cmC pp n - 1, by omega⟩
        have hgf : Gf 0 = nI n ∧ Gf 1 = nI qd := ⟨hg0, by rw [hg1, hqd, nP_succ]⟩
        have hb0 : ∀ k, k ≤ n → bd (2 ^ 150) (pp k) := fun k _ => by rw [← hpp]; exact bd_up (by decide) (chF_sm hAb p6)
        have hW1 : ∀ t b, bd (2 ^ 360) t → bd (2 ^ 360) b → wH t b qd (cmF pp n) := fun t b ht hb => by have h := cm_wH hn1 h3 hwt ht hb; rwa [hqd, Nat.add_sub_cancel] at h
        have hp0 : ∀ k, k ≤ n → Xf (8 * 0 + k) = pp k := fun k hk => f0 k (by omega)
        have hp1 : ∀ k, k ≤ qd → Xf (8 * 1 + k) = (cmF pp n) k := fun k hk => f1 k (by omega)
        have hsf : ∀ q, q ≠ 187 → (va_up s0 187 (.inl (cI, 5, .inl Gf))) q = s0 q := fun q hq => va_up_ne _ _ hq
        have hzf : ∀ w, w < 32 → Xf w = Xf w := fun _ _ => rfl
        clear hg0 hg1 f0 f1
        refine lv_aload_n hx hb d_SpectrumDeskModel_multiplicity_34 rfl (lv_at hl 0 rfl) ?_
        refine lv_bipush (v := nI 110) hx hb d_SpectrumDeskModel_multiplicity_35 (by decide) ?_
        refine lv_aload_n hx hb d_SpectrumDeskModel_multiplicity_37 rfl (lv_at hl 0 rfl) ?_
        refine lv_iload_n hx hb d_SpectrumDeskModel_multiplicity_38 rfl (lv_at hl 1 rfl) ?_
        refine lv_iconst (v := nI 0) hx hb d_SpectrumDeskModel_multiplicity_39 (by decide) ?_
        refine xr_calll (xr_runV (kc := 6) (kr := 7) (n := 2) (As := [.int (nI i9), .int (nI 0)]) (rest := [.int (nI 110), .ref (ad 183)]) X I (by decide) (r183 ..) rfl (c_SpectrumDeskModel_cellOf (dd := n) (w9 := 0) (p0 := pp) (i := nI i9) (va_up_self _ _ _) hBf (by decide) h3 hgf.1 (fun k hk => by have h := hp0 k hk; rw [Nat.mul_zero, Nat.zero_add] at h; exact (hzf k (by omega)).trans h) hb0) (xg k_f126756040) (List.mem_cons_of_mem _ k_8d731b7043) (List.mem_cons_of_mem _ k_2cbf681f5a) (List.mem_cons_of_mem _ k_9c8bf9c5aa) (List.mem_cons_of_mem _ k_30fa15c9ac) (by decide +kernel) (by decide) rfl hl.1 rfl (Nat.le_of_ble_eq_true rfl) d_SpectrumDeskModel_multiplicity_40) I (fun x σ9 H locs hp I => ?_)
        obtain ⟨hcl9, se, Ge, Pe, Le, Me, Ze, lee, eqe, rfl, hGe, hsa, hga, hBe, hza⟩ := hp
        have hse : ∀ q, q ≠ 187 → se q = s0 q := fun q hq => (hsa q hq).trans (hsf q hq)
        have hge : Ge 0 = nI n ∧ Ge 1 = nI qd := ⟨(hga 0 (by decide)).trans hgf.1, (hga 1 (by decide)).trans hgf.2⟩
        have hze : ∀ w, w < 32 → Ze w = Xf w := fun w hw => (hza w (Or.inl hw)).trans (hzf w hw)
        clear hsa hga hza
        refine xr_callv (xr_runV (kc := 0) (kr := 7) (n := 2) (As := [.int (nI 110), .long x]) (rest := []) X I (by decide) (r183 ..) rfl (c_SpectrumDeskModel_bigSet (w := 110) (v := x) mfs_ok (by decide)) (xg k_5f300b8d49) (List.mem_cons_of_mem _ k_7a89662665) (List.mem_cons_of_mem _ k_203da126f2) (List.mem_cons_of_mem _ k_e2b6114fa3) (List.mem_cons_of_mem _ k_30fa15c9ac) (by decide +kernel) (by decide) rfl hl.1 rfl (Nat.le_of_ble_eq_true rfl) d_SpectrumDeskModel_multiplicity_43) I (fun σ9 H locs hp I => ?_)
        obtain ⟨P5, L5, M5, rfl, hf, hx⟩ := hp
        have hB5 := RB_up hBe hf hx
        generalize eZ5 : va_up Ze 110 x.toInt = Z5 at hB5
        clear hf hx
        have hz5 : ∀ w, w < 32 → Z5 w = Xf w := fun w hw => by rw [← eZ5]; exact (va_up_ne _ _ (by omega)).trans (hze w hw)
        refine lv_aload_n hx hb d_SpectrumDeskModel_multiplicity_46 rfl (lv_at hl 0 rfl) ?_
        refine lv_bipush (v := nI 111) hx hb d_SpectrumDeskModel_multiplicity_47 (by decide) ?_
        refine lv_lconst (v := 1) hx hb d_SpectrumDeskModel_multiplicity_49 (by decide) ?_
        refine xr_callv (xr_runV (kc := 0) (kr := 7) (n := 2) (As := [.int (nI 111), .long 1]) (rest := []) X I (by decide) (r183 ..) rfl (c_SpectrumDeskModel_bigSet (w := 111) (v := (1 : Int64)) mfs_ok (by decide)) (xg k_5f300b8d49) (List.mem_cons_of_mem _ k_7a89662665) (List.mem_cons_of_mem _ k_203da126f2) (List.mem_cons_of_mem _ k_e2b6114fa3) (List.mem_cons_of_mem _ k_30fa15c9ac) (by decide +kernel) (by decide) rfl hl.1 rfl (Nat.le_of_ble_eq_true rfl) d_SpectrumDeskModel_multiplicity_50) I (fun σ9 H locs hp I => ?_)
        obtain ⟨P6, L6, M6, rfl, hf, hx⟩ := hp
        have hB6 := RB_up hB5 hf hx
        generalize eZ6 : va_up Z5 111 ((1 : Int64)).toInt = Z6 at hB6
        clear hf hx
        have hz6 : ∀ w, w < 32 → Z6 w = Xf w := fun w hw => by rw [← eZ6]; exact (va_up_ne _ _ (by omega)).trans (hz5 w hw)
        have ha6 : Z6 110 = x.toInt := by rw [← eZ6, va_up_ne _ _ (by decide), ← eZ5, va_up_self]
        have hb6 : Z6 111 = 1 := by rw [← eZ6, va_up_self]; decide
        have hend := hend x hcl9
        rw [hqd, Nat.add_sub_cancel] at hend
        have loop : ∀ (f : Nat) (k : Nat) (pl g9 : Int) (s2 : Nat → va_E) (G2 P2 L2 M2 : Nat → Int32) (Z2 : Nat → Int) (le2 eq2 : Int32) (ls : Array Slot) (H : Heap) (locs : List Loc), k + f ≤ 332 → s2 187 = .inl (cI, 5, .inl G2) → (∀ q, q ≠ 187 → s2 q = s0 q) → (G2 0 = nI n ∧ G2 1 = nI qd) → RB P2 L2 M2 Z2 → (∀ w, w < 32 → Z2 w = Xf w) → Z2 110 = pl → Z2 111 = g9 → plB k pl g9 → mltF pp (cmF pp n) n qd (nI i9) f pl g9 = mltF pp (cmF pp n) n qd (nI i9) fu (x.toInt) 1 → mlOK pp (cmF pp n) n qd (nI i9) f pl g9 → lv_has ls 2 [(0, .ref (ad 183)), (1, .int (nI i9))] → xI D classes 193 ad s.heap (rw3 s2 ciM cI cZ (mfs ad (nI 0) (nI n) (nI rw) (nI ps) le2 eq2) P2 L2 M2) H locs → W p l e (xrm 7) s m args below meth c H locs 0 0 (MQ below (va_Qi (fun r σ2 => ∃ x : Int64, cellP pp n 0 (nI i9) x ∧ r = mltF pp (cmF pp n) n (cmC pp n - 1) (nI i9) fu (x.toInt) 1 ∧ mS ad cI cZ σb (nI 0) n A9 rw Dt ps Pr σ2) (xS D classes (xT cI cJ cZ cC cG cP) 193 ad) (xA 193 ad)) args s 0 0 (xA 193 ad)) (F0 m 53 ls []) := by
          intro f
          induction f with
          | zero =>
            intro k pl g9 s2 G2 P2 L2 M2 Z2 le2 eq2 ls H locs hk hG2 hs2 hg2 hB2 hz2 ha2 hb2 e4 e5 e6 hl I
            have yb := plB_bd e4 (by omega)
            refine lv_aload_n hx hb d_SpectrumDeskModel_multiplicity_53 rfl (lv_at hl 0 rfl) ?_
            refine lv_iconst (v := nI 1) hx hb d_SpectrumDeskModel_multiplicity_54 (by decide) ?_
            refine xr_calli (xr_runV (kc := 5) (kr := 7) (n := 1) (As := [.int (nI 1)]) (rest := []) X I (by decide) (r183 ..) rfl (c_SpectrumDeskModel_within1 (dgs := dg2 n qd) (p0 := pp) (p1 := (cmF pp n)) hG2 hB2 h3 (show qd ≤ 6 by omega) (dg2_q hg2) (fun k hk => (hz2 _ (by have : k ≤ n := hk; omega)).trans (hp0 k hk)) (fun k hk => (hz2 _ (by have : k ≤ qd := hk; omega)).trans (hp1 k hk)) hb0 hW1 (by rw [ha2]; exact yb.1) (by rw [hb2]; exact yb.2)) (xg k_b1d1f78dd0) (List.mem_cons_of_mem _ k_02330b96b8) (List.mem_cons_of_mem _ k_50609dc0f8) (List.mem_cons_of_mem _ k_092b2b382f) (List.mem_cons_of_mem _ k_30fa15c9ac) (by decide +kernel) (by decide) rfl hl.1 rfl (Nat.le_of_ble_eq_true rfl) d_SpectrumDeskModel_multiplicity_55) I (fun r1 σ9 H locs hp I => ?_)
            obtain ⟨hr1, s3, G3, P3, L3, M3, Z3, le3, eq3, rfl, hG3, hsa, hga, hB3, hza⟩ := hp
            rw [ha2, hb2] at hr1
            have hs3 : ∀ q, q ≠ 187 → s3 q = s0 q := fun q hq => (hsa q hq).trans (hs2 q hq)
            have hg3 : G3 0 = nI n ∧ G3 1 = nI qd := ⟨(hga 0 (by decide)).trans hg2.1, (hga 1 (by decide)).trans hg2.2⟩
            have hz3 : ∀ w, w < 32 → Z3 w = Xf w := fun w hw => (hza w (Or.inl hw)).trans (hz2 w hw)
            have ha3 : Z3 110 = pl := (hza 110 (by omega)).trans ha2
            have hb3 : Z3 111 = g9 := (hza 111 (by omega)).trans hb2
            clear hsa hga hza
            refine lv_iconst (v := nI 1) hx hb d_SpectrumDeskModel_multiplicity_58 (by decide) ?_
            refine lv_icmp_le hx hb d_SpectrumDeskModel_multiplicity_59 rfl (fun hc => ?_) (fun hc => ?_)
            · have hw : win1 pl g9 n qd pp (cmF pp n) ≤ nI 1 := by rw [hr1] at hc; exact hc
              refine lv_aload_n hx hb d_SpectrumDeskModel_multiplicity_70 rfl (lv_at hl 0 rfl) ?_
              refine lv_iconst (v := nI 0) hx hb d_SpectrumDeskModel_multiplicity_71 (by decide) ?_
              refine xr_calli (xr_runV (kc := 5) (kr := 7) (n := 1) (As := [.int (nI 0)]) (rest := []) X I (by decide) (r183 ..) rfl (c_SpectrumDeskModel_within0 (dgs := dg2 n qd) (p0 := pp) (p1 := (cmF pp n)) hG3 hB3 h3 (show qd ≤ 6 by omega) (dg2_q hg3) (fun k hk => (hz3 _ (by have : k ≤ n := hk; omega)).trans (hp0 k hk)) (fun k hk => (hz3 _ (by have : k ≤ qd := hk; omega)).trans (hp1 k hk)) hb0 hW1 (by rw [ha3]; exact yb.1) (by rw [hb3]; exact yb.2)) (xg k_b1d1f78dd0) (List.mem_cons_of_mem _ k_02330b96b8) (List.mem_cons_of_mem _ k_50609dc0f8) (List.mem_cons_of_mem _ k_092b2b382f) (List.mem_cons_of_mem _ k_30fa15c9ac) (by decide +kernel) (by decide) rfl hl.1 rfl (Nat.le_of_ble_eq_true rfl) d_SpectrumDeskModel_multiplicity_72) I (fun r2 σ9 H locs hp I => ?_)
              obtain ⟨hr2, s4, G4, P4, L4, M4, Z4, le4, eq4, rfl, hG4, hsa, hga, hB4, hza⟩ := hp
              rw [ha3, hb3] at hr2
              have hs4 : ∀ q, q ≠ 187 → s4 q = s0 q := fun q hq => (hsa q hq).trans (hs3 q hq)
              have hg4 : G4 0 = nI n ∧ G4 1 = nI qd := ⟨(hga 0 (by decide)).trans hg3.1, (hga 1 (by decide)).trans hg3.2⟩
              have hz4 : ∀ w, w < 32 → Z4 w = Xf w := fun w hw => (hza w (Or.inl hw)).trans (hz3 w hw)
              have ha4 : Z4 110 = pl := (hza 110 (by omega)).trans ha3
              have hb4 : Z4 111 = g9 := (hza 111 (by omega)).trans hb3
              clear hsa hga hza
              exact xr_iret X I hr hlk ⟨x, hcl9, by rw [hqd, Nat.add_sub_cancel, ← e5]; exact hr2, ⟨s4, G4, Dg, P4, L4, M4, Z4, le4, eq4, rfl, hG4, ((hs4 _ (by decide)).trans h188), ((hs4 _ (by decide)).trans h189), ((hs4 _ (by decide)).trans h190), ((hs4 _ (by decide)).trans h191), (fun q hq => (hs4 q (by omega)).trans (hfb q hq)), hB4⟩⟩ d_SpectrumDeskModel_multiplicity_75
            · have hw : ¬ win1 pl g9 n qd pp (cmF pp n) ≤ nI 1 := by rw [hr1] at hc; exact hc
              exact absurd e6 hw
          | succ f ih =>
            intro k pl g9 s2 G2 P2 L2 M2 Z2 le2 eq2 ls H locs hk hG2 hs2 hg2 hB2 hz2 ha2 hb2 e4 e5 e6 hl I
            have yb := plB_bd e4 (by omega)
            refine lv_aload_n hx hb d_SpectrumDeskModel_multiplicity_53 rfl (lv_at hl 0 rfl) ?_
            refine lv_iconst (v := nI 1) hx hb d_SpectrumDeskModel_multiplicity_54 (by decide) ?_
            refine xr_calli (xr_runV (kc := 5) (kr := 7) (n := 1) (As := [.int (nI 1)]) (rest := []) X I (by decide) (r183 ..) rfl (c_SpectrumDeskModel_within1 (dgs := dg2 n qd) (p0 := pp) (p1 := (cmF pp n)) hG2 hB2 h3 (show qd ≤ 6 by omega) (dg2_q hg2) (fun k hk => (hz2 _ (by have : k ≤ n := hk; omega)).trans (hp0 k hk)) (fun k hk => (hz2 _ (by have : k ≤ qd := hk; omega)).trans (hp1 k hk)) hb0 hW1 (by rw [ha2]; exact yb.1) (by rw [hb2]; exact yb.2)) (xg k_b1d1f78dd0) (List.mem_cons_of_mem _ k_02330b96b8) (List.mem_cons_of_mem _ k_50609dc0f8) (List.mem_cons_of_mem _ k_092b2b382f) (List.mem_cons_of_mem _ k_30fa15c9ac) (by decide +kernel) (by decide) rfl hl.1 rfl (Nat.le_of_ble_eq_true rfl) d_SpectrumDeskModel_multiplicity_55) I (fun r1 σ9 H locs hp I => ?_)
            obtain ⟨hr1, s3, G3, P3, L3, M3, Z3, le3, eq3, rfl, hG3, hsa, hga, hB3, hza⟩ := hp
            rw [ha2, hb2] at hr1
            have hs3 : ∀ q, q ≠ 187 → s3 q = s0 q := fun q hq => (hsa q hq).trans (hs2 q hq)
            have hg3 : G3 0 = nI n ∧ G3 1 = nI qd := ⟨(hga 0 (by decide)).trans hg2.1, (hga 1 (by decide)).trans hg2.2⟩
            have hz3 : ∀ w, w < 32 → Z3 w = Xf w := fun w hw => (hza w (Or.inl hw)).trans (hz2 w hw)
            have ha3 : Z3 110 = pl := (hza 110 (by omega)).trans ha2
            have hb3 : Z3 111 = g9 := (hza 111 (by omega)).trans hb2
            clear hsa hga hza
            refine lv_iconst (v := nI 1) hx hb d_SpectrumDeskModel_multiplicity_58 (by decide) ?_
            refine lv_icmp_le hx hb d_SpectrumDeskModel_multiplicity_59 rfl (fun hc => ?_) (fun hc => ?_)
            · have hw : win1 pl g9 n qd pp (cmF pp n) ≤ nI 1 := by rw [hr1] at hc; exact hc
              refine lv_aload_n hx hb d_SpectrumDeskModel_multiplicity_70 rfl (lv_at hl 0 rfl) ?_
              refine lv_iconst (v := nI 0) hx hb d_SpectrumDeskModel_multiplicity_71 (by decide) ?_
              refine xr_calli (xr_runV (kc := 5) (kr := 7) (n := 1) (As := [.int (nI 0)]) (rest := []) X I (by decide) (r183 ..) rfl (c_SpectrumDeskModel_within0 (dgs := dg2 n qd) (p0 := pp) (p1 := (cmF pp n)) hG3 hB3 h3 (show qd ≤ 6 by omega) (dg2_q hg3) (fun k hk => (hz3 _ (by have : k ≤ n := hk; omega)).trans (hp0 k hk)) (fun k hk => (hz3 _ (by have : k ≤ qd := hk; omega)).trans (hp1 k hk)) hb0 hW1 (by rw [ha3]; exact yb.1) (by rw [hb3]; exact yb.2)) (xg k_b1d1f78dd0) (List.mem_cons_of_mem _ k_02330b96b8) (List.mem_cons_of_mem _ k_50609dc0f8) (List.mem_cons_of_mem _ k_092b2b382f) (List.mem_cons_of_mem _ k_30fa15c9ac) (by decide +kernel) (by decide) rfl hl.1 rfl (Nat.le_of_ble_eq_true rfl) d_SpectrumDeskModel_multiplicity_72) I (fun r2 σ9 H locs hp I => ?_)
              obtain ⟨hr2, s4, G4, P4, L4, M4, Z4, le4, eq4, rfl, hG4, hsa, hga, hB4, hza⟩ := hp
              rw [ha3, hb3] at hr2
              have hs4 : ∀ q, q ≠ 187 → s4 q = s0 q := fun q hq => (hsa q hq).trans (hs3 q hq)
              have hg4 : G4 0 = nI n ∧ G4 1 = nI qd := ⟨(hga 0 (by decide)).trans hg3.1, (hga 1 (by decide)).trans hg3.2⟩
              have hz4 : ∀ w, w < 32 → Z4 w = Xf w := fun w hw => (hza w (Or.inl hw)).trans (hz3 w hw)
              have ha4 : Z4 110 = pl := (hza 110 (by omega)).trans ha3
              have hb4 : Z4 111 = g9 := (hza 111 (by omega)).trans hb3
              clear hsa hga hza
              exact xr_iret X I hr hlk ⟨x, hcl9, by rw [hqd, Nat.add_sub_cancel, ← e5, mltF, if_pos hw]; exact hr2, ⟨s4, G4, Dg, P4, L4, M4, Z4, le4, eq4, rfl, hG4, ((hs4 _ (by decide)).trans h188), ((hs4 _ (by decide)).trans h189), ((hs4 _ (by decide)).trans h190), ((hs4 _ (by decide)).trans h191), (fun q hq => (hs4 q (by omega)).trans (hfb q hq)), hB4⟩⟩ d_SpectrumDeskModel_multiplicity_75
            · have hw : ¬ win1 pl g9 n qd pp (cmF pp n) ≤ nI 1 := by rw [hr1] at hc; exact hc
              refine lv_aload_n hx hb d_SpectrumDeskModel_multiplicity_62 rfl (lv_at hl 0 rfl) ?_
              refine lv_iload_n hx hb d_SpectrumDeskModel_multiplicity_63 rfl (lv_at hl 1 rfl) ?_
              refine xr_callv (xr_runV (kc := 6) (kr := 7) (n := 1) (As := [.int (nI i9)]) (rest := []) X I (by decide) (r183 ..) rfl (c_SpectrumDeskModel_halve (dd := n) (p0 := pp) (i := nI i9) hG3 hB3 h3 hg3.1 (fun k hk => by have h := hp0 k hk; rw [Nat.mul_zero, Nat.zero_add] at h; exact (hz3 k (by omega)).trans h) hb0 (by rw [ha3]; exact yb.1) (by rw [hb3]; exact yb.2)) (xg k_9d9441f9ca) (List.mem_cons_of_mem _ k_a5e7ab01e1) (List.mem_cons_of_mem _ k_32ba6f55d5) (List.mem_cons_of_mem _ k_d2316389b7) (List.mem_cons_of_mem _ k_30fa15c9ac) (by decide +kernel) (by decide) rfl hl.1 rfl (Nat.le_of_ble_eq_true rfl) d_SpectrumDeskModel_multiplicity_64) I (fun σ9 H locs hp I => ?_)
              obtain ⟨s4, G4, P4, L4, M4, Z4, le4, eq4, rfl, hG4, hsa, hga, hB4, hza, ha4, hb4⟩ := hp
              rw [ha3, hb3] at ha4; rw [hb3] at hb4
              have hs4 : ∀ q, q ≠ 187 → s4 q = s0 q := fun q hq => (hsa q hq).trans (hs3 q hq)
              have hg4 : G4 0 = nI n ∧ G4 1 = nI qd := ⟨(hga 0 (by decide)).trans hg3.1, (hga 1 (by decide)).trans hg3.2⟩
              have hz4 : ∀ w, w < 32 → Z4 w = Xf w := fun w hw => (hza w hw).trans (hz3 w hw)
              refine lv_goto hx hb d_SpectrumDeskModel_multiplicity_67 rfl ?_
              rw [mltF, if_neg hw] at e5
              rw [mlOK] at e6
              exact ih (k + 1) _ _ s4 G4 P4 L4 M4 Z4 le4 eq4 ls H locs (by omega) hG4 hs4 hg4 hB4 hz4 ha4 hb4 (plB_n e4) e5 (e6.resolve_left hw) hl I
        exact loop fu 0 x.toInt 1 se Ge P6 L6 M6 Z6 lee eqe ls H locs (by omega) hGe hse hge hB6 hz6 ha6 hb6 (plB_0 hcl9) rfl hend hl I
      · exact absurd (by decide) hc
    · exact absurd (nI_lt h1 (by omega)) hc
set_option maxHeartbeats 4000000 in
set_option maxRecDepth 100000 in
theorem c_SpectrumDeskModel_apart {l : Launch} {D : va_G} {cI cJ cZ cC cG cP : ClassId} {ad : Nat → Nat} {σ σb : Nat → va_E} {th : Int32} {n : Nat} {A9 : Nat → Int32} {rw : Nat} {Dt : Nat → Int32} {ps : Nat} {Pr : Nat → Int32} (hS : mS ad cI cZ σb th n A9 rw Dt ps Pr σ) {pp : Nat → Int} (hpp : (chF (fun i j => (A9 (6 * i + j)).toInt) n (2 ^ n)) = pp) (hn1 : 1 ≤ n) (h3 : n ≤ 6) (hAb : ∀ i j, i < 6 → j < 6 → bd 1000000 ((A9 (6 * i + j)).toInt)) {C9 : Nat → Nat → Int} (hC9 : ∀ i v x, i < n → v ≤ 30 → cellP pp n v (nI i) x → x.toInt = C9 i v) :
    Met l y_SpectrumDeskModel_apart v_SpectrumDeskModel_apart (xrm 7) (va_Pc [.ref (ad 183)] (xS D classes (xT cI cJ cZ cC cG cP) 193 ad σ)) (va_Qi (fun r σ2 => apP n (fun i v => win1 (C9 i v) (2 ^ v) n (cmC pp n - 1) pp (cmF pp n) = nI 1) r ∧ mS ad cI cZ σb (nI 0) n A9 rw Dt ps Pr σ2) (xS D classes (xT cI cJ cZ cC cG cP) 193 ad) (xA 193 ad)) 0 0 (xA 193 ad) := by
  obtain ⟨s0, G, Dg, P, L, M, Z, le, eq, rfl, h187, h188, h189, h190, h191, hfb, hB⟩ := hS
  refine xr_met rfl (Nat.le_of_ble_eq_true rfl) ?_
  intro p e s m args below meth c ls hx hb X hr hlk hl I
  have hl : lv_has ls 4 [(0, .ref (ad 183))] := hl
  refine lv_aload_n hx hb d_SpectrumDeskModel_apart_0 rfl (lv_at hl 0 rfl) ?_
  refine lv_iconst (v := nI 0) hx hb d_SpectrumDeskModel_apart_1 (by decide) ?_
  refine xr_put (ty := .int) X I fin_M t_M t_M_ok n_M 183 (by decide) (r183 ..) rfl 4 (by decide) (List.mem_cons_of_mem _ k_90bbbe5d04) rfl rfl (by decide +kernel) rfl rfl (Nat.le_of_ble_eq_true rfl) d_SpectrumDeskModel_apart_2 (fun H locs I => ?_)
  rw [rw3_F] at I
  have I : xI D classes 193 ad s.heap (rw3 s0 ciM cI cZ (mfs ad (nI 0) (nI n) (nI rw) (nI ps) le eq) P L M) H locs := I
  refine lv_aload_n hx hb d_SpectrumDeskModel_apart_5 rfl (lv_at hl 0 rfl) ?_
  have p6 : 2 ^ n ≤ 64 := Nat.pow_le_pow_right (by decide) h3 (n := 2)
  have hwt : wt pp (n + 1) n 6 := by rw [← hpp]; exact chF_wt6 hAb h3
  refine xr_callv (xr_runV (kc := 5) (kr := 7) (n := 0) (As := []) (rest := []) X I (by decide) (r183 ..) rfl (c_SpectrumDeskModel_findCommon (n9 := n) (p0 := pp) h187 hB rfl hn1 h3 h188 hAb hpp (prs_all hn1 h3 hwt).1) (xg k_be16f71de5) (List.mem_cons_of_mem _ k_76aaa69389) (List.mem_cons_of_mem _ k_35fe149e1a) (List.mem_cons_of_mem _ k_99072ea14d) (List.mem_cons_of_mem _ k_30fa15c9ac) (by decide +kernel) (by decide) rfl hl.1 rfl (Nat.le_of_ble_eq_true rfl) d_SpectrumDeskModel_apart_6) I (fun σ9 H locs hp I => ?_)
  obtain ⟨Pf, Lf, Mf, Gf, Xf, rfl, hBf, f0, f1, hg0, hg1, hc1, hc7⟩ := hp
  obtain ⟨qd, hqd⟩ : ∃ qd, cmC pp n = qd + 1 := ⟨cmC pp n - 1, by omega⟩
  have hgf : Gf 0 = nI n ∧ Gf 1 = nI qd := ⟨hg0, by rw [hg1, hqd, nP_succ]⟩
  have hb0 : ∀ k, k ≤ n → bd (2 ^ 150) (pp k) := fun k _ => by rw [← hpp]; exact bd_up (by decide) (chF_sm hAb p6)
  have hW1 : ∀ t b, bd (2 ^ 360) t → bd (2 ^ 360) b → wH t b qd (cmF pp n) := fun t b ht hb => by have h := cm_wH hn1 h3 hwt ht hb; rwa [hqd, Nat.add_sub_cancel] at h
  have hp0 : ∀ k, k ≤ n → Xf (8 * 0 + k) = pp k := fun k hk => f0 k (by omega)
  have hp1 : ∀ k, k ≤ qd → Xf (8 * 1 + k) = (cmF pp n) k := fun k hk => f1 k (by omega)
  have hsf : ∀ q, q ≠ 187 → (va_up s0 187 (.inl (cI, 5, .inl Gf))) q = s0 q := fun q hq => va_up_ne _ _ hq
  have hzf : ∀ w, w < 32 → Xf w = Xf w := fun _ _ => rfl
  clear hg0 hg1 f0 f1
  have hqd1 : cmC pp n - 1 = qd := by omega
  have outer : ∀ (f : Nat) (v9 : Nat) (s2 : Nat → va_E) (G2 P2 L2 M2 : Nat → Int32) (Z2 : Nat → Int) (le2 eq2 : Int32) (ls : Array Slot) (H : Heap) (locs : List Loc), v9 + f = 31 → s2 187 = .inl (cI, 5, .inl G2) → (∀ q, q ≠ 187 → s2 q = s0 q) → (G2 0 = nI n ∧ G2 1 = nI qd) → RB P2 L2 M2 Z2 → (∀ w, w < 32 → Z2 w = Xf w) → (∀ v, v < v9 → ∃ i, i < n ∧ ¬ win1 (C9 i v) (2 ^ v) n qd pp (cmF pp n) = nI 1) → lv_has ls 4 [(1, .int (nI v9)), (0, .ref (ad 183))] → xI D classes 193 ad s.heap (rw3 s2 ciM cI cZ (mfs ad (nI 0) (nI n) (nI rw) (nI ps) le2 eq2) P2 L2 M2) H locs → W p l e (xrm 7) s m args below meth c H locs 0 0 (MQ below (va_Qi (fun r σ2 => apP n (fun i v => win1 (C9 i v) (2 ^ v) n (cmC pp n - 1) pp (cmF pp n) = nI 1) r ∧ mS ad cI cZ σb (nI 0) n A9 rw Dt ps Pr σ2) (xS D classes (xT cI cJ cZ cC cG cP) 193 ad) (xA 193 ad)) args s 0 0 (xA 193 ad)) (F0 m 11 ls []) := by
    intro f
    induction f with
    | zero =>
      intro v9 s2 G2 P2 L2 M2 Z2 le2 eq2 ls H locs hk hG2 hs2 hg2 hB2 hz2 hno hl I
      obtain rfl : v9 = 31 := by omega
      refine lv_iload_n hx hb d_SpectrumDeskModel_apart_11 rfl (lv_at hl 0 rfl) ?_
      refine lv_bipush (v := nI 30) hx hb d_SpectrumDeskModel_apart_12 (by decide) ?_
      refine lv_icmp_gt hx hb d_SpectrumDeskModel_apart_14 rfl (fun hc => ?_) (fun hc => ?_)
      · refine lv_iconst (v := (-1)) hx hb d_SpectrumDeskModel_apart_87 (by decide) ?_
        exact xr_iret X I hr hlk ⟨Or.inr ⟨rfl, fun v hv => by rw [hqd1]; exact hno v (by omega)⟩, ⟨s2, G2, Dg, P2, L2, M2, Z2, le2, eq2, rfl, hG2, ((hs2 _ (by decide)).trans h188), ((hs2 _ (by decide)).trans h189), ((hs2 _ (by decide)).trans h190), ((hs2 _ (by decide)).trans h191), (fun q hq => (hs2 q (by omega)).trans (hfb q hq)), hB2⟩⟩ d_SpectrumDeskModel_apart_88
      · exact absurd (nI_lt (by decide) (by decide)) hc
    | succ f ih =>
      intro v9 s2 G2 P2 L2 M2 Z2 le2 eq2 ls H locs hk hG2 hs2 hg2 hB2 hz2 hno hl I
      refine lv_iload_n hx hb d_SpectrumDeskModel_apart_11 rfl (lv_at hl 0 rfl) ?_
      refine lv_bipush (v := nI 30) hx hb d_SpectrumDeskModel_apart_12 (by decide) ?_
      refine lv_icmp_gt hx hb d_SpectrumDeskModel_apart_14 rfl (fun hc => ?_) (fun hc => ?_)
      · exact absurd hc (nI_nlt (by omega) (by omega))
      · refine lv_iconst (v := nI 1) hx hb d_SpectrumDeskModel_apart_17 (by decide) ?_
        refine lv_istore_n (lv' := [(2, .int (nI 1)), (1, .int (nI v9)), (0, .ref (ad 183))]) hx hb d_SpectrumDeskModel_apart_18 rfl hl (by decide) rfl (fun ls hl => ?_)
        refine lv_iconst (v := nI 0) hx hb d_SpectrumDeskModel_apart_19 (by decide) ?_
        refine lv_istore_n (lv' := [(3, .int (nI 0)), (2, .int (nI 1)), (1, .int (nI v9)), (0, .ref (ad 183))]) hx hb d_SpectrumDeskModel_apart_20 rfl hl (by decide) rfl (fun ls hl => ?_)
        have inner : ∀ (j : Nat) (i9 : Nat) (s3 : Nat → va_E) (G3 P3 L3 M3 : Nat → Int32) (Z3 : Nat → Int) (le3 eq3 : Int32) (ls : Array Slot) (H : Heap) (locs : List Loc), i9 + j = n → s3 187 = .inl (cI, 5, .inl G3) → (∀ q, q ≠ 187 → s3 q = s0 q) → (G3 0 = nI n ∧ G3 1 = nI qd) → RB P3 L3 M3 Z3 → (∀ w, w < 32 → Z3 w = Xf w) → (∀ i, i < i9 → win1 (C9 i v9) (2 ^ v9) n qd pp (cmF pp n) = nI 1) → lv_has ls 4 [(3, .int (nI i9)), (2, .int (nI 1)), (1, .int (nI v9)), (0, .ref (ad 183))] → xI D classes 193 ad s.heap (rw3 s3 ciM cI cZ (mfs ad (nI 0) (nI n) (nI rw) (nI ps) le3 eq3) P3 L3 M3) H locs → W p l e (xrm 7) s m args below meth c H locs 0 0 (MQ below (va_Qi (fun r σ2 => apP n (fun i v => win1 (C9 i v) (2 ^ v) n (cmC pp n - 1) pp (cmF pp n) = nI 1) r ∧ mS ad cI cZ σb (nI 0) n A9 rw Dt ps Pr σ2) (xS D classes (xT cI cJ cZ cC cG cP) 193 ad) (xA 193 ad)) args s 0 0 (xA 193 ad)) (F0 m 21 ls []) := by
          intro j
          induction j with
          | zero =>
            intro i9 s3 G3 P3 L3 M3 Z3 le3 eq3 ls H locs hj hG3 hs3 hg3 hB3 hz3 hall hl I
            obtain rfl : i9 = n := by omega
            refine lv_iload_n hx hb d_SpectrumDeskModel_apart_21 rfl (lv_at hl 0 rfl) ?_
            refine lv_aload_n hx hb d_SpectrumDeskModel_apart_22 rfl (lv_at hl 3 rfl) ?_
            refine xr_get X I fin_M 183 (by decide) (r183 ..) rfl 5 (by decide) (List.mem_cons_of_mem _ k_b1a46e2c09) rfl rfl d_SpectrumDeskModel_apart_23 ?_
            refine lv_icmp_ge hx hb d_SpectrumDeskModel_apart_26 rfl (fun hc => ?_) (fun hc => ?_)
            · refine lv_iload_n hx hb d_SpectrumDeskModel_apart_75 rfl (lv_at hl 1 rfl) ?_
              refine lv_if_eq hx hb d_SpectrumDeskModel_apart_76 rfl (fun hd => ?_) (fun hd => ?_)
              · exact absurd hd (by decide)
              · refine lv_iload_n hx hb d_SpectrumDeskModel_apart_79 rfl (lv_at hl 2 rfl) ?_
                exact xr_iret X I hr hlk ⟨Or.inl ⟨v9, by omega, rfl, fun i hi => by rw [hqd1]; exact hall i hi, fun v hv => by rw [hqd1]; exact hno v hv⟩, ⟨s3, G3, Dg, P3, L3, M3, Z3, le3, eq3, rfl, hG3, ((hs3 _ (by decide)).trans h188), ((hs3 _ (by decide)).trans h189), ((hs3 _ (by decide)).trans h190), ((hs3 _ (by decide)).trans h191), (fun q hq => (hs3 q (by omega)).trans (hfb q hq)), hB3⟩⟩ d_SpectrumDeskModel_apart_80
            · exact absurd (nI_le (Nat.le_refl _) (by omega)) hc
          | succ j jh =>
            intro i9 s3 G3 P3 L3 M3 Z3 le3 eq3 ls H locs hj hG3 hs3 hg3 hB3 hz3 hall hl I
            refine lv_iload_n hx hb d_SpectrumDeskModel_apart_21 rfl (lv_at hl 0 rfl) ?_
            refine lv_aload_n hx hb d_SpectrumDeskModel_apart_22 rfl (lv_at hl 3 rfl) ?_
            refine xr_get X I fin_M 183 (by decide) (r183 ..) rfl 5 (by decide) (List.mem_cons_of_mem _ k_b1a46e2c09) rfl rfl d_SpectrumDeskModel_apart_23 ?_
            refine lv_icmp_ge hx hb d_SpectrumDeskModel_apart_26 rfl (fun hc => ?_) (fun hc => ?_)
            · exact absurd hc (nI_ge (by omega) (by omega))
            · refine lv_iload_n hx hb d_SpectrumDeskModel_apart_29 rfl (lv_at hl 1 rfl) ?_
              refine lv_if_eq hx hb d_SpectrumDeskModel_apart_30 rfl (fun hd => ?_) (fun hd => ?_)
              · exact absurd hd (by decide)
              · refine lv_aload_n hx hb d_SpectrumDeskModel_apart_33 rfl (lv_at hl 3 rfl) ?_
                refine lv_bipush (v := nI 110) hx hb d_SpectrumDeskModel_apart_34 (by decide) ?_
                refine lv_aload_n hx hb d_SpectrumDeskModel_apart_36 rfl (lv_at hl 3 rfl) ?_
                refine lv_iload_n hx hb d_SpectrumDeskModel_apart_37 rfl (lv_at hl 0 rfl) ?_
                refine lv_iload_n hx hb d_SpectrumDeskModel_apart_38 rfl (lv_at hl 2 rfl) ?_
                refine xr_calll (xr_runV (kc := 6) (kr := 7) (n := 2) (As := [.int (nI i9), .int (nI v9)]) (rest := [.int (nI 110), .ref (ad 183)]) X I (by decide) (r183 ..) rfl (c_SpectrumDeskModel_cellOf (dd := n) (w9 := v9) (p0 := pp) (i := nI i9) hG3 hB3 (by omega) h3 hg3.1 (fun k hk => by have h := hp0 k hk; rw [Nat.mul_zero, Nat.zero_add] at h; exact (hz3 k (by omega)).trans h) hb0) (xg k_f126756040) (List.mem_cons_of_mem _ k_8d731b7043) (List.mem_cons_of_mem _ k_2cbf681f5a) (List.mem_cons_of_mem _ k_9c8bf9c5aa) (List.mem_cons_of_mem _ k_30fa15c9ac) (by decide +kernel) (by decide) rfl hl.1 rfl (Nat.le_of_ble_eq_true rfl) d_SpectrumDeskModel_apart_39) I (fun x σ9 H locs hp I => ?_)
                obtain ⟨hcl9, s4, G4, P4, L4, M4, Z4, le4, eq4, rfl, hG4, hsa, hga, hB4, hza⟩ := hp
                have hs4 : ∀ q, q ≠ 187 → s4 q = s0 q := fun q hq => (hsa q hq).trans (hs3 q hq)
                have hg4 : G4 0 = nI n ∧ G4 1 = nI qd := ⟨(hga 0 (by decide)).trans hg3.1, (hga 1 (by decide)).trans hg3.2⟩
                have hz4 : ∀ w, w < 32 → Z4 w = Xf w := fun w hw => (hza w (Or.inl hw)).trans (hz3 w hw)
                clear hsa hga hza
                refine xr_callv (xr_runV (kc := 0) (kr := 7) (n := 2) (As := [.int (nI 110), .long x]) (rest := []) X I (by decide) (r183 ..) rfl (c_SpectrumDeskModel_bigSet (w := 110) (v := x) mfs_ok (by decide)) (xg k_5f300b8d49) (List.mem_cons_of_mem _ k_7a89662665) (List.mem_cons_of_mem _ k_203da126f2) (List.mem_cons_of_mem _ k_e2b6114fa3) (List.mem_cons_of_mem _ k_30fa15c9ac) (by decide +kernel) (by decide) rfl hl.1 rfl (Nat.le_of_ble_eq_true rfl) d_SpectrumDeskModel_apart_42) I (fun σ9 H locs hp I => ?_)
                obtain ⟨P5, L5, M5, rfl, hf, hx⟩ := hp
                have hB5 := RB_up hB4 hf hx
                generalize eZ5 : va_up Z4 110 x.toInt = Z5 at hB5
                clear hf hx
                have hz5 : ∀ w, w < 32 → Z5 w = Xf w := fun w hw => by rw [← eZ5]; exact (va_up_ne _ _ (by omega)).trans (hz4 w hw)
                refine lv_aload_n hx hb d_SpectrumDeskModel_apart_45 rfl (lv_at hl 3 rfl) ?_
                refine lv_bipush (v := nI 111) hx hb d_SpectrumDeskModel_apart_46 (by decide) ?_
                refine lv_lconst (v := lN 1) hx hb d_SpectrumDeskModel_apart_48 (by decide) ?_
                refine lv_iload_n hx hb d_SpectrumDeskModel_apart_49 rfl (lv_at hl 2 rfl) ?_
                refine lv_lshl hx hb d_SpectrumDeskModel_apart_50 rfl ?_
                refine xr_callv (xr_runV (kc := 0) (kr := 7) (n := 2) (As := [.int (nI 111), .long ((lN 1) <<< ((nI v9 : Int32).toInt64 &&& 63))]) (rest := []) X I (by decide) (r183 ..) rfl (c_SpectrumDeskModel_bigSet (w := 111) (v := (lN 1) <<< ((nI v9 : Int32).toInt64 &&& 63)) mfs_ok (by decide)) (xg k_5f300b8d49) (List.mem_cons_of_mem _ k_7a89662665) (List.mem_cons_of_mem _ k_203da126f2) (List.mem_cons_of_mem _ k_e2b6114fa3) (List.mem_cons_of_mem _ k_30fa15c9ac) (by decide +kernel) (by decide) rfl hl.1 rfl (Nat.le_of_ble_eq_true rfl) d_SpectrumDeskModel_apart_51) I (fun σ9 H locs hp I => ?_)
                obtain ⟨P6, L6, M6, rfl, hf, hx⟩ := hp
                have hB6 := RB_up hB5 hf hx
                generalize eZ6 : va_up Z5 111 ((lN 1) <<< ((nI v9 : Int32).toInt64 &&& 63)).toInt = Z6 at hB6
                clear hf hx
                have hz6 : ∀ w, w < 32 → Z6 w = Xf w := fun w hw => by rw [← eZ6]; exact (va_up_ne _ _ (by omega)).trans (hz5 w hw)
                have ecl := hC9 i9 v9 x (by omega) (by omega) hcl9
                have ha6 : Z6 110 = C9 i9 v9 := by rw [← eZ6, va_up_ne _ _ (by decide), ← eZ5, va_up_self]; exact ecl
                have hb6 : Z6 111 = 2 ^ v9 := by rw [← eZ6, va_up_self, q_shl (by omega) (by decide)]; omega
                have yb := plB_bd (plB_0 hcl9) (by omega)
                rw [ecl] at yb
                have hg6 := hg4
                have hs6 := hs4
                refine lv_aload_n hx hb d_SpectrumDeskModel_apart_54 rfl (lv_at hl 3 rfl) ?_
                refine lv_iconst (v := nI 1) hx hb d_SpectrumDeskModel_apart_55 (by decide) ?_
                refine xr_calli (xr_runV (kc := 5) (kr := 7) (n := 1) (As := [.int (nI 1)]) (rest := []) X I (by decide) (r183 ..) rfl (c_SpectrumDeskModel_within1 (dgs := dg2 n qd) (p0 := pp) (p1 := (cmF pp n)) hG4 hB6 h3 (show qd ≤ 6 by omega) (dg2_q hg6) (fun k hk => (hz6 _ (by have : k ≤ n := hk; omega)).trans (hp0 k hk)) (fun k hk => (hz6 _ (by have : k ≤ qd := hk; omega)).trans (hp1 k hk)) hb0 hW1 (by rw [ha6]; exact yb.1) (by rw [hb6]; exact yb.2)) (xg k_b1d1f78dd0) (List.mem_cons_of_mem _ k_02330b96b8) (List.mem_cons_of_mem _ k_50609dc0f8) (List.mem_cons_of_mem _ k_092b2b382f) (List.mem_cons_of_mem _ k_30fa15c9ac) (by decide +kernel) (by decide) rfl hl.1 rfl (Nat.le_of_ble_eq_true rfl) d_SpectrumDeskModel_apart_56) I (fun r1 σ9 H locs hp I => ?_)
                obtain ⟨hr1, s7, G7, P7, L7, M7, Z7, le7, eq7, rfl, hG7, hsa, hga, hB7, hza⟩ := hp
                rw [ha6, hb6] at hr1
                have hs7 : ∀ q, q ≠ 187 → s7 q = s0 q := fun q hq => (hsa q hq).trans (hs6 q hq)
                have hg7 : G7 0 = nI n ∧ G7 1 = nI qd := ⟨(hga 0 (by decide)).trans hg6.1, (hga 1 (by decide)).trans hg6.2⟩
                have hz7 : ∀ w, w < 32 → Z7 w = Xf w := fun w hw => (hza w (Or.inl hw)).trans (hz6 w hw)
                have ha7 : Z7 110 = C9 i9 v9 := (hza 110 (by omega)).trans ha6
                have hb7 : Z7 111 = (2 ^ v9) := (hza 111 (by omega)).trans hb6
                clear hsa hga hza
                refine lv_iconst (v := nI 1) hx hb d_SpectrumDeskModel_apart_59 (by decide) ?_
                refine lv_icmp_ne hx hb d_SpectrumDeskModel_apart_60 rfl (fun hd => ?_) (fun hd => ?_)
                · have hw : ¬ win1 (C9 i9 v9) (2 ^ v9) n qd pp (cmF pp n) = nI 1 := by rw [hr1] at hd; exact hd
                  refine lv_iconst (v := nI 0) hx hb d_SpectrumDeskModel_apart_67 (by decide) ?_
                  refine lv_istore_n (lv' := [(2, .int (nI 0)), (3, .int (nI i9)), (1, .int (nI v9)), (0, .ref (ad 183))]) hx hb d_SpectrumDeskModel_apart_68 rfl hl (by decide) rfl (fun ls hl => ?_)
                  refine lv_iinc (k := 1) (v := nI (i9 + 1)) (lv' := [(3, .int (nI (i9 + 1))), (2, .int (nI 0)), (1, .int (nI v9)), (0, .ref (ad 183))]) hx hb d_SpectrumDeskModel_apart_69 hl rfl (nI_1 i9) (by decide) rfl (fun ls hl => ?_)
                  refine lv_goto hx hb d_SpectrumDeskModel_apart_72 rfl ?_
                  refine lv_iload_n hx hb d_SpectrumDeskModel_apart_21 rfl (lv_at hl 0 rfl) ?_
                  refine lv_aload_n hx hb d_SpectrumDeskModel_apart_22 rfl (lv_at hl 3 rfl) ?_
                  refine xr_get X I fin_M 183 (by decide) (r183 ..) rfl 5 (by decide) (List.mem_cons_of_mem _ k_b1a46e2c09) rfl rfl d_SpectrumDeskModel_apart_23 ?_
                  refine lv_icmp_ge hx hb d_SpectrumDeskModel_apart_26 rfl (fun he => ?_) (fun he => ?_)
                  · refine lv_iload_n hx hb d_SpectrumDeskModel_apart_75 rfl (lv_at hl 1 rfl) ?_
                    refine lv_if_eq hx hb d_SpectrumDeskModel_apart_76 rfl (fun hf => ?_) (fun hf => ?_)
                    · refine lv_iinc (k := 2) (v := nI (v9 + 1)) (lv' := [(1, .int (nI (v9 + 1))), (3, .int (nI (i9 + 1))), (2, .int (nI 0)), (0, .ref (ad 183))]) hx hb d_SpectrumDeskModel_apart_81 hl rfl (nI_1 v9) (by decide) rfl (fun ls hl => ?_)
                      refine lv_goto hx hb d_SpectrumDeskModel_apart_84 rfl ?_
                      have hl := lv_sub hl [0, 3] rfl
                      have hl : lv_has ls 4 [(1, .int (nI (v9 + 1))), (0, .ref (ad 183))] := hl
                      exact ih (v9 + 1) s7 G7 P7 L7 M7 Z7 le7 eq7 ls H locs (by omega) hG7 hs7 hg7 hB7 hz7 (fun v hv => by rcases Nat.lt_or_ge v v9 with h | h; exact hno v h; obtain rfl : v = v9 := (by omega); exact ⟨i9, by omega, hw⟩) hl I
                    · exact absurd rfl hf
                  · refine lv_iload_n hx hb d_SpectrumDeskModel_apart_29 rfl (lv_at hl 1 rfl) ?_
                    refine lv_if_eq hx hb d_SpectrumDeskModel_apart_30 rfl (fun hg => ?_) (fun hg => ?_)
                    · refine lv_iload_n hx hb d_SpectrumDeskModel_apart_75 rfl (lv_at hl 1 rfl) ?_
                      refine lv_if_eq hx hb d_SpectrumDeskModel_apart_76 rfl (fun hf => ?_) (fun hf => ?_)
                      · refine lv_iinc (k := 2) (v := nI (v9 + 1)) (lv' := [(1, .int (nI (v9 + 1))), (3, .int (nI (i9 + 1))), (2, .int (nI 0)), (0, .ref (ad 183))]) hx hb d_SpectrumDeskModel_apart_81 hl rfl (nI_1 v9) (by decide) rfl (fun ls hl => ?_)
                        refine lv_goto hx hb d_SpectrumDeskModel_apart_84 rfl ?_
                        have hl := lv_sub hl [0, 3] rfl
                        have hl : lv_has ls 4 [(1, .int (nI (v9 + 1))), (0, .ref (ad 183))] := hl
                        exact ih (v9 + 1) s7 G7 P7 L7 M7 Z7 le7 eq7 ls H locs (by omega) hG7 hs7 hg7 hB7 hz7 (fun v hv => by rcases Nat.lt_or_ge v v9 with h | h; exact hno v h; obtain rfl : v = v9 := (by omega); exact ⟨i9, by omega, hw⟩) hl I
                      · exact absurd rfl hf
                    · exact absurd rfl hg
                · have hw : win1 (C9 i9 v9) (2 ^ v9) n qd pp (cmF pp n) = nI 1 := by rw [hr1] at hd; exact hd
                  refine lv_iconst (v := nI 1) hx hb d_SpectrumDeskModel_apart_63 (by decide) ?_
                  refine lv_goto hx hb d_SpectrumDeskModel_apart_64 rfl ?_
                  refine lv_istore_n (lv' := [(2, .int (nI 1)), (3, .int (nI i9)), (1, .int (nI v9)), (0, .ref (ad 183))]) hx hb d_SpectrumDeskModel_apart_68 rfl hl (by decide) rfl (fun ls hl => ?_)
                  refine lv_iinc (k := 1) (v := nI (i9 + 1)) (lv' := [(3, .int (nI (i9 + 1))), (2, .int (nI 1)), (1, .int (nI v9)), (0, .ref (ad 183))]) hx hb d_SpectrumDeskModel_apart_69 hl rfl (nI_1 i9) (by decide) rfl (fun ls hl => ?_)
                  refine lv_goto hx hb d_SpectrumDeskModel_apart_72 rfl ?_
                  exact jh (i9 + 1) s7 G7 P7 L7 M7 Z7 le7 eq7 ls H locs (by omega) hG7 hs7 hg7 hB7 hz7 (fun i hi => by rcases Nat.lt_or_ge i i9 with h | h; exact hall i h; obtain rfl : i = i9 := (by omega); exact hw) hl I
        exact inner n 0 s2 G2 P2 L2 M2 Z2 le2 eq2 ls H locs (by omega) hG2 hs2 hg2 hB2 hz2 (fun i hi => absurd hi (Nat.not_lt_zero _)) hl I
  refine lv_iconst (v := nI 0) hx hb d_SpectrumDeskModel_apart_9 (by decide) ?_
  refine lv_istore_n (lv' := [(1, .int (nI 0)), (0, .ref (ad 183))]) hx hb d_SpectrumDeskModel_apart_10 rfl hl (by decide) rfl (fun ls hl => ?_)
  exact outer 31 0 (va_up s0 187 (.inl (cI, 5, .inl Gf))) Gf Pf Lf Mf Xf le eq ls _ _ (by omega) (va_up_self _ _ _) hsf hgf hBf hzf (fun v hv => absurd hv (Nat.not_lt_zero _)) hl I
