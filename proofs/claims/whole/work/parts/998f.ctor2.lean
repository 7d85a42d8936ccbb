/-! the constructors: Sums, Border, Printer, Euclid, the reference (written by wip/gen) -/
abbrev b_Sums_init : ByteArray := prog_8_method_1_code
abbrev y_Sums_init : MethodName := ⟨"SpectrumDesk$Sums", "<init>", "()V"⟩
abbrev v_Sums_init : List Cond := Cond.code y_Sums_init b_Sums_init 1 none :: AW
theorem d_Sums_init_0 : decode b_Sums_init 0 = .ok (.aload_n 0, 1) := by decide +kernel
theorem d_Sums_init_1 : decode b_Sums_init 1 = .ok (.invokespecial 3, 3) := by decide +kernel
theorem d_Sums_init_4 : decode b_Sums_init 4 = .ok (.aload_n 0, 1) := by decide +kernel
theorem d_Sums_init_5 : decode b_Sums_init 5 = .ok (.bipush (6), 2) := by decide +kernel
theorem d_Sums_init_7 : decode b_Sums_init 7 = .ok (.newarray .int, 2) := by decide +kernel
theorem d_Sums_init_9 : decode b_Sums_init 9 = .ok (.putfield 9, 3) := by decide +kernel
theorem d_Sums_init_12 : decode b_Sums_init 12 = .ok (.aload_n 0, 1) := by decide +kernel
theorem d_Sums_init_13 : decode b_Sums_init 13 = .ok (.bipush (6), 2) := by decide +kernel
theorem d_Sums_init_15 : decode b_Sums_init 15 = .ok (.bipush (6), 2) := by decide +kernel
theorem d_Sums_init_17 : decode b_Sums_init 17 = .ok (.multianewarray 15 2, 4) := by decide +kernel
theorem d_Sums_init_21 : decode b_Sums_init 21 = .ok (.putfield 17, 3) := by decide +kernel
theorem d_Sums_init_24 : decode b_Sums_init 24 = .ok (.return_, 1) := by decide +kernel
abbrev b_Border_init : ByteArray := prog_2_method_1_code
abbrev y_Border_init : MethodName := ⟨"SpectrumDesk$Border", "<init>", "()V"⟩
abbrev v_Border_init : List Cond := Cond.code y_Border_init b_Border_init 1 none :: AW
theorem d_Border_init_0 : decode b_Border_init 0 = .ok (.aload_n 0, 1) := by decide +kernel
theorem d_Border_init_1 : decode b_Border_init 1 = .ok (.invokespecial 3, 3) := by decide +kernel
theorem d_Border_init_4 : decode b_Border_init 4 = .ok (.aload_n 0, 1) := by decide +kernel
theorem d_Border_init_5 : decode b_Border_init 5 = .ok (.bipush (6), 2) := by decide +kernel
theorem d_Border_init_7 : decode b_Border_init 7 = .ok (.bipush (6), 2) := by decide +kernel
theorem d_Border_init_9 : decode b_Border_init 9 = .ok (.multianewarray 11 2, 4) := by decide +kernel
theorem d_Border_init_13 : decode b_Border_init 13 = .ok (.putfield 13, 3) := by decide +kernel
theorem d_Border_init_16 : decode b_Border_init 16 = .ok (.aload_n 0, 1) := by decide +kernel
theorem d_Border_init_17 : decode b_Border_init 17 = .ok (.bipush (6), 2) := by decide +kernel
theorem d_Border_init_19 : decode b_Border_init 19 = .ok (.bipush (6), 2) := by decide +kernel
theorem d_Border_init_21 : decode b_Border_init 21 = .ok (.multianewarray 11 2, 4) := by decide +kernel
theorem d_Border_init_25 : decode b_Border_init 25 = .ok (.putfield 18, 3) := by decide +kernel
theorem d_Border_init_28 : decode b_Border_init 28 = .ok (.return_, 1) := by decide +kernel
abbrev b_Printer_init : ByteArray := prog_6_method_1_code
abbrev y_Printer_init : MethodName := ⟨"SpectrumDesk$Printer", "<init>", "()V"⟩
abbrev v_Printer_init : List Cond := Cond.code y_Printer_init b_Printer_init 1 none :: AW
theorem d_Printer_init_0 : decode b_Printer_init 0 = .ok (.aload_n 0, 1) := by decide +kernel
theorem d_Printer_init_1 : decode b_Printer_init 1 = .ok (.invokespecial 1, 3) := by decide +kernel
theorem d_Printer_init_4 : decode b_Printer_init 4 = .ok (.aload_n 0, 1) := by decide +kernel
theorem d_Printer_init_5 : decode b_Printer_init 5 = .ok (.bipush (61), 2) := by decide +kernel
theorem d_Printer_init_7 : decode b_Printer_init 7 = .ok (.newarray .char, 2) := by decide +kernel
theorem d_Printer_init_9 : decode b_Printer_init 9 = .ok (.putfield 9, 3) := by decide +kernel
theorem d_Printer_init_12 : decode b_Printer_init 12 = .ok (.aload_n 0, 1) := by decide +kernel
theorem d_Printer_init_13 : decode b_Printer_init 13 = .ok (.bipush (60), 2) := by decide +kernel
theorem d_Printer_init_15 : decode b_Printer_init 15 = .ok (.newarray .int, 2) := by decide +kernel
theorem d_Printer_init_17 : decode b_Printer_init 17 = .ok (.putfield 13, 3) := by decide +kernel
theorem d_Printer_init_20 : decode b_Printer_init 20 = .ok (.aload_n 0, 1) := by decide +kernel
theorem d_Printer_init_21 : decode b_Printer_init 21 = .ok (.bipush (6), 2) := by decide +kernel
theorem d_Printer_init_23 : decode b_Printer_init 23 = .ok (.newarray .int, 2) := by decide +kernel
theorem d_Printer_init_25 : decode b_Printer_init 25 = .ok (.putfield 19, 3) := by decide +kernel
theorem d_Printer_init_28 : decode b_Printer_init 28 = .ok (.return_, 1) := by decide +kernel
abbrev b_Euclid_init : ByteArray := prog_3_method_1_code
abbrev y_Euclid_init : MethodName := ⟨"SpectrumDesk$Euclid", "<init>", "()V"⟩
abbrev v_Euclid_init : List Cond := Cond.code y_Euclid_init b_Euclid_init 1 none :: AW
theorem d_Euclid_init_0 : decode b_Euclid_init 0 = .ok (.aload_n 0, 1) := by decide +kernel
theorem d_Euclid_init_1 : decode b_Euclid_init 1 = .ok (.invokespecial 1, 3) := by decide +kernel
theorem d_Euclid_init_4 : decode b_Euclid_init 4 = .ok (.aload_n 0, 1) := by decide +kernel
theorem d_Euclid_init_5 : decode b_Euclid_init 5 = .ok (.new 7, 3) := by decide +kernel
theorem d_Euclid_init_8 : decode b_Euclid_init 8 = .ok (.dup, 1) := by decide +kernel
theorem d_Euclid_init_9 : decode b_Euclid_init 9 = .ok (.bipush (45), 2) := by decide +kernel
theorem d_Euclid_init_11 : decode b_Euclid_init 11 = .ok (.invokespecial 11, 3) := by decide +kernel
theorem d_Euclid_init_14 : decode b_Euclid_init 14 = .ok (.putfield 14, 3) := by decide +kernel
theorem d_Euclid_init_17 : decode b_Euclid_init 17 = .ok (.aload_n 0, 1) := by decide +kernel
theorem d_Euclid_init_18 : decode b_Euclid_init 18 = .ok (.new 7, 3) := by decide +kernel
theorem d_Euclid_init_21 : decode b_Euclid_init 21 = .ok (.dup, 1) := by decide +kernel
theorem d_Euclid_init_22 : decode b_Euclid_init 22 = .ok (.bipush (45), 2) := by decide +kernel
theorem d_Euclid_init_24 : decode b_Euclid_init 24 = .ok (.invokespecial 11, 3) := by decide +kernel
theorem d_Euclid_init_27 : decode b_Euclid_init 27 = .ok (.putfield 20, 3) := by decide +kernel
theorem d_Euclid_init_30 : decode b_Euclid_init 30 = .ok (.aload_n 0, 1) := by decide +kernel
theorem d_Euclid_init_31 : decode b_Euclid_init 31 = .ok (.bipush (45), 2) := by decide +kernel
theorem d_Euclid_init_33 : decode b_Euclid_init 33 = .ok (.newarray .int, 2) := by decide +kernel
theorem d_Euclid_init_35 : decode b_Euclid_init 35 = .ok (.putfield 23, 3) := by decide +kernel
theorem d_Euclid_init_38 : decode b_Euclid_init 38 = .ok (.return_, 1) := by decide +kernel
abbrev b_SpectrumDeskModel_init : ByteArray := prog_10_method_19_code
abbrev y_SpectrumDeskModel_init : MethodName := ⟨"SpectrumDeskModel", "<init>", "()V"⟩
abbrev v_SpectrumDeskModel_init : List Cond := Cond.code y_SpectrumDeskModel_init b_SpectrumDeskModel_init 1 none :: AW
theorem d_SpectrumDeskModel_init_0 : decode b_SpectrumDeskModel_init 0 = .ok (.aload_n 0, 1) := by decide +kernel
theorem d_SpectrumDeskModel_init_1 : decode b_SpectrumDeskModel_init 1 = .ok (.invokespecial 56, 3) := by decide +kernel
theorem d_SpectrumDeskModel_init_4 : decode b_SpectrumDeskModel_init 4 = .ok (.aload_n 0, 1) := by decide +kernel
theorem d_SpectrumDeskModel_init_5 : decode b_SpectrumDeskModel_init 5 = .ok (.ldc 62, 2) := by decide +kernel
theorem d_SpectrumDeskModel_init_7 : decode b_SpectrumDeskModel_init 7 = .ok (.newarray .int, 2) := by decide +kernel
theorem d_SpectrumDeskModel_init_9 : decode b_SpectrumDeskModel_init 9 = .ok (.putfield 7, 3) := by decide +kernel
theorem d_SpectrumDeskModel_init_12 : decode b_SpectrumDeskModel_init 12 = .ok (.aload_n 0, 1) := by decide +kernel
theorem d_SpectrumDeskModel_init_13 : decode b_SpectrumDeskModel_init 13 = .ok (.bipush (112), 2) := by decide +kernel
theorem d_SpectrumDeskModel_init_15 : decode b_SpectrumDeskModel_init 15 = .ok (.newarray .int, 2) := by decide +kernel
theorem d_SpectrumDeskModel_init_17 : decode b_SpectrumDeskModel_init 17 = .ok (.putfield 13, 3) := by decide +kernel
theorem d_SpectrumDeskModel_init_20 : decode b_SpectrumDeskModel_init 20 = .ok (.aload_n 0, 1) := by decide +kernel
theorem d_SpectrumDeskModel_init_21 : decode b_SpectrumDeskModel_init 21 = .ok (.bipush (112), 2) := by decide +kernel
theorem d_SpectrumDeskModel_init_23 : decode b_SpectrumDeskModel_init 23 = .ok (.newarray .boolean, 2) := by decide +kernel
theorem d_SpectrumDeskModel_init_25 : decode b_SpectrumDeskModel_init 25 = .ok (.putfield 1, 3) := by decide +kernel
theorem d_SpectrumDeskModel_init_28 : decode b_SpectrumDeskModel_init 28 = .ok (.aload_n 0, 1) := by decide +kernel
theorem d_SpectrumDeskModel_init_29 : decode b_SpectrumDeskModel_init 29 = .ok (.iconst 5, 1) := by decide +kernel
theorem d_SpectrumDeskModel_init_30 : decode b_SpectrumDeskModel_init 30 = .ok (.newarray .int, 2) := by decide +kernel
theorem d_SpectrumDeskModel_init_32 : decode b_SpectrumDeskModel_init 32 = .ok (.putfield 46, 3) := by decide +kernel
theorem d_SpectrumDeskModel_init_35 : decode b_SpectrumDeskModel_init 35 = .ok (.aload_n 0, 1) := by decide +kernel
theorem d_SpectrumDeskModel_init_36 : decode b_SpectrumDeskModel_init 36 = .ok (.iconst 1, 1) := by decide +kernel
theorem d_SpectrumDeskModel_init_37 : decode b_SpectrumDeskModel_init 37 = .ok (.putfield 63, 3) := by decide +kernel
theorem d_SpectrumDeskModel_init_40 : decode b_SpectrumDeskModel_init 40 = .ok (.aload_n 0, 1) := by decide +kernel
theorem d_SpectrumDeskModel_init_41 : decode b_SpectrumDeskModel_init 41 = .ok (.bipush (36), 2) := by decide +kernel
theorem d_SpectrumDeskModel_init_43 : decode b_SpectrumDeskModel_init 43 = .ok (.newarray .int, 2) := by decide +kernel
theorem d_SpectrumDeskModel_init_45 : decode b_SpectrumDeskModel_init 45 = .ok (.putfield 67, 3) := by decide +kernel
theorem d_SpectrumDeskModel_init_48 : decode b_SpectrumDeskModel_init 48 = .ok (.aload_n 0, 1) := by decide +kernel
theorem d_SpectrumDeskModel_init_49 : decode b_SpectrumDeskModel_init 49 = .ok (.sipush (600), 3) := by decide +kernel
theorem d_SpectrumDeskModel_init_52 : decode b_SpectrumDeskModel_init 52 = .ok (.newarray .int, 2) := by decide +kernel
theorem d_SpectrumDeskModel_init_54 : decode b_SpectrumDeskModel_init 54 = .ok (.putfield 70, 3) := by decide +kernel
theorem d_SpectrumDeskModel_init_57 : decode b_SpectrumDeskModel_init 57 = .ok (.aload_n 0, 1) := by decide +kernel
theorem d_SpectrumDeskModel_init_58 : decode b_SpectrumDeskModel_init 58 = .ok (.sipush (400), 3) := by decide +kernel
theorem d_SpectrumDeskModel_init_61 : decode b_SpectrumDeskModel_init 61 = .ok (.newarray .int, 2) := by decide +kernel
theorem d_SpectrumDeskModel_init_63 : decode b_SpectrumDeskModel_init 63 = .ok (.putfield 73, 3) := by decide +kernel
theorem d_SpectrumDeskModel_init_66 : decode b_SpectrumDeskModel_init 66 = .ok (.aload_n 0, 1) := by decide +kernel
theorem d_SpectrumDeskModel_init_67 : decode b_SpectrumDeskModel_init 67 = .ok (.sipush (400), 3) := by decide +kernel
theorem d_SpectrumDeskModel_init_70 : decode b_SpectrumDeskModel_init 70 = .ok (.newarray .int, 2) := by decide +kernel
theorem d_SpectrumDeskModel_init_72 : decode b_SpectrumDeskModel_init 72 = .ok (.putfield 76, 3) := by decide +kernel
theorem d_SpectrumDeskModel_init_75 : decode b_SpectrumDeskModel_init 75 = .ok (.return_, 1) := by decide +kernel
theorem k_e97de0436e : (Jvm.Cond.methodLink "SpectrumDesk$Sums" (3 : Nat) ({ cls := "java/lang/Object", name := "<init>", desc := "()V" } : Jvm.MethodName)) ∈ AW := aw_1 (List.mem_of_getElem? (i := 42) (by decide +kernel)) (by decide +kernel)
theorem k_48227b95bf : (Jvm.Cond.classLink "SpectrumDesk$Sums" (15 : Nat) "[[I") ∈ AW := aw_1 (List.mem_of_getElem? (i := 43) (by decide +kernel)) (by decide +kernel)
theorem k_74f356cbc2 : (Jvm.Cond.methodLink "SpectrumDesk$Border" (3 : Nat) ({ cls := "java/lang/Object", name := "<init>", desc := "()V" } : Jvm.MethodName)) ∈ AW := aw_1 (List.mem_of_getElem? (i := 106) (by decide +kernel)) (by decide +kernel)
theorem k_6e95e325fc : (Jvm.Cond.classLink "SpectrumDesk$Border" (11 : Nat) "[[I") ∈ AW := aw_1 (List.mem_of_getElem? (i := 107) (by decide +kernel)) (by decide +kernel)
theorem k_dbf187ccd5 : (Jvm.Cond.methodLink "SpectrumDesk$Printer" (1 : Nat) ({ cls := "java/lang/Object", name := "<init>", desc := "()V" } : Jvm.MethodName)) ∈ AW := aw_1 (List.mem_of_getElem? (i := 184) (by decide +kernel)) (by decide +kernel)
theorem k_63925fd8b6 : (Jvm.Cond.arrayClass Jvm.ClassFile.FieldType.char) ∈ AW := aw_1 (List.mem_of_getElem? (i := 200) (by decide +kernel)) (by decide +kernel)
theorem k_102041c4a4 : (Jvm.Cond.methodLink "SpectrumDesk$Euclid" (1 : Nat) ({ cls := "java/lang/Object", name := "<init>", desc := "()V" } : Jvm.MethodName)) ∈ AW := aw_1 (List.mem_of_getElem? (i := 120) (by decide +kernel)) (by decide +kernel)
theorem k_f614efe422 : (Jvm.Cond.classLink "SpectrumDesk$Euclid" (7 : Nat) "SpectrumDesk$Polynomial") ∈ AW := aw_1 (List.mem_of_getElem? (i := 121) (by decide +kernel)) (by decide +kernel)
theorem k_360d028f84 : (Jvm.Cond.instantiable "SpectrumDesk$Polynomial" (4 : Nat)) ∈ AW := aw_1 (List.mem_of_getElem? (i := 64) (by decide +kernel)) (by decide +kernel)
theorem k_7331dc5fb5 : (Jvm.Cond.initialized "SpectrumDesk$Polynomial") ∈ AW := aw_1 (List.mem_of_getElem? (i := 4) (by decide +kernel)) (by decide +kernel)
theorem k_bdaddc8be3 : (Jvm.Cond.methodLink "SpectrumDesk$Euclid" (11 : Nat) ({ cls := "SpectrumDesk$Polynomial", name := "<init>", desc := "(I)V" } : Jvm.MethodName)) ∈ AW := aw_1 (List.mem_of_getElem? (i := 122) (by decide +kernel)) (by decide +kernel)
theorem k_ae17292725 : (Jvm.Cond.instanceMethod ({ cls := "SpectrumDesk$Polynomial", name := "<init>", desc := "(I)V" } : Jvm.MethodName)) ∈ AW := aw_1 (List.mem_of_getElem? (i := 66) (by decide +kernel)) (by decide +kernel)
theorem k_00c11dc6a8 : (Jvm.Cond.methodLink "SpectrumDeskModel" (56 : Nat) ({ cls := "java/lang/Object", name := "<init>", desc := "()V" } : Jvm.MethodName)) ∈ AW := aw_4 (List.mem_of_getElem? (i := 178) (by decide +kernel)) (by decide +kernel)
theorem k_f3a901f427 : (Jvm.Cond.constant "SpectrumDeskModel" (62 : Nat) (33600 : Int32)) ∈ AW := aw_4 (List.mem_of_getElem? (i := 179) (by decide +kernel)) (by decide +kernel)
theorem k_5a05f5a8d8 : (Jvm.Cond.arrayClass Jvm.ClassFile.FieldType.boolean) ∈ AW := aw_1 (List.mem_of_getElem? (i := 178) (by decide +kernel)) (by decide +kernel)
theorem k_f618a694ad : (Jvm.Cond.code ({ cls := "SpectrumDesk$Sums", name := "<init>", desc := "()V" } : Jvm.MethodName) prog_8_method_1_code (1 : Nat) (Option.none : Option Jvm.ClassFile.FieldType)) ∈ AW := aw_1 (List.mem_of_getElem? (i := 41) (by decide +kernel)) (by decide +kernel)
theorem k_deb038792f : (Jvm.Cond.code ({ cls := "SpectrumDesk$Border", name := "<init>", desc := "()V" } : Jvm.MethodName) prog_2_method_1_code (1 : Nat) (Option.none : Option Jvm.ClassFile.FieldType)) ∈ AW := aw_1 (List.mem_of_getElem? (i := 105) (by decide +kernel)) (by decide +kernel)
theorem k_59f44ff99f : (Jvm.Cond.code ({ cls := "SpectrumDesk$Printer", name := "<init>", desc := "()V" } : Jvm.MethodName) prog_6_method_1_code (1 : Nat) (Option.none : Option Jvm.ClassFile.FieldType)) ∈ AW := aw_1 (List.mem_of_getElem? (i := 183) (by decide +kernel)) (by decide +kernel)
theorem k_c8d950dd25 : (Jvm.Cond.code ({ cls := "SpectrumDesk$Euclid", name := "<init>", desc := "()V" } : Jvm.MethodName) prog_3_method_1_code (1 : Nat) (Option.none : Option Jvm.ClassFile.FieldType)) ∈ AW := aw_1 (List.mem_of_getElem? (i := 119) (by decide +kernel)) (by decide +kernel)
theorem k_55b347c130 : (Jvm.Cond.code ({ cls := "SpectrumDeskModel", name := "<init>", desc := "()V" } : Jvm.MethodName) prog_10_method_19_code (1 : Nat) (Option.none : Option Jvm.ClassFile.FieldType)) ∈ AW := aw_4 (List.mem_of_getElem? (i := 177) (by decide +kernel)) (by decide +kernel)
set_option maxHeartbeats 4000000 in
set_option maxRecDepth 100000 in
theorem c_Sums_init {l : Launch} {D : va_G} {cI cJ cZ cC cG cP : ClassId} {z N : Nat} {ad : Nat → Nat} {σ : Nat → va_E} (had : ∀ k, ad k = z + k) (hNi : N = 10) (ho : σ 9 = .inr (ciU, [.null, .null, .int 0])) :
    Met l y_Sums_init v_Sums_init { frames := 1, cells := 8, slots := 48, locals := 64 } (va_Pc [.ref (ad 9)] (xG D classes (xT cI cJ cZ cC cG cP) z N ad σ)) (va_Qv (fun σ2 => (∀ q, q < 9 → σ2 q = σ q) ∧ σ2 9 = .inr (ciU, [.ref (ad 10), .ref (ad 11), .int 0]) ∧ σ2 10 = .inl (cI, 6, .inl (fun _ => 0)) ∧ mat ad cI cG σ2 11 12 (fun _ _ => 0)) (xS D classes (xT cI cJ cZ cC cG cP) (18) ad) (xgA z N ad)) (8) (48) (xgA z N ad) := by
  subst hNi
  refine xj_met rfl (Nat.le_of_ble_eq_true rfl) ?_
  intro p e s m args below meth c ls hx hb X hr hlk hnm hl hao hz0 J
  have hA : ∀ q, s.heap.size ≤ q → xgA z 10 ad q := fun q hq => Or.inr (by omega)
  have hl : lv_has ls 1 [(0, .ref (ad 9))] := hl
  refine lv_aload_n hx hb d_Sums_init_0 rfl (lv_at hl 0 rfl) ?_
  refine xj_obj X hl.1 (List.mem_cons_of_mem _ k_e97de0436e) (List.mem_cons_of_mem _ k_739ca49096) (List.mem_cons_of_mem _ k_539172dd6b) (Nat.le_of_ble_eq_true rfl) (Nat.le_of_ble_eq_true rfl) d_Sums_init_1 ?_
  refine lv_aload_n hx hb d_Sums_init_4 rfl (lv_at hl 0 rfl) ?_
  refine lv_bipush (v := nI 6) hx hb d_Sums_init_5 (by decide) ?_
  refine xj_newa (atype := .int) X J had hA (by omega) (by omega) (List.mem_cons_of_mem _ k_f07bdf5106) 0 rfl (n := 6) (a0 := (6, .inl (fun _ => 0))) (fun _ => rfl) (by omega) (by show 6 * 4 ≤ 536870912; omega) (show 0 + 1 ≤ 8 by decide) (show 0 + 6 ≤ 48 by decide) d_Sums_init_7 (fun H J => ?_)
  obtain ⟨σ1, hσ1⟩ : ∃ s9, s9 = va_up σ 10 (.inl (cI, 6, .inl (fun _ => 0))) := ⟨_, rfl⟩
  rw [← hσ1] at J
  have σ1k : σ1 10 = (.inl (cI, 6, .inl (fun _ => 0))) := by rw [hσ1]; exact va_up_self _ _ _
  have σ1o : ∀ q, q ≠ 10 → σ1 q = σ q := fun q hq => by rw [hσ1]; exact va_up_ne _ _ hq
  clear hσ1
  have o1 := (σ1o 9 (by decide)).trans ho
  refine xj_putF (ty := .array .int) X J fin_U t_U t_U_ok n_U 9 (by omega) o1 rfl 0 (by decide) (List.mem_cons_of_mem _ k_97ba546b54) rfl rfl hnm rfl (by decide +kernel) rfl rfl (Nat.le_of_ble_eq_true rfl) d_Sums_init_9 (fun H locs J => ?_)
  have J : xJ D classes (xgA z 10 ad) _ ad s.heap (va_up σ1 9 (.inr (ciU, [.ref (ad 10), .null, .int 0]))) H locs := J
  obtain ⟨σ2, hσ2⟩ : ∃ s9, s9 = va_up σ1 9 (.inr (ciU, [.ref (ad 10), .null, .int 0])) := ⟨_, rfl⟩
  rw [← hσ2] at J
  have σ2k : σ2 9 = (.inr (ciU, [.ref (ad 10), .null, .int 0])) := by rw [hσ2]; exact va_up_self _ _ _
  have σ2o : ∀ q, q ≠ 9 → σ2 q = σ1 q := fun q hq => by rw [hσ2]; exact va_up_ne _ _ hq
  clear hσ2
  refine lv_aload_n hx hb d_Sums_init_12 rfl (lv_at hl 0 rfl) ?_
  refine lv_bipush (v := nI 6) hx hb d_Sums_init_13 (by decide) ?_
  refine lv_bipush (v := nI 6) hx hb d_Sums_init_15 (by decide) ?_
  refine xj_mna X J had hA (by omega) (by omega) (by rw [show "[" ++ (FieldType.array .int).toString = "[[I" by decide +kernel]; exact (List.mem_cons_of_mem _ k_48227b95bf)) hao.1 (List.mem_cons_of_mem _ k_f07bdf5106) 0 4 rfl rfl (n := 6) (k := 6) (by omega) (by omega) (show 0 + 1 + (1 + 6) ≤ 8 by decide) (show 0 + 6 + (6 + 6 * 6) ≤ 48 by decide) d_Sums_init_17 (fun H σ3 σ3o σ3c σ3r J => ?_)
  have o3 := (σ3o 9 (by decide)).trans σ2k
  refine xj_putF (ty := .array (.array .int)) X J fin_U t_U t_U_ok n_U 9 (by omega) o3 rfl 1 (by decide) (List.mem_cons_of_mem _ k_2bde48038e) rfl rfl hnm rfl (by decide +kernel) rfl rfl (Nat.le_of_ble_eq_true rfl) d_Sums_init_21 (fun H locs J => ?_)
  have J : xJ D classes (xgA z 10 ad) _ ad s.heap (va_up σ3 9 (.inr (ciU, [.ref (ad 10), .ref (ad 11), .int 0]))) H locs := J
  obtain ⟨σ4, hσ4⟩ : ∃ s9, s9 = va_up σ3 9 (.inr (ciU, [.ref (ad 10), .ref (ad 11), .int 0])) := ⟨_, rfl⟩
  rw [← hσ4] at J
  have σ4k : σ4 9 = (.inr (ciU, [.ref (ad 10), .ref (ad 11), .int 0])) := by rw [hσ4]; exact va_up_self _ _ _
  have σ4o : ∀ q, q ≠ 9 → σ4 q = σ3 q := fun q hq => by rw [hσ4]; exact va_up_ne _ _ hq
  clear hσ4
  exact xj_vret X J hr hlk (by decide) (by decide) ⟨fun q hq => (σ4o q (by omega)).trans ((σ3o q (by omega)).trans ((σ2o q (by omega)).trans (σ1o q (by omega)))), σ4k, (σ4o 10 (by decide)).trans ((σ3o 10 (by decide)).trans ((σ2o 10 (by decide)).trans σ1k)), (σ4o 11 (by decide)).trans σ3c, fun k hk => (σ4o (12 + k) (by omega)).trans (σ3r k hk)⟩ d_Sums_init_24
set_option maxHeartbeats 4000000 in
set_option maxRecDepth 100000 in
theorem c_Border_init {l : Launch} {D : va_G} {cI cJ cZ cC cG cP : ClassId} {z N : Nat} {ad : Nat → Nat} {σ : Nat → va_E} (had : ∀ k, ad k = z + k) (hNi : N = 141) (ho : σ 140 = .inr (ciB, [.null, .null])) :
    Met l y_Border_init v_Border_init { frames := 1, cells := 14, slots := 84, locals := 64 } (va_Pc [.ref (ad 140)] (xG D classes (xT cI cJ cZ cC cG cP) z N ad σ)) (va_Qv (fun σ2 => (∀ q, q < 140 → σ2 q = σ q) ∧ σ2 140 = .inr (ciB, [.ref (ad 141), .ref (ad 148)]) ∧ mat ad cI cG σ2 141 142 (fun _ _ => 0) ∧ mat ad cI cG σ2 148 149 (fun _ _ => 0)) (xS D classes (xT cI cJ cZ cC cG cP) (155) ad) (xgA z N ad)) (14) (84) (xgA z N ad) := by
  subst hNi
  refine xj_met rfl (Nat.le_of_ble_eq_true rfl) ?_
  intro p e s m args below meth c ls hx hb X hr hlk hnm hl hao hz0 J
  have hA : ∀ q, s.heap.size ≤ q → xgA z 141 ad q := fun q hq => Or.inr (by omega)
  have hl : lv_has ls 1 [(0, .ref (ad 140))] := hl
  refine lv_aload_n hx hb d_Border_init_0 rfl (lv_at hl 0 rfl) ?_
  refine xj_obj X hl.1 (List.mem_cons_of_mem _ k_74f356cbc2) (List.mem_cons_of_mem _ k_739ca49096) (List.mem_cons_of_mem _ k_539172dd6b) (Nat.le_of_ble_eq_true rfl) (Nat.le_of_ble_eq_true rfl) d_Border_init_1 ?_
  refine lv_aload_n hx hb d_Border_init_4 rfl (lv_at hl 0 rfl) ?_
  refine lv_bipush (v := nI 6) hx hb d_Border_init_5 (by decide) ?_
  refine lv_bipush (v := nI 6) hx hb d_Border_init_7 (by decide) ?_
  refine xj_mna X J had hA (by omega) (by omega) (by rw [show "[" ++ (FieldType.array .int).toString = "[[I" by decide +kernel]; exact (List.mem_cons_of_mem _ k_6e95e325fc)) hao.1 (List.mem_cons_of_mem _ k_f07bdf5106) 0 4 rfl rfl (n := 6) (k := 6) (by omega) (by omega) (show 0 + (1 + 6) ≤ 14 by decide) (show 0 + (6 + 6 * 6) ≤ 84 by decide) d_Border_init_9 (fun H σ1 σ1o σ1c σ1r J => ?_)
  have o1 := (σ1o 140 (by decide)).trans ho
  refine xj_putF (ty := .array (.array .int)) X J fin_B t_B t_B_ok n_B 140 (by omega) o1 rfl 0 (by decide) (List.mem_cons_of_mem _ k_6eb4050acd) rfl rfl hnm rfl (by decide +kernel) rfl rfl (Nat.le_of_ble_eq_true rfl) d_Border_init_13 (fun H locs J => ?_)
  have J : xJ D classes (xgA z 141 ad) _ ad s.heap (va_up σ1 140 (.inr (ciB, [.ref (ad 141), .null]))) H locs := J
  obtain ⟨σ2, hσ2⟩ : ∃ s9, s9 = va_up σ1 140 (.inr (ciB, [.ref (ad 141), .null])) := ⟨_, rfl⟩
  rw [← hσ2] at J
  have σ2k : σ2 140 = (.inr (ciB, [.ref (ad 141), .null])) := by rw [hσ2]; exact va_up_self _ _ _
  have σ2o : ∀ q, q ≠ 140 → σ2 q = σ1 q := fun q hq => by rw [hσ2]; exact va_up_ne _ _ hq
  clear hσ2
  refine lv_aload_n hx hb d_Border_init_16 rfl (lv_at hl 0 rfl) ?_
  refine lv_bipush (v := nI 6) hx hb d_Border_init_17 (by decide) ?_
  refine lv_bipush (v := nI 6) hx hb d_Border_init_19 (by decide) ?_
  refine xj_mna X J had hA (by omega) (by omega) (by rw [show "[" ++ (FieldType.array .int).toString = "[[I" by decide +kernel]; exact (List.mem_cons_of_mem _ k_6e95e325fc)) hao.1 (List.mem_cons_of_mem _ k_f07bdf5106) 0 4 rfl rfl (n := 6) (k := 6) (by omega) (by omega) (show 0 + 1 + 6 + (1 + 6) ≤ 14 by decide) (show 0 + 6 + 6 * 6 + (6 + 6 * 6) ≤ 84 by decide) d_Border_init_21 (fun H σ3 σ3o σ3c σ3r J => ?_)
  have o3 := (σ3o 140 (by decide)).trans σ2k
  refine xj_putF (ty := .array (.array .int)) X J fin_B t_B t_B_ok n_B 140 (by omega) o3 rfl 1 (by decide) (List.mem_cons_of_mem _ k_89af759078) rfl rfl hnm rfl (by decide +kernel) rfl rfl (Nat.le_of_ble_eq_true rfl) d_Border_init_25 (fun H locs J => ?_)
  have J : xJ D classes (xgA z 141 ad) _ ad s.heap (va_up σ3 140 (.inr (ciB, [.ref (ad 141), .ref (ad 148)]))) H locs := J
  obtain ⟨σ4, hσ4⟩ : ∃ s9, s9 = va_up σ3 140 (.inr (ciB, [.ref (ad 141), .ref (ad 148)])) := ⟨_, rfl⟩
  rw [← hσ4] at J
  have σ4k : σ4 140 = (.inr (ciB, [.ref (ad 141), .ref (ad 148)])) := by rw [hσ4]; exact va_up_self _ _ _
  have σ4o : ∀ q, q ≠ 140 → σ4 q = σ3 q := fun q hq => by rw [hσ4]; exact va_up_ne _ _ hq
  clear hσ4
  exact xj_vret X J hr hlk (by decide) (by decide) ⟨fun q hq => (σ4o q (by omega)).trans ((σ3o q (by omega)).trans ((σ2o q (by omega)).trans (σ1o q (by omega)))), σ4k, ⟨(σ4o 141 (by decide)).trans ((σ3o 141 (by decide)).trans ((σ2o 141 (by decide)).trans σ1c)), fun k hk => (σ4o (142 + k) (by omega)).trans ((σ3o (142 + k) (by omega)).trans ((σ2o (142 + k) (by omega)).trans (σ1r k hk)))⟩, (σ4o 148 (by decide)).trans σ3c, fun k hk => (σ4o (149 + k) (by omega)).trans (σ3r k hk)⟩ d_Border_init_28
set_option maxHeartbeats 4000000 in
set_option maxRecDepth 100000 in
theorem c_Printer_init {l : Launch} {D : va_G} {cI cJ cZ cC cG cP : ClassId} {z N : Nat} {ad : Nat → Nat} {σ : Nat → va_E} (had : ∀ k, ad k = z + k) (hNi : N = 180) (ho : σ 179 = .inr (ciR, [.null, .null, .null, .int 0])) :
    Met l y_Printer_init v_Printer_init { frames := 1, cells := 3, slots := 127, locals := 64 } (va_Pc [.ref (ad 179)] (xG D classes (xT cI cJ cZ cC cG cP) z N ad σ)) (va_Qv (fun σ2 => (∀ q, q < 179 → σ2 q = σ q) ∧ σ2 179 = .inr (ciR, [.ref (ad 180), .ref (ad 181), .ref (ad 182), .int 0]) ∧ σ2 180 = .inl (cC, 61, .inl (fun _ => 0)) ∧ σ2 181 = .inl (cI, 60, .inl (fun _ => 0)) ∧ σ2 182 = .inl (cI, 6, .inl (fun _ => 0))) (xS D classes (xT cI cJ cZ cC cG cP) (183) ad) (xgA z N ad)) (3) (127) (xgA z N ad) := by
  subst hNi
  refine xj_met rfl (Nat.le_of_ble_eq_true rfl) ?_
  intro p e s m args below meth c ls hx hb X hr hlk hnm hl hao hz0 J
  have hA : ∀ q, s.heap.size ≤ q → xgA z 180 ad q := fun q hq => Or.inr (by omega)
  have hl : lv_has ls 1 [(0, .ref (ad 179))] := hl
  refine lv_aload_n hx hb d_Printer_init_0 rfl (lv_at hl 0 rfl) ?_
  refine xj_obj X hl.1 (List.mem_cons_of_mem _ k_dbf187ccd5) (List.mem_cons_of_mem _ k_739ca49096) (List.mem_cons_of_mem _ k_539172dd6b) (Nat.le_of_ble_eq_true rfl) (Nat.le_of_ble_eq_true rfl) d_Printer_init_1 ?_
  refine lv_aload_n hx hb d_Printer_init_4 rfl (lv_at hl 0 rfl) ?_
  refine lv_bipush (v := nI 61) hx hb d_Printer_init_5 (by decide) ?_
  refine xj_newa (atype := .char) X J had hA (by omega) (by omega) (List.mem_cons_of_mem _ k_63925fd8b6) 3 rfl (n := 61) (a0 := (61, .inl (fun _ => 0))) (fun _ => rfl) (by omega) (by show 61 * 2 ≤ 536870912; omega) (show 0 + 1 ≤ 3 by decide) (show 0 + 61 ≤ 127 by decide) d_Printer_init_7 (fun H J => ?_)
  obtain ⟨σ1, hσ1⟩ : ∃ s9, s9 = va_up σ 180 (.inl (cC, 61, .inl (fun _ => 0))) := ⟨_, rfl⟩
  rw [← hσ1] at J
  have σ1k : σ1 180 = (.inl (cC, 61, .inl (fun _ => 0))) := by rw [hσ1]; exact va_up_self _ _ _
  have σ1o : ∀ q, q ≠ 180 → σ1 q = σ q := fun q hq => by rw [hσ1]; exact va_up_ne _ _ hq
  clear hσ1
  have o1 := (σ1o 179 (by decide)).trans ho
  refine xj_putF (ty := .array .char) X J fin_R t_R t_R_ok n_R 179 (by omega) o1 rfl 0 (by decide) (List.mem_cons_of_mem _ k_f3b489d452) rfl rfl hnm rfl (by decide +kernel) rfl rfl (Nat.le_of_ble_eq_true rfl) d_Printer_init_9 (fun H locs J => ?_)
  have J : xJ D classes (xgA z 180 ad) _ ad s.heap (va_up σ1 179 (.inr (ciR, [.ref (ad 180), .null, .null, .int 0]))) H locs := J
  obtain ⟨σ2, hσ2⟩ : ∃ s9, s9 = va_up σ1 179 (.inr (ciR, [.ref (ad 180), .null, .null, .int 0])) := ⟨_, rfl⟩
  rw [← hσ2] at J
  have σ2k : σ2 179 = (.inr (ciR, [.ref (ad 180), .null, .null, .int 0])) := by rw [hσ2]; exact va_up_self _ _ _
  have σ2o : ∀ q, q ≠ 179 → σ2 q = σ1 q := fun q hq => by rw [hσ2]; exact va_up_ne _ _ hq
  clear hσ2
  refine lv_aload_n hx hb d_Printer_init_12 rfl (lv_at hl 0 rfl) ?_
  refine lv_bipush (v := nI 60) hx hb d_Printer_init_13 (by decide) ?_
  refine xj_newa (atype := .int) X J had hA (by omega) (by omega) (List.mem_cons_of_mem _ k_f07bdf5106) 0 rfl (n := 60) (a0 := (60, .inl (fun _ => 0))) (fun _ => rfl) (by omega) (by show 60 * 4 ≤ 536870912; omega) (show 0 + 1 + 1 ≤ 3 by decide) (show 0 + 61 + 60 ≤ 127 by decide) d_Printer_init_15 (fun H J => ?_)
  obtain ⟨σ3, hσ3⟩ : ∃ s9, s9 = va_up σ2 181 (.inl (cI, 60, .inl (fun _ => 0))) := ⟨_, rfl⟩
  rw [← hσ3] at J
  have σ3k : σ3 181 = (.inl (cI, 60, .inl (fun _ => 0))) := by rw [hσ3]; exact va_up_self _ _ _
  have σ3o : ∀ q, q ≠ 181 → σ3 q = σ2 q := fun q hq => by rw [hσ3]; exact va_up_ne _ _ hq
  clear hσ3
  have o3 := (σ3o 179 (by decide)).trans σ2k
  refine xj_putF (ty := .array .int) X J fin_R t_R t_R_ok n_R 179 (by omega) o3 rfl 1 (by decide) (List.mem_cons_of_mem _ k_3f4b3a3a13) rfl rfl hnm rfl (by decide +kernel) rfl rfl (Nat.le_of_ble_eq_true rfl) d_Printer_init_17 (fun H locs J => ?_)
  have J : xJ D classes (xgA z 180 ad) _ ad s.heap (va_up σ3 179 (.inr (ciR, [.ref (ad 180), .ref (ad 181), .null, .int 0]))) H locs := J
  obtain ⟨σ4, hσ4⟩ : ∃ s9, s9 = va_up σ3 179 (.inr (ciR, [.ref (ad 180), .ref (ad 181), .null, .int 0])) := ⟨_, rfl⟩
  rw [← hσ4] at J
  have σ4k : σ4 179 = (.inr (ciR, [.ref (ad 180), .ref (ad 181), .null, .int 0])) := by rw [hσ4]; exact va_up_self _ _ _
  have σ4o : ∀ q, q ≠ 179 → σ4 q = σ3 q := fun q hq => by rw [hσ4]; exact va_up_ne _ _ hq
  clear hσ4
  refine lv_aload_n hx hb d_Printer_init_20 rfl (lv_at hl 0 rfl) ?_
  refine lv_bipush (v := nI 6) hx hb d_Printer_init_21 (by decide) ?_
  refine xj_newa (atype := .int) X J had hA (by omega) (by omega) (List.mem_cons_of_mem _ k_f07bdf5106) 0 rfl (n := 6) (a0 := (6, .inl (fun _ => 0))) (fun _ => rfl) (by omega) (by show 6 * 4 ≤ 536870912; omega) (show 0 + 1 + 1 + 1 ≤ 3 by decide) (show 0 + 61 + 60 + 6 ≤ 127 by decide) d_Printer_init_23 (fun H J => ?_)
  obtain ⟨σ5, hσ5⟩ : ∃ s9, s9 = va_up σ4 182 (.inl (cI, 6, .inl (fun _ => 0))) := ⟨_, rfl⟩
  rw [← hσ5] at J
  have σ5k : σ5 182 = (.inl (cI, 6, .inl (fun _ => 0))) := by rw [hσ5]; exact va_up_self _ _ _
  have σ5o : ∀ q, q ≠ 182 → σ5 q = σ4 q := fun q hq => by rw [hσ5]; exact va_up_ne _ _ hq
  clear hσ5
  have o5 := (σ5o 179 (by decide)).trans σ4k
  refine xj_putF (ty := .array .int) X J fin_R t_R t_R_ok n_R 179 (by omega) o5 rfl 2 (by decide) (List.mem_cons_of_mem _ k_3119f0cb75) rfl rfl hnm rfl (by decide +kernel) rfl rfl (Nat.le_of_ble_eq_true rfl) d_Printer_init_25 (fun H locs J => ?_)
  have J : xJ D classes (xgA z 180 ad) _ ad s.heap (va_up σ5 179 (.inr (ciR, [.ref (ad 180), .ref (ad 181), .ref (ad 182), .int 0]))) H locs := J
  obtain ⟨σ6, hσ6⟩ : ∃ s9, s9 = va_up σ5 179 (.inr (ciR, [.ref (ad 180), .ref (ad 181), .ref (ad 182), .int 0])) := ⟨_, rfl⟩
  rw [← hσ6] at J
  have σ6k : σ6 179 = (.inr (ciR, [.ref (ad 180), .ref (ad 181), .ref (ad 182), .int 0])) := by rw [hσ6]; exact va_up_self _ _ _
  have σ6o : ∀ q, q ≠ 179 → σ6 q = σ5 q := fun q hq => by rw [hσ6]; exact va_up_ne _ _ hq
  clear hσ6
  exact xj_vret X J hr hlk (by decide) (by decide) ⟨fun q hq => (σ6o q (by omega)).trans ((σ5o q (by omega)).trans ((σ4o q (by omega)).trans ((σ3o q (by omega)).trans ((σ2o q (by omega)).trans (σ1o q (by omega)))))), σ6k, (σ6o 180 (by decide)).trans ((σ5o 180 (by decide)).trans ((σ4o 180 (by decide)).trans ((σ3o 180 (by decide)).trans ((σ2o 180 (by decide)).trans σ1k)))), (σ6o 181 (by decide)).trans ((σ5o 181 (by decide)).trans ((σ4o 181 (by decide)).trans σ3k)), (σ6o 182 (by decide)).trans σ5k⟩ d_Printer_init_28
set_option maxHeartbeats 4000000 in
set_option maxRecDepth 100000 in
theorem c_Euclid_init {l : Launch} {D : va_G} {cI cJ cZ cC cG cP : ClassId} {z N : Nat} {ad : Nat → Nat} {σ : Nat → va_E} (had : ∀ k, ad k = z + k) (hNi : N = 156) (ho : σ 155 = .inr (ciC, [.null, .null, .null])) :
    Met l y_Euclid_init v_Euclid_init { frames := 2, cells := 21, slots := 787, locals := 128 } (va_Pc [.ref (ad 155)] (xG D classes (xT cI cJ cZ cC cG cP) z N ad σ)) (va_Qv (fun σ2 => (∀ q, q < 155 → σ2 q = σ q) ∧ σ2 155 = .inr (ciC, [.ref (ad 156), .ref (ad 166), .ref (ad 176)]) ∧ euE ad cI cG σ2) (xS D classes (xT cI cJ cZ cC cG cP) (177) ad) (xgA z N ad)) (21) (787) (xgA z N ad) := by
  subst hNi
  refine xj_met rfl (Nat.le_of_ble_eq_true rfl) ?_
  intro p e s m args below meth c ls hx hb X hr hlk hnm hl hao hz0 J
  have hA : ∀ q, s.heap.size ≤ q → xgA z 156 ad q := fun q hq => Or.inr (by omega)
  have hl : lv_has ls 1 [(0, .ref (ad 155))] := hl
  refine lv_aload_n hx hb d_Euclid_init_0 rfl (lv_at hl 0 rfl) ?_
  refine xj_obj X hl.1 (List.mem_cons_of_mem _ k_102041c4a4) (List.mem_cons_of_mem _ k_739ca49096) (List.mem_cons_of_mem _ k_539172dd6b) (Nat.le_of_ble_eq_true rfl) (Nat.le_of_ble_eq_true rfl) d_Euclid_init_1 ?_
  refine lv_aload_n hx hb d_Euclid_init_4 rfl (lv_at hl 0 rfl) ?_
  refine xj_new X J had hA (by omega) (by omega) fin_P t_P t_P_ok (List.mem_cons_of_mem _ k_f614efe422) (List.mem_cons_of_mem _ k_360d028f84) (List.mem_cons_of_mem _ k_7331dc5fb5) (ci := ciP) rfl (fs := [.null, .null, .int 0, .int 0]) (by decide +kernel) (show 0 + 1 ≤ 21 by omega) (show 0 + 4 ≤ 787 by omega) d_Euclid_init_5 (fun H J => ?_)
  obtain ⟨σa, hσa⟩ : ∃ s9, s9 = va_up σ 156 (.inr (ciP, [.null, .null, .int 0, .int 0])) := ⟨_, rfl⟩
  rw [← hσa] at J
  have σak : σa 156 = (.inr (ciP, [.null, .null, .int 0, .int 0])) := by rw [hσa]; exact va_up_self _ _ _
  have σao : ∀ q, q ≠ 156 → σa q = σ q := fun q hq => by rw [hσa]; exact va_up_ne _ _ hq
  clear hσa
  refine lv_dup hx hb d_Euclid_init_8 rfl ?_
  refine lv_bipush (v := nI 45) hx hb d_Euclid_init_9 (by decide) ?_
  refine xj_W fun hle => ?_
  have hH9 := xJ_size had J (by omega) (by omega)
  refine xj_callg had hA hH9 (xj_runI (rm := { frames := 1, cells := 9, slots := 7 + 7 * 45 + 45, locals := 64 }) (n := 1) (As := [.int (nI 45)]) (rest := [.ref (ad 156), .ref (ad 155)]) X J hH9 hao (c_Polynomial_init (i := 156) (most := 45) had rfl (by decide) σak) (xg k_799d7536b9) (List.mem_cons_of_mem _ k_bdaddc8be3) (List.mem_cons_of_mem _ k_ae17292725) (List.mem_cons_of_mem _ k_a8ac99ee00) rfl rfl rfl (by decide +kernel) (by decide) rfl hl.1 rfl (Nat.le_of_ble_eq_true rfl) d_Euclid_init_11 ⟨(show 0 + 1 + 9 ≤ 21 by omega), (show 0 + 4 + (7 + 7 * 45 + 45) ≤ 787 by omega)⟩) J (fun σap H locs hp J => ?_)
  obtain ⟨Fa, sa, ga, pa, za⟩ := hp
  have o1 : σap 155 = .inr (ciC, [.null, .null, .null]) := (ga 155 (by decide)).trans ((σao 155 (by decide)).trans ho)
  refine xj_putF (ty := .object "SpectrumDesk$Polynomial") X J fin_C t_C t_C_ok n_C 155 (by omega) o1 rfl 0 (by decide) (List.mem_cons_of_mem _ k_d501e96bf9) rfl rfl hnm rfl (by decide +kernel) rfl rfl (Nat.le_of_ble_eq_true rfl) d_Euclid_init_14 (fun H locs J => ?_)
  have J : xJ D classes (xgA z 156 ad) _ ad s.heap (va_up σap 155 (.inr (ciC, [.ref (ad 156), .null, .null]))) H locs := J
  obtain ⟨σb, hσb⟩ : ∃ s9, s9 = va_up σap 155 (.inr (ciC, [.ref (ad 156), .null, .null])) := ⟨_, rfl⟩
  rw [← hσb] at J
  have σbk : σb 155 = (.inr (ciC, [.ref (ad 156), .null, .null])) := by rw [hσb]; exact va_up_self _ _ _
  have σbo : ∀ q, q ≠ 155 → σb q = σap q := fun q hq => by rw [hσb]; exact va_up_ne _ _ hq
  clear hσb
  have pa := pl_same pa (fun q h1 h2 => σbo q (by omega))
  refine lv_aload_n hx hb d_Euclid_init_17 rfl (lv_at hl 0 rfl) ?_
  refine xj_new X J had hA (by omega) (by omega) fin_P t_P t_P_ok (List.mem_cons_of_mem _ k_f614efe422) (List.mem_cons_of_mem _ k_360d028f84) (List.mem_cons_of_mem _ k_7331dc5fb5) (ci := ciP) rfl (fs := [.null, .null, .int 0, .int 0]) (by decide +kernel) (show 0 + 1 + 9 + 1 ≤ 21 by omega) (show 0 + 4 + (7 + 7 * 45 + 45) + 4 ≤ 787 by omega) d_Euclid_init_18 (fun H J => ?_)
  obtain ⟨σd, hσd⟩ : ∃ s9, s9 = va_up σb 166 (.inr (ciP, [.null, .null, .int 0, .int 0])) := ⟨_, rfl⟩
  rw [← hσd] at J
  have σdk : σd 166 = (.inr (ciP, [.null, .null, .int 0, .int 0])) := by rw [hσd]; exact va_up_self _ _ _
  have σdo : ∀ q, q ≠ 166 → σd q = σb q := fun q hq => by rw [hσd]; exact va_up_ne _ _ hq
  clear hσd
  refine lv_dup hx hb d_Euclid_init_21 rfl ?_
  refine lv_bipush (v := nI 45) hx hb d_Euclid_init_22 (by decide) ?_
  refine xj_W fun hle => ?_
  have hH9 := xJ_size had J (by omega) (by omega)
  refine xj_callg had hA hH9 (xj_runI (rm := { frames := 1, cells := 9, slots := 7 + 7 * 45 + 45, locals := 64 }) (n := 1) (As := [.int (nI 45)]) (rest := [.ref (ad 166), .ref (ad 155)]) X J hH9 hao (c_Polynomial_init (i := 166) (most := 45) had rfl (by decide) σdk) (xg k_799d7536b9) (List.mem_cons_of_mem _ k_bdaddc8be3) (List.mem_cons_of_mem _ k_ae17292725) (List.mem_cons_of_mem _ k_a8ac99ee00) rfl rfl rfl (by decide +kernel) (by decide) rfl hl.1 rfl (Nat.le_of_ble_eq_true rfl) d_Euclid_init_24 ⟨(show 0 + 1 + 9 + 1 + 9 ≤ 21 by omega), (show 0 + 4 + (7 + 7 * 45 + 45) + 4 + (7 + 7 * 45 + 45) ≤ 787 by omega)⟩) J (fun σdp H locs hp J => ?_)
  obtain ⟨Fd, sd, gd, pd, zd⟩ := hp
  have o2 : σdp 155 = .inr (ciC, [.ref (ad 156), .null, .null]) := (gd 155 (by decide)).trans ((σdo 155 (by decide)).trans σbk)
  have pa := pl_same pa (fun q h1 h2 => (gd q (by omega)).trans (σdo q (by omega)))
  refine xj_putF (ty := .object "SpectrumDesk$Polynomial") X J fin_C t_C t_C_ok n_C 155 (by omega) o2 rfl 1 (by decide) (List.mem_cons_of_mem _ k_eca84a7dc9) rfl rfl hnm rfl (by decide +kernel) rfl rfl (Nat.le_of_ble_eq_true rfl) d_Euclid_init_27 (fun H locs J => ?_)
  have J : xJ D classes (xgA z 156 ad) _ ad s.heap (va_up σdp 155 (.inr (ciC, [.ref (ad 156), .ref (ad 166), .null]))) H locs := J
  obtain ⟨σe, hσe⟩ : ∃ s9, s9 = va_up σdp 155 (.inr (ciC, [.ref (ad 156), .ref (ad 166), .null])) := ⟨_, rfl⟩
  rw [← hσe] at J
  have σek : σe 155 = (.inr (ciC, [.ref (ad 156), .ref (ad 166), .null])) := by rw [hσe]; exact va_up_self _ _ _
  have σeo : ∀ q, q ≠ 155 → σe q = σdp q := fun q hq => by rw [hσe]; exact va_up_ne _ _ hq
  clear hσe
  refine lv_aload_n hx hb d_Euclid_init_30 rfl (lv_at hl 0 rfl) ?_
  refine lv_bipush (v := nI 45) hx hb d_Euclid_init_31 (by decide) ?_
  refine xj_newa (atype := .int) X J had hA (by omega) (by omega) (List.mem_cons_of_mem _ k_f07bdf5106) 0 rfl (n := 45) (a0 := (45, .inl (fun _ => 0))) (fun _ => rfl) (by omega) (by show 45 * 4 ≤ 536870912; omega) (show 0 + 1 + 9 + 1 + 9 + 1 ≤ 21 by decide) (show 0 + 4 + (7 + 7 * 45 + 45) + 4 + (7 + 7 * 45 + 45) + 45 ≤ 787 by decide) d_Euclid_init_33 (fun H J => ?_)
  obtain ⟨σf, hσf⟩ : ∃ s9, s9 = va_up σe 176 (.inl (cI, 45, .inl (fun _ => 0))) := ⟨_, rfl⟩
  rw [← hσf] at J
  have σfk : σf 176 = (.inl (cI, 45, .inl (fun _ => 0))) := by rw [hσf]; exact va_up_self _ _ _
  have σfo : ∀ q, q ≠ 176 → σf q = σe q := fun q hq => by rw [hσf]; exact va_up_ne _ _ hq
  clear hσf
  have o3 := (σfo 155 (by decide)).trans σek
  refine xj_putF (ty := .array .int) X J fin_C t_C t_C_ok n_C 155 (by omega) o3 rfl 2 (by decide) (List.mem_cons_of_mem _ k_34a72900f7) rfl rfl hnm rfl (by decide +kernel) rfl rfl (Nat.le_of_ble_eq_true rfl) d_Euclid_init_35 (fun H locs J => ?_)
  have J : xJ D classes (xgA z 156 ad) _ ad s.heap (va_up σf 155 (.inr (ciC, [.ref (ad 156), .ref (ad 166), .ref (ad 176)]))) H locs := J
  obtain ⟨σg, hσg⟩ : ∃ s9, s9 = va_up σf 155 (.inr (ciC, [.ref (ad 156), .ref (ad 166), .ref (ad 176)])) := ⟨_, rfl⟩
  rw [← hσg] at J
  have σgk : σg 155 = (.inr (ciC, [.ref (ad 156), .ref (ad 166), .ref (ad 176)])) := by rw [hσg]; exact va_up_self _ _ _
  have σgo : ∀ q, q ≠ 155 → σg q = σf q := fun q hq => by rw [hσg]; exact va_up_ne _ _ hq
  clear hσg
  have kk : ∀ q, q ≠ 155 → q ≠ 176 → σg q = σdp q := fun q h1 h2 => (σgo q h1).trans ((σfo q h2).trans (σeo q h1))
  exact xj_vret X J hr hlk (by decide) (by decide) ⟨fun q hq => (kk q (by omega) (by omega)).trans ((gd q (by omega)).trans ((σdo q (by omega)).trans ((σbo q (by omega)).trans ((ga q (by omega)).trans (σao q (by omega)))))), σgk, _, _, _, _, _, _, _, _, _, pl_same pa (fun q h1 h2 => kk q (by omega) (by omega)), pl_same pd (fun q h1 h2 => kk q (by omega) (by omega)), (σgo 176 (by decide)).trans σfk⟩ d_Euclid_init_38
set_option maxHeartbeats 4000000 in
set_option maxRecDepth 100000 in
theorem c_SpectrumDeskModel_init {l : Launch} {D : va_G} {cI cJ cZ cC cG cP : ClassId} {z N : Nat} {ad : Nat → Nat} {σ : Nat → va_E} (had : ∀ k, ad k = z + k) (hNi : N = 184) (ho : σ 183 = .inr (ciM, [.null, .null, .null, .null, .int 0, .int 0, .null, .null, .int 0, .null, .int 0, .null, .int 0, .int 0])) :
    Met l y_SpectrumDeskModel_init v_SpectrumDeskModel_init { frames := 1, cells := 8, slots := 35265, locals := 64 } (va_Pc [.ref (ad 183)] (xG D classes (xT cI cJ cZ cC cG cP) z N ad σ)) (va_Qv (fun σ2 => (∀ q, q < 183 → σ2 q = σ q) ∧ σ2 183 = .inr (ciM, mfs ad 0 (nI 1) 0 0 0 0) ∧ σ2 184 = .inl (cI, 33600, .inl (fun _ => 0)) ∧ σ2 185 = .inl (cI, 112, .inl (fun _ => 0)) ∧ σ2 186 = .inl (cZ, 112, .inl (fun _ => 0)) ∧ σ2 187 = .inl (cI, 5, .inl (fun _ => 0)) ∧ σ2 188 = .inl (cI, 36, .inl (fun _ => 0)) ∧ σ2 189 = .inl (cI, 600, .inl (fun _ => 0)) ∧ σ2 190 = .inl (cI, 400, .inl (fun _ => 0)) ∧ σ2 191 = .inl (cI, 400, .inl (fun _ => 0))) (xS D classes (xT cI cJ cZ cC cG cP) (192) ad) (xgA z N ad)) (8) (35265) (xgA z N ad) := by
  subst hNi
  refine xj_met rfl (Nat.le_of_ble_eq_true rfl) ?_
  intro p e s m args below meth c ls hx hb X hr hlk hnm hl hao hz0 J
  have hA : ∀ q, s.heap.size ≤ q → xgA z 184 ad q := fun q hq => Or.inr (by omega)
  have hl : lv_has ls 1 [(0, .ref (ad 183))] := hl
  refine lv_aload_n hx hb d_SpectrumDeskModel_init_0 rfl (lv_at hl 0 rfl) ?_
  refine xj_obj X hl.1 (List.mem_cons_of_mem _ k_00c11dc6a8) (List.mem_cons_of_mem _ k_739ca49096) (List.mem_cons_of_mem _ k_539172dd6b) (Nat.le_of_ble_eq_true rfl) (Nat.le_of_ble_eq_true rfl) d_SpectrumDeskModel_init_1 ?_
  refine lv_aload_n hx hb d_SpectrumDeskModel_init_4 rfl (lv_at hl 0 rfl) ?_
  refine lv_ldc (v := nI 33600) hx hb X.1.2.2.2.1 (X.1.2.2.2.2 _ (List.mem_cons_of_mem _ k_f3a901f427)) d_SpectrumDeskModel_init_5 ?_
  refine xj_newa (atype := .int) X J had hA (by omega) (by omega) (List.mem_cons_of_mem _ k_f07bdf5106) 0 rfl (n := 33600) (a0 := (33600, .inl (fun _ => 0))) (fun _ => rfl) (by omega) (by show 33600 * 4 ≤ 536870912; omega) (show 0 + 1 ≤ 8 by decide) (show 0 + 33600 ≤ 35265 by decide) d_SpectrumDeskModel_init_7 (fun H J => ?_)
  obtain ⟨τ1, hτ1⟩ : ∃ s9, s9 = va_up σ 184 (.inl (cI, 33600, .inl (fun _ => 0))) := ⟨_, rfl⟩
  rw [← hτ1] at J
  have τ1k : τ1 184 = (.inl (cI, 33600, .inl (fun _ => 0))) := by rw [hτ1]; exact va_up_self _ _ _
  have τ1o : ∀ q, q ≠ 184 → τ1 q = σ q := fun q hq => by rw [hτ1]; exact va_up_ne _ _ hq
  clear hτ1
  have o1 := (τ1o 183 (by decide)).trans ho
  refine xj_putF (ty := .array .int) X J fin_M t_M t_M_ok n_M 183 (by omega) o1 rfl 0 (by decide) (List.mem_cons_of_mem _ k_eae5455160) rfl rfl hnm rfl (by decide +kernel) rfl rfl (Nat.le_of_ble_eq_true rfl) d_SpectrumDeskModel_init_9 (fun H locs J => ?_)
  have J : xJ D classes (xgA z 184 ad) _ ad s.heap (va_up τ1 183 (.inr (ciM, [.ref (ad 184), .null, .null, .null, .int 0, .int 0, .null, .null, .int 0, .null, .int 0, .null, .int 0, .int 0]))) H locs := J
  obtain ⟨τ2, hτ2⟩ : ∃ s9, s9 = va_up τ1 183 (.inr (ciM, [.ref (ad 184), .null, .null, .null, .int 0, .int 0, .null, .null, .int 0, .null, .int 0, .null, .int 0, .int 0])) := ⟨_, rfl⟩
  rw [← hτ2] at J
  have τ2k : τ2 183 = (.inr (ciM, [.ref (ad 184), .null, .null, .null, .int 0, .int 0, .null, .null, .int 0, .null, .int 0, .null, .int 0, .int 0])) := by rw [hτ2]; exact va_up_self _ _ _
  have τ2o : ∀ q, q ≠ 183 → τ2 q = τ1 q := fun q hq => by rw [hτ2]; exact va_up_ne _ _ hq
  clear hτ2
  refine lv_aload_n hx hb d_SpectrumDeskModel_init_12 rfl (lv_at hl 0 rfl) ?_
  refine lv_bipush (v := nI 112) hx hb d_SpectrumDeskModel_init_13 (by decide) ?_
  refine xj_newa (atype := .int) X J had hA (by omega) (by omega) (List.mem_cons_of_mem _ k_f07bdf5106) 0 rfl (n := 112) (a0 := (112, .inl (fun _ => 0))) (fun _ => rfl) (by omega) (by show 112 * 4 ≤ 536870912; omega) (show 0 + 1 + 1 ≤ 8 by decide) (show 0 + 33600 + 112 ≤ 35265 by decide) d_SpectrumDeskModel_init_15 (fun H J => ?_)
  obtain ⟨τ3, hτ3⟩ : ∃ s9, s9 = va_up τ2 185 (.inl (cI, 112, .inl (fun _ => 0))) := ⟨_, rfl⟩
  rw [← hτ3] at J
  have τ3k : τ3 185 = (.inl (cI, 112, .inl (fun _ => 0))) := by rw [hτ3]; exact va_up_self _ _ _
  have τ3o : ∀ q, q ≠ 185 → τ3 q = τ2 q := fun q hq => by rw [hτ3]; exact va_up_ne _ _ hq
  clear hτ3
  have o3 := (τ3o 183 (by decide)).trans τ2k
  refine xj_putF (ty := .array .int) X J fin_M t_M t_M_ok n_M 183 (by omega) o3 rfl 1 (by decide) (List.mem_cons_of_mem _ k_4ae214c350) rfl rfl hnm rfl (by decide +kernel) rfl rfl (Nat.le_of_ble_eq_true rfl) d_SpectrumDeskModel_init_17 (fun H locs J => ?_)
  have J : xJ D classes (xgA z 184 ad) _ ad s.heap (va_up τ3 183 (.inr (ciM, [.ref (ad 184), .ref (ad 185), .null, .null, .int 0, .int 0, .null, .null, .int 0, .null, .int 0, .null, .int 0, .int 0]))) H locs := J
  obtain ⟨τ4, hτ4⟩ : ∃ s9, s9 = va_up τ3 183 (.inr (ciM, [.ref (ad 184), .ref (ad 185), .null, .null, .int 0, .int 0, .null, .null, .int 0, .null, .int 0, .null, .int 0, .int 0])) := ⟨_, rfl⟩
  rw [← hτ4] at J
  have τ4k : τ4 183 = (.inr (ciM, [.ref (ad 184), .ref (ad 185), .null, .null, .int 0, .int 0, .null, .null, .int 0, .null, .int 0, .null, .int 0, .int 0])) := by rw [hτ4]; exact va_up_self _ _ _
  have τ4o : ∀ q, q ≠ 183 → τ4 q = τ3 q := fun q hq => by rw [hτ4]; exact va_up_ne _ _ hq
  clear hτ4
  refine lv_aload_n hx hb d_SpectrumDeskModel_init_20 rfl (lv_at hl 0 rfl) ?_
  refine lv_bipush (v := nI 112) hx hb d_SpectrumDeskModel_init_21 (by decide) ?_
  refine xj_newa (atype := .boolean) X J had hA (by omega) (by omega) (List.mem_cons_of_mem _ k_5a05f5a8d8) 2 rfl (n := 112) (a0 := (112, .inl (fun _ => 0))) (fun _ => rfl) (by omega) (by show 112 * 1 ≤ 536870912; omega) (show 0 + 1 + 1 + 1 ≤ 8 by decide) (show 0 + 33600 + 112 + 112 ≤ 35265 by decide) d_SpectrumDeskModel_init_23 (fun H J => ?_)
  obtain ⟨τ5, hτ5⟩ : ∃ s9, s9 = va_up τ4 186 (.inl (cZ, 112, .inl (fun _ => 0))) := ⟨_, rfl⟩
  rw [← hτ5] at J
  have τ5k : τ5 186 = (.inl (cZ, 112, .inl (fun _ => 0))) := by rw [hτ5]; exact va_up_self _ _ _
  have τ5o : ∀ q, q ≠ 186 → τ5 q = τ4 q := fun q hq => by rw [hτ5]; exact va_up_ne _ _ hq
  clear hτ5
  have o5 := (τ5o 183 (by decide)).trans τ4k
  refine xj_putF (ty := .array .boolean) X J fin_M t_M t_M_ok n_M 183 (by omega) o5 rfl 2 (by decide) (List.mem_cons_of_mem _ k_7646d4378e) rfl rfl hnm rfl (by decide +kernel) rfl rfl (Nat.le_of_ble_eq_true rfl) d_SpectrumDeskModel_init_25 (fun H locs J => ?_)
  have J : xJ D classes (xgA z 184 ad) _ ad s.heap (va_up τ5 183 (.inr (ciM, [.ref (ad 184), .ref (ad 185), .ref (ad 186), .null, .int 0, .int 0, .null, .null, .int 0, .null, .int 0, .null, .int 0, .int 0]))) H locs := J
  obtain ⟨τ6, hτ6⟩ : ∃ s9, s9 = va_up τ5 183 (.inr (ciM, [.ref (ad 184), .ref (ad 185), .ref (ad 186), .null, .int 0, .int 0, .null, .null, .int 0, .null, .int 0, .null, .int 0, .int 0])) := ⟨_, rfl⟩
  rw [← hτ6] at J
  have τ6k : τ6 183 = (.inr (ciM, [.ref (ad 184), .ref (ad 185), .ref (ad 186), .null, .int 0, .int 0, .null, .null, .int 0, .null, .int 0, .null, .int 0, .int 0])) := by rw [hτ6]; exact va_up_self _ _ _
  have τ6o : ∀ q, q ≠ 183 → τ6 q = τ5 q := fun q hq => by rw [hτ6]; exact va_up_ne _ _ hq
  clear hτ6
  refine lv_aload_n hx hb d_SpectrumDeskModel_init_28 rfl (lv_at hl 0 rfl) ?_
  refine lv_iconst (v := nI 5) hx hb d_SpectrumDeskModel_init_29 (by decide) ?_
  refine xj_newa (atype := .int) X J had hA (by omega) (by omega) (List.mem_cons_of_mem _ k_f07bdf5106) 0 rfl (n := 5) (a0 := (5, .inl (fun _ => 0))) (fun _ => rfl) (by omega) (by show 5 * 4 ≤ 536870912; omega) (show 0 + 1 + 1 + 1 + 1 ≤ 8 by decide) (show 0 + 33600 + 112 + 112 + 5 ≤ 35265 by decide) d_SpectrumDeskModel_init_30 (fun H J => ?_)
  obtain ⟨τ7, hτ7⟩ : ∃ s9, s9 = va_up τ6 187 (.inl (cI, 5, .inl (fun _ => 0))) := ⟨_, rfl⟩
  rw [← hτ7] at J
  have τ7k : τ7 187 = (.inl (cI, 5, .inl (fun _ => 0))) := by rw [hτ7]; exact va_up_self _ _ _
  have τ7o : ∀ q, q ≠ 187 → τ7 q = τ6 q := fun q hq => by rw [hτ7]; exact va_up_ne _ _ hq
  clear hτ7
  have o7 := (τ7o 183 (by decide)).trans τ6k
  refine xj_putF (ty := .array .int) X J fin_M t_M t_M_ok n_M 183 (by omega) o7 rfl 3 (by decide) (List.mem_cons_of_mem _ k_176eac5e1f) rfl rfl hnm rfl (by decide +kernel) rfl rfl (Nat.le_of_ble_eq_true rfl) d_SpectrumDeskModel_init_32 (fun H locs J => ?_)
  have J : xJ D classes (xgA z 184 ad) _ ad s.heap (va_up τ7 183 (.inr (ciM, [.ref (ad 184), .ref (ad 185), .ref (ad 186), .ref (ad 187), .int 0, .int 0, .null, .null, .int 0, .null, .int 0, .null, .int 0, .int 0]))) H locs := J
  obtain ⟨τ8, hτ8⟩ : ∃ s9, s9 = va_up τ7 183 (.inr (ciM, [.ref (ad 184), .ref (ad 185), .ref (ad 186), .ref (ad 187), .int 0, .int 0, .null, .null, .int 0, .null, .int 0, .null, .int 0, .int 0])) := ⟨_, rfl⟩
  rw [← hτ8] at J
  have τ8k : τ8 183 = (.inr (ciM, [.ref (ad 184), .ref (ad 185), .ref (ad 186), .ref (ad 187), .int 0, .int 0, .null, .null, .int 0, .null, .int 0, .null, .int 0, .int 0])) := by rw [hτ8]; exact va_up_self _ _ _
  have τ8o : ∀ q, q ≠ 183 → τ8 q = τ7 q := fun q hq => by rw [hτ8]; exact va_up_ne _ _ hq
  clear hτ8
  refine lv_aload_n hx hb d_SpectrumDeskModel_init_35 rfl (lv_at hl 0 rfl) ?_
  refine lv_iconst (v := nI 1) hx hb d_SpectrumDeskModel_init_36 (by decide) ?_
  refine xj_put (ty := .int) X J fin_M t_M t_M_ok n_M 183 (by omega) τ8k rfl 5 (by decide) (List.mem_cons_of_mem _ k_b1a46e2c09) rfl rfl (by decide +kernel) rfl rfl (Nat.le_of_ble_eq_true rfl) d_SpectrumDeskModel_init_37 (fun H locs J => ?_)
  have J : xJ D classes (xgA z 184 ad) _ ad s.heap (va_up τ8 183 (.inr (ciM, [.ref (ad 184), .ref (ad 185), .ref (ad 186), .ref (ad 187), .int 0, .int (nI 1), .null, .null, .int 0, .null, .int 0, .null, .int 0, .int 0]))) H locs := J
  obtain ⟨τ9, hτ9⟩ : ∃ s9, s9 = va_up τ8 183 (.inr (ciM, [.ref (ad 184), .ref (ad 185), .ref (ad 186), .ref (ad 187), .int 0, .int (nI 1), .null, .null, .int 0, .null, .int 0, .null, .int 0, .int 0])) := ⟨_, rfl⟩
  rw [← hτ9] at J
  have τ9k : τ9 183 = (.inr (ciM, [.ref (ad 184), .ref (ad 185), .ref (ad 186), .ref (ad 187), .int 0, .int (nI 1), .null, .null, .int 0, .null, .int 0, .null, .int 0, .int 0])) := by rw [hτ9]; exact va_up_self _ _ _
  have τ9o : ∀ q, q ≠ 183 → τ9 q = τ8 q := fun q hq => by rw [hτ9]; exact va_up_ne _ _ hq
  clear hτ9
  refine lv_aload_n hx hb d_SpectrumDeskModel_init_40 rfl (lv_at hl 0 rfl) ?_
  refine lv_bipush (v := nI 36) hx hb d_SpectrumDeskModel_init_41 (by decide) ?_
  refine xj_newa (atype := .int) X J had hA (by omega) (by omega) (List.mem_cons_of_mem _ k_f07bdf5106) 0 rfl (n := 36) (a0 := (36, .inl (fun _ => 0))) (fun _ => rfl) (by omega) (by show 36 * 4 ≤ 536870912; omega) (show 0 + 1 + 1 + 1 + 1 + 1 ≤ 8 by decide) (show 0 + 33600 + 112 + 112 + 5 + 36 ≤ 35265 by decide) d_SpectrumDeskModel_init_43 (fun H J => ?_)
  obtain ⟨τ10, hτ10⟩ : ∃ s9, s9 = va_up τ9 188 (.inl (cI, 36, .inl (fun _ => 0))) := ⟨_, rfl⟩
  rw [← hτ10] at J
  have τ10k : τ10 188 = (.inl (cI, 36, .inl (fun _ => 0))) := by rw [hτ10]; exact va_up_self _ _ _
  have τ10o : ∀ q, q ≠ 188 → τ10 q = τ9 q := fun q hq => by rw [hτ10]; exact va_up_ne _ _ hq
  clear hτ10
  have o10 := (τ10o 183 (by decide)).trans τ9k
  refine xj_putF (ty := .array .int) X J fin_M t_M t_M_ok n_M 183 (by omega) o10 rfl 6 (by decide) (List.mem_cons_of_mem _ k_78efd7a03a) rfl rfl hnm rfl (by decide +kernel) rfl rfl (Nat.le_of_ble_eq_true rfl) d_SpectrumDeskModel_init_45 (fun H locs J => ?_)
  have J : xJ D classes (xgA z 184 ad) _ ad s.heap (va_up τ10 183 (.inr (ciM, [.ref (ad 184), .ref (ad 185), .ref (ad 186), .ref (ad 187), .int 0, .int (nI 1), .ref (ad 188), .null, .int 0, .null, .int 0, .null, .int 0, .int 0]))) H locs := J
  obtain ⟨τ11, hτ11⟩ : ∃ s9, s9 = va_up τ10 183 (.inr (ciM, [.ref (ad 184), .ref (ad 185), .ref (ad 186), .ref (ad 187), .int 0, .int (nI 1), .ref (ad 188), .null, .int 0, .null, .int 0, .null, .int 0, .int 0])) := ⟨_, rfl⟩
  rw [← hτ11] at J
  have τ11k : τ11 183 = (.inr (ciM, [.ref (ad 184), .ref (ad 185), .ref (ad 186), .ref (ad 187), .int 0, .int (nI 1), .ref (ad 188), .null, .int 0, .null, .int 0, .null, .int 0, .int 0])) := by rw [hτ11]; exact va_up_self _ _ _
  have τ11o : ∀ q, q ≠ 183 → τ11 q = τ10 q := fun q hq => by rw [hτ11]; exact va_up_ne _ _ hq
  clear hτ11
  refine lv_aload_n hx hb d_SpectrumDeskModel_init_48 rfl (lv_at hl 0 rfl) ?_
  refine lv_sipush (v := nI 600) hx hb d_SpectrumDeskModel_init_49 (by decide) ?_
  refine xj_newa (atype := .int) X J had hA (by omega) (by omega) (List.mem_cons_of_mem _ k_f07bdf5106) 0 rfl (n := 600) (a0 := (600, .inl (fun _ => 0))) (fun _ => rfl) (by omega) (by show 600 * 4 ≤ 536870912; omega) (show 0 + 1 + 1 + 1 + 1 + 1 + 1 ≤ 8 by decide) (show 0 + 33600 + 112 + 112 + 5 + 36 + 600 ≤ 35265 by decide) d_SpectrumDeskModel_init_52 (fun H J => ?_)
  obtain ⟨τ12, hτ12⟩ : ∃ s9, s9 = va_up τ11 189 (.inl (cI, 600, .inl (fun _ => 0))) := ⟨_, rfl⟩
  rw [← hτ12] at J
  have τ12k : τ12 189 = (.inl (cI, 600, .inl (fun _ => 0))) := by rw [hτ12]; exact va_up_self _ _ _
  have τ12o : ∀ q, q ≠ 189 → τ12 q = τ11 q := fun q hq => by rw [hτ12]; exact va_up_ne _ _ hq
  clear hτ12
  have o12 := (τ12o 183 (by decide)).trans τ11k
  refine xj_putF (ty := .array .int) X J fin_M t_M t_M_ok n_M 183 (by omega) o12 rfl 7 (by decide) (List.mem_cons_of_mem _ k_5ae17e30db) rfl rfl hnm rfl (by decide +kernel) rfl rfl (Nat.le_of_ble_eq_true rfl) d_SpectrumDeskModel_init_54 (fun H locs J => ?_)
  have J : xJ D classes (xgA z 184 ad) _ ad s.heap (va_up τ12 183 (.inr (ciM, [.ref (ad 184), .ref (ad 185), .ref (ad 186), .ref (ad 187), .int 0, .int (nI 1), .ref (ad 188), .ref (ad 189), .int 0, .null, .int 0, .null, .int 0, .int 0]))) H locs := J
  obtain ⟨τ13, hτ13⟩ : ∃ s9, s9 = va_up τ12 183 (.inr (ciM, [.ref (ad 184), .ref (ad 185), .ref (ad 186), .ref (ad 187), .int 0, .int (nI 1), .ref (ad 188), .ref (ad 189), .int 0, .null, .int 0, .null, .int 0, .int 0])) := ⟨_, rfl⟩
  rw [← hτ13] at J
  have τ13k : τ13 183 = (.inr (ciM, [.ref (ad 184), .ref (ad 185), .ref (ad 186), .ref (ad 187), .int 0, .int (nI 1), .ref (ad 188), .ref (ad 189), .int 0, .null, .int 0, .null, .int 0, .int 0])) := by rw [hτ13]; exact va_up_self _ _ _
  have τ13o : ∀ q, q ≠ 183 → τ13 q = τ12 q := fun q hq => by rw [hτ13]; exact va_up_ne _ _ hq
  clear hτ13
  refine lv_aload_n hx hb d_SpectrumDeskModel_init_57 rfl (lv_at hl 0 rfl) ?_
  refine lv_sipush (v := nI 400) hx hb d_SpectrumDeskModel_init_58 (by decide) ?_
  refine xj_newa (atype := .int) X J had hA (by omega) (by omega) (List.mem_cons_of_mem _ k_f07bdf5106) 0 rfl (n := 400) (a0 := (400, .inl (fun _ => 0))) (fun _ => rfl) (by omega) (by show 400 * 4 ≤ 536870912; omega) (show 0 + 1 + 1 + 1 + 1 + 1 + 1 + 1 ≤ 8 by decide) (show 0 + 33600 + 112 + 112 + 5 + 36 + 600 + 400 ≤ 35265 by decide) d_SpectrumDeskModel_init_61 (fun H J => ?_)
  obtain ⟨τ14, hτ14⟩ : ∃ s9, s9 = va_up τ13 190 (.inl (cI, 400, .inl (fun _ => 0))) := ⟨_, rfl⟩
  rw [← hτ14] at J
  have τ14k : τ14 190 = (.inl (cI, 400, .inl (fun _ => 0))) := by rw [hτ14]; exact va_up_self _ _ _
  have τ14o : ∀ q, q ≠ 190 → τ14 q = τ13 q := fun q hq => by rw [hτ14]; exact va_up_ne _ _ hq
  clear hτ14
  have o14 := (τ14o 183 (by decide)).trans τ13k
  refine xj_putF (ty := .array .int) X J fin_M t_M t_M_ok n_M 183 (by omega) o14 rfl 9 (by decide) (List.mem_cons_of_mem _ k_dd379f4769) rfl rfl hnm rfl (by decide +kernel) rfl rfl (Nat.le_of_ble_eq_true rfl) d_SpectrumDeskModel_init_63 (fun H locs J => ?_)
  have J : xJ D classes (xgA z 184 ad) _ ad s.heap (va_up τ14 183 (.inr (ciM, [.ref (ad 184), .ref (ad 185), .ref (ad 186), .ref (ad 187), .int 0, .int (nI 1), .ref (ad 188), .ref (ad 189), .int 0, .ref (ad 190), .int 0, .null, .int 0, .int 0]))) H locs := J
  obtain ⟨τ15, hτ15⟩ : ∃ s9, s9 = va_up τ14 183 (.inr (ciM, [.ref (ad 184), .ref (ad 185), .ref (ad 186), .ref (ad 187), .int 0, .int (nI 1), .ref (ad 188), .ref (ad 189), .int 0, .ref (ad 190), .int 0, .null, .int 0, .int 0])) := ⟨_, rfl⟩
  rw [← hτ15] at J
  have τ15k : τ15 183 = (.inr (ciM, [.ref (ad 184), .ref (ad 185), .ref (ad 186), .ref (ad 187), .int 0, .int (nI 1), .ref (ad 188), .ref (ad 189), .int 0, .ref (ad 190), .int 0, .null, .int 0, .int 0])) := by rw [hτ15]; exact va_up_self _ _ _
  have τ15o : ∀ q, q ≠ 183 → τ15 q = τ14 q := fun q hq => by rw [hτ15]; exact va_up_ne _ _ hq
  clear hτ15
  refine lv_aload_n hx hb d_SpectrumDeskModel_init_66 rfl (lv_at hl 0 rfl) ?_
  refine lv_sipush (v := nI 400) hx hb d_SpectrumDeskModel_init_67 (by decide) ?_
  refine xj_newa (atype := .int) X J had hA (by omega) (by omega) (List.mem_cons_of_mem _ k_f07bdf5106) 0 rfl (n := 400) (a0 := (400, .inl (fun _ => 0))) (fun _ => rfl) (by omega) (by show 400 * 4 ≤ 536870912; omega) (show 0 + 1 + 1 + 1 + 1 + 1 + 1 + 1 + 1 ≤ 8 by decide) (show 0 + 33600 + 112 + 112 + 5 + 36 + 600 + 400 + 400 ≤ 35265 by decide) d_SpectrumDeskModel_init_70 (fun H J => ?_)
  obtain ⟨τ16, hτ16⟩ : ∃ s9, s9 = va_up τ15 191 (.inl (cI, 400, .inl (fun _ => 0))) := ⟨_, rfl⟩
  rw [← hτ16] at J
  have τ16k : τ16 191 = (.inl (cI, 400, .inl (fun _ => 0))) := by rw [hτ16]; exact va_up_self _ _ _
  have τ16o : ∀ q, q ≠ 191 → τ16 q = τ15 q := fun q hq => by rw [hτ16]; exact va_up_ne _ _ hq
  clear hτ16
  have o16 := (τ16o 183 (by decide)).trans τ15k
  refine xj_putF (ty := .array .int) X J fin_M t_M t_M_ok n_M 183 (by omega) o16 rfl 11 (by decide) (List.mem_cons_of_mem _ k_ce250721c2) rfl rfl hnm rfl (by decide +kernel) rfl rfl (Nat.le_of_ble_eq_true rfl) d_SpectrumDeskModel_init_72 (fun H locs J => ?_)
  have J : xJ D classes (xgA z 184 ad) _ ad s.heap (va_up τ16 183 (.inr (ciM, [.ref (ad 184), .ref (ad 185), .ref (ad 186), .ref (ad 187), .int 0, .int (nI 1), .ref (ad 188), .ref (ad 189), .int 0, .ref (ad 190), .int 0, .ref (ad 191), .int 0, .int 0]))) H locs := J
  obtain ⟨τ17, hτ17⟩ : ∃ s9, s9 = va_up τ16 183 (.inr (ciM, [.ref (ad 184), .ref (ad 185), .ref (ad 186), .ref (ad 187), .int 0, .int (nI 1), .ref (ad 188), .ref (ad 189), .int 0, .ref (ad 190), .int 0, .ref (ad 191), .int 0, .int 0])) := ⟨_, rfl⟩
  rw [← hτ17] at J
  have τ17k : τ17 183 = (.inr (ciM, [.ref (ad 184), .ref (ad 185), .ref (ad 186), .ref (ad 187), .int 0, .int (nI 1), .ref (ad 188), .ref (ad 189), .int 0, .ref (ad 190), .int 0, .ref (ad 191), .int 0, .int 0])) := by rw [hτ17]; exact va_up_self _ _ _
  have τ17o : ∀ q, q ≠ 183 → τ17 q = τ16 q := fun q hq => by rw [hτ17]; exact va_up_ne _ _ hq
  clear hτ17
  exact xj_vret X J hr hlk (by decide) (by decide) ⟨fun q hq => ((τ17o q (by omega)).trans ((τ16o q (by omega)).trans ((τ15o q (by omega)).trans ((τ14o q (by omega)).trans ((τ13o q (by omega)).trans ((τ12o q (by omega)).trans ((τ11o q (by omega)).trans ((τ10o q (by omega)).trans ((τ9o q (by omega)).trans ((τ8o q (by omega)).trans ((τ7o q (by omega)).trans ((τ6o q (by omega)).trans ((τ5o q (by omega)).trans ((τ4o q (by omega)).trans ((τ3o q (by omega)).trans ((τ2o q (by omega)).trans (τ1o q (by omega)))))))))))))))))), τ17k, ((τ17o 184 (by decide)).trans ((τ16o 184 (by decide)).trans ((τ15o 184 (by decide)).trans ((τ14o 184 (by decide)).trans ((τ13o 184 (by decide)).trans ((τ12o 184 (by decide)).trans ((τ11o 184 (by decide)).trans ((τ10o 184 (by decide)).trans ((τ9o 184 (by decide)).trans ((τ8o 184 (by decide)).trans ((τ7o 184 (by decide)).trans ((τ6o 184 (by decide)).trans ((τ5o 184 (by decide)).trans ((τ4o 184 (by decide)).trans ((τ3o 184 (by decide)).trans ((τ2o 184 (by decide)).trans τ1k)))))))))))))))), ((τ17o 185 (by decide)).trans ((τ16o 185 (by decide)).trans ((τ15o 185 (by decide)).trans ((τ14o 185 (by decide)).trans ((τ13o 185 (by decide)).trans ((τ12o 185 (by decide)).trans ((τ11o 185 (by decide)).trans ((τ10o 185 (by decide)).trans ((τ9o 185 (by decide)).trans ((τ8o 185 (by decide)).trans ((τ7o 185 (by decide)).trans ((τ6o 185 (by decide)).trans ((τ5o 185 (by decide)).trans ((τ4o 185 (by decide)).trans τ3k)))))))))))))), ((τ17o 186 (by decide)).trans ((τ16o 186 (by decide)).trans ((τ15o 186 (by decide)).trans ((τ14o 186 (by decide)).trans ((τ13o 186 (by decide)).trans ((τ12o 186 (by decide)).trans ((τ11o 186 (by decide)).trans ((τ10o 186 (by decide)).trans ((τ9o 186 (by decide)).trans ((τ8o 186 (by decide)).trans ((τ7o 186 (by decide)).trans ((τ6o 186 (by decide)).trans τ5k)))))))))))), ((τ17o 187 (by decide)).trans ((τ16o 187 (by decide)).trans ((τ15o 187 (by decide)).trans ((τ14o 187 (by decide)).trans ((τ13o 187 (by decide)).trans ((τ12o 187 (by decide)).trans ((τ11o 187 (by decide)).trans ((τ10o 187 (by decide)).trans ((τ9o 187 (by decide)).trans ((τ8o 187 (by decide)).trans τ7k)))))))))), ((τ17o 188 (by decide)).trans ((τ16o 188 (by decide)).trans ((τ15o 188 (by decide)).trans ((τ14o 188 (by decide)).trans ((τ13o 188 (by decide)).trans ((τ12o 188 (by decide)).trans ((τ11o 188 (by decide)).trans τ10k))))))), ((τ17o 189 (by decide)).trans ((τ16o 189 (by decide)).trans ((τ15o 189 (by decide)).trans ((τ14o 189 (by decide)).trans ((τ13o 189 (by decide)).trans τ12k))))), ((τ17o 190 (by decide)).trans ((τ16o 190 (by decide)).trans ((τ15o 190 (by decide)).trans τ14k))), ((τ17o 191 (by decide)).trans τ16k)⟩ d_SpectrumDeskModel_init_75
