/-! the constructors: SpectrumDesk (written by wip/gen) -/
abbrev b_SpectrumDesk_init : ByteArray := prog_1_method_1_code
abbrev y_SpectrumDesk_init : MethodName := ⟨"SpectrumDesk", "<init>", "()V"⟩
abbrev v_SpectrumDesk_init : List Cond := Cond.code y_SpectrumDesk_init b_SpectrumDesk_init 1 none :: AW
theorem d_SpectrumDesk_init_0 : decode b_SpectrumDesk_init 0 = .ok (.aload_n 0, 1) := by decide +kernel
theorem d_SpectrumDesk_init_1 : decode b_SpectrumDesk_init 1 = .ok (.invokespecial 1, 3) := by decide +kernel
theorem d_SpectrumDesk_init_4 : decode b_SpectrumDesk_init 4 = .ok (.aload_n 0, 1) := by decide +kernel
theorem d_SpectrumDesk_init_5 : decode b_SpectrumDesk_init 5 = .ok (.bipush (6), 2) := by decide +kernel
theorem d_SpectrumDesk_init_7 : decode b_SpectrumDesk_init 7 = .ok (.bipush (6), 2) := by decide +kernel
theorem d_SpectrumDesk_init_9 : decode b_SpectrumDesk_init 9 = .ok (.multianewarray 9 2, 4) := by decide +kernel
theorem d_SpectrumDesk_init_13 : decode b_SpectrumDesk_init 13 = .ok (.putfield 11, 3) := by decide +kernel
theorem d_SpectrumDesk_init_16 : decode b_SpectrumDesk_init 16 = .ok (.aload_n 0, 1) := by decide +kernel
theorem d_SpectrumDesk_init_17 : decode b_SpectrumDesk_init 17 = .ok (.bipush (6), 2) := by decide +kernel
theorem d_SpectrumDesk_init_19 : decode b_SpectrumDesk_init 19 = .ok (.newarray .int, 2) := by decide +kernel
theorem d_SpectrumDesk_init_21 : decode b_SpectrumDesk_init 21 = .ok (.putfield 14, 3) := by decide +kernel
theorem d_SpectrumDesk_init_24 : decode b_SpectrumDesk_init 24 = .ok (.aload_n 0, 1) := by decide +kernel
theorem d_SpectrumDesk_init_25 : decode b_SpectrumDesk_init 25 = .ok (.new 18, 3) := by decide +kernel
theorem d_SpectrumDesk_init_28 : decode b_SpectrumDesk_init 28 = .ok (.dup, 1) := by decide +kernel
theorem d_SpectrumDesk_init_29 : decode b_SpectrumDesk_init 29 = .ok (.invokespecial 20, 3) := by decide +kernel
theorem d_SpectrumDesk_init_32 : decode b_SpectrumDesk_init 32 = .ok (.putfield 21, 3) := by decide +kernel
theorem d_SpectrumDesk_init_35 : decode b_SpectrumDesk_init 35 = .ok (.aload_n 0, 1) := by decide +kernel
theorem d_SpectrumDesk_init_36 : decode b_SpectrumDesk_init 36 = .ok (.new 25, 3) := by decide +kernel
theorem d_SpectrumDesk_init_39 : decode b_SpectrumDesk_init 39 = .ok (.dup, 1) := by decide +kernel
theorem d_SpectrumDesk_init_40 : decode b_SpectrumDesk_init 40 = .ok (.invokespecial 27, 3) := by decide +kernel
theorem d_SpectrumDesk_init_43 : decode b_SpectrumDesk_init 43 = .ok (.putfield 28, 3) := by decide +kernel
theorem d_SpectrumDesk_init_46 : decode b_SpectrumDesk_init 46 = .ok (.aload_n 0, 1) := by decide +kernel
theorem d_SpectrumDesk_init_47 : decode b_SpectrumDesk_init 47 = .ok (.new 32, 3) := by decide +kernel
theorem d_SpectrumDesk_init_50 : decode b_SpectrumDesk_init 50 = .ok (.dup, 1) := by decide +kernel
theorem d_SpectrumDesk_init_51 : decode b_SpectrumDesk_init 51 = .ok (.invokespecial 34, 3) := by decide +kernel
theorem d_SpectrumDesk_init_54 : decode b_SpectrumDesk_init 54 = .ok (.putfield 35, 3) := by decide +kernel
theorem d_SpectrumDesk_init_57 : decode b_SpectrumDesk_init 57 = .ok (.aload_n 0, 1) := by decide +kernel
theorem d_SpectrumDesk_init_58 : decode b_SpectrumDesk_init 58 = .ok (.iconst 1, 1) := by decide +kernel
theorem d_SpectrumDesk_init_59 : decode b_SpectrumDesk_init 59 = .ok (.putfield 39, 3) := by decide +kernel
theorem d_SpectrumDesk_init_62 : decode b_SpectrumDesk_init 62 = .ok (.aload_n 0, 1) := by decide +kernel
theorem d_SpectrumDesk_init_63 : decode b_SpectrumDesk_init 63 = .ok (.iconst 1, 1) := by decide +kernel
theorem d_SpectrumDesk_init_64 : decode b_SpectrumDesk_init 64 = .ok (.putfield 43, 3) := by decide +kernel
theorem d_SpectrumDesk_init_67 : decode b_SpectrumDesk_init 67 = .ok (.return_, 1) := by decide +kernel
theorem k_56c2b84eb5 : (Jvm.Cond.methodLink "SpectrumDesk" (1 : Nat) ({ cls := "java/lang/Object", name := "<init>", desc := "()V" } : Jvm.MethodName)) ∈ AW := aw_1 (List.mem_of_getElem? (i := 32) (by decide +kernel)) (by decide +kernel)
theorem k_090799d7d8 : (Jvm.Cond.classLink "SpectrumDesk" (9 : Nat) "[[I") ∈ AW := aw_1 (List.mem_of_getElem? (i := 35) (by decide +kernel)) (by decide +kernel)
theorem k_137c527007 : (Jvm.Cond.classLink "SpectrumDesk" (18 : Nat) "SpectrumDesk$Sums") ∈ AW := aw_1 (List.mem_of_getElem? (i := 37) (by decide +kernel)) (by decide +kernel)
theorem k_4f82464d2f : (Jvm.Cond.instantiable "SpectrumDesk$Sums" (3 : Nat)) ∈ AW := aw_1 (List.mem_of_getElem? (i := 38) (by decide +kernel)) (by decide +kernel)
theorem k_238bc418ac : (Jvm.Cond.initialized "SpectrumDesk$Sums") ∈ AW := aw_1 (List.mem_of_getElem? (i := 2) (by decide +kernel)) (by decide +kernel)
theorem k_250fd9e97e : (Jvm.Cond.methodLink "SpectrumDesk" (20 : Nat) ({ cls := "SpectrumDesk$Sums", name := "<init>", desc := "()V" } : Jvm.MethodName)) ∈ AW := aw_1 (List.mem_of_getElem? (i := 39) (by decide +kernel)) (by decide +kernel)
theorem k_d79ab072cf : (Jvm.Cond.instanceMethod ({ cls := "SpectrumDesk$Sums", name := "<init>", desc := "()V" } : Jvm.MethodName)) ∈ AW := aw_1 (List.mem_of_getElem? (i := 40) (by decide +kernel)) (by decide +kernel)
theorem k_75c40e1cfe : (Jvm.Cond.classLink "SpectrumDesk" (25 : Nat) "SpectrumDesk$Spectrum") ∈ AW := aw_1 (List.mem_of_getElem? (i := 56) (by decide +kernel)) (by decide +kernel)
theorem k_c402d18932 : (Jvm.Cond.instantiable "SpectrumDesk$Spectrum" (14 : Nat)) ∈ AW := aw_1 (List.mem_of_getElem? (i := 57) (by decide +kernel)) (by decide +kernel)
theorem k_5579682778 : (Jvm.Cond.initialized "SpectrumDesk$Spectrum") ∈ AW := aw_1 (List.mem_of_getElem? (i := 3) (by decide +kernel)) (by decide +kernel)
theorem k_555d01fb47 : (Jvm.Cond.methodLink "SpectrumDesk" (27 : Nat) ({ cls := "SpectrumDesk$Spectrum", name := "<init>", desc := "()V" } : Jvm.MethodName)) ∈ AW := aw_1 (List.mem_of_getElem? (i := 58) (by decide +kernel)) (by decide +kernel)
theorem k_849e086ea1 : (Jvm.Cond.instanceMethod ({ cls := "SpectrumDesk$Spectrum", name := "<init>", desc := "()V" } : Jvm.MethodName)) ∈ AW := aw_1 (List.mem_of_getElem? (i := 59) (by decide +kernel)) (by decide +kernel)
theorem k_cabb8a91b9 : (Jvm.Cond.classLink "SpectrumDesk" (32 : Nat) "SpectrumDesk$Printer") ∈ AW := aw_1 (List.mem_of_getElem? (i := 179) (by decide +kernel)) (by decide +kernel)
theorem k_32a584a418 : (Jvm.Cond.instantiable "SpectrumDesk$Printer" (4 : Nat)) ∈ AW := aw_1 (List.mem_of_getElem? (i := 180) (by decide +kernel)) (by decide +kernel)
theorem k_889d563cd1 : (Jvm.Cond.initialized "SpectrumDesk$Printer") ∈ AW := aw_1 (List.mem_of_getElem? (i := 9) (by decide +kernel)) (by decide +kernel)
theorem k_860050b1ce : (Jvm.Cond.methodLink "SpectrumDesk" (34 : Nat) ({ cls := "SpectrumDesk$Printer", name := "<init>", desc := "()V" } : Jvm.MethodName)) ∈ AW := aw_1 (List.mem_of_getElem? (i := 181) (by decide +kernel)) (by decide +kernel)
theorem k_a13c1fe176 : (Jvm.Cond.instanceMethod ({ cls := "SpectrumDesk$Printer", name := "<init>", desc := "()V" } : Jvm.MethodName)) ∈ AW := aw_1 (List.mem_of_getElem? (i := 182) (by decide +kernel)) (by decide +kernel)
theorem k_e0e567d54b : (Jvm.Cond.code ({ cls := "SpectrumDesk", name := "<init>", desc := "()V" } : Jvm.MethodName) prog_1_method_1_code (1 : Nat) (Option.none : Option Jvm.ClassFile.FieldType)) ∈ AW := aw_1 (List.mem_of_getElem? (i := 31) (by decide +kernel)) (by decide +kernel)
set_option maxHeartbeats 4000000 in
set_option maxRecDepth 100000 in
theorem c_SpectrumDesk_init {l : Launch} {D : va_G} {cI cJ cZ cC cG cP : ClassId} {z N : Nat} {ad : Nat → Nat} {σ : Nat → va_E} (had : ∀ k, ad k = z + k) (hNi : N = 1) (ho : σ 0 = .inr (ciS, [.null, .null, .null, .null, .null, .int 0, .int 0])) :
    Met l y_SpectrumDesk_init v_SpectrumDesk_init { frames := 4, cells := 182, slots := 2231, locals := 256 } (va_Pc [.ref (ad 0)] (xG D classes (xT cI cJ cZ cC cG cP) z N ad σ)) (va_Qv (fun σ2 => σ2 0 = .inr (ciS, dF0 ad 1 (nI 1)) ∧ mat ad cI cG σ2 1 2 (fun _ _ => 0) ∧ dkR ad cI cC cG σ2 0 (fun _ => 0) (fun _ _ => 0) 0 (fun _ => 0) ∧ spZ ad cI cG cP σ2 ∧ spN ad cI cJ cZ cG σ2) (xS D classes (xT cI cJ cZ cC cG cP) (183) ad) (xgA z N ad)) (182) (2231) (xgA z N ad) := by
  subst hNi
  refine xj_met rfl (Nat.le_of_ble_eq_true rfl) ?_
  intro p e s m args below meth c ls hx hb X hr hlk hnm hl hao hz0 J
  have hA : ∀ q, s.heap.size ≤ q → xgA z 1 ad q := fun q hq => Or.inr (by omega)
  have hl : lv_has ls 1 [(0, .ref (ad 0))] := hl
  refine lv_aload_n hx hb d_SpectrumDesk_init_0 rfl (lv_at hl 0 rfl) ?_
  refine xj_obj X hl.1 (List.mem_cons_of_mem _ k_56c2b84eb5) (List.mem_cons_of_mem _ k_739ca49096) (List.mem_cons_of_mem _ k_539172dd6b) (Nat.le_of_ble_eq_true rfl) (Nat.le_of_ble_eq_true rfl) d_SpectrumDesk_init_1 ?_
  refine lv_aload_n hx hb d_SpectrumDesk_init_4 rfl (lv_at hl 0 rfl) ?_
  refine lv_bipush (v := nI 6) hx hb d_SpectrumDesk_init_5 (by decide) ?_
  refine lv_bipush (v := nI 6) hx hb d_SpectrumDesk_init_7 (by decide) ?_
  refine xj_mna X J had hA (by omega) (by omega) (by rw [show "[" ++ (FieldType.array .int).toString = "[[I" by decide +kernel]; exact (List.mem_cons_of_mem _ k_090799d7d8)) hao.1 (List.mem_cons_of_mem _ k_f07bdf5106) 0 4 rfl rfl (n := 6) (k := 6) (by omega) (by omega) (show 0 + (1 + 6) ≤ 182 by decide) (show 0 + (6 + 6 * 6) ≤ 2231 by decide) d_SpectrumDesk_init_9 (fun H σ1 σ1o σ1c σ1r J => ?_)
  have e0 := (σ1o 0 (by decide)).trans ho
  refine xj_putF (ty := .array (.array .int)) X J fin_S t_S t_S_ok n_S 0 (by omega) e0 rfl 0 (by decide) (List.mem_cons_of_mem _ k_c7908b049a) rfl rfl hnm rfl (by decide +kernel) rfl rfl (Nat.le_of_ble_eq_true rfl) d_SpectrumDesk_init_13 (fun H locs J => ?_)
  have J : xJ D classes (xgA z 1 ad) _ ad s.heap (va_up σ1 0 (.inr (ciS, [.ref (ad 1), .null, .null, .null, .null, .int 0, .int 0]))) H locs := J
  obtain ⟨σ2, hσ2⟩ : ∃ s9, s9 = va_up σ1 0 (.inr (ciS, [.ref (ad 1), .null, .null, .null, .null, .int 0, .int 0])) := ⟨_, rfl⟩
  rw [← hσ2] at J
  have σ2k : σ2 0 = (.inr (ciS, [.ref (ad 1), .null, .null, .null, .null, .int 0, .int 0])) := by rw [hσ2]; exact va_up_self _ _ _
  have σ2o : ∀ q, q ≠ 0 → σ2 q = σ1 q := fun q hq => by rw [hσ2]; exact va_up_ne _ _ hq
  clear hσ2
  have mA : mat ad cI cG σ2 1 2 (fun _ _ => 0) := ⟨(σ2o 1 (by decide)).trans σ1c, fun k hk => (σ2o (2 + k) (by omega)).trans (σ1r k hk)⟩
  refine lv_aload_n hx hb d_SpectrumDesk_init_16 rfl (lv_at hl 0 rfl) ?_
  refine lv_bipush (v := nI 6) hx hb d_SpectrumDesk_init_17 (by decide) ?_
  refine xj_newa (atype := .int) X J had hA (by omega) (by omega) (List.mem_cons_of_mem _ k_f07bdf5106) 0 rfl (n := 6) (a0 := (6, .inl (fun _ => 0))) (fun _ => rfl) (by omega) (by show 6 * 4 ≤ 536870912; omega) (show 0 + 1 + 6 + 1 ≤ 182 by decide) (show 0 + 6 + 6 * 6 + 6 ≤ 2231 by decide) d_SpectrumDesk_init_19 (fun H J => ?_)
  obtain ⟨σ3, hσ3⟩ : ∃ s9, s9 = va_up σ2 8 (.inl (cI, 6, .inl (fun _ => 0))) := ⟨_, rfl⟩
  rw [← hσ3] at J
  have σ3k : σ3 8 = (.inl (cI, 6, .inl (fun _ => 0))) := by rw [hσ3]; exact va_up_self _ _ _
  have σ3o : ∀ q, q ≠ 8 → σ3 q = σ2 q := fun q hq => by rw [hσ3]; exact va_up_ne _ _ hq
  clear hσ3
  have e0 := (σ3o 0 (by decide)).trans σ2k
  have mA := mat_same mA (σ3o 1 (by decide)) (fun q h1 h2 => σ3o q (by omega))
  refine xj_putF (ty := .array .int) X J fin_S t_S t_S_ok n_S 0 (by omega) e0 rfl 1 (by decide) (List.mem_cons_of_mem _ k_64125c4ddc) rfl rfl hnm rfl (by decide +kernel) rfl rfl (Nat.le_of_ble_eq_true rfl) d_SpectrumDesk_init_21 (fun H locs J => ?_)
  have J : xJ D classes (xgA z 1 ad) _ ad s.heap (va_up σ3 0 (.inr (ciS, [.ref (ad 1), .ref (ad 8), .null, .null, .null, .int 0, .int 0]))) H locs := J
  obtain ⟨σ4, hσ4⟩ : ∃ s9, s9 = va_up σ3 0 (.inr (ciS, [.ref (ad 1), .ref (ad 8), .null, .null, .null, .int 0, .int 0])) := ⟨_, rfl⟩
  rw [← hσ4] at J
  have σ4k : σ4 0 = (.inr (ciS, [.ref (ad 1), .ref (ad 8), .null, .null, .null, .int 0, .int 0])) := by rw [hσ4]; exact va_up_self _ _ _
  have σ4o : ∀ q, q ≠ 0 → σ4 q = σ3 q := fun q hq => by rw [hσ4]; exact va_up_ne _ _ hq
  clear hσ4
  have mA := mat_same mA (σ4o 1 (by decide)) (fun q h1 h2 => σ4o q (by omega))
  have e8 := (σ4o 8 (by decide)).trans σ3k
  have e0 := σ4k
  refine lv_aload_n hx hb d_SpectrumDesk_init_24 rfl (lv_at hl 0 rfl) ?_
  refine xj_new X J had hA (by omega) (by omega) fin_U t_U t_U_ok (List.mem_cons_of_mem _ k_137c527007) (List.mem_cons_of_mem _ k_4f82464d2f) (List.mem_cons_of_mem _ k_238bc418ac) (ci := ciU) rfl (fs := [.null, .null, .int 0]) (by decide +kernel) (show 0 + 1 + 6 + 1 + 1 ≤ 182 by decide) (show 0 + 6 + 6 * 6 + 6 + 3 ≤ 2231 by decide) d_SpectrumDesk_init_25 (fun H J => ?_)
  obtain ⟨σU, hσU⟩ : ∃ s9, s9 = va_up σ4 9 (.inr (ciU, [.null, .null, .int 0])) := ⟨_, rfl⟩
  rw [← hσU] at J
  have σUk : σU 9 = (.inr (ciU, [.null, .null, .int 0])) := by rw [hσU]; exact va_up_self _ _ _
  have σUo : ∀ q, q ≠ 9 → σU q = σ4 q := fun q hq => by rw [hσU]; exact va_up_ne _ _ hq
  clear hσU
  refine lv_dup hx hb d_SpectrumDesk_init_28 rfl ?_
  refine xj_W fun hle => ?_
  have hH9 := xJ_size had J (by omega) (by omega)
  refine xj_callg had hA hH9 (xj_runI (rm := { frames := 1, cells := 8, slots := 48, locals := 64 }) (n := 0) (As := []) (rest := [.ref (ad 9), .ref (ad 0)]) X J hH9 hao (c_Sums_init had rfl σUk) (xg k_f618a694ad) (List.mem_cons_of_mem _ k_250fd9e97e) (List.mem_cons_of_mem _ k_d79ab072cf) (List.mem_cons_of_mem _ k_9f148695dd) rfl rfl rfl (by decide +kernel) (by decide) rfl hl.1 rfl (Nat.le_of_ble_eq_true rfl) d_SpectrumDesk_init_29 ⟨(show 0 + 1 + 6 + 1 + 1 + 8 ≤ 182 by decide), (show 0 + 6 + 6 * 6 + 6 + 3 + 48 ≤ 2231 by decide)⟩) J (fun σUp H locs hp J => ?_)
  obtain ⟨gU, e9, e10, m11⟩ := hp
  have mA := mat_same mA ((gU 1 (by omega)).trans (σUo 1 (by omega))) (fun q h1 h2 => ((gU q (by omega)).trans (σUo q (by omega))))
  have e8 := ((gU 8 (by omega)).trans (σUo 8 (by omega))).trans e8
  have e0 := ((gU 0 (by omega)).trans (σUo 0 (by omega))).trans e0
  refine xj_putF (ty := .object "SpectrumDesk$Sums") X J fin_S t_S t_S_ok n_S 0 (by omega) e0 rfl 2 (by decide) (List.mem_cons_of_mem _ k_b8173ba267) rfl rfl hnm rfl (by decide +kernel) rfl rfl (Nat.le_of_ble_eq_true rfl) d_SpectrumDesk_init_32 (fun H locs J => ?_)
  have J : xJ D classes (xgA z 1 ad) _ ad s.heap (va_up σUp 0 (.inr (ciS, [.ref (ad 1), .ref (ad 8), .ref (ad 9), .null, .null, .int 0, .int 0]))) H locs := J
  obtain ⟨σUq, hσUq⟩ : ∃ s9, s9 = va_up σUp 0 (.inr (ciS, [.ref (ad 1), .ref (ad 8), .ref (ad 9), .null, .null, .int 0, .int 0])) := ⟨_, rfl⟩
  rw [← hσUq] at J
  have σUqk : σUq 0 = (.inr (ciS, [.ref (ad 1), .ref (ad 8), .ref (ad 9), .null, .null, .int 0, .int 0])) := by rw [hσUq]; exact va_up_self _ _ _
  have σUqo : ∀ q, q ≠ 0 → σUq q = σUp q := fun q hq => by rw [hσUq]; exact va_up_ne _ _ hq
  clear hσUq
  have mA := mat_same mA (σUqo 1 (by omega)) (fun q h1 h2 => (σUqo q (by omega)))
  have e8 := (σUqo 8 (by omega)).trans e8
  have e9 := (σUqo 9 (by omega)).trans e9
  have e10 := (σUqo 10 (by omega)).trans e10
  have m11 := mat_same m11 (σUqo 11 (by omega)) (fun q h1 h2 => (σUqo q (by omega)))
  have e0 := σUqk
  refine lv_aload_n hx hb d_SpectrumDesk_init_35 rfl (lv_at hl 0 rfl) ?_
  refine xj_new X J had hA (by omega) (by omega) fin_E t_E t_E_ok (List.mem_cons_of_mem _ k_75c40e1cfe) (List.mem_cons_of_mem _ k_c402d18932) (List.mem_cons_of_mem _ k_5579682778) (ci := ciE) rfl (fs := [.null, .null, .null, .null, .null, .null, .null, .null, .null, .null, .int 0, .int 0, .int 0, .long 0]) (by decide +kernel) (show 0 + 1 + 6 + 1 + 1 + 8 + 1 ≤ 182 by decide) (show 0 + 6 + 6 * 6 + 6 + 3 + 48 + 14 ≤ 2231 by decide) d_SpectrumDesk_init_36 (fun H J => ?_)
  obtain ⟨σE, hσE⟩ : ∃ s9, s9 = va_up σUq 18 (.inr (ciE, [.null, .null, .null, .null, .null, .null, .null, .null, .null, .null, .int 0, .int 0, .int 0, .long 0])) := ⟨_, rfl⟩
  rw [← hσE] at J
  have σEk : σE 18 = (.inr (ciE, [.null, .null, .null, .null, .null, .null, .null, .null, .null, .null, .int 0, .int 0, .int 0, .long 0])) := by rw [hσE]; exact va_up_self _ _ _
  have σEo : ∀ q, q ≠ 18 → σE q = σUq q := fun q hq => by rw [hσE]; exact va_up_ne _ _ hq
  clear hσE
  refine lv_dup hx hb d_SpectrumDesk_init_39 rfl ?_
  refine xj_W fun hle => ?_
  have hH9 := xJ_size had J (by omega) (by omega)
  refine xj_callg had hA hH9 (xj_runI (rm := { frames := 3, cells := 160, slots := 1987, locals := 192 }) (n := 0) (As := []) (rest := [.ref (ad 18), .ref (ad 0)]) X J hH9 hao (c_Spectrum_init had rfl σEk) (xg k_316403286a) (List.mem_cons_of_mem _ k_555d01fb47) (List.mem_cons_of_mem _ k_849e086ea1) (List.mem_cons_of_mem _ k_c663d572ae) rfl rfl rfl (by decide +kernel) (by decide) rfl hl.1 rfl (Nat.le_of_ble_eq_true rfl) d_SpectrumDesk_init_40 ⟨(show 0 + 1 + 6 + 1 + 1 + 8 + 1 + 160 ≤ 182 by decide), (show 0 + 6 + 6 * 6 + 6 + 3 + 48 + 14 + 1987 ≤ 2231 by decide)⟩) J (fun σEp H locs hp J => ?_)
  obtain ⟨gE, sZ, sN⟩ := hp
  have mA := mat_same mA ((gE 1 (by omega)).trans (σEo 1 (by omega))) (fun q h1 h2 => ((gE q (by omega)).trans (σEo q (by omega))))
  have e8 := ((gE 8 (by omega)).trans (σEo 8 (by omega))).trans e8
  have e9 := ((gE 9 (by omega)).trans (σEo 9 (by omega))).trans e9
  have e10 := ((gE 10 (by omega)).trans (σEo 10 (by omega))).trans e10
  have m11 := mat_same m11 ((gE 11 (by omega)).trans (σEo 11 (by omega))) (fun q h1 h2 => ((gE q (by omega)).trans (σEo q (by omega))))
  have e0 := ((gE 0 (by omega)).trans (σEo 0 (by omega))).trans e0
  refine xj_putF (ty := .object "SpectrumDesk$Spectrum") X J fin_S t_S t_S_ok n_S 0 (by omega) e0 rfl 3 (by decide) (List.mem_cons_of_mem _ k_e7657df075) rfl rfl hnm rfl (by decide +kernel) rfl rfl (Nat.le_of_ble_eq_true rfl) d_SpectrumDesk_init_43 (fun H locs J => ?_)
  have J : xJ D classes (xgA z 1 ad) _ ad s.heap (va_up σEp 0 (.inr (ciS, [.ref (ad 1), .ref (ad 8), .ref (ad 9), .ref (ad 18), .null, .int 0, .int 0]))) H locs := J
  obtain ⟨σEq, hσEq⟩ : ∃ s9, s9 = va_up σEp 0 (.inr (ciS, [.ref (ad 1), .ref (ad 8), .ref (ad 9), .ref (ad 18), .null, .int 0, .int 0])) := ⟨_, rfl⟩
  rw [← hσEq] at J
  have σEqk : σEq 0 = (.inr (ciS, [.ref (ad 1), .ref (ad 8), .ref (ad 9), .ref (ad 18), .null, .int 0, .int 0])) := by rw [hσEq]; exact va_up_self _ _ _
  have σEqo : ∀ q, q ≠ 0 → σEq q = σEp q := fun q hq => by rw [hσEq]; exact va_up_ne _ _ hq
  clear hσEq
  have mA := mat_same mA (σEqo 1 (by omega)) (fun q h1 h2 => (σEqo q (by omega)))
  have e8 := (σEqo 8 (by omega)).trans e8
  have e9 := (σEqo 9 (by omega)).trans e9
  have e10 := (σEqo 10 (by omega)).trans e10
  have m11 := mat_same m11 (σEqo 11 (by omega)) (fun q h1 h2 => (σEqo q (by omega)))
  have sZ := spZ_all sZ (fun q h1 h2 => (σEqo q (by omega)))
  have sN := spN_all sN (fun q h1 h2 => (σEqo q (by omega)))
  have e0 := σEqk
  refine lv_aload_n hx hb d_SpectrumDesk_init_46 rfl (lv_at hl 0 rfl) ?_
  refine xj_new X J had hA (by omega) (by omega) fin_R t_R t_R_ok (List.mem_cons_of_mem _ k_cabb8a91b9) (List.mem_cons_of_mem _ k_32a584a418) (List.mem_cons_of_mem _ k_889d563cd1) (ci := ciR) rfl (fs := [.null, .null, .null, .int 0]) (by decide +kernel) (show 0 + 1 + 6 + 1 + 1 + 8 + 1 + 160 + 1 ≤ 182 by decide) (show 0 + 6 + 6 * 6 + 6 + 3 + 48 + 14 + 1987 + 4 ≤ 2231 by decide) d_SpectrumDesk_init_47 (fun H J => ?_)
  obtain ⟨σR, hσR⟩ : ∃ s9, s9 = va_up σEq 179 (.inr (ciR, [.null, .null, .null, .int 0])) := ⟨_, rfl⟩
  rw [← hσR] at J
  have σRk : σR 179 = (.inr (ciR, [.null, .null, .null, .int 0])) := by rw [hσR]; exact va_up_self _ _ _
  have σRo : ∀ q, q ≠ 179 → σR q = σEq q := fun q hq => by rw [hσR]; exact va_up_ne _ _ hq
  clear hσR
  refine lv_dup hx hb d_SpectrumDesk_init_50 rfl ?_
  refine xj_W fun hle => ?_
  have hH9 := xJ_size had J (by omega) (by omega)
  refine xj_callg had hA hH9 (xj_runI (rm := { frames := 1, cells := 3, slots := 127, locals := 64 }) (n := 0) (As := []) (rest := [.ref (ad 179), .ref (ad 0)]) X J hH9 hao (c_Printer_init had rfl σRk) (xg k_59f44ff99f) (List.mem_cons_of_mem _ k_860050b1ce) (List.mem_cons_of_mem _ k_a13c1fe176) (List.mem_cons_of_mem _ k_b565313e6f) rfl rfl rfl (by decide +kernel) (by decide) rfl hl.1 rfl (Nat.le_of_ble_eq_true rfl) d_SpectrumDesk_init_51 ⟨(show 0 + 1 + 6 + 1 + 1 + 8 + 1 + 160 + 1 + 3 ≤ 182 by decide), (show 0 + 6 + 6 * 6 + 6 + 3 + 48 + 14 + 1987 + 4 + 127 ≤ 2231 by decide)⟩) J (fun σRp H locs hp J => ?_)
  obtain ⟨gR, e179, e180, e181, e182⟩ := hp
  have mA := mat_same mA ((gR 1 (by omega)).trans (σRo 1 (by omega))) (fun q h1 h2 => ((gR q (by omega)).trans (σRo q (by omega))))
  have e8 := ((gR 8 (by omega)).trans (σRo 8 (by omega))).trans e8
  have e9 := ((gR 9 (by omega)).trans (σRo 9 (by omega))).trans e9
  have e10 := ((gR 10 (by omega)).trans (σRo 10 (by omega))).trans e10
  have m11 := mat_same m11 ((gR 11 (by omega)).trans (σRo 11 (by omega))) (fun q h1 h2 => ((gR q (by omega)).trans (σRo q (by omega))))
  have sZ := spZ_all sZ (fun q h1 h2 => ((gR q (by omega)).trans (σRo q (by omega))))
  have sN := spN_all sN (fun q h1 h2 => ((gR q (by omega)).trans (σRo q (by omega))))
  have e0 := ((gR 0 (by omega)).trans (σRo 0 (by omega))).trans e0
  refine xj_putF (ty := .object "SpectrumDesk$Printer") X J fin_S t_S t_S_ok n_S 0 (by omega) e0 rfl 4 (by decide) (List.mem_cons_of_mem _ k_01728a6d8c) rfl rfl hnm rfl (by decide +kernel) rfl rfl (Nat.le_of_ble_eq_true rfl) d_SpectrumDesk_init_54 (fun H locs J => ?_)
  have J : xJ D classes (xgA z 1 ad) _ ad s.heap (va_up σRp 0 (.inr (ciS, [.ref (ad 1), .ref (ad 8), .ref (ad 9), .ref (ad 18), .ref (ad 179), .int 0, .int 0]))) H locs := J
  obtain ⟨σRq, hσRq⟩ : ∃ s9, s9 = va_up σRp 0 (.inr (ciS, [.ref (ad 1), .ref (ad 8), .ref (ad 9), .ref (ad 18), .ref (ad 179), .int 0, .int 0])) := ⟨_, rfl⟩
  rw [← hσRq] at J
  have σRqk : σRq 0 = (.inr (ciS, [.ref (ad 1), .ref (ad 8), .ref (ad 9), .ref (ad 18), .ref (ad 179), .int 0, .int 0])) := by rw [hσRq]; exact va_up_self _ _ _
  have σRqo : ∀ q, q ≠ 0 → σRq q = σRp q := fun q hq => by rw [hσRq]; exact va_up_ne _ _ hq
  clear hσRq
  have mA := mat_same mA (σRqo 1 (by omega)) (fun q h1 h2 => (σRqo q (by omega)))
  have e8 := (σRqo 8 (by omega)).trans e8
  have e9 := (σRqo 9 (by omega)).trans e9
  have e10 := (σRqo 10 (by omega)).trans e10
  have m11 := mat_same m11 (σRqo 11 (by omega)) (fun q h1 h2 => (σRqo q (by omega)))
  have sZ := spZ_all sZ (fun q h1 h2 => (σRqo q (by omega)))
  have sN := spN_all sN (fun q h1 h2 => (σRqo q (by omega)))
  have e179 := (σRqo 179 (by omega)).trans e179
  have e180 := (σRqo 180 (by omega)).trans e180
  have e181 := (σRqo 181 (by omega)).trans e181
  have e182 := (σRqo 182 (by omega)).trans e182
  have e0 := σRqk
  refine lv_aload_n hx hb d_SpectrumDesk_init_57 rfl (lv_at hl 0 rfl) ?_
  refine lv_iconst (v := nI 1) hx hb d_SpectrumDesk_init_58 (by decide) ?_
  refine xj_put (ty := .int) X J fin_S t_S t_S_ok n_S 0 (by omega) e0 rfl 5 (by decide) (List.mem_cons_of_mem _ k_7fc62aa415) rfl rfl (by decide +kernel) rfl rfl (Nat.le_of_ble_eq_true rfl) d_SpectrumDesk_init_59 (fun H locs J => ?_)
  have J : xJ D classes (xgA z 1 ad) _ ad s.heap (va_up σRq 0 (.inr (ciS, [.ref (ad 1), .ref (ad 8), .ref (ad 9), .ref (ad 18), .ref (ad 179), .int (nI 1), .int 0]))) H locs := J
  obtain ⟨σx, hσx⟩ : ∃ s9, s9 = va_up σRq 0 (.inr (ciS, [.ref (ad 1), .ref (ad 8), .ref (ad 9), .ref (ad 18), .ref (ad 179), .int (nI 1), .int 0])) := ⟨_, rfl⟩
  rw [← hσx] at J
  have σxk : σx 0 = (.inr (ciS, [.ref (ad 1), .ref (ad 8), .ref (ad 9), .ref (ad 18), .ref (ad 179), .int (nI 1), .int 0])) := by rw [hσx]; exact va_up_self _ _ _
  have σxo : ∀ q, q ≠ 0 → σx q = σRq q := fun q hq => by rw [hσx]; exact va_up_ne _ _ hq
  clear hσx
  have mA := mat_same mA (σxo 1 (by omega)) (fun q h1 h2 => (σxo q (by omega)))
  have e8 := (σxo 8 (by omega)).trans e8
  have e9 := (σxo 9 (by omega)).trans e9
  have e10 := (σxo 10 (by omega)).trans e10
  have m11 := mat_same m11 (σxo 11 (by omega)) (fun q h1 h2 => (σxo q (by omega)))
  have sZ := spZ_all sZ (fun q h1 h2 => (σxo q (by omega)))
  have sN := spN_all sN (fun q h1 h2 => (σxo q (by omega)))
  have e179 := (σxo 179 (by omega)).trans e179
  have e180 := (σxo 180 (by omega)).trans e180
  have e181 := (σxo 181 (by omega)).trans e181
  have e182 := (σxo 182 (by omega)).trans e182
  have e0 := σxk
  refine lv_aload_n hx hb d_SpectrumDesk_init_62 rfl (lv_at hl 0 rfl) ?_
  refine lv_iconst (v := nI 1) hx hb d_SpectrumDesk_init_63 (by decide) ?_
  refine xj_put (ty := .boolean) X J fin_S t_S t_S_ok n_S 0 (by omega) e0 rfl 6 (by decide) (List.mem_cons_of_mem _ k_96c8c183a8) rfl rfl (by decide +kernel) rfl rfl (Nat.le_of_ble_eq_true rfl) d_SpectrumDesk_init_64 (fun H locs J => ?_)
  have J : xJ D classes (xgA z 1 ad) _ ad s.heap (va_up σx 0 (.inr (ciS, [.ref (ad 1), .ref (ad 8), .ref (ad 9), .ref (ad 18), .ref (ad 179), .int (nI 1), .int (nI 1)]))) H locs := J
  obtain ⟨σy, hσy⟩ : ∃ s9, s9 = va_up σx 0 (.inr (ciS, [.ref (ad 1), .ref (ad 8), .ref (ad 9), .ref (ad 18), .ref (ad 179), .int (nI 1), .int (nI 1)])) := ⟨_, rfl⟩
  rw [← hσy] at J
  have σyk : σy 0 = (.inr (ciS, [.ref (ad 1), .ref (ad 8), .ref (ad 9), .ref (ad 18), .ref (ad 179), .int (nI 1), .int (nI 1)])) := by rw [hσy]; exact va_up_self _ _ _
  have σyo : ∀ q, q ≠ 0 → σy q = σx q := fun q hq => by rw [hσy]; exact va_up_ne _ _ hq
  clear hσy
  have mA := mat_same mA (σyo 1 (by omega)) (fun q h1 h2 => (σyo q (by omega)))
  have e8 := (σyo 8 (by omega)).trans e8
  have e9 := (σyo 9 (by omega)).trans e9
  have e10 := (σyo 10 (by omega)).trans e10
  have m11 := mat_same m11 (σyo 11 (by omega)) (fun q h1 h2 => (σyo q (by omega)))
  have sZ := spZ_all sZ (fun q h1 h2 => (σyo q (by omega)))
  have sN := spN_all sN (fun q h1 h2 => (σyo q (by omega)))
  have e179 := (σyo 179 (by omega)).trans e179
  have e180 := (σyo 180 (by omega)).trans e180
  have e181 := (σyo 181 (by omega)).trans e181
  have e182 := (σyo 182 (by omega)).trans e182
  have e0 := σyk
  exact xj_vret X J hr hlk (by decide) (by decide) ⟨e0, mA, ⟨⟨_, e8⟩, e9, e10, m11, e179, e180, ⟨_, e181⟩, _, e182⟩, sZ, sN⟩ d_SpectrumDesk_init_67
