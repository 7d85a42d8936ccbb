/-! the constructors: SpectrumDesk$Polynomial (written by wip/gen) -/
abbrev b_Polynomial_init : ByteArray := prog_5_method_1_code
abbrev y_Polynomial_init : MethodName := ⟨"SpectrumDesk$Polynomial", "<init>", "(I)V"⟩
abbrev v_Polynomial_init : List Cond := Cond.code y_Polynomial_init b_Polynomial_init 2 none :: AW
theorem d_Polynomial_init_0 : decode b_Polynomial_init 0 = .ok (.aload_n 0, 1) := by decide +kernel
theorem d_Polynomial_init_1 : decode b_Polynomial_init 1 = .ok (.invokespecial 3, 3) := by decide +kernel
theorem d_Polynomial_init_4 : decode b_Polynomial_init 4 = .ok (.aload_n 0, 1) := by decide +kernel
theorem d_Polynomial_init_5 : decode b_Polynomial_init 5 = .ok (.bipush (7), 2) := by decide +kernel
theorem d_Polynomial_init_7 : decode b_Polynomial_init 7 = .ok (.iload_n 1, 1) := by decide +kernel
theorem d_Polynomial_init_8 : decode b_Polynomial_init 8 = .ok (.multianewarray 9 2, 4) := by decide +kernel
theorem d_Polynomial_init_12 : decode b_Polynomial_init 12 = .ok (.putfield 11, 3) := by decide +kernel
theorem d_Polynomial_init_15 : decode b_Polynomial_init 15 = .ok (.aload_n 0, 1) := by decide +kernel
theorem d_Polynomial_init_16 : decode b_Polynomial_init 16 = .ok (.iload_n 1, 1) := by decide +kernel
theorem d_Polynomial_init_17 : decode b_Polynomial_init 17 = .ok (.newarray .int, 2) := by decide +kernel
theorem d_Polynomial_init_19 : decode b_Polynomial_init 19 = .ok (.putfield 16, 3) := by decide +kernel
theorem d_Polynomial_init_22 : decode b_Polynomial_init 22 = .ok (.aload_n 0, 1) := by decide +kernel
theorem d_Polynomial_init_23 : decode b_Polynomial_init 23 = .ok (.iload_n 1, 1) := by decide +kernel
theorem d_Polynomial_init_24 : decode b_Polynomial_init 24 = .ok (.putfield 20, 3) := by decide +kernel
theorem d_Polynomial_init_27 : decode b_Polynomial_init 27 = .ok (.return_, 1) := by decide +kernel
theorem k_33237cbf91 : (Jvm.Cond.methodLink "SpectrumDesk$Polynomial" (3 : Nat) ({ cls := "java/lang/Object", name := "<init>", desc := "()V" } : Jvm.MethodName)) ∈ AW := aw_1 (List.mem_of_getElem? (i := 68) (by decide +kernel)) (by decide +kernel)
theorem k_739ca49096 : (Jvm.Cond.instanceMethod ({ cls := "java/lang/Object", name := "<init>", desc := "()V" } : Jvm.MethodName)) ∈ AW := aw_1 (List.mem_of_getElem? (i := 33) (by decide +kernel)) (by decide +kernel)
theorem k_539172dd6b : (Jvm.Cond.code ({ cls := "java/lang/Object", name := "<init>", desc := "()V" } : Jvm.MethodName) object_method_1_code (1 : Nat) (Option.none : Option Jvm.ClassFile.FieldType)) ∈ AW := aw_1 (List.mem_of_getElem? (i := 34) (by decide +kernel)) (by decide +kernel)
theorem k_7ec0639641 : (Jvm.Cond.classLink "SpectrumDesk$Polynomial" (9 : Nat) "[[I") ∈ AW := aw_1 (List.mem_of_getElem? (i := 69) (by decide +kernel)) (by decide +kernel)
theorem k_f07bdf5106 : (Jvm.Cond.arrayClass Jvm.ClassFile.FieldType.int) ∈ AW := aw_1 (List.mem_of_getElem? (i := 55) (by decide +kernel)) (by decide +kernel)
theorem k_a80292a9a2 : (Jvm.Cond.fieldLink "SpectrumDesk$Polynomial" (11 : Nat) "SpectrumDesk$Polynomial" "c" "[[I") ∈ AW := aw_1 (List.mem_of_getElem? (i := 70) (by decide +kernel)) (by decide +kernel)
theorem k_3ec21bbd19 : (Jvm.Cond.fieldLink "SpectrumDesk$Polynomial" (16 : Nat) "SpectrumDesk$Polynomial" "spare" "[I") ∈ AW := aw_1 (List.mem_of_getElem? (i := 75) (by decide +kernel)) (by decide +kernel)
theorem k_d4675f6c2d : (Jvm.Cond.fieldLink "SpectrumDesk$Polynomial" (20 : Nat) "SpectrumDesk$Polynomial" "limbs" "I") ∈ AW := aw_1 (List.mem_of_getElem? (i := 81) (by decide +kernel)) (by decide +kernel)
theorem k_799d7536b9 : (Jvm.Cond.code ({ cls := "SpectrumDesk$Polynomial", name := "<init>", desc := "(I)V" } : Jvm.MethodName) prog_5_method_1_code (2 : Nat) (Option.none : Option Jvm.ClassFile.FieldType)) ∈ AW := aw_1 (List.mem_of_getElem? (i := 67) (by decide +kernel)) (by decide +kernel)
set_option maxHeartbeats 4000000 in
set_option maxRecDepth 100000 in
theorem c_Polynomial_init {l : Launch} {D : va_G} {cI cJ cZ cC cG cP : ClassId} {z N : Nat} {ad : Nat → Nat} {σ : Nat → va_E} (had : ∀ k, ad k = z + k) {i most : Nat} (hNi : N = i + 1) (hm : most < 2 ^ 20) (ho : σ i = .inr (ciP, [.null, .null, .int 0, .int 0])) :
    Met l y_Polynomial_init v_Polynomial_init { frames := 1, cells := 9, slots := 7 + 7 * most + most, locals := 64 } (va_Pc [.ref (ad i), .int (nI most)] (xG D classes (xT cI cJ cZ cC cG cP) z N ad σ)) (va_Qv (fun σ2 => ∃ (F' : Nat → Nat → Int32) (s' : Nat → Int32), (∀ q, q < i → σ2 q = σ q) ∧ pl ad cI cG σ2 i most 0 most F' s' ∧ ∀ k, k < 7 → ∀ j, F' k j = 0) (xS D classes (xT cI cJ cZ cC cG cP) (N + 9) ad) (xgA z N ad)) (9) (7 + 7 * most + most) (xgA z N ad) := by
  refine xj_met rfl (Nat.le_of_ble_eq_true rfl) ?_
  intro p e s m args below meth c ls hx hb X hr hlk hnm hl hao hz0 J
  have hA : ∀ q, s.heap.size ≤ q → xgA z N ad q := fun q hq => Or.inr (by omega)
  have hl : lv_has ls 2 [(0, .ref (ad i)), (1, .int (nI most))] := hl
  refine lv_aload_n hx hb d_Polynomial_init_0 rfl (lv_at hl 0 rfl) ?_
  refine xj_obj X hl.1 (List.mem_cons_of_mem _ k_33237cbf91) (List.mem_cons_of_mem _ k_739ca49096) (List.mem_cons_of_mem _ k_539172dd6b) (Nat.le_of_ble_eq_true rfl) (Nat.le_of_ble_eq_true rfl) d_Polynomial_init_1 ?_
  refine lv_aload_n hx hb d_Polynomial_init_4 rfl (lv_at hl 0 rfl) ?_
  refine lv_bipush (v := nI 7) hx hb d_Polynomial_init_5 (by decide) ?_
  refine lv_iload_n hx hb d_Polynomial_init_7 rfl (lv_at hl 1 rfl) ?_
  refine xj_mna X J had hA (by omega) (by omega) (by rw [show "[" ++ (FieldType.array .int).toString = "[[I" by decide +kernel]; exact (List.mem_cons_of_mem _ k_7ec0639641)) hao.1 (List.mem_cons_of_mem _ k_f07bdf5106) 0 4 rfl rfl (n := 7) (k := most) (by omega) (by omega) (show 0 + (1 + 7) ≤ 9 by decide) (show 0 + (7 + 7 * most) ≤ 7 + 7 * most + most by omega) d_Polynomial_init_8 (fun H σ1 σ1o σ1c σ1r J => ?_)
  have o1 : σ1 i = .inr (ciP, [.null, .null, .int 0, .int 0]) := (σ1o i (by omega)).trans ho
  refine xj_putF (ty := .array (.array .int)) X J fin_P t_P t_P_ok n_P i (by omega) o1 rfl 0 (by decide) (List.mem_cons_of_mem _ k_a80292a9a2) rfl rfl hnm rfl (by decide +kernel) rfl rfl (Nat.le_of_ble_eq_true rfl) d_Polynomial_init_12 (fun H locs J => ?_)
  have J : xJ D classes (xgA z N ad) _ ad s.heap (va_up σ1 i (.inr (ciP, [.ref (ad N), .null, .int 0, .int 0]))) H locs := J
  obtain ⟨σ2, hσ2⟩ : ∃ s9, s9 = va_up σ1 i (.inr (ciP, [.ref (ad N), .null, .int 0, .int 0])) := ⟨_, rfl⟩
  rw [← hσ2] at J
  have σ2k : σ2 i = (.inr (ciP, [.ref (ad N), .null, .int 0, .int 0])) := by rw [hσ2]; exact va_up_self _ _ _
  have σ2o : ∀ q, q ≠ i → σ2 q = σ1 q := fun q hq => by rw [hσ2]; exact va_up_ne _ _ hq
  clear hσ2
  refine lv_aload_n hx hb d_Polynomial_init_15 rfl (lv_at hl 0 rfl) ?_
  refine lv_iload_n hx hb d_Polynomial_init_16 rfl (lv_at hl 1 rfl) ?_
  refine xj_newa (atype := .int) X J had hA (by omega) (by omega) (List.mem_cons_of_mem _ k_f07bdf5106) 0 rfl (n := most) (a0 := (most, .inl (fun _ => 0))) (fun _ => rfl) (by omega) (by show most * 4 ≤ 536870912; omega) (show 0 + 1 + 7 + 1 ≤ 9 by decide) (show 0 + 7 + 7 * most + most ≤ 7 + 7 * most + most by omega) d_Polynomial_init_17 (fun H J => ?_)
  obtain ⟨σ3, hσ3⟩ : ∃ s9, s9 = va_up σ2 (N + 1 + 7) (.inl (cI, most, .inl (fun _ => 0))) := ⟨_, rfl⟩
  rw [← hσ3] at J
  have σ3k : σ3 (N + 1 + 7) = (.inl (cI, most, .inl (fun _ => 0))) := by rw [hσ3]; exact va_up_self _ _ _
  have σ3o : ∀ q, q ≠ (N + 1 + 7) → σ3 q = σ2 q := fun q hq => by rw [hσ3]; exact va_up_ne _ _ hq
  clear hσ3
  have o3 : σ3 i = .inr (ciP, [.ref (ad N), .null, .int 0, .int 0]) := (σ3o i (by omega)).trans σ2k
  refine xj_putF (ty := .array .int) X J fin_P t_P t_P_ok n_P i (by omega) o3 rfl 1 (by decide) (List.mem_cons_of_mem _ k_3ec21bbd19) rfl rfl hnm rfl (by decide +kernel) rfl rfl (Nat.le_of_ble_eq_true rfl) d_Polynomial_init_19 (fun H locs J => ?_)
  have J : xJ D classes (xgA z N ad) _ ad s.heap (va_up σ3 i (.inr (ciP, [.ref (ad N), .ref (ad (N + 1 + 7)), .int 0, .int 0]))) H locs := J
  obtain ⟨σ4, hσ4⟩ : ∃ s9, s9 = va_up σ3 i (.inr (ciP, [.ref (ad N), .ref (ad (N + 1 + 7)), .int 0, .int 0])) := ⟨_, rfl⟩
  rw [← hσ4] at J
  have σ4k : σ4 i = (.inr (ciP, [.ref (ad N), .ref (ad (N + 1 + 7)), .int 0, .int 0])) := by rw [hσ4]; exact va_up_self _ _ _
  have σ4o : ∀ q, q ≠ i → σ4 q = σ3 q := fun q hq => by rw [hσ4]; exact va_up_ne _ _ hq
  clear hσ4
  refine lv_aload_n hx hb d_Polynomial_init_22 rfl (lv_at hl 0 rfl) ?_
  refine lv_iload_n hx hb d_Polynomial_init_23 rfl (lv_at hl 1 rfl) ?_
  refine xj_put (ty := .int) X J fin_P t_P t_P_ok n_P i (by omega) σ4k rfl 3 (by decide) (List.mem_cons_of_mem _ k_d4675f6c2d) rfl rfl (by decide +kernel) rfl rfl (Nat.le_of_ble_eq_true rfl) d_Polynomial_init_24 (fun H locs J => ?_)
  have J : xJ D classes (xgA z N ad) _ ad s.heap (va_up σ4 i (.inr (ciP, [.ref (ad N), .ref (ad (N + 1 + 7)), .int 0, .int (nI most)]))) H locs := J
  obtain ⟨σ5, hσ5⟩ : ∃ s9, s9 = va_up σ4 i (.inr (ciP, [.ref (ad N), .ref (ad (N + 1 + 7)), .int 0, .int (nI most)])) := ⟨_, rfl⟩
  rw [← hσ5] at J
  have σ5k : σ5 i = (.inr (ciP, [.ref (ad N), .ref (ad (N + 1 + 7)), .int 0, .int (nI most)])) := by rw [hσ5]; exact va_up_self _ _ _
  have σ5o : ∀ q, q ≠ i → σ5 q = σ4 q := fun q hq => by rw [hσ5]; exact va_up_ne _ _ hq
  clear hσ5
  subst hNi
  have a1 : ∀ q, q < i → σ5 q = σ q := fun q hq => (σ5o q (by omega)).trans ((σ4o q (by omega)).trans ((σ3o q (by omega)).trans ((σ2o q (by omega)).trans (σ1o q (by omega)))))
  have a2 : ∀ q, i < q → q < i + 9 → σ5 q = σ1 q := fun q h1 h2 => (σ5o q (by omega)).trans ((σ4o q (by omega)).trans ((σ3o q (by omega)).trans (σ2o q (by omega))))
  have a3 : σ5 (i + 9) = .inl (cI, most, .inl (fun _ => 0)) := (σ5o _ (by omega)).trans ((σ4o _ (by omega)).trans σ3k)
  refine xj_vret X J hr hlk (by decide) (Nat.le_refl _) ⟨fun _ _ => 0, fun _ => 0, a1, ⟨σ5k, ?_, fun k hk => ?_, a3⟩, fun _ _ _ => rfl⟩ d_Polynomial_init_27
  · exact (a2 (i + 1) (by omega) (by omega)).trans σ1c
  · rw [a2 (i + 2 + k) (by omega) (by omega)]; exact σ1r k hk
