/-! SpectrumDesk$Spectrum: measure (written by wip/gen) -/
abbrev b_Spectrum_measure : ByteArray := prog_7_method_3_code
abbrev y_Spectrum_measure : MethodName := ⟨"SpectrumDesk$Spectrum", "measure", "([[I)V"⟩
abbrev v_Spectrum_measure : List Cond := Cond.code y_Spectrum_measure b_Spectrum_measure 5 none :: AW
theorem d_Spectrum_measure_0 : decode b_Spectrum_measure 0 = .ok (.aload_n 0, 1) := by decide +kernel
theorem d_Spectrum_measure_1 : decode b_Spectrum_measure 1 = .ok (.iconst 0, 1) := by decide +kernel
theorem d_Spectrum_measure_2 : decode b_Spectrum_measure 2 = .ok (.putfield 98, 3) := by decide +kernel
theorem d_Spectrum_measure_5 : decode b_Spectrum_measure 5 = .ok (.aload_n 0, 1) := by decide +kernel
theorem d_Spectrum_measure_6 : decode b_Spectrum_measure 6 = .ok (.lconst 0, 1) := by decide +kernel
theorem d_Spectrum_measure_7 : decode b_Spectrum_measure 7 = .ok (.putfield 101, 3) := by decide +kernel
theorem d_Spectrum_measure_10 : decode b_Spectrum_measure 10 = .ok (.iconst 0, 1) := by decide +kernel
theorem d_Spectrum_measure_11 : decode b_Spectrum_measure 11 = .ok (.istore_n 2, 1) := by decide +kernel
theorem d_Spectrum_measure_12 : decode b_Spectrum_measure 12 = .ok (.iload_n 2, 1) := by decide +kernel
theorem d_Spectrum_measure_13 : decode b_Spectrum_measure 13 = .ok (.aload_n 0, 1) := by decide +kernel
theorem d_Spectrum_measure_14 : decode b_Spectrum_measure 14 = .ok (.getfield 68, 3) := by decide +kernel
theorem d_Spectrum_measure_17 : decode b_Spectrum_measure 17 = .ok (.if_icmp .ge (68), 3) := by decide +kernel
theorem d_Spectrum_measure_20 : decode b_Spectrum_measure 20 = .ok (.iconst 0, 1) := by decide +kernel
theorem d_Spectrum_measure_21 : decode b_Spectrum_measure 21 = .ok (.istore_n 3, 1) := by decide +kernel
theorem d_Spectrum_measure_22 : decode b_Spectrum_measure 22 = .ok (.iconst 0, 1) := by decide +kernel
theorem d_Spectrum_measure_23 : decode b_Spectrum_measure 23 = .ok (.istore 4, 2) := by decide +kernel
theorem d_Spectrum_measure_25 : decode b_Spectrum_measure 25 = .ok (.iload 4, 2) := by decide +kernel
theorem d_Spectrum_measure_27 : decode b_Spectrum_measure 27 = .ok (.aload_n 0, 1) := by decide +kernel
theorem d_Spectrum_measure_28 : decode b_Spectrum_measure 28 = .ok (.getfield 68, 3) := by decide +kernel
theorem d_Spectrum_measure_31 : decode b_Spectrum_measure 31 = .ok (.if_icmp .ge (21), 3) := by decide +kernel
theorem d_Spectrum_measure_34 : decode b_Spectrum_measure 34 = .ok (.iload_n 3, 1) := by decide +kernel
theorem d_Spectrum_measure_35 : decode b_Spectrum_measure 35 = .ok (.aload_n 1, 1) := by decide +kernel
theorem d_Spectrum_measure_36 : decode b_Spectrum_measure 36 = .ok (.iload_n 2, 1) := by decide +kernel
theorem d_Spectrum_measure_37 : decode b_Spectrum_measure 37 = .ok (.aaload, 1) := by decide +kernel
theorem d_Spectrum_measure_38 : decode b_Spectrum_measure 38 = .ok (.iload 4, 2) := by decide +kernel
theorem d_Spectrum_measure_40 : decode b_Spectrum_measure 40 = .ok (.iaload, 1) := by decide +kernel
theorem d_Spectrum_measure_41 : decode b_Spectrum_measure 41 = .ok (.invokestatic 105, 3) := by decide +kernel
theorem d_Spectrum_measure_44 : decode b_Spectrum_measure 44 = .ok (.iadd, 1) := by decide +kernel
theorem d_Spectrum_measure_45 : decode b_Spectrum_measure 45 = .ok (.istore_n 3, 1) := by decide +kernel
theorem d_Spectrum_measure_46 : decode b_Spectrum_measure 46 = .ok (.iinc 4 (1), 3) := by decide +kernel
theorem d_Spectrum_measure_49 : decode b_Spectrum_measure 49 = .ok (.goto (-24), 3) := by decide +kernel
theorem d_Spectrum_measure_52 : decode b_Spectrum_measure 52 = .ok (.aload_n 0, 1) := by decide +kernel
theorem d_Spectrum_measure_53 : decode b_Spectrum_measure 53 = .ok (.aload_n 0, 1) := by decide +kernel
theorem d_Spectrum_measure_54 : decode b_Spectrum_measure 54 = .ok (.getfield 98, 3) := by decide +kernel
theorem d_Spectrum_measure_57 : decode b_Spectrum_measure 57 = .ok (.iload_n 3, 1) := by decide +kernel
theorem d_Spectrum_measure_58 : decode b_Spectrum_measure 58 = .ok (.invokestatic 111, 3) := by decide +kernel
theorem d_Spectrum_measure_61 : decode b_Spectrum_measure 61 = .ok (.putfield 98, 3) := by decide +kernel
theorem d_Spectrum_measure_64 : decode b_Spectrum_measure 64 = .ok (.aload_n 0, 1) := by decide +kernel
theorem d_Spectrum_measure_65 : decode b_Spectrum_measure 65 = .ok (.dup, 1) := by decide +kernel
theorem d_Spectrum_measure_66 : decode b_Spectrum_measure 66 = .ok (.getfield 101, 3) := by decide +kernel
theorem d_Spectrum_measure_69 : decode b_Spectrum_measure 69 = .ok (.aload_n 1, 1) := by decide +kernel
theorem d_Spectrum_measure_70 : decode b_Spectrum_measure 70 = .ok (.iload_n 2, 1) := by decide +kernel
theorem d_Spectrum_measure_71 : decode b_Spectrum_measure 71 = .ok (.aaload, 1) := by decide +kernel
theorem d_Spectrum_measure_72 : decode b_Spectrum_measure 72 = .ok (.iload_n 2, 1) := by decide +kernel
theorem d_Spectrum_measure_73 : decode b_Spectrum_measure 73 = .ok (.iaload, 1) := by decide +kernel
theorem d_Spectrum_measure_74 : decode b_Spectrum_measure 74 = .ok (.i2l, 1) := by decide +kernel
theorem d_Spectrum_measure_75 : decode b_Spectrum_measure 75 = .ok (.ladd, 1) := by decide +kernel
theorem d_Spectrum_measure_76 : decode b_Spectrum_measure 76 = .ok (.putfield 101, 3) := by decide +kernel
theorem d_Spectrum_measure_79 : decode b_Spectrum_measure 79 = .ok (.iinc 2 (1), 3) := by decide +kernel
theorem d_Spectrum_measure_82 : decode b_Spectrum_measure 82 = .ok (.goto (-70), 3) := by decide +kernel
theorem d_Spectrum_measure_85 : decode b_Spectrum_measure 85 = .ok (.return_, 1) := by decide +kernel
theorem k_21cba4fbaf : (Jvm.Cond.methodLink "SpectrumDesk$Spectrum" (111 : Nat) ({ cls := "java/lang/Math", name := "max", desc := "(II)I" } : Jvm.MethodName)) ∈ AW := aw_2 (List.mem_of_getElem? (i := 31) (by decide +kernel)) (by decide +kernel)
theorem k_078ab3552f : (Jvm.Cond.static ({ cls := "java/lang/Math", name := "max", desc := "(II)I" } : Jvm.MethodName)) ∈ AW := aw_2 (List.mem_of_getElem? (i := 32) (by decide +kernel)) (by decide +kernel)
theorem k_2d8055ab34 : (Jvm.Cond.code ({ cls := "java/lang/Math", name := "max", desc := "(II)I" } : Jvm.MethodName) prog_18_method_65_code (2 : Nat) (Option.some Jvm.ClassFile.FieldType.int)) ∈ AW := aw_2 (List.mem_of_getElem? (i := 33) (by decide +kernel)) (by decide +kernel)
theorem k_95e094c1d9 : (Jvm.Cond.methodLink "SpectrumDesk$Spectrum" (105 : Nat) ({ cls := "java/lang/Math", name := "abs", desc := "(I)I" } : Jvm.MethodName)) ∈ AW := aw_2 (List.mem_of_getElem? (i := 28) (by decide +kernel)) (by decide +kernel)
theorem k_6a94cb39c6 : (Jvm.Cond.static ({ cls := "java/lang/Math", name := "abs", desc := "(I)I" } : Jvm.MethodName)) ∈ AW := aw_2 (List.mem_of_getElem? (i := 29) (by decide +kernel)) (by decide +kernel)
theorem k_cf1e205f0e : (Jvm.Cond.code ({ cls := "java/lang/Math", name := "abs", desc := "(I)I" } : Jvm.MethodName) prog_18_method_59_code (1 : Nat) (Option.some Jvm.ClassFile.FieldType.int)) ∈ AW := aw_2 (List.mem_of_getElem? (i := 30) (by decide +kernel)) (by decide +kernel)
theorem k_cc6c39792b : (Jvm.Cond.code ({ cls := "SpectrumDesk$Spectrum", name := "measure", desc := "([[I)V" } : Jvm.MethodName) prog_7_method_3_code (5 : Nat) (Option.none : Option Jvm.ClassFile.FieldType)) ∈ AW := aw_2 (List.mem_of_getElem? (i := 27) (by decide +kernel)) (by decide +kernel)
set_option maxHeartbeats 4000000 in
set_option maxRecDepth 100000 in
theorem c_Spectrum_measure {l : Launch} {D : va_G} {cI cJ cZ cC cG cP : ClassId} {N : Nat} {ad : Nat → Nat} {σ : Nat → va_E} {rk bo : Int32} {n : Nat} {tr : Int64} {A : Nat → Nat → Int32} (hN : N = 193) (hE : σ 18 = .inr (ciE, eF ad rk (nI n) bo tr)) (hn : n ≤ 6) (hA : mat ad cI cG σ 1 2 A) (hAb : ∀ i j, i < 6 → j < 6 → -1000000 ≤ (A i j).toInt ∧ (A i j).toInt ≤ 1000000) :
    Met l y_Spectrum_measure v_Spectrum_measure (xrm 1) (va_Pc [.ref (ad 18), .ref (ad 1)] (xS D classes (xT cI cJ cZ cC cG cP) N ad σ)) (va_Qv (fun σ2 => ∃ t : Int64, t.toInt = trF A n ∧ σ2 = va_up σ 18 (.inr (ciE, eF ad rk (nI n) (nI (bdF A n n)) t))) (xS D classes (xT cI cJ cZ cC cG cP) N ad) (xA N ad)) 0 0 (xA N ad) := by
  refine xr_met rfl (Nat.le_of_ble_eq_true rfl) ?_
  intro p e s m args below meth c ls hx hb X hr hlk hl I
  have hl : lv_has ls 5 [(0, .ref (ad 18)), (1, .ref (ad 1))] := hl
  have hbl := bdF_le (n := n) hAb hn
  have htl := trF_bd hAb
  refine lv_aload_n hx hb d_Spectrum_measure_0 rfl (lv_at hl 0 rfl) ?_
  refine lv_iconst (v := nI 0) hx hb d_Spectrum_measure_1 (by decide) ?_
  refine xr_put (ty := .int) X I fin_E t_E t_E_ok n_E 18 (by omega) hE rfl 12 (by decide) (List.mem_cons_of_mem _ k_8a8601670a) rfl rfl (by decide +kernel) rfl rfl (Nat.le_of_ble_eq_true rfl) d_Spectrum_measure_2 (fun H locs I => ?_)
  have I : xI D classes N ad s.heap (va_up σ 18 (.inr (ciE, eF ad rk (nI n) (nI 0) tr))) H locs := I
  refine lv_aload_n hx hb d_Spectrum_measure_5 rfl (lv_at hl 0 rfl) ?_
  refine lv_lconst (v := 0) hx hb d_Spectrum_measure_6 (by decide) ?_
  refine xr_put (ty := .long) X I fin_E t_E t_E_ok n_E 18 (by omega) (va_up_self _ _ _) rfl 13 (by decide) (List.mem_cons_of_mem _ k_7d46834701) rfl rfl (by decide +kernel) rfl rfl (Nat.le_of_ble_eq_true rfl) d_Spectrum_measure_7 (fun H locs I => ?_)
  rw [va_up_up] at I
  have I : xI D classes N ad s.heap (va_up σ 18 (.inr (ciE, eF ad rk (nI n) (nI 0) 0))) H locs := I
  refine lv_iconst (v := nI 0) hx hb d_Spectrum_measure_10 (by decide) ?_
  refine lv_istore_n (lv' := [(2, .int (nI 0)), (0, .ref (ad 18)), (1, .ref (ad 1))]) hx hb d_Spectrum_measure_11 rfl hl (by decide) rfl (fun ls hl => ?_)
  have outer : ∀ (f : Nat) (i : Nat) (t9 : Int64) (ls : Array Slot) (H : Heap) (locs : List Loc), i + f = n → t9.toInt = trF A i → lv_has ls 5 [(2, .int (nI i)), (0, .ref (ad 18)), (1, .ref (ad 1))] → xI D classes N ad s.heap (va_up σ 18 (.inr (ciE, eF ad rk (nI n) (nI (bdF A n i)) t9))) H locs → W p l e (xrm 1) s m args below meth c H locs 0 0 (MQ below (va_Qv (fun σ2 => ∃ t : Int64, t.toInt = trF A n ∧ σ2 = va_up σ 18 (.inr (ciE, eF ad rk (nI n) (nI (bdF A n n)) t))) (xS D classes (xT cI cJ cZ cC cG cP) N ad) (xA N ad)) args s 0 0 (xA N ad)) (F0 m 12 ls []) := by
    intro f
    induction f with
    | zero =>
      intro i t9 ls H locs hk ht9 hl I
      obtain rfl : i = n := by omega
      refine lv_iload_n hx hb d_Spectrum_measure_12 rfl (lv_at hl 0 rfl) ?_
      refine lv_aload_n hx hb d_Spectrum_measure_13 rfl (lv_at hl 1 rfl) ?_
      refine xr_get X I fin_E 18 (by omega) (va_up_self _ _ _) rfl 11 (by decide) (List.mem_cons_of_mem _ k_d4fb48ecc0) rfl rfl d_Spectrum_measure_14 ?_
      refine lv_icmp_ge hx hb d_Spectrum_measure_17 rfl (fun hc => ?_) (fun hc => ?_)
      · exact xr_vret X I hr hlk ⟨t9, ht9, rfl⟩ d_Spectrum_measure_85
      · exact absurd (nI_le (Nat.le_refl _) (by omega)) hc
    | succ f ih =>
      intro i t9 ls H locs hk ht9 hl I
      refine lv_iload_n hx hb d_Spectrum_measure_12 rfl (lv_at hl 0 rfl) ?_
      refine lv_aload_n hx hb d_Spectrum_measure_13 rfl (lv_at hl 1 rfl) ?_
      refine xr_get X I fin_E 18 (by omega) (va_up_self _ _ _) rfl 11 (by decide) (List.mem_cons_of_mem _ k_d4fb48ecc0) rfl rfl d_Spectrum_measure_14 ?_
      refine lv_icmp_ge hx hb d_Spectrum_measure_17 rfl (fun hc => ?_) (fun hc => ?_)
      · exact absurd hc (nI_ge (by omega) (by omega))
      · refine lv_iconst (v := nI 0) hx hb d_Spectrum_measure_20 (by decide) ?_
        refine lv_istore_n (lv' := [(3, .int (nI 0)), (2, .int (nI i)), (0, .ref (ad 18)), (1, .ref (ad 1))]) hx hb d_Spectrum_measure_21 rfl hl (by decide) rfl (fun ls hl => ?_)
        refine lv_iconst (v := nI 0) hx hb d_Spectrum_measure_22 (by decide) ?_
        refine lv_istore (lv' := [(4, .int (nI 0)), (3, .int (nI 0)), (2, .int (nI i)), (0, .ref (ad 18)), (1, .ref (ad 1))]) hx hb d_Spectrum_measure_23 hl (by decide) rfl (fun ls hl => ?_)
        have inner : ∀ (q9 : Nat) (j : Nat) (ls : Array Slot) (H : Heap) (locs : List Loc), j + q9 = n → lv_has ls 5 [(4, .int (nI j)), (3, .int (nI (rsF A i j))), (2, .int (nI i)), (0, .ref (ad 18)), (1, .ref (ad 1))] → xI D classes N ad s.heap (va_up σ 18 (.inr (ciE, eF ad rk (nI n) (nI (bdF A n i)) t9))) H locs → W p l e (xrm 1) s m args below meth c H locs 0 0 (MQ below (va_Qv (fun σ2 => ∃ t : Int64, t.toInt = trF A n ∧ σ2 = va_up σ 18 (.inr (ciE, eF ad rk (nI n) (nI (bdF A n n)) t))) (xS D classes (xT cI cJ cZ cC cG cP) N ad) (xA N ad)) args s 0 0 (xA N ad)) (F0 m 25 ls []) := by
          intro q9
          induction q9 with
          | zero =>
            intro j ls H locs hj hl I
            obtain rfl : j = n := by omega
            refine lv_iload hx hb d_Spectrum_measure_25 (lv_at hl 0 rfl) ?_
            refine lv_aload_n hx hb d_Spectrum_measure_27 rfl (lv_at hl 3 rfl) ?_
            refine xr_get X I fin_E 18 (by omega) (va_up_self _ _ _) rfl 11 (by decide) (List.mem_cons_of_mem _ k_d4fb48ecc0) rfl rfl d_Spectrum_measure_28 ?_
            refine lv_icmp_ge hx hb d_Spectrum_measure_31 rfl (fun hc => ?_) (fun hc => ?_)
            · have h1 := hbl i (by omega)
              have h2 := rsF_le hAb (show i < 6 by omega) j hn
              have h3 := htl i (by omega)
              have h4 := hAb i i (by omega) (by omega)
              refine lv_aload_n hx hb d_Spectrum_measure_52 rfl (lv_at hl 3 rfl) ?_
              refine lv_aload_n hx hb d_Spectrum_measure_53 rfl (lv_at hl 3 rfl) ?_
              refine xr_get X I fin_E 18 (by omega) (va_up_self _ _ _) rfl 12 (by decide) (List.mem_cons_of_mem _ k_8a8601670a) rfl rfl d_Spectrum_measure_54 ?_
              refine lv_iload_n hx hb d_Spectrum_measure_57 rfl (lv_at hl 1 rfl) ?_
              refine xr_max X hl.1 (List.mem_cons_of_mem _ k_21cba4fbaf) (List.mem_cons_of_mem _ k_078ab3552f) (List.mem_cons_of_mem _ k_fb0a1f8118) (List.mem_cons_of_mem _ k_2d8055ab34) (by decide) (Nat.le_of_ble_eq_true rfl) (by decide) (by decide) (by omega) (by omega) d_Spectrum_measure_58 ?_
              refine xr_put (ty := .int) X I fin_E t_E t_E_ok n_E 18 (by omega) (va_up_self _ _ _) rfl 12 (by decide) (List.mem_cons_of_mem _ k_8a8601670a) rfl rfl (by decide +kernel) rfl rfl (Nat.le_of_ble_eq_true rfl) d_Spectrum_measure_61 (fun H locs I => ?_)
              rw [va_up_up] at I
              have I : xI D classes N ad s.heap (va_up σ 18 (.inr (ciE, eF ad rk (nI j) (nI (bdF A j (i + 1))) t9))) H locs := I
              refine lv_aload_n hx hb d_Spectrum_measure_64 rfl (lv_at hl 3 rfl) ?_
              refine lv_dup hx hb d_Spectrum_measure_65 rfl ?_
              refine xr_get X I fin_E 18 (by omega) (va_up_self _ _ _) rfl 13 (by decide) (List.mem_cons_of_mem _ k_7d46834701) rfl rfl d_Spectrum_measure_66 ?_
              refine lv_aload_n hx hb d_Spectrum_measure_69 rfl (lv_at hl 4 rfl) ?_
              refine lv_iload_n hx hb d_Spectrum_measure_70 rfl (lv_at hl 2 rfl) ?_
              refine xr_aald X I 1 4 (by omega) ((mat_same hA (va_up_ne _ _ (by decide)) (fun q h1 h2 => va_up_ne _ _ (by omega)))).1 rfl rfl (by omega) (by decide) (mx_at (by omega)) d_Spectrum_measure_71 ?_
              refine lv_iload_n hx hb d_Spectrum_measure_72 rfl (lv_at hl 2 rfl) ?_
              refine xr_iald X I (2 + i) 0 (by omega) (((mat_same hA (va_up_ne _ _ (by decide)) (fun q h1 h2 => va_up_ne _ _ (by omega)))).2 _ (by omega)) rfl (by omega) (by decide) d_Spectrum_measure_73 ?_
              refine lv_i2l hx hb d_Spectrum_measure_74 rfl ?_
              refine lv_ladd hx hb d_Spectrum_measure_75 ?_
              refine lv_topl (fun t2 et2 => ?_)
              have ht2 : t2.toInt = trF A (i + 1) := by rw [et2, trF, q_ladd (by rw [ht9, q_i2l]; omega) (by rw [ht9, q_i2l]; omega), ht9, q_i2l]
              refine xr_put (ty := .long) X I fin_E t_E t_E_ok n_E 18 (by omega) (va_up_self _ _ _) rfl 13 (by decide) (List.mem_cons_of_mem _ k_7d46834701) rfl rfl (by decide +kernel) rfl rfl (Nat.le_of_ble_eq_true rfl) d_Spectrum_measure_76 (fun H locs I => ?_)
              rw [va_up_up] at I
              have I : xI D classes N ad s.heap (va_up σ 18 (.inr (ciE, eF ad rk (nI j) (nI (bdF A j (i + 1))) t2))) H locs := I
              refine lv_iinc (k := 2) (v := nI (i + 1)) (lv' := [(2, .int (nI (i + 1))), (4, .int (nI j)), (3, .int (nI (rsF A i j))), (0, .ref (ad 18)), (1, .ref (ad 1))]) hx hb d_Spectrum_measure_79 hl rfl (nI_1 i) (by decide) rfl (fun ls hl => ?_)
              refine lv_goto hx hb d_Spectrum_measure_82 rfl ?_
              have hl := lv_sub hl [0, 3, 4] rfl
              have hl : lv_has ls 5 [(2, .int (nI (i + 1))), (0, .ref (ad 18)), (1, .ref (ad 1))] := hl
              exact ih (i + 1) t2 ls H locs (by omega) ht2 hl I
            · exact absurd (nI_le (Nat.le_refl _) (by omega)) hc
          | succ q9 jh =>
            intro j ls H locs hj hl I
            refine lv_iload hx hb d_Spectrum_measure_25 (lv_at hl 0 rfl) ?_
            refine lv_aload_n hx hb d_Spectrum_measure_27 rfl (lv_at hl 3 rfl) ?_
            refine xr_get X I fin_E 18 (by omega) (va_up_self _ _ _) rfl 11 (by decide) (List.mem_cons_of_mem _ k_d4fb48ecc0) rfl rfl d_Spectrum_measure_28 ?_
            refine lv_icmp_ge hx hb d_Spectrum_measure_31 rfl (fun hc => ?_) (fun hc => ?_)
            · exact absurd hc (nI_ge (by omega) (by omega))
            · have h4 := hAb i j (by omega) (by omega)
              refine lv_iload_n hx hb d_Spectrum_measure_34 rfl (lv_at hl 1 rfl) ?_
              refine lv_aload_n hx hb d_Spectrum_measure_35 rfl (lv_at hl 4 rfl) ?_
              refine lv_iload_n hx hb d_Spectrum_measure_36 rfl (lv_at hl 2 rfl) ?_
              refine xr_aald X I 1 4 (by omega) ((mat_same hA (va_up_ne _ _ (by decide)) (fun q h1 h2 => va_up_ne _ _ (by omega)))).1 rfl rfl (by omega) (by decide) (mx_at (by omega)) d_Spectrum_measure_37 ?_
              refine lv_iload hx hb d_Spectrum_measure_38 (lv_at hl 0 rfl) ?_
              refine xr_iald X I (2 + i) 0 (by omega) (((mat_same hA (va_up_ne _ _ (by decide)) (fun q h1 h2 => va_up_ne _ _ (by omega)))).2 _ (by omega)) rfl (by omega) (by decide) d_Spectrum_measure_40 ?_
              refine xr_abs X hl.1 (List.mem_cons_of_mem _ k_95e094c1d9) (List.mem_cons_of_mem _ k_6a94cb39c6) (List.mem_cons_of_mem _ k_fb0a1f8118) (List.mem_cons_of_mem _ k_cf1e205f0e) (by decide) (Nat.le_of_ble_eq_true rfl) (by decide) (by decide) h4 d_Spectrum_measure_41 ?_
              refine lv_iadd hx hb d_Spectrum_measure_44 (xr_topi (y := nI ((rsF A i j) + ((A i j).toInt.natAbs))) (nI_add (rsF A i j) ((A i j).toInt.natAbs)) ?_)
              refine lv_istore_n (lv' := [(3, .int (nI ((rsF A i j) + ((A i j).toInt.natAbs)))), (4, .int (nI j)), (2, .int (nI i)), (0, .ref (ad 18)), (1, .ref (ad 1))]) hx hb d_Spectrum_measure_45 rfl hl (by decide) rfl (fun ls hl => ?_)
              refine lv_iinc (k := 1) (v := nI (j + 1)) (lv' := [(4, .int (nI (j + 1))), (3, .int (nI ((rsF A i j) + ((A i j).toInt.natAbs)))), (2, .int (nI i)), (0, .ref (ad 18)), (1, .ref (ad 1))]) hx hb d_Spectrum_measure_46 hl rfl (nI_1 j) (by decide) rfl (fun ls hl => ?_)
              refine lv_goto hx hb d_Spectrum_measure_49 rfl ?_
              exact jh (j + 1) ls H locs (by omega) hl I
        exact inner n 0 ls H locs (by omega) hl I
  exact outer n 0 0 ls _ _ (by omega) rfl hl I
