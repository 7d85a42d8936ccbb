/-! SpectrumDesk$Polynomial.load, SpectrumDesk.bitsOf, Spectrum.howManyBelowEdge (written by wip/gen) -/
abbrev b_Polynomial_load : ByteArray := prog_5_method_2_code
abbrev y_Polynomial_load : MethodName := ⟨"SpectrumDesk$Polynomial", "load", "(LSpectrumDesk$Polynomial;I)V"⟩
abbrev v_Polynomial_load : List Cond := Cond.code y_Polynomial_load b_Polynomial_load 4 none :: AW
theorem d_Polynomial_load_0 : decode b_Polynomial_load 0 = .ok (.aload_n 0, 1) := by decide +kernel
theorem d_Polynomial_load_1 : decode b_Polynomial_load 1 = .ok (.iload_n 2, 1) := by decide +kernel
theorem d_Polynomial_load_2 : decode b_Polynomial_load 2 = .ok (.putfield 20, 3) := by decide +kernel
theorem d_Polynomial_load_5 : decode b_Polynomial_load 5 = .ok (.aload_n 0, 1) := by decide +kernel
theorem d_Polynomial_load_6 : decode b_Polynomial_load 6 = .ok (.aload_n 1, 1) := by decide +kernel
theorem d_Polynomial_load_7 : decode b_Polynomial_load 7 = .ok (.getfield 24, 3) := by decide +kernel
theorem d_Polynomial_load_10 : decode b_Polynomial_load 10 = .ok (.putfield 24, 3) := by decide +kernel
theorem d_Polynomial_load_13 : decode b_Polynomial_load 13 = .ok (.iconst 0, 1) := by decide +kernel
theorem d_Polynomial_load_14 : decode b_Polynomial_load 14 = .ok (.istore_n 3, 1) := by decide +kernel
theorem d_Polynomial_load_15 : decode b_Polynomial_load 15 = .ok (.iload_n 3, 1) := by decide +kernel
theorem d_Polynomial_load_16 : decode b_Polynomial_load 16 = .ok (.aload_n 0, 1) := by decide +kernel
theorem d_Polynomial_load_17 : decode b_Polynomial_load 17 = .ok (.getfield 24, 3) := by decide +kernel
theorem d_Polynomial_load_20 : decode b_Polynomial_load 20 = .ok (.if_icmp .gt (29), 3) := by decide +kernel
theorem d_Polynomial_load_23 : decode b_Polynomial_load 23 = .ok (.aload_n 0, 1) := by decide +kernel
theorem d_Polynomial_load_24 : decode b_Polynomial_load 24 = .ok (.getfield 11, 3) := by decide +kernel
theorem d_Polynomial_load_27 : decode b_Polynomial_load 27 = .ok (.iload_n 3, 1) := by decide +kernel
theorem d_Polynomial_load_28 : decode b_Polynomial_load 28 = .ok (.aaload, 1) := by decide +kernel
theorem d_Polynomial_load_29 : decode b_Polynomial_load 29 = .ok (.iload_n 2, 1) := by decide +kernel
theorem d_Polynomial_load_30 : decode b_Polynomial_load 30 = .ok (.aload_n 1, 1) := by decide +kernel
theorem d_Polynomial_load_31 : decode b_Polynomial_load 31 = .ok (.getfield 11, 3) := by decide +kernel
theorem d_Polynomial_load_34 : decode b_Polynomial_load 34 = .ok (.iload_n 3, 1) := by decide +kernel
theorem d_Polynomial_load_35 : decode b_Polynomial_load 35 = .ok (.aaload, 1) := by decide +kernel
theorem d_Polynomial_load_36 : decode b_Polynomial_load 36 = .ok (.aload_n 1, 1) := by decide +kernel
theorem d_Polynomial_load_37 : decode b_Polynomial_load 37 = .ok (.getfield 20, 3) := by decide +kernel
theorem d_Polynomial_load_40 : decode b_Polynomial_load 40 = .ok (.invokestatic 27, 3) := by decide +kernel
theorem d_Polynomial_load_43 : decode b_Polynomial_load 43 = .ok (.iinc 3 (1), 3) := by decide +kernel
theorem d_Polynomial_load_46 : decode b_Polynomial_load 46 = .ok (.goto (-31), 3) := by decide +kernel
theorem d_Polynomial_load_49 : decode b_Polynomial_load 49 = .ok (.return_, 1) := by decide +kernel
abbrev b_SpectrumDesk_bitsOf : ByteArray := prog_1_method_21_code
abbrev y_SpectrumDesk_bitsOf : MethodName := ⟨"SpectrumDesk", "bitsOf", "(J)I"⟩
abbrev v_SpectrumDesk_bitsOf : List Cond := Cond.code y_SpectrumDesk_bitsOf b_SpectrumDesk_bitsOf 3 (some .int) :: AW
theorem d_SpectrumDesk_bitsOf_0 : decode b_SpectrumDesk_bitsOf 0 = .ok (.iconst 0, 1) := by decide +kernel
theorem d_SpectrumDesk_bitsOf_1 : decode b_SpectrumDesk_bitsOf 1 = .ok (.istore_n 2, 1) := by decide +kernel
theorem d_SpectrumDesk_bitsOf_2 : decode b_SpectrumDesk_bitsOf 2 = .ok (.iload_n 2, 1) := by decide +kernel
theorem d_SpectrumDesk_bitsOf_3 : decode b_SpectrumDesk_bitsOf 3 = .ok (.bipush (63), 2) := by decide +kernel
theorem d_SpectrumDesk_bitsOf_5 : decode b_SpectrumDesk_bitsOf 5 = .ok (.if_icmp .ge (19), 3) := by decide +kernel
theorem d_SpectrumDesk_bitsOf_8 : decode b_SpectrumDesk_bitsOf 8 = .ok (.lload_n 0, 1) := by decide +kernel
theorem d_SpectrumDesk_bitsOf_9 : decode b_SpectrumDesk_bitsOf 9 = .ok (.iload_n 2, 1) := by decide +kernel
theorem d_SpectrumDesk_bitsOf_10 : decode b_SpectrumDesk_bitsOf 10 = .ok (.lshr, 1) := by decide +kernel
theorem d_SpectrumDesk_bitsOf_11 : decode b_SpectrumDesk_bitsOf 11 = .ok (.lconst 0, 1) := by decide +kernel
theorem d_SpectrumDesk_bitsOf_12 : decode b_SpectrumDesk_bitsOf 12 = .ok (.lcmp, 1) := by decide +kernel
theorem d_SpectrumDesk_bitsOf_13 : decode b_SpectrumDesk_bitsOf 13 = .ok (.ifCond .ne (5), 3) := by decide +kernel
theorem d_SpectrumDesk_bitsOf_16 : decode b_SpectrumDesk_bitsOf 16 = .ok (.iload_n 2, 1) := by decide +kernel
theorem d_SpectrumDesk_bitsOf_17 : decode b_SpectrumDesk_bitsOf 17 = .ok (.ireturn, 1) := by decide +kernel
theorem d_SpectrumDesk_bitsOf_18 : decode b_SpectrumDesk_bitsOf 18 = .ok (.iinc 2 (1), 3) := by decide +kernel
theorem d_SpectrumDesk_bitsOf_21 : decode b_SpectrumDesk_bitsOf 21 = .ok (.goto (-19), 3) := by decide +kernel
theorem d_SpectrumDesk_bitsOf_24 : decode b_SpectrumDesk_bitsOf 24 = .ok (.bipush (63), 2) := by decide +kernel
theorem d_SpectrumDesk_bitsOf_26 : decode b_SpectrumDesk_bitsOf 26 = .ok (.ireturn, 1) := by decide +kernel
abbrev b_Spectrum_howManyBelowEdge : ByteArray := prog_7_method_6_code
abbrev y_Spectrum_howManyBelowEdge : MethodName := ⟨"SpectrumDesk$Spectrum", "howManyBelowEdge", "(J)I"⟩
abbrev v_Spectrum_howManyBelowEdge : List Cond := Cond.code y_Spectrum_howManyBelowEdge b_Spectrum_howManyBelowEdge 3 (some .int) :: AW
theorem d_Spectrum_howManyBelowEdge_0 : decode b_Spectrum_howManyBelowEdge 0 = .ok (.aload_n 0, 1) := by decide +kernel
theorem d_Spectrum_howManyBelowEdge_1 : decode b_Spectrum_howManyBelowEdge 1 = .ok (.getfield 37, 3) := by decide +kernel
theorem d_Spectrum_howManyBelowEdge_4 : decode b_Spectrum_howManyBelowEdge 4 = .ok (.aload_n 0, 1) := by decide +kernel
theorem d_Spectrum_howManyBelowEdge_5 : decode b_Spectrum_howManyBelowEdge 5 = .ok (.getfield 34, 3) := by decide +kernel
theorem d_Spectrum_howManyBelowEdge_8 : decode b_Spectrum_howManyBelowEdge 8 = .ok (.aload_n 0, 1) := by decide +kernel
theorem d_Spectrum_howManyBelowEdge_9 : decode b_Spectrum_howManyBelowEdge 9 = .ok (.getfield 34, 3) := by decide +kernel
theorem d_Spectrum_howManyBelowEdge_12 : decode b_Spectrum_howManyBelowEdge 12 = .ok (.getfield 122, 3) := by decide +kernel
theorem d_Spectrum_howManyBelowEdge_15 : decode b_Spectrum_howManyBelowEdge 15 = .ok (.invokevirtual 88, 3) := by decide +kernel
theorem d_Spectrum_howManyBelowEdge_18 : decode b_Spectrum_howManyBelowEdge 18 = .ok (.aload_n 0, 1) := by decide +kernel
theorem d_Spectrum_howManyBelowEdge_19 : decode b_Spectrum_howManyBelowEdge 19 = .ok (.getfield 37, 3) := by decide +kernel
theorem d_Spectrum_howManyBelowEdge_22 : decode b_Spectrum_howManyBelowEdge 22 = .ok (.lload_n 1, 1) := by decide +kernel
theorem d_Spectrum_howManyBelowEdge_23 : decode b_Spectrum_howManyBelowEdge 23 = .ok (.invokevirtual 119, 3) := by decide +kernel
theorem d_Spectrum_howManyBelowEdge_26 : decode b_Spectrum_howManyBelowEdge 26 = .ok (.aload_n 0, 1) := by decide +kernel
theorem d_Spectrum_howManyBelowEdge_27 : decode b_Spectrum_howManyBelowEdge 27 = .ok (.getfield 37, 3) := by decide +kernel
theorem d_Spectrum_howManyBelowEdge_30 : decode b_Spectrum_howManyBelowEdge 30 = .ok (.invokevirtual 125, 3) := by decide +kernel
theorem d_Spectrum_howManyBelowEdge_33 : decode b_Spectrum_howManyBelowEdge 33 = .ok (.ireturn, 1) := by decide +kernel
theorem k_9a64875283 : (Jvm.Cond.methodLink "SpectrumDesk$Polynomial" (27 : Nat) ({ cls := "SpectrumDesk$Limbs", name := "widen", desc := "([II[II)V" } : Jvm.MethodName)) ∈ AW := aw_2 (List.mem_of_getElem? (i := 68) (by decide +kernel)) (by decide +kernel)
theorem k_1fafd596c5 : (Jvm.Cond.static ({ cls := "SpectrumDesk$Limbs", name := "widen", desc := "([II[II)V" } : Jvm.MethodName)) ∈ AW := aw_2 (List.mem_of_getElem? (i := 69) (by decide +kernel)) (by decide +kernel)
theorem k_0a83b20ad5 : (Jvm.Cond.fieldLink "SpectrumDesk$Spectrum" (37 : Nat) "SpectrumDesk$Spectrum" "probe" "LSpectrumDesk$Polynomial;") ∈ AW := aw_1 (List.mem_of_getElem? (i := 137) (by decide +kernel)) (by decide +kernel)
theorem k_e152497569 : (Jvm.Cond.fieldLink "SpectrumDesk$Spectrum" (34 : Nat) "SpectrumDesk$Spectrum" "fine" "LSpectrumDesk$Polynomial;") ∈ AW := aw_1 (List.mem_of_getElem? (i := 136) (by decide +kernel)) (by decide +kernel)
theorem k_6fcd4e436b : (Jvm.Cond.fieldLink "SpectrumDesk$Spectrum" (122 : Nat) "SpectrumDesk$Polynomial" "limbs" "I") ∈ AW := aw_1 (List.mem_of_getElem? (i := 84) (by decide +kernel)) (by decide +kernel)
theorem k_ad4977aa85 : (Jvm.Cond.methodLink "SpectrumDesk$Spectrum" (88 : Nat) ({ cls := "SpectrumDesk$Polynomial", name := "load", desc := "(LSpectrumDesk$Polynomial;I)V" } : Jvm.MethodName)) ∈ AW := aw_2 (List.mem_of_getElem? (i := 64) (by decide +kernel)) (by decide +kernel)
theorem k_b375a81d80 : (Jvm.Cond.instanceMethod ({ cls := "SpectrumDesk$Polynomial", name := "load", desc := "(LSpectrumDesk$Polynomial;I)V" } : Jvm.MethodName)) ∈ AW := aw_2 (List.mem_of_getElem? (i := 65) (by decide +kernel)) (by decide +kernel)
theorem k_fcbb6b90f7 : (Jvm.Cond.selects "SpectrumDesk$Polynomial" ({ cls := "SpectrumDesk$Polynomial", name := "load", desc := "(LSpectrumDesk$Polynomial;I)V" } : Jvm.MethodName) ({ cls := "SpectrumDesk$Polynomial", name := "load", desc := "(LSpectrumDesk$Polynomial;I)V" } : Jvm.MethodName)) ∈ AW := aw_2 (List.mem_of_getElem? (i := 66) (by decide +kernel)) (by decide +kernel)
theorem k_5bc7bce489 : (Jvm.Cond.methodLink "SpectrumDesk$Spectrum" (119 : Nat) ({ cls := "SpectrumDesk$Polynomial", name := "lowerRoots", desc := "(J)V" } : Jvm.MethodName)) ∈ AW := aw_4 (List.mem_of_getElem? (i := 36) (by decide +kernel)) (by decide +kernel)
theorem k_30782e9c94 : (Jvm.Cond.instanceMethod ({ cls := "SpectrumDesk$Polynomial", name := "lowerRoots", desc := "(J)V" } : Jvm.MethodName)) ∈ AW := aw_4 (List.mem_of_getElem? (i := 37) (by decide +kernel)) (by decide +kernel)
theorem k_c1884cc592 : (Jvm.Cond.selects "SpectrumDesk$Polynomial" ({ cls := "SpectrumDesk$Polynomial", name := "lowerRoots", desc := "(J)V" } : Jvm.MethodName) ({ cls := "SpectrumDesk$Polynomial", name := "lowerRoots", desc := "(J)V" } : Jvm.MethodName)) ∈ AW := aw_4 (List.mem_of_getElem? (i := 38) (by decide +kernel)) (by decide +kernel)
theorem k_48413bf910 : (Jvm.Cond.methodLink "SpectrumDesk$Spectrum" (125 : Nat) ({ cls := "SpectrumDesk$Polynomial", name := "rootsBelow", desc := "()I" } : Jvm.MethodName)) ∈ AW := aw_4 (List.mem_of_getElem? (i := 40) (by decide +kernel)) (by decide +kernel)
theorem k_29b5639176 : (Jvm.Cond.instanceMethod ({ cls := "SpectrumDesk$Polynomial", name := "rootsBelow", desc := "()I" } : Jvm.MethodName)) ∈ AW := aw_4 (List.mem_of_getElem? (i := 41) (by decide +kernel)) (by decide +kernel)
theorem k_d43b154fc4 : (Jvm.Cond.selects "SpectrumDesk$Polynomial" ({ cls := "SpectrumDesk$Polynomial", name := "rootsBelow", desc := "()I" } : Jvm.MethodName) ({ cls := "SpectrumDesk$Polynomial", name := "rootsBelow", desc := "()I" } : Jvm.MethodName)) ∈ AW := aw_4 (List.mem_of_getElem? (i := 42) (by decide +kernel)) (by decide +kernel)
theorem k_69d11c4a63 : (Jvm.Cond.code ({ cls := "SpectrumDesk$Polynomial", name := "load", desc := "(LSpectrumDesk$Polynomial;I)V" } : Jvm.MethodName) prog_5_method_2_code (4 : Nat) (Option.none : Option Jvm.ClassFile.FieldType)) ∈ AW := aw_2 (List.mem_of_getElem? (i := 67) (by decide +kernel)) (by decide +kernel)
theorem k_5f25c3479c : (Jvm.Cond.code ({ cls := "SpectrumDesk", name := "bitsOf", desc := "(J)I" } : Jvm.MethodName) prog_1_method_21_code (3 : Nat) (Option.some Jvm.ClassFile.FieldType.int)) ∈ AW := aw_2 (List.mem_of_getElem? (i := 63) (by decide +kernel)) (by decide +kernel)
theorem k_1a3fb439f2 : (Jvm.Cond.code ({ cls := "SpectrumDesk$Spectrum", name := "howManyBelowEdge", desc := "(J)I" } : Jvm.MethodName) prog_7_method_6_code (3 : Nat) (Option.some Jvm.ClassFile.FieldType.int)) ∈ AW := aw_4 (List.mem_of_getElem? (i := 35) (by decide +kernel)) (by decide +kernel)
set_option maxHeartbeats 4000000 in
set_option maxRecDepth 100000 in
theorem c_Polynomial_load {l : Launch} {D : va_G} {cI cJ cZ cC cG cP : ClassId} {N : Nat} {ad : Nat → Nat} {σ : Nat → va_E} {i j mi di li mj dj lj lbs : Nat} {Fi Fj : Nat → Nat → Int32} {si sj : Nat → Int32} {p0 : Nat → Int} (hNi : i + 10 ≤ N) (hNj : j + 10 ≤ N) (hij : i + 10 ≤ j ∨ j + 10 ≤ i) (hpi : pl ad cI cG σ i mi di li Fi si) (hpj : pl ad cI cG σ j mj dj lj Fj sj) (hdj : dj ≤ 6) (hmi : mi < 2 ^ 31) (hmj : mj < 2 ^ 31) (hlj : lj ≤ mj) (hl0 : 0 < lj) (hlm : lbs ≤ mi) (his : pl_is Fj dj lj p0) (hsz : pl_sz dj lj p0) :
    Met l y_Polynomial_load v_Polynomial_load (xrm 3) (va_Pc [.ref (ad i), .ref (ad j), .int (nI lbs)] (xS D classes (xT cI cJ cZ cC cG cP) N ad σ)) (va_Qv (fun σ2 => ∃ F2 : Nat → Nat → Int32, pl_fr10 σ σ2 i ∧ pl ad cI cG σ2 i mi dj lbs F2 si ∧ pl_is F2 dj lbs p0) (xS D classes (xT cI cJ cZ cC cG cP) N ad) (xA N ad)) 0 0 (xA N ad) := by
  refine xr_met rfl (Nat.le_of_ble_eq_true rfl) ?_
  intro p e s m args below meth c ls hx hb X hr hlk hl I
  have hl : lv_has ls 4 [(0, .ref (ad i)), (1, .ref (ad j)), (2, .int (nI lbs))] := hl
  refine lv_aload_n hx hb d_Polynomial_load_0 rfl (lv_at hl 0 rfl) ?_
  refine lv_iload_n hx hb d_Polynomial_load_1 rfl (lv_at hl 2 rfl) ?_
  refine xr_put (ty := .int) X I fin_P t_P t_P_ok n_P i (by omega) (pl_o hpi) rfl 3 (by decide) (List.mem_cons_of_mem _ k_e72feda95c) rfl rfl (by decide +kernel) rfl rfl (Nat.le_of_ble_eq_true rfl) d_Polynomial_load_2 (fun H locs I => ?_)
  have h1 := pl_fields hpi di lbs
  have k1 := pl_else hpj (show i < j ∨ j + 10 ≤ i by omega) (.inr (ciP, [.ref (ad (i + 1)), .ref (ad (i + 9)), .int (nI di), .int (nI lbs)]))
  have I : xI D classes N ad s.heap (va_up σ i (.inr (ciP, [.ref (ad (i + 1)), .ref (ad (i + 9)), .int (nI di), .int (nI lbs)]))) H locs := I
  refine lv_aload_n hx hb d_Polynomial_load_5 rfl (lv_at hl 0 rfl) ?_
  refine lv_aload_n hx hb d_Polynomial_load_6 rfl (lv_at hl 1 rfl) ?_
  refine xr_get X I fin_P j (by omega) (pl_o k1) rfl 2 (by decide) (List.mem_cons_of_mem _ k_d20440e3eb) rfl rfl d_Polynomial_load_7 ?_
  refine xr_put (ty := .int) X I fin_P t_P t_P_ok n_P i (by omega) (pl_o h1) rfl 2 (by decide) (List.mem_cons_of_mem _ k_d20440e3eb) rfl rfl (by decide +kernel) rfl rfl (Nat.le_of_ble_eq_true rfl) d_Polynomial_load_10 (fun H locs I => ?_)
  have h2 := pl_fields h1 dj lbs
  have k2 := pl_else k1 (show i < j ∨ j + 10 ≤ i by omega) (.inr (ciP, [.ref (ad (i + 1)), .ref (ad (i + 9)), .int (nI dj), .int (nI lbs)]))
  have I : xI D classes N ad s.heap (va_up (va_up σ i (.inr (ciP, [.ref (ad (i + 1)), .ref (ad (i + 9)), .int (nI di), .int (nI lbs)]))) i (.inr (ciP, [.ref (ad (i + 1)), .ref (ad (i + 9)), .int (nI dj), .int (nI lbs)]))) H locs := I
  have fr0 : pl_fr10 σ (va_up (va_up σ i (.inr (ciP, [.ref (ad (i + 1)), .ref (ad (i + 9)), .int (nI di), .int (nI lbs)]))) i (.inr (ciP, [.ref (ad (i + 1)), .ref (ad (i + 9)), .int (nI dj), .int (nI lbs)]))) i := fun q hq => (va_up_ne _ _ (by omega)).trans (va_up_ne _ _ (by omega))
  refine lv_iconst (v := nI 0) hx hb d_Polynomial_load_13 (by decide) ?_
  refine lv_istore_n (lv' := [(3, .int (nI 0)), (0, .ref (ad i)), (1, .ref (ad j)), (2, .int (nI lbs))]) hx hb d_Polynomial_load_14 rfl hl (by decide) rfl (fun ls hl => ?_)
  have loop : ∀ (q : Nat) (k : Nat) (σ3 : Nat → va_E) (F2 : Nat → Nat → Int32) (ls : Array Slot) (H : Heap) (locs : List Loc), k + q = dj + 1 → pl ad cI cG σ3 i mi dj lbs F2 si → pl ad cI cG σ3 j mj dj lj Fj sj → pl_fr10 σ σ3 i → (∀ k2, k2 < k → lm_is (F2 k2) lbs (p0 k2)) → lv_has ls 4 [(3, .int (nI k)), (0, .ref (ad i)), (1, .ref (ad j)), (2, .int (nI lbs))] → xI D classes N ad s.heap (σ3) H locs → W p l e (xrm 3) s m args below meth c H locs 0 0 (MQ below (va_Qv (fun σ2 => ∃ F2 : Nat → Nat → Int32, pl_fr10 σ σ2 i ∧ pl ad cI cG σ2 i mi dj lbs F2 si ∧ pl_is F2 dj lbs p0) (xS D classes (xT cI cJ cZ cC cG cP) N ad) (xA N ad)) args s 0 0 (xA N ad)) (F0 m 15 ls []) := by
    intro q
    induction q with
    | zero =>
      intro k σ3 F2 ls H locs hk h3 k3 fr3 g3 hl I
      obtain rfl : k = dj + 1 := by omega
      refine lv_iload_n hx hb d_Polynomial_load_15 rfl (lv_at hl 0 rfl) ?_
      refine lv_aload_n hx hb d_Polynomial_load_16 rfl (lv_at hl 1 rfl) ?_
      refine xr_get X I fin_P i (by omega) (pl_o h3) rfl 2 (by decide) (List.mem_cons_of_mem _ k_d20440e3eb) rfl rfl d_Polynomial_load_17 ?_
      refine lv_icmp_gt hx hb d_Polynomial_load_20 rfl (fun hc => ?_) (fun hc => ?_)
      · exact xr_vret X I hr hlk ⟨F2, fr3, h3, fun k hk => g3 k (by omega)⟩ d_Polynomial_load_49
      · exact absurd (nI_lt (Nat.lt_succ_self _) (by omega)) hc
    | succ q ih =>
      intro k σ3 F2 ls H locs hk h3 k3 fr3 g3 hl I
      refine lv_iload_n hx hb d_Polynomial_load_15 rfl (lv_at hl 0 rfl) ?_
      refine lv_aload_n hx hb d_Polynomial_load_16 rfl (lv_at hl 1 rfl) ?_
      refine xr_get X I fin_P i (by omega) (pl_o h3) rfl 2 (by decide) (List.mem_cons_of_mem _ k_d20440e3eb) rfl rfl d_Polynomial_load_17 ?_
      refine lv_icmp_gt hx hb d_Polynomial_load_20 rfl (fun hc => ?_) (fun hc => ?_)
      · exact absurd hc (nI_nlt (by omega) (by omega))
      · refine lv_aload_n hx hb d_Polynomial_load_23 rfl (lv_at hl 1 rfl) ?_
        refine xr_get X I fin_P i (by omega) (pl_o h3) rfl 0 (by decide) (List.mem_cons_of_mem _ k_fc34798cd9) rfl rfl d_Polynomial_load_24 ?_
        refine lv_iload_n hx hb d_Polynomial_load_27 rfl (lv_at hl 0 rfl) ?_
        refine xr_aald X I (i + 1) 4 (by omega) (pl_c h3) rfl rfl (by omega) (by decide) (pl_at (by omega)) d_Polynomial_load_28 ?_
        refine lv_iload_n hx hb d_Polynomial_load_29 rfl (lv_at hl 3 rfl) ?_
        refine lv_aload_n hx hb d_Polynomial_load_30 rfl (lv_at hl 2 rfl) ?_
        refine xr_get X I fin_P j (by omega) (pl_o k3) rfl 0 (by decide) (List.mem_cons_of_mem _ k_fc34798cd9) rfl rfl d_Polynomial_load_31 ?_
        refine lv_iload_n hx hb d_Polynomial_load_34 rfl (lv_at hl 0 rfl) ?_
        refine xr_aald X I (j + 1) 4 (by omega) (pl_c k3) rfl rfl (by omega) (by decide) (pl_at (by omega)) d_Polynomial_load_35 ?_
        refine lv_aload_n hx hb d_Polynomial_load_36 rfl (lv_at hl 2 rfl) ?_
        refine xr_get X I fin_P j (by omega) (pl_o k3) rfl 3 (by decide) (List.mem_cons_of_mem _ k_e72feda95c) rfl rfl d_Polynomial_load_37 ?_
        refine xr_callv (xr_runS (kc := 2) (kr := 3) (n := 4) (As := [.ref (ad (i + 2 + k)), .int (nI lbs), .ref (ad (j + 2 + k)), .int (nI lj)]) (rest := []) X I (c_Limbs_widen (σ := σ3) (show i + 2 + k < N by omega) (show j + 2 + k < N by omega) (pl_r h3 (by omega)) (pl_r k3 (by omega)) (by omega) hl0 hlm hmi hlj hmj ⟨his k (by omega), hsz k (by omega)⟩) (xg k_c2ea1ab362) (List.mem_cons_of_mem _ k_9a64875283) (List.mem_cons_of_mem _ k_1fafd596c5) (List.mem_cons_of_mem _ k_b15d0305ca) (by decide +kernel) (by decide) rfl hl.1 rfl (Nat.le_of_ble_eq_true rfl) d_Polynomial_load_40) I (fun σ4 H locs hp I => ?_)
        obtain ⟨f2, rfl, f3, f4⟩ := hp
        refine lv_iinc (k := 0) (v := nI (k + 1)) (lv' := [(3, .int (nI (k + 1))), (0, .ref (ad i)), (1, .ref (ad j)), (2, .int (nI lbs))]) hx hb d_Polynomial_load_43 hl rfl (nI_1 k) (by decide) rfl (fun ls hl => ?_)
        refine lv_goto hx hb d_Polynomial_load_46 rfl ?_
        refine ih (k + 1) _ _ ls H locs (by omega) (pl_row h3 (show k < 7 by omega) f2) (pl_else k3 (by omega) _) (fun q hq => (va_up_ne _ _ (by omega)).trans (fr3 q hq)) (fun e he => ?_) hl I
        by_cases q9 : e = k
        · rw [q9, va_up_self]; exact f4
        · rw [va_up_ne _ _ q9]; exact g3 e (by omega)
  exact loop (dj + 1) 0 _ Fi ls _ _ (by omega) h2 k2 fr0 (fun k hk => absurd hk (Nat.not_lt_zero _)) hl I
set_option maxHeartbeats 4000000 in
set_option maxRecDepth 100000 in
theorem c_SpectrumDesk_bitsOf {l : Launch} {D : va_G} {cI cJ cZ cC cG cP : ClassId} {N : Nat} {ad : Nat → Nat} {σ : Nat → va_E} {v : Nat} (hv : v < 2 ^ 62) :
    Met l y_SpectrumDesk_bitsOf v_SpectrumDesk_bitsOf (xrm 0) (va_Pc [.long (lN v)] (xS D classes (xT cI cJ cZ cC cG cP) N ad σ)) (va_Qi (fun r σ2 => ∃ b : Nat, r = nI b ∧ v < 2 ^ b ∧ (∀ k, k < b → 2 ^ k ≤ v) ∧ σ2 = σ) (xS D classes (xT cI cJ cZ cC cG cP) N ad) (xA N ad)) 0 0 (xA N ad) := by
  refine xr_met rfl (Nat.le_of_ble_eq_true rfl) ?_
  intro p e s m args below meth c ls hx hb X hr hlk hl I
  have hl : lv_has ls 3 [(0, .long (lN v))] := hl
  refine lv_iconst (v := nI 0) hx hb d_SpectrumDesk_bitsOf_0 (by decide) ?_
  refine lv_istore_n (lv' := [(2, .int (nI 0)), (0, .long (lN v))]) hx hb d_SpectrumDesk_bitsOf_1 rfl hl (by decide) rfl (fun ls hl => ?_)
  have loop : ∀ (j : Nat) (b : Nat) (ls : Array Slot) (H : Heap) (locs : List Loc), b + j = 63 → (∀ k, k < b → 2 ^ k ≤ v) → lv_has ls 3 [(2, .int (nI b)), (0, .long (lN v))] → xI D classes N ad s.heap (σ) H locs → W p l e (xrm 0) s m args below meth c H locs 0 0 (MQ below (va_Qi (fun r σ2 => ∃ b : Nat, r = nI b ∧ v < 2 ^ b ∧ (∀ k, k < b → 2 ^ k ≤ v) ∧ σ2 = σ) (xS D classes (xT cI cJ cZ cC cG cP) N ad) (xA N ad)) args s 0 0 (xA N ad)) (F0 m 2 ls []) := by
    intro j
    induction j with
    | zero =>
      intro b ls H locs hk hlo hl I
      exact absurd (hlo 62 (by omega)) (by omega)
    | succ j ih =>
      intro b ls H locs hk hlo hl I
      refine lv_iload_n hx hb d_SpectrumDesk_bitsOf_2 rfl (lv_at hl 0 rfl) ?_
      refine lv_bipush (v := nI 63) hx hb d_SpectrumDesk_bitsOf_3 (by decide) ?_
      refine lv_icmp_ge hx hb d_SpectrumDesk_bitsOf_5 rfl (fun hc => ?_) (fun hc => ?_)
      · exact absurd hc (nI_ge (by omega) (by decide))
      · refine lv_lload_n hx hb d_SpectrumDesk_bitsOf_8 rfl (lv_at hl 1 rfl) ?_
        refine lv_iload_n hx hb d_SpectrumDesk_bitsOf_9 rfl (lv_at hl 0 rfl) ?_
        refine lv_lshr hx hb d_SpectrumDesk_bitsOf_10 rfl ?_
        refine xr_topl (y := lN (v / 2 ^ b)) (q_shrN hv (by omega)) ?_
        refine lv_lconst (v := 0) hx hb d_SpectrumDesk_bitsOf_11 (by decide) ?_
        refine W.lcmp hx hb d_SpectrumDesk_bitsOf_12 ?_
        refine lv_if_ne hx hb d_SpectrumDesk_bitsOf_13 rfl (fun hd => ?_) (fun hd => ?_)
        · have hz : ¬ v / 2 ^ b = 0 := fun h => hd ((lg_cmp_eq _ _).mpr (by rw [h]; rfl))
          refine lv_iinc (k := 0) (v := nI (b + 1)) (lv' := [(2, .int (nI (b + 1))), (0, .long (lN v))]) hx hb d_SpectrumDesk_bitsOf_18 hl rfl (nI_1 b) (by decide) rfl (fun ls hl => ?_)
          refine lv_goto hx hb d_SpectrumDesk_bitsOf_21 rfl ?_
          exact ih (b + 1) ls H locs (by omega) (fun k hk => if ek : k = b then (by rw [ek]; exact (Nat.div_pos_iff.mp (Nat.pos_of_ne_zero hz)).2) else hlo k (by omega)) hl I
        · have hz : v / 2 ^ b = 0 := by have h := (lg_cmp_eq _ _).mp hd; exact (q_lN0 (Nat.lt_of_le_of_lt (Nat.div_le_self _ _) (by omega))).mp h
          refine lv_iload_n hx hb d_SpectrumDesk_bitsOf_16 rfl (lv_at hl 0 rfl) ?_
          exact xr_iret X I hr hlk ⟨b, rfl, (Nat.div_eq_zero_iff.mp hz).elim (fun h => absurd h (by have := Nat.two_pow_pos b; omega)) id, hlo, rfl⟩ d_SpectrumDesk_bitsOf_17
  exact loop 63 0 ls _ _ (by omega) (fun k hk => absurd hk (Nat.not_lt_zero _)) hl I
set_option maxHeartbeats 4000000 in
set_option maxRecDepth 100000 in
theorem c_Spectrum_howManyBelowEdge {l : Launch} {D : va_G} {cI cJ cZ cC cG cP : ClassId} {N : Nat} {ad : Nat → Nat} {σ : Nat → va_E} {rk nn bo : Int32} {tr : Int64} (hN : N = 193) (hE : σ 18 = .inr (ciE, eF ad rk nn bo tr)) {v : Int64} {n lf : Nat} {pf : Nat → Int} {Ff : Nat → Nat → Int32} {sf : Nat → Int32} (hf : pl ad cI cG σ 100 12 n lf Ff sf) (hp9 : prb ad cI cG σ) (hn : n ≤ 6) (hl2 : 2 ≤ lf) (hl12 : lf ≤ 12) (his : pl_is Ff n lf pf) (hsz : pl_sz n lf pf) (hsz2 : pl_sz n lf (low v.toInt n pf n)) :
    Met l y_Spectrum_howManyBelowEdge v_Spectrum_howManyBelowEdge (xrm 4) (va_Pc [.ref (ad 18), .long v] (xS D classes (xT cI cJ cZ cC cG cP) N ad σ)) (va_Qi (fun r σ2 => r = lessI (low v.toInt n pf n) n ∧ pl_fr10 σ σ2 110 ∧ prb ad cI cG σ2) (xS D classes (xT cI cJ cZ cC cG cP) N ad) (xA N ad)) 0 0 (xA N ad) := by
  obtain ⟨d0, l0, F0_, s0_, hp0⟩ := hp9
  refine xr_met rfl (Nat.le_of_ble_eq_true rfl) ?_
  intro p e s m args below meth c ls hx hb X hr hlk hl I
  have hl : lv_has ls 3 [(0, .ref (ad 18)), (1, .long v)] := hl
  refine lv_aload_n hx hb d_Spectrum_howManyBelowEdge_0 rfl (lv_at hl 0 rfl) ?_
  refine xr_get X I fin_E 18 (by omega) hE rfl 3 (by decide) (List.mem_cons_of_mem _ k_0a83b20ad5) rfl rfl d_Spectrum_howManyBelowEdge_1 ?_
  refine lv_aload_n hx hb d_Spectrum_howManyBelowEdge_4 rfl (lv_at hl 0 rfl) ?_
  refine xr_get X I fin_E 18 (by omega) hE rfl 2 (by decide) (List.mem_cons_of_mem _ k_e152497569) rfl rfl d_Spectrum_howManyBelowEdge_5 ?_
  refine lv_aload_n hx hb d_Spectrum_howManyBelowEdge_8 rfl (lv_at hl 0 rfl) ?_
  refine xr_get X I fin_E 18 (by omega) hE rfl 2 (by decide) (List.mem_cons_of_mem _ k_e152497569) rfl rfl d_Spectrum_howManyBelowEdge_9 ?_
  refine xr_get X I fin_P 100 (by omega) (pl_o hf) rfl 3 (by decide) (List.mem_cons_of_mem _ k_6fcd4e436b) rfl rfl d_Spectrum_howManyBelowEdge_12 ?_
  refine xr_callv (xr_runV (kc := 3) (kr := 4) (n := 2) (As := [.ref (ad 100), .int (nI lf)]) (rest := []) X I (by omega) (pl_o hp0) rfl (c_Polynomial_load (i := 110) (j := 100) (by omega) (by omega) (by omega) hp0 hf hn (by decide) (by decide) hl12 (by omega) (show lf ≤ 20 by omega) his hsz) (xg k_69d11c4a63) (List.mem_cons_of_mem _ k_ad4977aa85) (List.mem_cons_of_mem _ k_b375a81d80) (List.mem_cons_of_mem _ k_fcbb6b90f7) (List.mem_cons_of_mem _ k_a8ac99ee00) (by decide +kernel) (by decide) rfl hl.1 rfl (Nat.le_of_ble_eq_true rfl) d_Spectrum_howManyBelowEdge_15) I (fun σ1 H locs hp I => ?_)
  obtain ⟨F1, fr1, hp1, hi1⟩ := hp
  have hE1 : σ1 18 = .inr (ciE, eF ad rk nn bo tr) := (fr1 18 (by omega)).trans hE
  refine lv_aload_n hx hb d_Spectrum_howManyBelowEdge_18 rfl (lv_at hl 0 rfl) ?_
  refine xr_get X I fin_E 18 (by omega) hE1 rfl 3 (by decide) (List.mem_cons_of_mem _ k_0a83b20ad5) rfl rfl d_Spectrum_howManyBelowEdge_19 ?_
  refine lv_lload_n hx hb d_Spectrum_howManyBelowEdge_22 rfl (lv_at hl 1 rfl) ?_
  refine xr_callv (xr_runV (kc := 2) (kr := 4) (n := 1) (As := [.long v]) (rest := []) X I (by omega) (pl_o hp1) rfl (c_Polynomial_lowerRoots (i := 110) (v := v) (by omega) hp1 hn (by decide) (show lf ≤ 20 by omega) hl2 hi1) (xg k_f8d403c61a) (List.mem_cons_of_mem _ k_5bc7bce489) (List.mem_cons_of_mem _ k_30782e9c94) (List.mem_cons_of_mem _ k_c1884cc592) (List.mem_cons_of_mem _ k_a8ac99ee00) (by decide +kernel) (by decide) rfl hl.1 rfl (Nat.le_of_ble_eq_true rfl) d_Spectrum_howManyBelowEdge_23) I (fun σ2 H locs hp I => ?_)
  obtain ⟨F2, s2, fr2, hp2, hi2⟩ := hp
  have hE2 : σ2 18 = .inr (ciE, eF ad rk nn bo tr) := (fr2 18 (by omega)).trans hE1
  refine lv_aload_n hx hb d_Spectrum_howManyBelowEdge_26 rfl (lv_at hl 0 rfl) ?_
  refine xr_get X I fin_E 18 (by omega) hE2 rfl 3 (by decide) (List.mem_cons_of_mem _ k_0a83b20ad5) rfl rfl d_Spectrum_howManyBelowEdge_27 ?_
  refine xr_calli (xr_runV (kc := 2) (kr := 4) (n := 0) (As := []) (rest := []) X I (by omega) (pl_o hp2) rfl (c_Polynomial_rootsBelow (i := 110) (by omega) hp2 hn (by decide) (show lf ≤ 20 by omega) hl2 hi2 hsz2) (xg k_78be9b3f0a) (List.mem_cons_of_mem _ k_48413bf910) (List.mem_cons_of_mem _ k_29b5639176) (List.mem_cons_of_mem _ k_d43b154fc4) (List.mem_cons_of_mem _ k_a8ac99ee00) (by decide +kernel) (by decide) rfl hl.1 rfl (Nat.le_of_ble_eq_true rfl) d_Spectrum_howManyBelowEdge_30) I (fun r1 σ3 H locs hp I => ?_)
  obtain ⟨rfl, h9⟩ := hp; rw [h9] at I
  exact xr_iret X I hr hlk ⟨rfl, pl_fr10_tr fr1 (pl_fr_10 fr2), _, _, _, _, hp2⟩ d_Spectrum_howManyBelowEdge_33
