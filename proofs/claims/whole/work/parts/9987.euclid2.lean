/-! SpectrumDesk$Euclid.findCommon (written by wip/gen) -/
abbrev b_Euclid_findCommon : ByteArray := prog_3_method_2_code
abbrev y_Euclid_findCommon : MethodName := ⟨"SpectrumDesk$Euclid", "findCommon", "(LSpectrumDesk$Polynomial;LSpectrumDesk$Polynomial;I)V"⟩
abbrev v_Euclid_findCommon : List Cond := Cond.code y_Euclid_findCommon b_Euclid_findCommon 9 none :: AW
theorem d_Euclid_findCommon_0 : decode b_Euclid_findCommon 0 = .ok (.aload_n 1, 1) := by decide +kernel
theorem d_Euclid_findCommon_1 : decode b_Euclid_findCommon 1 = .ok (.getfield 27, 3) := by decide +kernel
theorem d_Euclid_findCommon_4 : decode b_Euclid_findCommon 4 = .ok (.iload_n 3, 1) := by decide +kernel
theorem d_Euclid_findCommon_5 : decode b_Euclid_findCommon 5 = .ok (.invokestatic 31, 3) := by decide +kernel
theorem d_Euclid_findCommon_8 : decode b_Euclid_findCommon 8 = .ok (.istore 4, 2) := by decide +kernel
theorem d_Euclid_findCommon_10 : decode b_Euclid_findCommon 10 = .ok (.aload_n 0, 1) := by decide +kernel
theorem d_Euclid_findCommon_11 : decode b_Euclid_findCommon 11 = .ok (.getfield 14, 3) := by decide +kernel
theorem d_Euclid_findCommon_14 : decode b_Euclid_findCommon 14 = .ok (.astore 5, 2) := by decide +kernel
theorem d_Euclid_findCommon_16 : decode b_Euclid_findCommon 16 = .ok (.aload_n 0, 1) := by decide +kernel
theorem d_Euclid_findCommon_17 : decode b_Euclid_findCommon 17 = .ok (.getfield 20, 3) := by decide +kernel
theorem d_Euclid_findCommon_20 : decode b_Euclid_findCommon 20 = .ok (.astore 6, 2) := by decide +kernel
theorem d_Euclid_findCommon_22 : decode b_Euclid_findCommon 22 = .ok (.aload 5, 2) := by decide +kernel
theorem d_Euclid_findCommon_24 : decode b_Euclid_findCommon 24 = .ok (.aload_n 1, 1) := by decide +kernel
theorem d_Euclid_findCommon_25 : decode b_Euclid_findCommon 25 = .ok (.iload 4, 2) := by decide +kernel
theorem d_Euclid_findCommon_27 : decode b_Euclid_findCommon 27 = .ok (.invokevirtual 35, 3) := by decide +kernel
theorem d_Euclid_findCommon_30 : decode b_Euclid_findCommon 30 = .ok (.aload 6, 2) := by decide +kernel
theorem d_Euclid_findCommon_32 : decode b_Euclid_findCommon 32 = .ok (.aload_n 1, 1) := by decide +kernel
theorem d_Euclid_findCommon_33 : decode b_Euclid_findCommon 33 = .ok (.iload 4, 2) := by decide +kernel
theorem d_Euclid_findCommon_35 : decode b_Euclid_findCommon 35 = .ok (.invokevirtual 39, 3) := by decide +kernel
theorem d_Euclid_findCommon_38 : decode b_Euclid_findCommon 38 = .ok (.aload_n 1, 1) := by decide +kernel
theorem d_Euclid_findCommon_39 : decode b_Euclid_findCommon 39 = .ok (.getfield 27, 3) := by decide +kernel
theorem d_Euclid_findCommon_42 : decode b_Euclid_findCommon 42 = .ok (.iconst 1, 1) := by decide +kernel
theorem d_Euclid_findCommon_43 : decode b_Euclid_findCommon 43 = .ok (.isub, 1) := by decide +kernel
theorem d_Euclid_findCommon_44 : decode b_Euclid_findCommon 44 = .ok (.istore 7, 2) := by decide +kernel
theorem d_Euclid_findCommon_46 : decode b_Euclid_findCommon 46 = .ok (.iload 7, 2) := by decide +kernel
theorem d_Euclid_findCommon_48 : decode b_Euclid_findCommon 48 = .ok (.iconst 1, 1) := by decide +kernel
theorem d_Euclid_findCommon_49 : decode b_Euclid_findCommon 49 = .ok (.if_icmp .lt (51), 3) := by decide +kernel
theorem d_Euclid_findCommon_52 : decode b_Euclid_findCommon 52 = .ok (.aload_n 0, 1) := by decide +kernel
theorem d_Euclid_findCommon_53 : decode b_Euclid_findCommon 53 = .ok (.aload 5, 2) := by decide +kernel
theorem d_Euclid_findCommon_55 : decode b_Euclid_findCommon 55 = .ok (.aload 6, 2) := by decide +kernel
theorem d_Euclid_findCommon_57 : decode b_Euclid_findCommon 57 = .ok (.invokevirtual 42, 3) := by decide +kernel
theorem d_Euclid_findCommon_60 : decode b_Euclid_findCommon 60 = .ok (.aload 5, 2) := by decide +kernel
theorem d_Euclid_findCommon_62 : decode b_Euclid_findCommon 62 = .ok (.getfield 46, 3) := by decide +kernel
theorem d_Euclid_findCommon_65 : decode b_Euclid_findCommon 65 = .ok (.aload 5, 2) := by decide +kernel
theorem d_Euclid_findCommon_67 : decode b_Euclid_findCommon 67 = .ok (.getfield 27, 3) := by decide +kernel
theorem d_Euclid_findCommon_70 : decode b_Euclid_findCommon 70 = .ok (.aaload, 1) := by decide +kernel
theorem d_Euclid_findCommon_71 : decode b_Euclid_findCommon 71 = .ok (.iload 4, 2) := by decide +kernel
theorem d_Euclid_findCommon_73 : decode b_Euclid_findCommon 73 = .ok (.invokestatic 50, 3) := by decide +kernel
theorem d_Euclid_findCommon_76 : decode b_Euclid_findCommon 76 = .ok (.ifCond .ne (6), 3) := by decide +kernel
theorem d_Euclid_findCommon_79 : decode b_Euclid_findCommon 79 = .ok (.goto (21), 3) := by decide +kernel
theorem d_Euclid_findCommon_82 : decode b_Euclid_findCommon 82 = .ok (.aload 5, 2) := by decide +kernel
theorem d_Euclid_findCommon_84 : decode b_Euclid_findCommon 84 = .ok (.astore 8, 2) := by decide +kernel
theorem d_Euclid_findCommon_86 : decode b_Euclid_findCommon 86 = .ok (.aload 6, 2) := by decide +kernel
theorem d_Euclid_findCommon_88 : decode b_Euclid_findCommon 88 = .ok (.astore 5, 2) := by decide +kernel
theorem d_Euclid_findCommon_90 : decode b_Euclid_findCommon 90 = .ok (.aload 8, 2) := by decide +kernel
theorem d_Euclid_findCommon_92 : decode b_Euclid_findCommon 92 = .ok (.astore 6, 2) := by decide +kernel
theorem d_Euclid_findCommon_94 : decode b_Euclid_findCommon 94 = .ok (.iinc 7 (-1), 3) := by decide +kernel
theorem d_Euclid_findCommon_97 : decode b_Euclid_findCommon 97 = .ok (.goto (-51), 3) := by decide +kernel
theorem d_Euclid_findCommon_100 : decode b_Euclid_findCommon 100 = .ok (.aload_n 0, 1) := by decide +kernel
theorem d_Euclid_findCommon_101 : decode b_Euclid_findCommon 101 = .ok (.getfield 23, 3) := by decide +kernel
theorem d_Euclid_findCommon_104 : decode b_Euclid_findCommon 104 = .ok (.aload 6, 2) := by decide +kernel
theorem d_Euclid_findCommon_106 : decode b_Euclid_findCommon 106 = .ok (.getfield 46, 3) := by decide +kernel
theorem d_Euclid_findCommon_109 : decode b_Euclid_findCommon 109 = .ok (.aload 6, 2) := by decide +kernel
theorem d_Euclid_findCommon_111 : decode b_Euclid_findCommon 111 = .ok (.getfield 27, 3) := by decide +kernel
theorem d_Euclid_findCommon_114 : decode b_Euclid_findCommon 114 = .ok (.aaload, 1) := by decide +kernel
theorem d_Euclid_findCommon_115 : decode b_Euclid_findCommon 115 = .ok (.iload 4, 2) := by decide +kernel
theorem d_Euclid_findCommon_117 : decode b_Euclid_findCommon 117 = .ok (.invokestatic 54, 3) := by decide +kernel
theorem d_Euclid_findCommon_120 : decode b_Euclid_findCommon 120 = .ok (.aload_n 0, 1) := by decide +kernel
theorem d_Euclid_findCommon_121 : decode b_Euclid_findCommon 121 = .ok (.aload 6, 2) := by decide +kernel
theorem d_Euclid_findCommon_123 : decode b_Euclid_findCommon 123 = .ok (.iconst 1, 1) := by decide +kernel
theorem d_Euclid_findCommon_124 : decode b_Euclid_findCommon 124 = .ok (.invokevirtual 58, 3) := by decide +kernel
theorem d_Euclid_findCommon_127 : decode b_Euclid_findCommon 127 = .ok (.aload_n 2, 1) := by decide +kernel
theorem d_Euclid_findCommon_128 : decode b_Euclid_findCommon 128 = .ok (.aload 6, 2) := by decide +kernel
theorem d_Euclid_findCommon_130 : decode b_Euclid_findCommon 130 = .ok (.aload_n 2, 1) := by decide +kernel
theorem d_Euclid_findCommon_131 : decode b_Euclid_findCommon 131 = .ok (.getfield 61, 3) := by decide +kernel
theorem d_Euclid_findCommon_134 : decode b_Euclid_findCommon 134 = .ok (.invokevirtual 35, 3) := by decide +kernel
theorem d_Euclid_findCommon_137 : decode b_Euclid_findCommon 137 = .ok (.return_, 1) := by decide +kernel
theorem k_50e1f9a4e2 : (Jvm.Cond.methodLink "SpectrumDesk$Euclid" (31 : Nat) ({ cls := "SpectrumDesk$Euclid", name := "limbsNeeded", desc := "(II)I" } : Jvm.MethodName)) ∈ AW := aw_3 (List.mem_of_getElem? (i := 211) (by decide +kernel)) (by decide +kernel)
theorem k_86bcbeaf10 : (Jvm.Cond.static ({ cls := "SpectrumDesk$Euclid", name := "limbsNeeded", desc := "(II)I" } : Jvm.MethodName)) ∈ AW := aw_3 (List.mem_of_getElem? (i := 212) (by decide +kernel)) (by decide +kernel)
theorem k_d501e96bf9 : (Jvm.Cond.fieldLink "SpectrumDesk$Euclid" (14 : Nat) "SpectrumDesk$Euclid" "first" "LSpectrumDesk$Polynomial;") ∈ AW := aw_1 (List.mem_of_getElem? (i := 123) (by decide +kernel)) (by decide +kernel)
theorem k_eca84a7dc9 : (Jvm.Cond.fieldLink "SpectrumDesk$Euclid" (20 : Nat) "SpectrumDesk$Euclid" "second" "LSpectrumDesk$Polynomial;") ∈ AW := aw_1 (List.mem_of_getElem? (i := 124) (by decide +kernel)) (by decide +kernel)
theorem k_a8b681c621 : (Jvm.Cond.methodLink "SpectrumDesk$Euclid" (35 : Nat) ({ cls := "SpectrumDesk$Polynomial", name := "load", desc := "(LSpectrumDesk$Polynomial;I)V" } : Jvm.MethodName)) ∈ AW := aw_3 (List.mem_of_getElem? (i := 215) (by decide +kernel)) (by decide +kernel)
theorem k_f4a1450fc6 : (Jvm.Cond.methodLink "SpectrumDesk$Euclid" (39 : Nat) ({ cls := "SpectrumDesk$Polynomial", name := "loadDerivative", desc := "(LSpectrumDesk$Polynomial;I)V" } : Jvm.MethodName)) ∈ AW := aw_3 (List.mem_of_getElem? (i := 216) (by decide +kernel)) (by decide +kernel)
theorem k_286e8c0442 : (Jvm.Cond.instanceMethod ({ cls := "SpectrumDesk$Polynomial", name := "loadDerivative", desc := "(LSpectrumDesk$Polynomial;I)V" } : Jvm.MethodName)) ∈ AW := aw_3 (List.mem_of_getElem? (i := 217) (by decide +kernel)) (by decide +kernel)
theorem k_36b9b8cdc4 : (Jvm.Cond.selects "SpectrumDesk$Polynomial" ({ cls := "SpectrumDesk$Polynomial", name := "loadDerivative", desc := "(LSpectrumDesk$Polynomial;I)V" } : Jvm.MethodName) ({ cls := "SpectrumDesk$Polynomial", name := "loadDerivative", desc := "(LSpectrumDesk$Polynomial;I)V" } : Jvm.MethodName)) ∈ AW := aw_3 (List.mem_of_getElem? (i := 218) (by decide +kernel)) (by decide +kernel)
theorem k_097ea524f5 : (Jvm.Cond.methodLink "SpectrumDesk$Euclid" (42 : Nat) ({ cls := "SpectrumDesk$Euclid", name := "reduce", desc := "(LSpectrumDesk$Polynomial;LSpectrumDesk$Polynomial;)V" } : Jvm.MethodName)) ∈ AW := aw_3 (List.mem_of_getElem? (i := 221) (by decide +kernel)) (by decide +kernel)
theorem k_6ff0e450f5 : (Jvm.Cond.instanceMethod ({ cls := "SpectrumDesk$Euclid", name := "reduce", desc := "(LSpectrumDesk$Polynomial;LSpectrumDesk$Polynomial;)V" } : Jvm.MethodName)) ∈ AW := aw_3 (List.mem_of_getElem? (i := 223) (by decide +kernel)) (by decide +kernel)
theorem k_a3d14986b2 : (Jvm.Cond.selects "SpectrumDesk$Euclid" ({ cls := "SpectrumDesk$Euclid", name := "reduce", desc := "(LSpectrumDesk$Polynomial;LSpectrumDesk$Polynomial;)V" } : Jvm.MethodName) ({ cls := "SpectrumDesk$Euclid", name := "reduce", desc := "(LSpectrumDesk$Polynomial;LSpectrumDesk$Polynomial;)V" } : Jvm.MethodName)) ∈ AW := aw_p (by decide +kernel) (by decide +kernel)
theorem k_58a76f8f8d : (Jvm.Cond.methodLink "SpectrumDesk$Euclid" (50 : Nat) ({ cls := "SpectrumDesk$Limbs", name := "sign", desc := "([II)I" } : Jvm.MethodName)) ∈ AW := aw_4 (List.mem_of_getElem? (i := 14) (by decide +kernel)) (by decide +kernel)
theorem k_c50cf660cb : (Jvm.Cond.code ({ cls := "SpectrumDesk$Euclid", name := "findCommon", desc := "(LSpectrumDesk$Polynomial;LSpectrumDesk$Polynomial;I)V" } : Jvm.MethodName) prog_3_method_2_code (9 : Nat) (Option.none : Option Jvm.ClassFile.FieldType)) ∈ AW := aw_3 (List.mem_of_getElem? (i := 210) (by decide +kernel)) (by decide +kernel)
set_option maxHeartbeats 4000000 in
set_option maxRecDepth 100000 in
theorem c_Euclid_findCommon {l : Launch} {D : va_G} {cI cJ cZ cC cG cP : ClassId} {N : Nat} {ad : Nat → Nat} {σ : Nat → va_E} {n pi bo dr : Nat} {Fp Fr : Nat → Nat → Int32} {sp sr : Nat → Int32} {p0 : Nat → Int} (hN : N = 193) (hOe : σ 155 = .inr (ciC, [.ref (ad 156), .ref (ad 166), .ref (ad 176)])) (hpi : 20 ≤ pi ∧ pi + 10 ≤ 90) (hP : pl ad cI cG σ pi 6 n 6 Fp sp) (his : pl_is Fp n 6 p0) (hsz : pl_sz n 6 p0) (h1 : 1 ≤ n) (hn : n ≤ 6) (hbo : bo ≤ 6000000) (hR : pl ad cI cG σ 90 6 dr 6 Fr sr) (hE9 : (∃ (d1 l1 d2 l2 : Nat) (Fa Fb : Nat → Nat → Int32) (sa sb g' : Nat → Int32), pl ad cI cG σ 156 45 d1 l1 Fa sa ∧ pl ad cI cG σ 166 45 d2 l2 Fb sb ∧ σ 176 = .inl (cI, 45, .inl g'))) (hce : ∀ b, 2 * bo < 2 ^ b → (∀ k, k < b → 2 ^ k ≤ 2 * bo) → ceOK ((pwF n * b + 24) / 30 + 1) p0 n) :
    Met l y_Euclid_findCommon v_Euclid_findCommon (xrm 6) (va_Pc [.ref (ad 155), .ref (ad pi), .ref (ad 90), .int (nI bo)] (xS D classes (xT cI cJ cZ cC cG cP) N ad σ)) (va_Qv (fun σ2 => ∃ (F' : Nat → Nat → Int32) (s' : Nat → Int32), (∀ q, q < 90 ∨ (100 ≤ q ∧ q < 156) ∨ 177 ≤ q → σ2 q = σ q) ∧ pl ad cI cG σ2 90 6 (ceD p0 n) 6 F' s' ∧ pl_is F' (ceD p0 n) 6 (ceF p0 n) ∧ (∃ (d1 l1 d2 l2 : Nat) (Fa Fb : Nat → Nat → Int32) (sa sb g' : Nat → Int32), pl ad cI cG σ2 156 45 d1 l1 Fa sa ∧ pl ad cI cG σ2 166 45 d2 l2 Fb sb ∧ σ2 176 = .inl (cI, 45, .inl g'))) (xS D classes (xT cI cJ cZ cC cG cP) N ad) (xA N ad)) 0 0 (xA N ad) := by
  obtain ⟨d1, l1, d2, l2, Fa, Fb, sa, sb, g0, hA1, hB1, hG1⟩ := hE9
  refine xr_met rfl (Nat.le_of_ble_eq_true rfl) ?_
  intro p e s m args below meth c ls hx hb X hr hlk hl I
  have hl : lv_has ls 9 [(0, .ref (ad 155)), (1, .ref (ad pi)), (2, .ref (ad 90)), (3, .int (nI bo))] := hl
  refine lv_aload_n hx hb d_Euclid_findCommon_0 rfl (lv_at hl 1 rfl) ?_
  refine xr_get X I fin_P pi (by omega) (pl_o hP) rfl 2 (by decide) (List.mem_cons_of_mem _ k_32cb2e953f) rfl rfl d_Euclid_findCommon_1 ?_
  refine lv_iload_n hx hb d_Euclid_findCommon_4 rfl (lv_at hl 3 rfl) ?_
  refine xr_calli (xr_runS (kc := 5) (kr := 6) (n := 2) (As := [.int (nI n), .int (nI bo)]) (rest := []) X I (c_Euclid_limbsNeeded (n := n) (bo := bo) hN h1 hn hbo) (xg k_54b7a3af77) (List.mem_cons_of_mem _ k_50e1f9a4e2) (List.mem_cons_of_mem _ k_86bcbeaf10) (List.mem_cons_of_mem _ k_29b988b263) (by decide +kernel) (by decide) rfl hl.1 rfl (Nat.le_of_ble_eq_true rfl) d_Euclid_findCommon_5) I (fun r1 σ9 H locs hp I => ?_)
  obtain ⟨b, rfl, hb24, b1, b2, h9⟩ := hp; rw [h9] at I; clear h9
  have hce := hce b b1 b2
  have hpw := pwF_le n (by omega)
  have hpb : pwF n * b ≤ 54 * 24 := Nat.mul_le_mul hpw.2 hb24
  obtain ⟨lbs, hlbs⟩ : ∃ lbs, lbs = (pwF n * b + 24) / 30 + 1 := ⟨_, rfl⟩
  rw [← hlbs] at hce
  refine xr_topi (y := nI lbs) (by rw [hlbs]) ?_
  have hlb : lbs ≤ 45 := by omega
  have hl1 : 1 ≤ lbs := by omega
  refine lv_istore (lv' := [(4, .int (nI lbs)), (0, .ref (ad 155)), (1, .ref (ad pi)), (2, .ref (ad 90)), (3, .int (nI bo))]) hx hb d_Euclid_findCommon_8 hl (by decide) rfl (fun ls hl => ?_)
  refine lv_aload_n hx hb d_Euclid_findCommon_10 rfl (lv_at hl 1 rfl) ?_
  refine xr_get X I fin_C 155 (by omega) hOe rfl 0 (by decide) (List.mem_cons_of_mem _ k_d501e96bf9) rfl rfl d_Euclid_findCommon_11 ?_
  refine lv_astore (lv' := [(5, .ref (ad 156)), (4, .int (nI lbs)), (0, .ref (ad 155)), (1, .ref (ad pi)), (2, .ref (ad 90)), (3, .int (nI bo))]) hx hb d_Euclid_findCommon_14 hl (by decide) rfl (fun ls hl => ?_)
  refine lv_aload_n hx hb d_Euclid_findCommon_16 rfl (lv_at hl 2 rfl) ?_
  refine xr_get X I fin_C 155 (by omega) hOe rfl 1 (by decide) (List.mem_cons_of_mem _ k_eca84a7dc9) rfl rfl d_Euclid_findCommon_17 ?_
  refine lv_astore (lv' := [(6, .ref (ad 166)), (5, .ref (ad 156)), (4, .int (nI lbs)), (0, .ref (ad 155)), (1, .ref (ad pi)), (2, .ref (ad 90)), (3, .int (nI bo))]) hx hb d_Euclid_findCommon_20 hl (by decide) rfl (fun ls hl => ?_)
  refine lv_aload hx hb d_Euclid_findCommon_22 (lv_at hl 1 rfl) ?_
  refine lv_aload_n hx hb d_Euclid_findCommon_24 rfl (lv_at hl 4 rfl) ?_
  refine lv_iload hx hb d_Euclid_findCommon_25 (lv_at hl 2 rfl) ?_
  refine xr_callv (xr_runV (kc := 3) (kr := 6) (n := 2) (As := [.ref (ad pi), .int (nI lbs)]) (rest := []) X I (by omega) (pl_o hA1) rfl (c_Polynomial_load (i := 156) (j := pi) (by omega) (by omega) (by omega) hA1 hP hn (by decide) (by decide) (by decide) (by decide) hlb his hsz) (xg k_69d11c4a63) (List.mem_cons_of_mem _ k_a8b681c621) (List.mem_cons_of_mem _ k_b375a81d80) (List.mem_cons_of_mem _ k_fcbb6b90f7) (List.mem_cons_of_mem _ k_a8ac99ee00) (by decide +kernel) (by decide) rfl hl.1 rfl (Nat.le_of_ble_eq_true rfl) d_Euclid_findCommon_27) I (fun σ1 H locs hp I => ?_)
  obtain ⟨F1, fr1, u1, iu1⟩ := hp
  obtain ⟨n0, rfl⟩ : ∃ n0, n = n0 + 1 := ⟨n - 1, by omega⟩
  refine lv_aload hx hb d_Euclid_findCommon_30 (lv_at hl 0 rfl) ?_
  refine lv_aload_n hx hb d_Euclid_findCommon_32 rfl (lv_at hl 4 rfl) ?_
  refine lv_iload hx hb d_Euclid_findCommon_33 (lv_at hl 2 rfl) ?_
  refine xr_callv (xr_runV (kc := 3) (kr := 6) (n := 2) (As := [.ref (ad pi), .int (nI lbs)]) (rest := []) X I (by omega) (pl_o (pl_fr_else hB1 fr1 (by omega))) rfl (c_Polynomial_loadDerivative (i := 166) (j := pi) (dj := n0) (by omega) (by omega) (by omega) (pl_fr_else hB1 fr1 (by omega)) (pl_fr_else hP fr1 (by omega)) (by omega) (by decide) (by decide) (by decide) (by decide) hlb his hsz) (xg k_3893c840eb) (List.mem_cons_of_mem _ k_f4a1450fc6) (List.mem_cons_of_mem _ k_286e8c0442) (List.mem_cons_of_mem _ k_36b9b8cdc4) (List.mem_cons_of_mem _ k_a8ac99ee00) (by decide +kernel) (by decide) rfl hl.1 rfl (Nat.le_of_ble_eq_true rfl) d_Euclid_findCommon_35) I (fun σ2 H locs hp I => ?_)
  obtain ⟨F2, s2, fr2, v2, iv2⟩ := hp
  have u2 := pl_fr_else u1 fr2 (by omega)
  have f2 : ∀ q, q < 156 ∨ 176 ≤ q → σ2 q = σ q := fun q hq => (fr2 q (by omega)).trans (fr1 q (by omega))
  refine lv_aload_n hx hb d_Euclid_findCommon_38 rfl (lv_at hl 4 rfl) ?_
  refine xr_get X I fin_P pi (by omega) (pl_o (pl_same hP (fun q h1 h2 => f2 q (by omega)))) rfl 2 (by decide) (List.mem_cons_of_mem _ k_32cb2e953f) rfl rfl d_Euclid_findCommon_39 ?_
  refine lv_iconst (v := nI 1) hx hb d_Euclid_findCommon_42 (by decide) ?_
  refine lv_isub hx hb d_Euclid_findCommon_43 (xr_topi (y := nI n0) (pk_sub (a := n0 + 1) (b := 1) (by omega)) ?_)
  refine lv_istore (lv' := [(7, .int (nI n0)), (6, .ref (ad 166)), (5, .ref (ad 156)), (4, .int (nI lbs)), (0, .ref (ad 155)), (1, .ref (ad pi)), (2, .ref (ad 90)), (3, .int (nI bo))]) hx hb d_Euclid_findCommon_44 hl (by decide) rfl (fun ls hl => ?_)
  have hc1 : euOK lbs n0 p0 (dF p0) := hce.1
  have last : ∀ (ui li du dl : Nat) (Lw : Nat → Int) (σ3 : Nat → va_E) (Fu Fl : Nat → Nat → Int32) (su sl g3 : Nat → Int32) (ls : Array Slot) (H : Heap) (locs : List Loc), (ui = 156 ∧ li = 166 ∨ ui = 166 ∧ li = 156) → (Lw, dl) = (euF n0 p0 (dF p0)) → dl ≤ 6 → pl ad cI cG σ3 ui 45 du lbs Fu su → pl ad cI cG σ3 li 45 dl lbs Fl sl → pl_is Fl dl lbs Lw → (∀ q, q < 156 ∨ 177 ≤ q → σ3 q = σ q) → σ3 176 = .inl (cI, 45, .inl g3) → lv_has ls 9 [(6, .ref (ad li)), (4, .int (nI lbs)), (0, .ref (ad 155)), (1, .ref (ad pi)), (2, .ref (ad 90)), (3, .int (nI bo))] → xI D classes N ad s.heap σ3 H locs → W p l e (xrm 6) s m args below meth c H locs 0 0 (MQ below (va_Qv (fun σ2 => ∃ (F' : Nat → Nat → Int32) (s' : Nat → Int32), (∀ q, q < 90 ∨ (100 ≤ q ∧ q < 156) ∨ 177 ≤ q → σ2 q = σ q) ∧ pl ad cI cG σ2 90 6 (ceD p0 (n0 + 1)) 6 F' s' ∧ pl_is F' (ceD p0 (n0 + 1)) 6 (ceF p0 (n0 + 1)) ∧ (∃ (d1 l1 d2 l2 : Nat) (Fa Fb : Nat → Nat → Int32) (sa sb g' : Nat → Int32), pl ad cI cG σ2 156 45 d1 l1 Fa sa ∧ pl ad cI cG σ2 166 45 d2 l2 Fb sb ∧ σ2 176 = .inl (cI, 45, .inl g'))) (xS D classes (xT cI cJ cZ cC cG cP) N ad) (xA N ad)) args s 0 0 (xA N ad)) (F0 m 100 ls []) := by
    intro ui li du dl Lw σ3 Fu Fl su sl g3 ls H locs hul heu hdl6 x1 x2 x3 x4 x5 hl I
    have hd9 : ceD p0 (n0 + 1) = dl := (congrArg Prod.snd heu).symm
    have hL9 : (euF n0 p0 (dF p0)).1 = Lw := (congrArg Prod.fst heu).symm
    obtain ⟨-, c2, c3, c4, c5⟩ := hce
    have c2 : Lw dl ≠ 0 := by rw [← hL9, ← hd9]; exact c2
    have c3 : pl_sz dl lbs Lw := by rw [← hL9, ← hd9]; exact c3
    have c4 : ∀ q, q ≤ dl → Lw q = Lw dl * ceF p0 (n0 + 1) q := fun q hq => by have h := c4 q (by omega); rw [hd9] at h; rw [← hL9]; exact h
    have c5 : pl_sz dl lbs (ceF p0 (n0 + 1)) := by rw [← hd9]; exact c5
    refine lv_aload_n hx hb d_Euclid_findCommon_100 rfl (lv_at hl 2 rfl) ?_
    refine xr_get X I fin_C 155 (by omega) ((x4 155 (by omega)).trans hOe) rfl 2 (by decide) (List.mem_cons_of_mem _ k_34a72900f7) rfl rfl d_Euclid_findCommon_101 ?_
    refine lv_aload hx hb d_Euclid_findCommon_104 (lv_at hl 0 rfl) ?_
    refine xr_get X I fin_P li (by omega) (pl_o x2) rfl 0 (by decide) (List.mem_cons_of_mem _ k_0d65117528) rfl rfl d_Euclid_findCommon_106 ?_
    refine lv_aload hx hb d_Euclid_findCommon_109 (lv_at hl 0 rfl) ?_
    refine xr_get X I fin_P li (by omega) (pl_o x2) rfl 2 (by decide) (List.mem_cons_of_mem _ k_32cb2e953f) rfl rfl d_Euclid_findCommon_111 ?_
    refine xr_aald X I (li + 1) 4 (by omega) (pl_c x2) rfl rfl (by omega) (by decide) (pl_at (by omega)) d_Euclid_findCommon_114 ?_
    refine lv_iload hx hb d_Euclid_findCommon_115 (lv_at hl 1 rfl) ?_
    refine xr_callv (xr_runS (kc := 1) (kr := 6) (n := 3) (As := [.ref (ad 176), .ref (ad (li + 2 + dl)), .int (nI lbs)]) (rest := []) X I (c_Limbs_copy (a := 176) (b := li + 2 + dl) (n := lbs) (by omega) (by omega) x5 (pl_r x2 (by omega)) hlb (by decide) hlb (by decide)) (xg k_a09a60a57c) (List.mem_cons_of_mem _ k_8d5a2f9673) (List.mem_cons_of_mem _ k_d700ff4995) (List.mem_cons_of_mem _ k_b15d0305ca) (by decide +kernel) (by decide) rfl hl.1 rfl (Nat.le_of_ble_eq_true rfl) d_Euclid_findCommon_117) I (fun σ9 H locs hp I => ?_)
    obtain ⟨g4, hg4⟩ : ∃ g4, g4 = va_cpy (Fl dl) g3 0 0 lbs := ⟨_, rfl⟩
    rw [hp, ← hg4] at I
    have hgi : lm_si g4 lbs (Lw dl) := ⟨by rw [hg4]; exact lm_cpy (x3 dl (Nat.le_refl _)), c3 dl (Nat.le_refl _)⟩
    have y2 := pl_else x2 (show 176 < li ∨ li + 10 ≤ 176 by omega) (.inl (cI, 45, .inl g4))
    have y1 := pl_else x1 (show 176 < ui ∨ ui + 10 ≤ 176 by omega) (.inl (cI, 45, .inl g4))
    refine lv_aload_n hx hb d_Euclid_findCommon_120 rfl (lv_at hl 2 rfl) ?_
    refine lv_aload hx hb d_Euclid_findCommon_121 (lv_at hl 0 rfl) ?_
    refine lv_iconst (v := nI 1) hx hb d_Euclid_findCommon_123 (by decide) ?_
    refine xr_callv (xr_runV (kc := 2) (kr := 6) (n := 2) (As := [.ref (ad li), .int (nI 1)]) (rest := []) X I (by omega) ((va_up_ne _ _ (by decide)).trans ((x4 155 (by omega)).trans hOe)) rfl (c_Euclid_divideAll1 (ui := li) (du := dl) (U := Lw) (qq := ceF p0 (n0 + 1)) (dv := Lw dl) hN (by omega) ((va_up_ne _ _ (by decide)).trans ((x4 155 (by omega)).trans hOe)) y2 (va_up_self _ _ _) hlb hl1 hdl6 x3 c3 hgi c2 c4) (xg k_20a341c590) (List.mem_cons_of_mem _ k_f0501db3dc) (List.mem_cons_of_mem _ k_71784da9a1) (List.mem_cons_of_mem _ k_9e7bed079e) (List.mem_cons_of_mem _ k_29b988b263) (by decide +kernel) (by decide) rfl hl.1 rfl (Nat.le_of_ble_eq_true rfl) d_Euclid_findCommon_124) I (fun σ5 H locs hp I => ?_)
    obtain ⟨F5, g5, f5, k5, h5, i5⟩ := hp
    have f6 : ∀ q, q < 156 ∨ 177 ≤ q → σ5 q = σ q := fun q hq => (f5 q (by omega) (by omega)).trans ((va_up_ne _ _ (by omega)).trans (x4 q hq))
    have r5 := pl_same hR (fun q h1 h2 => f6 q (by omega))
    refine lv_aload_n hx hb d_Euclid_findCommon_127 rfl (lv_at hl 4 rfl) ?_
    refine lv_aload hx hb d_Euclid_findCommon_128 (lv_at hl 0 rfl) ?_
    refine lv_aload_n hx hb d_Euclid_findCommon_130 rfl (lv_at hl 4 rfl) ?_
    refine xr_get X I fin_P 90 (by omega) (pl_o r5) rfl 3 (by decide) (List.mem_cons_of_mem _ k_f41369adce) rfl rfl d_Euclid_findCommon_131 ?_
    refine xr_callv (xr_runV (kc := 3) (kr := 6) (n := 2) (As := [.ref (ad li), .int (nI 6)]) (rest := []) X I (by omega) (pl_o r5) rfl (c_Polynomial_load (i := 90) (j := li) (by omega) (by omega) (by omega) r5 h5 hdl6 (by decide) (by decide) hlb (by omega) (by decide) i5 c5) (xg k_69d11c4a63) (List.mem_cons_of_mem _ k_a8b681c621) (List.mem_cons_of_mem _ k_b375a81d80) (List.mem_cons_of_mem _ k_fcbb6b90f7) (List.mem_cons_of_mem _ k_a8ac99ee00) (by decide +kernel) (by decide) rfl hl.1 rfl (Nat.le_of_ble_eq_true rfl) d_Euclid_findCommon_134) I (fun σ6 H locs hp I => ?_)
    obtain ⟨F6, fr6, h6, i6⟩ := hp
    have z1 := pl_fr_else (pl_same y1 (fun q h1 h2 => f5 q (by omega) (by omega))) fr6 (by omega)
    have z2 := pl_fr_else h5 fr6 (by omega)
    have z3 := (fr6 176 (by omega)).trans k5
    rw [← hd9] at h6 i6
    refine xr_vret X I hr hlk ⟨F6, sr, fun q hq => (fr6 q (by omega)).trans (f6 q (by omega)), h6, i6, ?_⟩ d_Euclid_findCommon_137
    rcases hul with ⟨rfl, rfl⟩ | ⟨rfl, rfl⟩
    · exact ⟨_, _, _, _, _, _, _, _, _, z1, z2, z3⟩
    · exact ⟨_, _, _, _, _, _, _, _, _, z2, z1, z3⟩
  have loop : ∀ (j : Nat) (ui li : Nat) (Up Lw : Nat → Int) (σ3 : Nat → va_E) (Fu Fl : Nat → Nat → Int32) (su sl g3 : Nat → Int32) (ls : Array Slot) (H : Heap) (locs : List Loc), (ui = 156 ∧ li = 166 ∨ ui = 166 ∧ li = 156) → j ≤ 5 → euF j Up Lw = (euF n0 p0 (dF p0)) → euOK lbs j Up Lw → pl ad cI cG σ3 ui 45 (j + 1) lbs Fu su → pl ad cI cG σ3 li 45 j lbs Fl sl → pl_is Fu (j + 1) lbs Up → pl_is Fl j lbs Lw → (∀ q, q < 156 ∨ 177 ≤ q → σ3 q = σ q) → σ3 176 = .inl (cI, 45, .inl g3) → lv_has ls 9 [(7, .int (nI j)), (6, .ref (ad li)), (5, .ref (ad ui)), (4, .int (nI lbs)), (0, .ref (ad 155)), (1, .ref (ad pi)), (2, .ref (ad 90)), (3, .int (nI bo))] → xI D classes N ad s.heap (σ3) H locs → W p l e (xrm 6) s m args below meth c H locs 0 0 (MQ below (va_Qv (fun σ2 => ∃ (F' : Nat → Nat → Int32) (s' : Nat → Int32), (∀ q, q < 90 ∨ (100 ≤ q ∧ q < 156) ∨ 177 ≤ q → σ2 q = σ q) ∧ pl ad cI cG σ2 90 6 (ceD p0 (n0 + 1)) 6 F' s' ∧ pl_is F' (ceD p0 (n0 + 1)) 6 (ceF p0 (n0 + 1)) ∧ (∃ (d1 l1 d2 l2 : Nat) (Fa Fb : Nat → Nat → Int32) (sa sb g' : Nat → Int32), pl ad cI cG σ2 156 45 d1 l1 Fa sa ∧ pl ad cI cG σ2 166 45 d2 l2 Fb sb ∧ σ2 176 = .inl (cI, 45, .inl g'))) (xS D classes (xT cI cJ cZ cC cG cP) N ad) (xA N ad)) args s 0 0 (xA N ad)) (F0 m 46 ls []) := by
    intro j
    induction j with
    | zero =>
      intro ui li Up Lw σ3 Fu Fl su sl g3 ls H locs hul hj5 heu hok x1 x2 x3a x3b x4 x5 hl I
      refine lv_iload hx hb d_Euclid_findCommon_46 (lv_at hl 0 rfl) ?_
      refine lv_iconst (v := nI 1) hx hb d_Euclid_findCommon_48 (by decide) ?_
      refine lv_icmp_lt hx hb d_Euclid_findCommon_49 rfl (fun hc => ?_) (fun hc => ?_)
      · have hl := lv_sub hl [1, 3, 4, 5, 6, 7] rfl
        have hl : lv_has ls 9 [(6, .ref (ad li)), (4, .int (nI lbs)), (0, .ref (ad 155)), (1, .ref (ad pi)), (2, .ref (ad 90)), (3, .int (nI bo))] := hl
        exact last ui li 1 0 Lw σ3 Fu Fl su sl g3 ls H locs hul heu (by omega) x1 x2 x3b x4 x5 hl I
      · exact absurd (by decide) hc
    | succ j ih =>
      intro ui li Up Lw σ3 Fu Fl su sl g3 ls H locs hul hj5 heu hok x1 x2 x3a x3b x4 x5 hl I
      refine lv_iload hx hb d_Euclid_findCommon_46 (lv_at hl 0 rfl) ?_
      refine lv_iconst (v := nI 1) hx hb d_Euclid_findCommon_48 (by decide) ?_
      refine lv_icmp_lt hx hb d_Euclid_findCommon_49 rfl (fun hc => ?_) (fun hc => ?_)
      · exact absurd hc (nI_nlt (by omega) (by omega))
      · rw [euOK] at hok; obtain ⟨o1, o2, o3, o4, o5, o6⟩ := hok
        refine lv_aload_n hx hb d_Euclid_findCommon_52 rfl (lv_at hl 4 rfl) ?_
        refine lv_aload hx hb d_Euclid_findCommon_53 (lv_at hl 2 rfl) ?_
        refine lv_aload hx hb d_Euclid_findCommon_55 (lv_at hl 1 rfl) ?_
        refine xr_callv (xr_runV (kc := 3) (kr := 6) (n := 2) (As := [.ref (ad ui), .ref (ad li)]) (rest := []) X I (by omega) ((x4 155 (by omega)).trans hOe) rfl (c_Euclid_reduce (ui := ui) (li := li) (du := j + 2) (dl := j + 1) (U := Up) (L := Lw) (qq := euR Up Lw j) hN (by omega) (by omega) (by omega) x1 x2 hlb hl1 x3a x3b ((x4 155 (by omega)).trans hOe) x5 (by omega) (by omega) rfl o2 o1 o3 o4) (xg k_acf35f2c69) (List.mem_cons_of_mem _ k_097ea524f5) (List.mem_cons_of_mem _ k_6ff0e450f5) (List.mem_cons_of_mem _ k_a3d14986b2) (List.mem_cons_of_mem _ k_29b988b263) (by decide +kernel) (by decide) rfl hl.1 rfl (Nat.le_of_ble_eq_true rfl) d_Euclid_findCommon_57) I (fun σ4 H locs hp I => ?_)
        obtain ⟨F4, s4, g4, f4, k4, h4, i4⟩ := hp
        have h4 : pl ad cI cG σ4 ui 45 j lbs F4 s4 := h4
        have i4 : pl_is F4 j lbs (euR Up Lw j) := i4
        have l4 := pl_same x2 (fun q h1 h2 => f4 q (by omega) (by omega))
        have y4 : ∀ q, q < 156 ∨ 177 ≤ q → σ4 q = σ q := fun q hq => (f4 q (by omega) (by omega)).trans (x4 q hq)
        refine lv_aload hx hb d_Euclid_findCommon_60 (lv_at hl 2 rfl) ?_
        refine xr_get X I fin_P ui (by omega) (pl_o h4) rfl 0 (by decide) (List.mem_cons_of_mem _ k_0d65117528) rfl rfl d_Euclid_findCommon_62 ?_
        refine lv_aload hx hb d_Euclid_findCommon_65 (lv_at hl 2 rfl) ?_
        refine xr_get X I fin_P ui (by omega) (pl_o h4) rfl 2 (by decide) (List.mem_cons_of_mem _ k_32cb2e953f) rfl rfl d_Euclid_findCommon_67 ?_
        refine xr_aald X I (ui + 1) 4 (by omega) (pl_c h4) rfl rfl (by omega) (by decide) (pl_at (by omega)) d_Euclid_findCommon_70 ?_
        refine lv_iload hx hb d_Euclid_findCommon_71 (lv_at hl 3 rfl) ?_
        refine xr_calli (xr_runS (kc := 0) (kr := 6) (n := 2) (As := [.ref (ad (ui + 2 + j)), .int (nI lbs)]) (rest := []) X I (c_Limbs_sign (a := ui + 2 + j) (n := lbs) (by omega) (pl_r h4 (by omega)) (by omega) hlb (by decide) ⟨i4 j (Nat.le_refl _), o5 j (Nat.le_refl _)⟩) (xg k_507de67514) (List.mem_cons_of_mem _ k_58a76f8f8d) (List.mem_cons_of_mem _ k_7f7b95cb8b) (List.mem_cons_of_mem _ k_b15d0305ca) (by decide +kernel) (by decide) rfl hl.1 rfl (Nat.le_of_ble_eq_true rfl) d_Euclid_findCommon_73) I (fun r1 σ9 H locs hp I => ?_)
        obtain ⟨rfl, h9⟩ := hp; rw [h9] at I; clear h9
        refine lv_if_ne hx hb d_Euclid_findCommon_76 rfl (fun hd => ?_) (fun hd => ?_)
        · have hz : euR Up Lw j j ≠ 0 := fun h => hd (sg_zero.mpr h)
          rw [euF, if_neg hz] at heu
          refine lv_aload hx hb d_Euclid_findCommon_82 (lv_at hl 2 rfl) ?_
          refine lv_astore (lv' := [(8, .ref (ad ui)), (7, .int (nI (j + 1))), (6, .ref (ad li)), (5, .ref (ad ui)), (4, .int (nI lbs)), (0, .ref (ad 155)), (1, .ref (ad pi)), (2, .ref (ad 90)), (3, .int (nI bo))]) hx hb d_Euclid_findCommon_84 hl (by decide) rfl (fun ls hl => ?_)
          refine lv_aload hx hb d_Euclid_findCommon_86 (lv_at hl 2 rfl) ?_
          refine lv_astore (lv' := [(5, .ref (ad li)), (8, .ref (ad ui)), (7, .int (nI (j + 1))), (6, .ref (ad li)), (4, .int (nI lbs)), (0, .ref (ad 155)), (1, .ref (ad pi)), (2, .ref (ad 90)), (3, .int (nI bo))]) hx hb d_Euclid_findCommon_88 hl (by decide) rfl (fun ls hl => ?_)
          refine lv_aload hx hb d_Euclid_findCommon_90 (lv_at hl 1 rfl) ?_
          refine lv_astore (lv' := [(6, .ref (ad ui)), (5, .ref (ad li)), (8, .ref (ad ui)), (7, .int (nI (j + 1))), (4, .int (nI lbs)), (0, .ref (ad 155)), (1, .ref (ad pi)), (2, .ref (ad 90)), (3, .int (nI bo))]) hx hb d_Euclid_findCommon_92 hl (by decide) rfl (fun ls hl => ?_)
          refine lv_iinc (k := 3) (v := nI j) (lv' := [(7, .int (nI j)), (6, .ref (ad ui)), (5, .ref (ad li)), (8, .ref (ad ui)), (4, .int (nI lbs)), (0, .ref (ad 155)), (1, .ref (ad pi)), (2, .ref (ad 90)), (3, .int (nI bo))]) hx hb d_Euclid_findCommon_94 hl rfl (q_dec j) (by decide) rfl (fun ls hl => ?_)
          refine lv_goto hx hb d_Euclid_findCommon_97 rfl ?_
          have hl := lv_sub hl [0, 1, 2, 4, 5, 6, 7, 8] rfl
          have hl : lv_has ls 9 [(7, .int (nI j)), (6, .ref (ad ui)), (5, .ref (ad li)), (4, .int (nI lbs)), (0, .ref (ad 155)), (1, .ref (ad pi)), (2, .ref (ad 90)), (3, .int (nI bo))] := hl
          exact ih li ui Lw (euR Up Lw j) σ4 Fl F4 sl s4 g4 ls H locs (by omega) (by omega) heu (o6.resolve_left hz) l4 h4 x3b i4 y4 k4 hl I
        · have hz : euR Up Lw j j = 0 := sg_zero.mp hd
          rw [euF, if_pos hz] at heu
          refine lv_goto hx hb d_Euclid_findCommon_79 rfl ?_
          have hl := lv_sub hl [1, 3, 4, 5, 6, 7] rfl
          have hl : lv_has ls 9 [(6, .ref (ad li)), (4, .int (nI lbs)), (0, .ref (ad 155)), (1, .ref (ad pi)), (2, .ref (ad 90)), (3, .int (nI bo))] := hl
          exact last ui li j (j + 1) Lw σ4 F4 Fl s4 sl g4 ls H locs hul heu (by omega) h4 l4 x3b y4 k4 hl I
  exact loop n0 156 166 p0 (dF p0) σ2 F1 F2 sa s2 g0 ls _ _ (Or.inl ⟨rfl, rfl⟩) (by omega) rfl hc1 u2 v2 iu1 iv2 (fun q hq => f2 q (by omega)) ((f2 176 (by omega)).trans hG1) hl I
