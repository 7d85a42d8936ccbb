/-! the reference: within, halve (written by wip/gen) -/
abbrev b_SpectrumDeskModel_within : ByteArray := prog_10_method_46_code
abbrev y_SpectrumDeskModel_within : MethodName := ⟨"SpectrumDeskModel", "within", "(I)I"⟩
abbrev v_SpectrumDeskModel_within : List Cond := Cond.code y_SpectrumDeskModel_within b_SpectrumDeskModel_within 3 (some .int) :: AW
theorem d_SpectrumDeskModel_within_0 : decode b_SpectrumDeskModel_within 0 = .ok (.aload_n 0, 1) := by decide +kernel
theorem d_SpectrumDeskModel_within_1 : decode b_SpectrumDeskModel_within 1 = .ok (.bipush (108), 2) := by decide +kernel
theorem d_SpectrumDeskModel_within_3 : decode b_SpectrumDeskModel_within 3 = .ok (.bipush (110), 2) := by decide +kernel
theorem d_SpectrumDeskModel_within_5 : decode b_SpectrumDeskModel_within 5 = .ok (.invokevirtual 49, 3) := by decide +kernel
theorem d_SpectrumDeskModel_within_8 : decode b_SpectrumDeskModel_within 8 = .ok (.aload_n 0, 1) := by decide +kernel
theorem d_SpectrumDeskModel_within_9 : decode b_SpectrumDeskModel_within 9 = .ok (.bipush (109), 2) := by decide +kernel
theorem d_SpectrumDeskModel_within_11 : decode b_SpectrumDeskModel_within 11 = .ok (.bipush (111), 2) := by decide +kernel
theorem d_SpectrumDeskModel_within_13 : decode b_SpectrumDeskModel_within 13 = .ok (.invokevirtual 49, 3) := by decide +kernel
theorem d_SpectrumDeskModel_within_16 : decode b_SpectrumDeskModel_within 16 = .ok (.aload_n 0, 1) := by decide +kernel
theorem d_SpectrumDeskModel_within_17 : decode b_SpectrumDeskModel_within 17 = .ok (.iconst 0, 1) := by decide +kernel
theorem d_SpectrumDeskModel_within_18 : decode b_SpectrumDeskModel_within 18 = .ok (.invokevirtual 154, 3) := by decide +kernel
theorem d_SpectrumDeskModel_within_21 : decode b_SpectrumDeskModel_within 21 = .ok (.iload_n 1, 1) := by decide +kernel
theorem d_SpectrumDeskModel_within_22 : decode b_SpectrumDeskModel_within 22 = .ok (.iconst 1, 1) := by decide +kernel
theorem d_SpectrumDeskModel_within_23 : decode b_SpectrumDeskModel_within 23 = .ok (.if_icmp .ne (12), 3) := by decide +kernel
theorem d_SpectrumDeskModel_within_26 : decode b_SpectrumDeskModel_within 26 = .ok (.aload_n 0, 1) := by decide +kernel
theorem d_SpectrumDeskModel_within_27 : decode b_SpectrumDeskModel_within 27 = .ok (.bipush (8), 2) := by decide +kernel
theorem d_SpectrumDeskModel_within_29 : decode b_SpectrumDeskModel_within 29 = .ok (.invokevirtual 154, 3) := by decide +kernel
theorem d_SpectrumDeskModel_within_32 : decode b_SpectrumDeskModel_within 32 = .ok (.goto (4), 3) := by decide +kernel
theorem d_SpectrumDeskModel_within_35 : decode b_SpectrumDeskModel_within 35 = .ok (.iconst 0, 1) := by decide +kernel
theorem d_SpectrumDeskModel_within_36 : decode b_SpectrumDeskModel_within 36 = .ok (.isub, 1) := by decide +kernel
theorem d_SpectrumDeskModel_within_37 : decode b_SpectrumDeskModel_within 37 = .ok (.istore_n 2, 1) := by decide +kernel
theorem d_SpectrumDeskModel_within_38 : decode b_SpectrumDeskModel_within 38 = .ok (.aload_n 0, 1) := by decide +kernel
theorem d_SpectrumDeskModel_within_39 : decode b_SpectrumDeskModel_within 39 = .ok (.bipush (104), 2) := by decide +kernel
theorem d_SpectrumDeskModel_within_41 : decode b_SpectrumDeskModel_within 41 = .ok (.lconst 1, 1) := by decide +kernel
theorem d_SpectrumDeskModel_within_42 : decode b_SpectrumDeskModel_within 42 = .ok (.invokevirtual 104, 3) := by decide +kernel
theorem d_SpectrumDeskModel_within_45 : decode b_SpectrumDeskModel_within 45 = .ok (.aload_n 0, 1) := by decide +kernel
theorem d_SpectrumDeskModel_within_46 : decode b_SpectrumDeskModel_within 46 = .ok (.bipush (108), 2) := by decide +kernel
theorem d_SpectrumDeskModel_within_48 : decode b_SpectrumDeskModel_within 48 = .ok (.bipush (104), 2) := by decide +kernel
theorem d_SpectrumDeskModel_within_50 : decode b_SpectrumDeskModel_within 50 = .ok (.iconst 0, 1) := by decide +kernel
theorem d_SpectrumDeskModel_within_51 : decode b_SpectrumDeskModel_within 51 = .ok (.invokevirtual 115, 3) := by decide +kernel
theorem d_SpectrumDeskModel_within_54 : decode b_SpectrumDeskModel_within 54 = .ok (.aload_n 0, 1) := by decide +kernel
theorem d_SpectrumDeskModel_within_55 : decode b_SpectrumDeskModel_within 55 = .ok (.iconst 0, 1) := by decide +kernel
theorem d_SpectrumDeskModel_within_56 : decode b_SpectrumDeskModel_within 56 = .ok (.invokevirtual 154, 3) := by decide +kernel
theorem d_SpectrumDeskModel_within_59 : decode b_SpectrumDeskModel_within 59 = .ok (.iload_n 1, 1) := by decide +kernel
theorem d_SpectrumDeskModel_within_60 : decode b_SpectrumDeskModel_within 60 = .ok (.iconst 1, 1) := by decide +kernel
theorem d_SpectrumDeskModel_within_61 : decode b_SpectrumDeskModel_within 61 = .ok (.if_icmp .ne (12), 3) := by decide +kernel
theorem d_SpectrumDeskModel_within_64 : decode b_SpectrumDeskModel_within 64 = .ok (.aload_n 0, 1) := by decide +kernel
theorem d_SpectrumDeskModel_within_65 : decode b_SpectrumDeskModel_within 65 = .ok (.bipush (8), 2) := by decide +kernel
theorem d_SpectrumDeskModel_within_67 : decode b_SpectrumDeskModel_within 67 = .ok (.invokevirtual 154, 3) := by decide +kernel
theorem d_SpectrumDeskModel_within_70 : decode b_SpectrumDeskModel_within 70 = .ok (.goto (4), 3) := by decide +kernel
theorem d_SpectrumDeskModel_within_73 : decode b_SpectrumDeskModel_within 73 = .ok (.iconst 0, 1) := by decide +kernel
theorem d_SpectrumDeskModel_within_74 : decode b_SpectrumDeskModel_within 74 = .ok (.isub, 1) := by decide +kernel
theorem d_SpectrumDeskModel_within_75 : decode b_SpectrumDeskModel_within 75 = .ok (.iload_n 2, 1) := by decide +kernel
theorem d_SpectrumDeskModel_within_76 : decode b_SpectrumDeskModel_within 76 = .ok (.isub, 1) := by decide +kernel
theorem d_SpectrumDeskModel_within_77 : decode b_SpectrumDeskModel_within 77 = .ok (.ireturn, 1) := by decide +kernel
abbrev b_SpectrumDeskModel_halve : ByteArray := prog_10_method_47_code
abbrev y_SpectrumDeskModel_halve : MethodName := ⟨"SpectrumDeskModel", "halve", "(I)V"⟩
abbrev v_SpectrumDeskModel_halve : List Cond := Cond.code y_SpectrumDeskModel_halve b_SpectrumDeskModel_halve 2 none :: AW
theorem d_SpectrumDeskModel_halve_0 : decode b_SpectrumDeskModel_halve 0 = .ok (.aload_n 0, 1) := by decide +kernel
theorem d_SpectrumDeskModel_halve_1 : decode b_SpectrumDeskModel_halve 1 = .ok (.bipush (106), 2) := by decide +kernel
theorem d_SpectrumDeskModel_halve_3 : decode b_SpectrumDeskModel_halve 3 = .ok (.bipush (110), 2) := by decide +kernel
theorem d_SpectrumDeskModel_halve_5 : decode b_SpectrumDeskModel_halve 5 = .ok (.invokevirtual 49, 3) := by decide +kernel
theorem d_SpectrumDeskModel_halve_8 : decode b_SpectrumDeskModel_halve 8 = .ok (.aload_n 0, 1) := by decide +kernel
theorem d_SpectrumDeskModel_halve_9 : decode b_SpectrumDeskModel_halve 9 = .ok (.bipush (110), 2) := by decide +kernel
theorem d_SpectrumDeskModel_halve_11 : decode b_SpectrumDeskModel_halve 11 = .ok (.bipush (106), 2) := by decide +kernel
theorem d_SpectrumDeskModel_halve_13 : decode b_SpectrumDeskModel_halve 13 = .ok (.iconst 0, 1) := by decide +kernel
theorem d_SpectrumDeskModel_halve_14 : decode b_SpectrumDeskModel_halve 14 = .ok (.invokevirtual 115, 3) := by decide +kernel
theorem d_SpectrumDeskModel_halve_17 : decode b_SpectrumDeskModel_halve 17 = .ok (.aload_n 0, 1) := by decide +kernel
theorem d_SpectrumDeskModel_halve_18 : decode b_SpectrumDeskModel_halve 18 = .ok (.bipush (106), 2) := by decide +kernel
theorem d_SpectrumDeskModel_halve_20 : decode b_SpectrumDeskModel_halve 20 = .ok (.bipush (111), 2) := by decide +kernel
theorem d_SpectrumDeskModel_halve_22 : decode b_SpectrumDeskModel_halve 22 = .ok (.invokevirtual 49, 3) := by decide +kernel
theorem d_SpectrumDeskModel_halve_25 : decode b_SpectrumDeskModel_halve 25 = .ok (.aload_n 0, 1) := by decide +kernel
theorem d_SpectrumDeskModel_halve_26 : decode b_SpectrumDeskModel_halve 26 = .ok (.bipush (111), 2) := by decide +kernel
theorem d_SpectrumDeskModel_halve_28 : decode b_SpectrumDeskModel_halve 28 = .ok (.bipush (106), 2) := by decide +kernel
theorem d_SpectrumDeskModel_halve_30 : decode b_SpectrumDeskModel_halve 30 = .ok (.iconst 0, 1) := by decide +kernel
theorem d_SpectrumDeskModel_halve_31 : decode b_SpectrumDeskModel_halve 31 = .ok (.invokevirtual 115, 3) := by decide +kernel
theorem d_SpectrumDeskModel_halve_34 : decode b_SpectrumDeskModel_halve 34 = .ok (.aload_n 0, 1) := by decide +kernel
theorem d_SpectrumDeskModel_halve_35 : decode b_SpectrumDeskModel_halve 35 = .ok (.bipush (108), 2) := by decide +kernel
theorem d_SpectrumDeskModel_halve_37 : decode b_SpectrumDeskModel_halve 37 = .ok (.bipush (110), 2) := by decide +kernel
theorem d_SpectrumDeskModel_halve_39 : decode b_SpectrumDeskModel_halve 39 = .ok (.invokevirtual 49, 3) := by decide +kernel
theorem d_SpectrumDeskModel_halve_42 : decode b_SpectrumDeskModel_halve 42 = .ok (.aload_n 0, 1) := by decide +kernel
theorem d_SpectrumDeskModel_halve_43 : decode b_SpectrumDeskModel_halve 43 = .ok (.bipush (104), 2) := by decide +kernel
theorem d_SpectrumDeskModel_halve_45 : decode b_SpectrumDeskModel_halve 45 = .ok (.lconst 1, 1) := by decide +kernel
theorem d_SpectrumDeskModel_halve_46 : decode b_SpectrumDeskModel_halve 46 = .ok (.invokevirtual 104, 3) := by decide +kernel
theorem d_SpectrumDeskModel_halve_49 : decode b_SpectrumDeskModel_halve 49 = .ok (.aload_n 0, 1) := by decide +kernel
theorem d_SpectrumDeskModel_halve_50 : decode b_SpectrumDeskModel_halve 50 = .ok (.bipush (108), 2) := by decide +kernel
theorem d_SpectrumDeskModel_halve_52 : decode b_SpectrumDeskModel_halve 52 = .ok (.bipush (104), 2) := by decide +kernel
theorem d_SpectrumDeskModel_halve_54 : decode b_SpectrumDeskModel_halve 54 = .ok (.iconst 0, 1) := by decide +kernel
theorem d_SpectrumDeskModel_halve_55 : decode b_SpectrumDeskModel_halve 55 = .ok (.invokevirtual 115, 3) := by decide +kernel
theorem d_SpectrumDeskModel_halve_58 : decode b_SpectrumDeskModel_halve 58 = .ok (.aload_n 0, 1) := by decide +kernel
theorem d_SpectrumDeskModel_halve_59 : decode b_SpectrumDeskModel_halve 59 = .ok (.bipush (109), 2) := by decide +kernel
theorem d_SpectrumDeskModel_halve_61 : decode b_SpectrumDeskModel_halve 61 = .ok (.bipush (111), 2) := by decide +kernel
theorem d_SpectrumDeskModel_halve_63 : decode b_SpectrumDeskModel_halve 63 = .ok (.invokevirtual 49, 3) := by decide +kernel
theorem d_SpectrumDeskModel_halve_66 : decode b_SpectrumDeskModel_halve 66 = .ok (.aload_n 0, 1) := by decide +kernel
theorem d_SpectrumDeskModel_halve_67 : decode b_SpectrumDeskModel_halve 67 = .ok (.iload_n 1, 1) := by decide +kernel
theorem d_SpectrumDeskModel_halve_68 : decode b_SpectrumDeskModel_halve 68 = .ok (.invokevirtual 161, 3) := by decide +kernel
theorem d_SpectrumDeskModel_halve_71 : decode b_SpectrumDeskModel_halve 71 = .ok (.ifCond .eq (11), 3) := by decide +kernel
theorem d_SpectrumDeskModel_halve_74 : decode b_SpectrumDeskModel_halve 74 = .ok (.aload_n 0, 1) := by decide +kernel
theorem d_SpectrumDeskModel_halve_75 : decode b_SpectrumDeskModel_halve 75 = .ok (.bipush (110), 2) := by decide +kernel
theorem d_SpectrumDeskModel_halve_77 : decode b_SpectrumDeskModel_halve 77 = .ok (.bipush (108), 2) := by decide +kernel
theorem d_SpectrumDeskModel_halve_79 : decode b_SpectrumDeskModel_halve 79 = .ok (.invokevirtual 49, 3) := by decide +kernel
theorem d_SpectrumDeskModel_halve_82 : decode b_SpectrumDeskModel_halve 82 = .ok (.return_, 1) := by decide +kernel
theorem k_b1d1f78dd0 : (Jvm.Cond.code ({ cls := "SpectrumDeskModel", name := "within", desc := "(I)I" } : Jvm.MethodName) prog_10_method_46_code (3 : Nat) (Option.some Jvm.ClassFile.FieldType.int)) ∈ AW := aw_5 (List.mem_of_getElem? (i := 162) (by decide +kernel)) (by decide +kernel)
theorem k_9d9441f9ca : (Jvm.Cond.code ({ cls := "SpectrumDeskModel", name := "halve", desc := "(I)V" } : Jvm.MethodName) prog_10_method_47_code (2 : Nat) (Option.none : Option Jvm.ClassFile.FieldType)) ∈ AW := aw_5 (List.mem_of_getElem? (i := 166) (by decide +kernel)) (by decide +kernel)
set_option maxHeartbeats 4000000 in
set_option maxRecDepth 100000 in
theorem c_SpectrumDeskModel_within1 {l : Launch} {D : va_G} {cI cJ cZ cC cG cP : ClassId} {ad : Nat → Nat} {σ0 : Nat → va_E} {th nn rws ps le eq : Int32} {P L M G : Nat → Int32} {Z : Nat → Int} (hG : σ0 187 = .inl (cI, 5, .inl G)) (hB : RB P L M Z) {dgs : Nat → Nat} {p0 p1 : Nat → Int} (hd0 : dgs 0 ≤ 6) (hd1 : dgs 1 ≤ 6) (hgq : ∀ a, a < 2 → G a = nI (dgs a)) (hp0 : ∀ k, k ≤ dgs 0 → Z (8 * 0 + k) = p0 k) (hp1 : ∀ k, k ≤ dgs 1 → Z (8 * 1 + k) = p1 k) (hb0 : ∀ k, k ≤ dgs 0 → bd (2 ^ 150) (p0 k)) (hW1 : ∀ t b, bd (2 ^ 360) t → bd (2 ^ 360) b → wH t b (dgs 1) p1) (hpl : bd (2 ^ 355) (Z 110)) (hgr : bd (2 ^ 355) (Z 111)) :
    Met l y_SpectrumDeskModel_within v_SpectrumDeskModel_within (xrm 5) (va_Pc [.ref (ad 183), .int (nI 1)] (xS D classes (xT cI cJ cZ cC cG cP) 193 ad (rw3 σ0 ciM cI cZ (mfs ad th nn rws ps le eq) P L M))) (va_Qi (fun r σ2 => r = win1 (Z 110) (Z 111) (dgs 0) (dgs 1) p0 p1 ∧ mE σ0 cI cZ ad th nn rws ps G Z σ2) (xS D classes (xT cI cJ cZ cC cG cP) 193 ad) (xA 193 ad)) 0 0 (xA 193 ad) := by
  refine xr_met rfl (Nat.le_of_ble_eq_true rfl) ?_
  intro p e s m args below meth c ls hx hb X hr hlk hl I
  have hl : lv_has ls 3 [(0, .ref (ad 183)), (1, .int (nI 1))] := hl
  have hss : ∀ q, q ≠ 187 → σ0 q = σ0 q := fun _ _ => rfl
  have hgf : ∀ a, a ≠ 4 → G a = G a := fun _ _ => rfl
  have hzs : ∀ w, w < 32 → Z w = Z w := fun _ _ => rfl
  have z110 : Z 110 = Z 110 := rfl
  have z111 : Z 111 = Z 111 := rfl
  have hH0 : ∀ t, bd (2 ^ 360) t → wH t (Z 111) (dgs 0) p0 := fun t ht => wH_of hd0 ht (bd_up (by decide) hgr) hb0
  have hH1 : ∀ t, bd (2 ^ 360) t → wH t (Z 111) (dgs 1) p1 := fun t ht => hW1 t (Z 111) ht (bd_up (by decide) hgr)
  have ht0 : bd (2 ^ 360) (Z 110) := bd_up (by decide) hpl
  have ht1 : bd (2 ^ 360) (Z 110 + 1) := bd_1 (by decide) hpl
  refine lv_aload_n hx hb d_SpectrumDeskModel_within_0 rfl (lv_at hl 0 rfl) ?_
  refine lv_bipush (v := nI 108) hx hb d_SpectrumDeskModel_within_1 (by decide) ?_
  refine lv_bipush (v := nI 110) hx hb d_SpectrumDeskModel_within_3 (by decide) ?_
  refine xr_callv (xr_runV (kc := 0) (kr := 5) (n := 2) (As := [.int (nI 108), .int (nI 110)]) (rest := []) X I (by decide) (r183 ..) rfl (c_SpectrumDeskModel_bigCopy (w := 108) (u := 110) mfs_ok (by decide) (by decide) (by decide) (hB 110 (by decide))) (xg k_b9c8150a19) (List.mem_cons_of_mem _ k_4f43ed96b8) (List.mem_cons_of_mem _ k_c9c9b5ab57) (List.mem_cons_of_mem _ k_5d491bf207) (List.mem_cons_of_mem _ k_30fa15c9ac) (by decide +kernel) (by decide) rfl hl.1 rfl (Nat.le_of_ble_eq_true rfl) d_SpectrumDeskModel_within_5) I (fun σ9 H locs hp I => ?_)
  obtain ⟨P1, L1, M1, rfl, hf, hx9⟩ := hp
  have hB1 := RB_up hB hf hx9
  clear hf hx9
  obtain ⟨Z1, eZ1⟩ : ∃ Y, Y = va_up Z 108 (Z 110) := ⟨_, rfl⟩
  rw [← eZ1] at hB1
  have hz1 : ∀ w, w < 32 → Z1 w = Z w := fun w hw => by rw [eZ1]; exact (va_up_ne _ _ (by omega)).trans (hzs w hw)
  have z108 : Z1 108 = Z 110 := by rw [eZ1, va_up_self]
  have z110 : Z1 110 = Z 110 := by rw [eZ1]; exact (va_up_ne _ _ (by decide)).trans z110
  have z111 : Z1 111 = Z 111 := by rw [eZ1]; exact (va_up_ne _ _ (by decide)).trans z111
  refine lv_aload_n hx hb d_SpectrumDeskModel_within_8 rfl (lv_at hl 0 rfl) ?_
  refine lv_bipush (v := nI 109) hx hb d_SpectrumDeskModel_within_9 (by decide) ?_
  refine lv_bipush (v := nI 111) hx hb d_SpectrumDeskModel_within_11 (by decide) ?_
  refine xr_callv (xr_runV (kc := 0) (kr := 5) (n := 2) (As := [.int (nI 109), .int (nI 111)]) (rest := []) X I (by decide) (r183 ..) rfl (c_SpectrumDeskModel_bigCopy (w := 109) (u := 111) mfs_ok (by decide) (by decide) (by decide) (hB1 111 (by decide))) (xg k_b9c8150a19) (List.mem_cons_of_mem _ k_4f43ed96b8) (List.mem_cons_of_mem _ k_c9c9b5ab57) (List.mem_cons_of_mem _ k_5d491bf207) (List.mem_cons_of_mem _ k_30fa15c9ac) (by decide +kernel) (by decide) rfl hl.1 rfl (Nat.le_of_ble_eq_true rfl) d_SpectrumDeskModel_within_13) I (fun σ9 H locs hp I => ?_)
  obtain ⟨P2, L2, M2, rfl, hf, hx9⟩ := hp
  have hB2 := RB_up hB1 hf hx9
  clear hf hx9
  obtain ⟨Z2, eZ2⟩ : ∃ Y, Y = va_up Z1 109 (Z1 111) := ⟨_, rfl⟩
  rw [← eZ2] at hB2
  have hz2 : ∀ w, w < 32 → Z2 w = Z w := fun w hw => by rw [eZ2]; exact (va_up_ne _ _ (by omega)).trans (hz1 w hw)
  have z109 : Z2 109 = Z 111 := by rw [eZ2, va_up_self]; exact z111
  have z110 : Z2 110 = Z 110 := by rw [eZ2]; exact (va_up_ne _ _ (by decide)).trans z110
  have z111 : Z2 111 = Z 111 := by rw [eZ2]; exact (va_up_ne _ _ (by decide)).trans z111
  have z108 : Z2 108 = Z 110 := by rw [eZ2]; exact (va_up_ne _ _ (by decide)).trans z108
  refine lv_aload_n hx hb d_SpectrumDeskModel_within_16 rfl (lv_at hl 0 rfl) ?_
  refine lv_iconst (v := nI 0) hx hb d_SpectrumDeskModel_within_17 (by decide) ?_
  refine xr_calli (xr_runV (kc := 4) (kr := 5) (n := 1) (As := [.int (nI 0)]) (rest := []) X I (by decide) (r183 ..) rfl (c_SpectrumDeskModel_lessThan (b := 0) hG hB2 (by decide) hd0 (hgq 0 (by decide)) (fun k hk => (hz2 (8 * 0 + k) (by omega)).trans (hp0 k hk)) (by rw [z108, z109]; exact hH0 _ ht0)) (xg k_28e184ee74) (List.mem_cons_of_mem _ k_3baecd7f24) (List.mem_cons_of_mem _ k_f6e6d76f54) (List.mem_cons_of_mem _ k_6a49491994) (List.mem_cons_of_mem _ k_30fa15c9ac) (by decide +kernel) (by decide) rfl hl.1 rfl (Nat.le_of_ble_eq_true rfl) d_SpectrumDeskModel_within_18) I (fun ra0 σ9 H locs hp I => ?_)
  obtain ⟨era0, hu⟩ := hp
  obtain ⟨s3, G3, P3, L3, M3, Z3, le3, eq3, rfl, hG3, hsa, hga, hB3, hza⟩ := wU_any hd0 hu
  rw [z108, z109] at era0
  have hs3 : ∀ q, q ≠ 187 → s3 q = σ0 q := fun q hq => (hsa q hq).trans (hss q hq)
  have hg3 : ∀ a, a ≠ 4 → G3 a = G a := fun a ha => (hga a ha).trans (hgf a ha)
  have hq3 : ∀ a, a < 2 → G3 a = nI (dgs a) := fun a ha => (hga a (by omega)).trans (hgq a ha)
  have hz3 : ∀ w, w < 32 → Z3 w = Z w := fun w hw => (hza w (by omega)).trans (hz2 w hw)
  have z110 : Z3 110 = Z 110 := (hza 110 (by decide)).trans z110
  have z111 : Z3 111 = Z 111 := (hza 111 (by decide)).trans z111
  have z108 : Z3 108 = Z 110 := (hza 108 (by decide)).trans z108
  have z109 : Z3 109 = Z 111 := (hza 109 (by decide)).trans z109
  clear hu hsa hga hza
  refine lv_iload_n hx hb d_SpectrumDeskModel_within_21 rfl (lv_at hl 1 rfl) ?_
  refine lv_iconst (v := nI 1) hx hb d_SpectrumDeskModel_within_22 (by decide) ?_
  refine lv_icmp_ne hx hb d_SpectrumDeskModel_within_23 rfl (fun hw1 => ?_) (fun hw1 => ?_)
  · exact absurd rfl hw1
  · refine lv_aload_n hx hb d_SpectrumDeskModel_within_26 rfl (lv_at hl 0 rfl) ?_
    refine lv_bipush (v := nI 8) hx hb d_SpectrumDeskModel_within_27 (by decide) ?_
    refine xr_calli (xr_runV (kc := 4) (kr := 5) (n := 1) (As := [.int (nI 8)]) (rest := [.int ra0]) X I (by decide) (r183 ..) rfl (c_SpectrumDeskModel_lessThan (b := 1) hG3 hB3 (by decide) hd1 (hq3 1 (by decide)) (fun k hk => (hz3 (8 * 1 + k) (by omega)).trans (hp1 k hk)) (by rw [z108, z109]; exact hH1 _ ht0)) (xg k_28e184ee74) (List.mem_cons_of_mem _ k_3baecd7f24) (List.mem_cons_of_mem _ k_f6e6d76f54) (List.mem_cons_of_mem _ k_6a49491994) (List.mem_cons_of_mem _ k_30fa15c9ac) (by decide +kernel) (by decide) rfl hl.1 rfl (Nat.le_of_ble_eq_true rfl) d_SpectrumDeskModel_within_29) I (fun ra1 σ9 H locs hp I => ?_)
    obtain ⟨era1, hu⟩ := hp
    obtain ⟨s4, G4, P4, L4, M4, Z4, le4, eq4, rfl, hG4, hsa, hga, hB4, hza⟩ := wU_any hd1 hu
    rw [z108, z109] at era1
    have hs4 : ∀ q, q ≠ 187 → s4 q = σ0 q := fun q hq => (hsa q hq).trans (hs3 q hq)
    have hg4 : ∀ a, a ≠ 4 → G4 a = G a := fun a ha => (hga a ha).trans (hg3 a ha)
    have hq4 : ∀ a, a < 2 → G4 a = nI (dgs a) := fun a ha => (hga a (by omega)).trans (hq3 a ha)
    have hz4 : ∀ w, w < 32 → Z4 w = Z w := fun w hw => (hza w (by omega)).trans (hz3 w hw)
    have z110 : Z4 110 = Z 110 := (hza 110 (by decide)).trans z110
    have z111 : Z4 111 = Z 111 := (hza 111 (by decide)).trans z111
    have z108 : Z4 108 = Z 110 := (hza 108 (by decide)).trans z108
    have z109 : Z4 109 = Z 111 := (hza 109 (by decide)).trans z109
    clear hu hsa hga hza
    refine lv_goto hx hb d_SpectrumDeskModel_within_32 rfl ?_
    refine lv_isub hx hb d_SpectrumDeskModel_within_36 ?_
    refine lv_istore_n (lv' := [(2, .int (ra0 - ra1)), (0, .ref (ad 183)), (1, .int (nI 1))]) hx hb d_SpectrumDeskModel_within_37 rfl hl (by decide) rfl (fun ls hl => ?_)
    refine lv_aload_n hx hb d_SpectrumDeskModel_within_38 rfl (lv_at hl 1 rfl) ?_
    refine lv_bipush (v := nI 104) hx hb d_SpectrumDeskModel_within_39 (by decide) ?_
    refine lv_lconst (v := 1) hx hb d_SpectrumDeskModel_within_41 (by decide) ?_
    refine xr_callv (xr_runV (kc := 0) (kr := 5) (n := 2) (As := [.int (nI 104), .long 1]) (rest := []) X I (by decide) (r183 ..) rfl (c_SpectrumDeskModel_bigSet (w := 104) (v := 1) mfs_ok (by decide)) (xg k_5f300b8d49) (List.mem_cons_of_mem _ k_7a89662665) (List.mem_cons_of_mem _ k_203da126f2) (List.mem_cons_of_mem _ k_e2b6114fa3) (List.mem_cons_of_mem _ k_30fa15c9ac) (by decide +kernel) (by decide) rfl hl.1 rfl (Nat.le_of_ble_eq_true rfl) d_SpectrumDeskModel_within_42) I (fun σ9 H locs hp I => ?_)
    obtain ⟨P5, L5, M5, rfl, hf, hx9⟩ := hp
    have hB5 := RB_up hB4 hf hx9
    clear hf hx9
    obtain ⟨Z5, eZ5⟩ : ∃ Y, Y = va_up Z4 104 ((1 : Int64).toInt) := ⟨_, rfl⟩
    rw [← eZ5] at hB5
    have hz5 : ∀ w, w < 32 → Z5 w = Z w := fun w hw => by rw [eZ5]; exact (va_up_ne _ _ (by omega)).trans (hz4 w hw)
    have z104 : Z5 104 = 1 := by rw [eZ5, va_up_self]; decide
    have z110 : Z5 110 = Z 110 := by rw [eZ5]; exact (va_up_ne _ _ (by decide)).trans z110
    have z111 : Z5 111 = Z 111 := by rw [eZ5]; exact (va_up_ne _ _ (by decide)).trans z111
    have z108 : Z5 108 = Z 110 := by rw [eZ5]; exact (va_up_ne _ _ (by decide)).trans z108
    have z109 : Z5 109 = Z 111 := by rw [eZ5]; exact (va_up_ne _ _ (by decide)).trans z109
    refine lv_aload_n hx hb d_SpectrumDeskModel_within_45 rfl (lv_at hl 1 rfl) ?_
    refine lv_bipush (v := nI 108) hx hb d_SpectrumDeskModel_within_46 (by decide) ?_
    refine lv_bipush (v := nI 104) hx hb d_SpectrumDeskModel_within_48 (by decide) ?_
    refine lv_iconst (v := nI 0) hx hb d_SpectrumDeskModel_within_50 (by decide) ?_
    refine xr_callv (xr_runV (kc := 2) (kr := 5) (n := 3) (As := [.int (nI 108), .int (nI 104), .int (nI 0)]) (rest := []) X I (by decide) (r183 ..) rfl (c_SpectrumDeskModel_bigAdd0 (w := 108) (u := 104) mfs_ok (by decide) (by decide) (by decide) (hB5 108 (by decide)) (hB5 104 (by decide)) (by rw [z108]; exact sm_rbd (sm_of (by decide) ht0)) (by rw [z104]; exact sm_rbd sm_1)) (xg k_dd45f20b23) (List.mem_cons_of_mem _ k_1f49c5cd66) (List.mem_cons_of_mem _ k_a10028f3d7) (List.mem_cons_of_mem _ k_758e0597f6) (List.mem_cons_of_mem _ k_30fa15c9ac) (by decide +kernel) (by decide) rfl hl.1 rfl (Nat.le_of_ble_eq_true rfl) d_SpectrumDeskModel_within_51) I (fun σ9 H locs hp I => ?_)
    obtain ⟨P6, L6, M6, rfl, hf, hx9⟩ := hp
    have hB6 := RB_up hB5 hf hx9
    clear hf hx9
    obtain ⟨Z6, eZ6⟩ : ∃ Y, Y = va_up Z5 108 (Z5 108 + Z5 104) := ⟨_, rfl⟩
    rw [← eZ6] at hB6
    have hz6 : ∀ w, w < 32 → Z6 w = Z w := fun w hw => by rw [eZ6]; exact (va_up_ne _ _ (by omega)).trans (hz5 w hw)
    have z108b : Z6 108 = Z 110 + 1 := by rw [eZ6, va_up_self, z108, z104]
    have z110 : Z6 110 = Z 110 := by rw [eZ6]; exact (va_up_ne _ _ (by decide)).trans z110
    have z111 : Z6 111 = Z 111 := by rw [eZ6]; exact (va_up_ne _ _ (by decide)).trans z111
    have z109 : Z6 109 = Z 111 := by rw [eZ6]; exact (va_up_ne _ _ (by decide)).trans z109
    have z108 := z108b
    refine lv_aload_n hx hb d_SpectrumDeskModel_within_54 rfl (lv_at hl 1 rfl) ?_
    refine lv_iconst (v := nI 0) hx hb d_SpectrumDeskModel_within_55 (by decide) ?_
    refine xr_calli (xr_runV (kc := 4) (kr := 5) (n := 1) (As := [.int (nI 0)]) (rest := []) X I (by decide) (r183 ..) rfl (c_SpectrumDeskModel_lessThan (b := 0) hG4 hB6 (by decide) hd0 (hq4 0 (by decide)) (fun k hk => (hz6 (8 * 0 + k) (by omega)).trans (hp0 k hk)) (by rw [z108, z109]; exact hH0 _ ht1)) (xg k_28e184ee74) (List.mem_cons_of_mem _ k_3baecd7f24) (List.mem_cons_of_mem _ k_f6e6d76f54) (List.mem_cons_of_mem _ k_6a49491994) (List.mem_cons_of_mem _ k_30fa15c9ac) (by decide +kernel) (by decide) rfl hl.1 rfl (Nat.le_of_ble_eq_true rfl) d_SpectrumDeskModel_within_56) I (fun rb0 σ9 H locs hp I => ?_)
    obtain ⟨erb0, hu⟩ := hp
    obtain ⟨s7, G7, P7, L7, M7, Z7, le7, eq7, rfl, hG7, hsa, hga, hB7, hza⟩ := wU_any hd0 hu
    rw [z108, z109] at erb0
    have hs7 : ∀ q, q ≠ 187 → s7 q = σ0 q := fun q hq => (hsa q hq).trans (hs4 q hq)
    have hg7 : ∀ a, a ≠ 4 → G7 a = G a := fun a ha => (hga a ha).trans (hg4 a ha)
    have hq7 : ∀ a, a < 2 → G7 a = nI (dgs a) := fun a ha => (hga a (by omega)).trans (hq4 a ha)
    have hz7 : ∀ w, w < 32 → Z7 w = Z w := fun w hw => (hza w (by omega)).trans (hz6 w hw)
    have z110 : Z7 110 = Z 110 := (hza 110 (by decide)).trans z110
    have z111 : Z7 111 = Z 111 := (hza 111 (by decide)).trans z111
    have z109 : Z7 109 = Z 111 := (hza 109 (by decide)).trans z109
    have z108 : Z7 108 = Z 110 + 1 := (hza 108 (by decide)).trans z108
    clear hu hsa hga hza
    refine lv_iload_n hx hb d_SpectrumDeskModel_within_59 rfl (lv_at hl 2 rfl) ?_
    refine lv_iconst (v := nI 1) hx hb d_SpectrumDeskModel_within_60 (by decide) ?_
    refine lv_icmp_ne hx hb d_SpectrumDeskModel_within_61 rfl (fun hw2 => ?_) (fun hw2 => ?_)
    · exact absurd rfl hw2
    · refine lv_aload_n hx hb d_SpectrumDeskModel_within_64 rfl (lv_at hl 1 rfl) ?_
      refine lv_bipush (v := nI 8) hx hb d_SpectrumDeskModel_within_65 (by decide) ?_
      refine xr_calli (xr_runV (kc := 4) (kr := 5) (n := 1) (As := [.int (nI 8)]) (rest := [.int rb0]) X I (by decide) (r183 ..) rfl (c_SpectrumDeskModel_lessThan (b := 1) hG7 hB7 (by decide) hd1 (hq7 1 (by decide)) (fun k hk => (hz7 (8 * 1 + k) (by omega)).trans (hp1 k hk)) (by rw [z108, z109]; exact hH1 _ ht1)) (xg k_28e184ee74) (List.mem_cons_of_mem _ k_3baecd7f24) (List.mem_cons_of_mem _ k_f6e6d76f54) (List.mem_cons_of_mem _ k_6a49491994) (List.mem_cons_of_mem _ k_30fa15c9ac) (by decide +kernel) (by decide) rfl hl.1 rfl (Nat.le_of_ble_eq_true rfl) d_SpectrumDeskModel_within_67) I (fun rb1 σ9 H locs hp I => ?_)
      obtain ⟨erb1, hu⟩ := hp
      obtain ⟨s8, G8, P8, L8, M8, Z8, le8, eq8, rfl, hG8, hsa, hga, hB8, hza⟩ := wU_any hd1 hu
      rw [z108, z109] at erb1
      have hs8 : ∀ q, q ≠ 187 → s8 q = σ0 q := fun q hq => (hsa q hq).trans (hs7 q hq)
      have hg8 : ∀ a, a ≠ 4 → G8 a = G a := fun a ha => (hga a ha).trans (hg7 a ha)
      have hq8 : ∀ a, a < 2 → G8 a = nI (dgs a) := fun a ha => (hga a (by omega)).trans (hq7 a ha)
      have hz8 : ∀ w, w < 32 → Z8 w = Z w := fun w hw => (hza w (by omega)).trans (hz7 w hw)
      have z110 : Z8 110 = Z 110 := (hza 110 (by decide)).trans z110
      have z111 : Z8 111 = Z 111 := (hza 111 (by decide)).trans z111
      have z109 : Z8 109 = Z 111 := (hza 109 (by decide)).trans z109
      have z108 : Z8 108 = Z 110 + 1 := (hza 108 (by decide)).trans z108
      clear hu hsa hga hza
      refine lv_goto hx hb d_SpectrumDeskModel_within_70 rfl ?_
      refine lv_isub hx hb d_SpectrumDeskModel_within_74 ?_
      refine lv_iload_n hx hb d_SpectrumDeskModel_within_75 rfl (lv_at hl 0 rfl) ?_
      refine lv_isub hx hb d_SpectrumDeskModel_within_76 ?_
      exact xr_iret X I hr hlk ⟨by rw [era0, era1, erb0, erb1]; rfl, s8, G8, P8, L8, M8, Z8, le8, eq8, rfl, hG8, hs8, hg8, hB8, fun w hw => by rcases hw with h | rfl | rfl; exact hz8 w h; exact z110; exact z111⟩ d_SpectrumDeskModel_within_77
set_option maxHeartbeats 4000000 in
set_option maxRecDepth 100000 in
theorem c_SpectrumDeskModel_within0 {l : Launch} {D : va_G} {cI cJ cZ cC cG cP : ClassId} {ad : Nat → Nat} {σ0 : Nat → va_E} {th nn rws ps le eq : Int32} {P L M G : Nat → Int32} {Z : Nat → Int} (hG : σ0 187 = .inl (cI, 5, .inl G)) (hB : RB P L M Z) {dgs : Nat → Nat} {p0 p1 : Nat → Int} (hd0 : dgs 0 ≤ 6) (hd1 : dgs 1 ≤ 6) (hgq : ∀ a, a < 2 → G a = nI (dgs a)) (hp0 : ∀ k, k ≤ dgs 0 → Z (8 * 0 + k) = p0 k) (hp1 : ∀ k, k ≤ dgs 1 → Z (8 * 1 + k) = p1 k) (hb0 : ∀ k, k ≤ dgs 0 → bd (2 ^ 150) (p0 k)) (hW1 : ∀ t b, bd (2 ^ 360) t → bd (2 ^ 360) b → wH t b (dgs 1) p1) (hpl : bd (2 ^ 355) (Z 110)) (hgr : bd (2 ^ 355) (Z 111)) :
    Met l y_SpectrumDeskModel_within v_SpectrumDeskModel_within (xrm 5) (va_Pc [.ref (ad 183), .int (nI 0)] (xS D classes (xT cI cJ cZ cC cG cP) 193 ad (rw3 σ0 ciM cI cZ (mfs ad th nn rws ps le eq) P L M))) (va_Qi (fun r σ2 => r = win0 (Z 110) (Z 111) (dgs 0) p0 ∧ mE σ0 cI cZ ad th nn rws ps G Z σ2) (xS D classes (xT cI cJ cZ cC cG cP) 193 ad) (xA 193 ad)) 0 0 (xA 193 ad) := by
  refine xr_met rfl (Nat.le_of_ble_eq_true rfl) ?_
  intro p e s m args below meth c ls hx hb X hr hlk hl I
  have hl : lv_has ls 3 [(0, .ref (ad 183)), (1, .int (nI 0))] := hl
  have hss : ∀ q, q ≠ 187 → σ0 q = σ0 q := fun _ _ => rfl
  have hgf : ∀ a, a ≠ 4 → G a = G a := fun _ _ => rfl
  have hzs : ∀ w, w < 32 → Z w = Z w := fun _ _ => rfl
  have z110 : Z 110 = Z 110 := rfl
  have z111 : Z 111 = Z 111 := rfl
  have hH0 : ∀ t, bd (2 ^ 360) t → wH t (Z 111) (dgs 0) p0 := fun t ht => wH_of hd0 ht (bd_up (by decide) hgr) hb0
  have hH1 : ∀ t, bd (2 ^ 360) t → wH t (Z 111) (dgs 1) p1 := fun t ht => hW1 t (Z 111) ht (bd_up (by decide) hgr)
  have ht0 : bd (2 ^ 360) (Z 110) := bd_up (by decide) hpl
  have ht1 : bd (2 ^ 360) (Z 110 + 1) := bd_1 (by decide) hpl
  refine lv_aload_n hx hb d_SpectrumDeskModel_within_0 rfl (lv_at hl 0 rfl) ?_
  refine lv_bipush (v := nI 108) hx hb d_SpectrumDeskModel_within_1 (by decide) ?_
  refine lv_bipush (v := nI 110) hx hb d_SpectrumDeskModel_within_3 (by decide) ?_
  refine xr_callv (xr_runV (kc := 0) (kr := 5) (n := 2) (As := [.int (nI 108), .int (nI 110)]) (rest := []) X I (by decide) (r183 ..) rfl (c_SpectrumDeskModel_bigCopy (w := 108) (u := 110) mfs_ok (by decide) (by decide) (by decide) (hB 110 (by decide))) (xg k_b9c8150a19) (List.mem_cons_of_mem _ k_4f43ed96b8) (List.mem_cons_of_mem _ k_c9c9b5ab57) (List.mem_cons_of_mem _ k_5d491bf207) (List.mem_cons_of_mem _ k_30fa15c9ac) (by decide +kernel) (by decide) rfl hl.1 rfl (Nat.le_of_ble_eq_true rfl) d_SpectrumDeskModel_within_5) I (fun σ9 H locs hp I => ?_)
  obtain ⟨P1, L1, M1, rfl, hf, hx9⟩ := hp
  have hB1 := RB_up hB hf hx9
  clear hf hx9
  obtain ⟨Z1, eZ1⟩ : ∃ Y, Y = va_up Z 108 (Z 110) := ⟨_, rfl⟩
  rw [← eZ1] at hB1
  have hz1 : ∀ w, w < 32 → Z1 w = Z w := fun w hw => by rw [eZ1]; exact (va_up_ne _ _ (by omega)).trans (hzs w hw)
  have z108 : Z1 108 = Z 110 := by rw [eZ1, va_up_self]
  have z110 : Z1 110 = Z 110 := by rw [eZ1]; exact (va_up_ne _ _ (by decide)).trans z110
  have z111 : Z1 111 = Z 111 := by rw [eZ1]; exact (va_up_ne _ _ (by decide)).trans z111
  refine lv_aload_n hx hb d_SpectrumDeskModel_within_8 rfl (lv_at hl 0 rfl) ?_
  refine lv_bipush (v := nI 109) hx hb d_SpectrumDeskModel_within_9 (by decide) ?_
  refine lv_bipush (v := nI 111) hx hb d_SpectrumDeskModel_within_11 (by decide) ?_
  refine xr_callv (xr_runV (kc := 0) (kr := 5) (n := 2) (As := [.int (nI 109), .int (nI 111)]) (rest := []) X I (by decide) (r183 ..) rfl (c_SpectrumDeskModel_bigCopy (w := 109) (u := 111) mfs_ok (by decide) (by decide) (by decide) (hB1 111 (by decide))) (xg k_b9c8150a19) (List.mem_cons_of_mem _ k_4f43ed96b8) (List.mem_cons_of_mem _ k_c9c9b5ab57) (List.mem_cons_of_mem _ k_5d491bf207) (List.mem_cons_of_mem _ k_30fa15c9ac) (by decide +kernel) (by decide) rfl hl.1 rfl (Nat.le_of_ble_eq_true rfl) d_SpectrumDeskModel_within_13) I (fun σ9 H locs hp I => ?_)
  obtain ⟨P2, L2, M2, rfl, hf, hx9⟩ := hp
  have hB2 := RB_up hB1 hf hx9
  clear hf hx9
  obtain ⟨Z2, eZ2⟩ : ∃ Y, Y = va_up Z1 109 (Z1 111) := ⟨_, rfl⟩
  rw [← eZ2] at hB2
  have hz2 : ∀ w, w < 32 → Z2 w = Z w := fun w hw => by rw [eZ2]; exact (va_up_ne _ _ (by omega)).trans (hz1 w hw)
  have z109 : Z2 109 = Z 111 := by rw [eZ2, va_up_self]; exact z111
  have z110 : Z2 110 = Z 110 := by rw [eZ2]; exact (va_up_ne _ _ (by decide)).trans z110
  have z111 : Z2 111 = Z 111 := by rw [eZ2]; exact (va_up_ne _ _ (by decide)).trans z111
  have z108 : Z2 108 = Z 110 := by rw [eZ2]; exact (va_up_ne _ _ (by decide)).trans z108
  refine lv_aload_n hx hb d_SpectrumDeskModel_within_16 rfl (lv_at hl 0 rfl) ?_
  refine lv_iconst (v := nI 0) hx hb d_SpectrumDeskModel_within_17 (by decide) ?_
  refine xr_calli (xr_runV (kc := 4) (kr := 5) (n := 1) (As := [.int (nI 0)]) (rest := []) X I (by decide) (r183 ..) rfl (c_SpectrumDeskModel_lessThan (b := 0) hG hB2 (by decide) hd0 (hgq 0 (by decide)) (fun k hk => (hz2 (8 * 0 + k) (by omega)).trans (hp0 k hk)) (by rw [z108, z109]; exact hH0 _ ht0)) (xg k_28e184ee74) (List.mem_cons_of_mem _ k_3baecd7f24) (List.mem_cons_of_mem _ k_f6e6d76f54) (List.mem_cons_of_mem _ k_6a49491994) (List.mem_cons_of_mem _ k_30fa15c9ac) (by decide +kernel) (by decide) rfl hl.1 rfl (Nat.le_of_ble_eq_true rfl) d_SpectrumDeskModel_within_18) I (fun ra0 σ9 H locs hp I => ?_)
  obtain ⟨era0, hu⟩ := hp
  obtain ⟨s3, G3, P3, L3, M3, Z3, le3, eq3, rfl, hG3, hsa, hga, hB3, hza⟩ := wU_any hd0 hu
  rw [z108, z109] at era0
  have hs3 : ∀ q, q ≠ 187 → s3 q = σ0 q := fun q hq => (hsa q hq).trans (hss q hq)
  have hg3 : ∀ a, a ≠ 4 → G3 a = G a := fun a ha => (hga a ha).trans (hgf a ha)
  have hq3 : ∀ a, a < 2 → G3 a = nI (dgs a) := fun a ha => (hga a (by omega)).trans (hgq a ha)
  have hz3 : ∀ w, w < 32 → Z3 w = Z w := fun w hw => (hza w (by omega)).trans (hz2 w hw)
  have z110 : Z3 110 = Z 110 := (hza 110 (by decide)).trans z110
  have z111 : Z3 111 = Z 111 := (hza 111 (by decide)).trans z111
  have z108 : Z3 108 = Z 110 := (hza 108 (by decide)).trans z108
  have z109 : Z3 109 = Z 111 := (hza 109 (by decide)).trans z109
  clear hu hsa hga hza
  refine lv_iload_n hx hb d_SpectrumDeskModel_within_21 rfl (lv_at hl 1 rfl) ?_
  refine lv_iconst (v := nI 1) hx hb d_SpectrumDeskModel_within_22 (by decide) ?_
  refine lv_icmp_ne hx hb d_SpectrumDeskModel_within_23 rfl (fun hw1 => ?_) (fun hw1 => ?_)
  · refine lv_iconst (v := nI 0) hx hb d_SpectrumDeskModel_within_35 (by decide) ?_
    refine lv_isub hx hb d_SpectrumDeskModel_within_36 ?_
    refine lv_istore_n (lv' := [(2, .int (ra0 - (nI 0))), (0, .ref (ad 183)), (1, .int (nI 0))]) hx hb d_SpectrumDeskModel_within_37 rfl hl (by decide) rfl (fun ls hl => ?_)
    refine lv_aload_n hx hb d_SpectrumDeskModel_within_38 rfl (lv_at hl 1 rfl) ?_
    refine lv_bipush (v := nI 104) hx hb d_SpectrumDeskModel_within_39 (by decide) ?_
    refine lv_lconst (v := 1) hx hb d_SpectrumDeskModel_within_41 (by decide) ?_
    refine xr_callv (xr_runV (kc := 0) (kr := 5) (n := 2) (As := [.int (nI 104), .long 1]) (rest := []) X I (by decide) (r183 ..) rfl (c_SpectrumDeskModel_bigSet (w := 104) (v := 1) mfs_ok (by decide)) (xg k_5f300b8d49) (List.mem_cons_of_mem _ k_7a89662665) (List.mem_cons_of_mem _ k_203da126f2) (List.mem_cons_of_mem _ k_e2b6114fa3) (List.mem_cons_of_mem _ k_30fa15c9ac) (by decide +kernel) (by decide) rfl hl.1 rfl (Nat.le_of_ble_eq_true rfl) d_SpectrumDeskModel_within_42) I (fun σ9 H locs hp I => ?_)
    obtain ⟨P4, L4, M4, rfl, hf, hx9⟩ := hp
    have hB4 := RB_up hB3 hf hx9
    clear hf hx9
    obtain ⟨Z4, eZ4⟩ : ∃ Y, Y = va_up Z3 104 ((1 : Int64).toInt) := ⟨_, rfl⟩
    rw [← eZ4] at hB4
    have hz4 : ∀ w, w < 32 → Z4 w = Z w := fun w hw => by rw [eZ4]; exact (va_up_ne _ _ (by omega)).trans (hz3 w hw)
    have z104 : Z4 104 = 1 := by rw [eZ4, va_up_self]; decide
    have z110 : Z4 110 = Z 110 := by rw [eZ4]; exact (va_up_ne _ _ (by decide)).trans z110
    have z111 : Z4 111 = Z 111 := by rw [eZ4]; exact (va_up_ne _ _ (by decide)).trans z111
    have z108 : Z4 108 = Z 110 := by rw [eZ4]; exact (va_up_ne _ _ (by decide)).trans z108
    have z109 : Z4 109 = Z 111 := by rw [eZ4]; exact (va_up_ne _ _ (by decide)).trans z109
    refine lv_aload_n hx hb d_SpectrumDeskModel_within_45 rfl (lv_at hl 1 rfl) ?_
    refine lv_bipush (v := nI 108) hx hb d_SpectrumDeskModel_within_46 (by decide) ?_
    refine lv_bipush (v := nI 104) hx hb d_SpectrumDeskModel_within_48 (by decide) ?_
    refine lv_iconst (v := nI 0) hx hb d_SpectrumDeskModel_within_50 (by decide) ?_
    refine xr_callv (xr_runV (kc := 2) (kr := 5) (n := 3) (As := [.int (nI 108), .int (nI 104), .int (nI 0)]) (rest := []) X I (by decide) (r183 ..) rfl (c_SpectrumDeskModel_bigAdd0 (w := 108) (u := 104) mfs_ok (by decide) (by decide) (by decide) (hB4 108 (by decide)) (hB4 104 (by decide)) (by rw [z108]; exact sm_rbd (sm_of (by decide) ht0)) (by rw [z104]; exact sm_rbd sm_1)) (xg k_dd45f20b23) (List.mem_cons_of_mem _ k_1f49c5cd66) (List.mem_cons_of_mem _ k_a10028f3d7) (List.mem_cons_of_mem _ k_758e0597f6) (List.mem_cons_of_mem _ k_30fa15c9ac) (by decide +kernel) (by decide) rfl hl.1 rfl (Nat.le_of_ble_eq_true rfl) d_SpectrumDeskModel_within_51) I (fun σ9 H locs hp I => ?_)
    obtain ⟨P5, L5, M5, rfl, hf, hx9⟩ := hp
    have hB5 := RB_up hB4 hf hx9
    clear hf hx9
    obtain ⟨Z5, eZ5⟩ : ∃ Y, Y = va_up Z4 108 (Z4 108 + Z4 104) := ⟨_, rfl⟩
    rw [← eZ5] at hB5
    have hz5 : ∀ w, w < 32 → Z5 w = Z w := fun w hw => by rw [eZ5]; exact (va_up_ne _ _ (by omega)).trans (hz4 w hw)
    have z108b : Z5 108 = Z 110 + 1 := by rw [eZ5, va_up_self, z108, z104]
    have z110 : Z5 110 = Z 110 := by rw [eZ5]; exact (va_up_ne _ _ (by decide)).trans z110
    have z111 : Z5 111 = Z 111 := by rw [eZ5]; exact (va_up_ne _ _ (by decide)).trans z111
    have z109 : Z5 109 = Z 111 := by rw [eZ5]; exact (va_up_ne _ _ (by decide)).trans z109
    have z108 := z108b
    refine lv_aload_n hx hb d_SpectrumDeskModel_within_54 rfl (lv_at hl 1 rfl) ?_
    refine lv_iconst (v := nI 0) hx hb d_SpectrumDeskModel_within_55 (by decide) ?_
    refine xr_calli (xr_runV (kc := 4) (kr := 5) (n := 1) (As := [.int (nI 0)]) (rest := []) X I (by decide) (r183 ..) rfl (c_SpectrumDeskModel_lessThan (b := 0) hG3 hB5 (by decide) hd0 (hq3 0 (by decide)) (fun k hk => (hz5 (8 * 0 + k) (by omega)).trans (hp0 k hk)) (by rw [z108, z109]; exact hH0 _ ht1)) (xg k_28e184ee74) (List.mem_cons_of_mem _ k_3baecd7f24) (List.mem_cons_of_mem _ k_f6e6d76f54) (List.mem_cons_of_mem _ k_6a49491994) (List.mem_cons_of_mem _ k_30fa15c9ac) (by decide +kernel) (by decide) rfl hl.1 rfl (Nat.le_of_ble_eq_true rfl) d_SpectrumDeskModel_within_56) I (fun rb0 σ9 H locs hp I => ?_)
    obtain ⟨erb0, hu⟩ := hp
    obtain ⟨s6, G6, P6, L6, M6, Z6, le6, eq6, rfl, hG6, hsa, hga, hB6, hza⟩ := wU_any hd0 hu
    rw [z108, z109] at erb0
    have hs6 : ∀ q, q ≠ 187 → s6 q = σ0 q := fun q hq => (hsa q hq).trans (hs3 q hq)
    have hg6 : ∀ a, a ≠ 4 → G6 a = G a := fun a ha => (hga a ha).trans (hg3 a ha)
    have hq6 : ∀ a, a < 2 → G6 a = nI (dgs a) := fun a ha => (hga a (by omega)).trans (hq3 a ha)
    have hz6 : ∀ w, w < 32 → Z6 w = Z w := fun w hw => (hza w (by omega)).trans (hz5 w hw)
    have z110 : Z6 110 = Z 110 := (hza 110 (by decide)).trans z110
    have z111 : Z6 111 = Z 111 := (hza 111 (by decide)).trans z111
    have z109 : Z6 109 = Z 111 := (hza 109 (by decide)).trans z109
    have z108 : Z6 108 = Z 110 + 1 := (hza 108 (by decide)).trans z108
    clear hu hsa hga hza
    refine lv_iload_n hx hb d_SpectrumDeskModel_within_59 rfl (lv_at hl 2 rfl) ?_
    refine lv_iconst (v := nI 1) hx hb d_SpectrumDeskModel_within_60 (by decide) ?_
    refine lv_icmp_ne hx hb d_SpectrumDeskModel_within_61 rfl (fun hw2 => ?_) (fun hw2 => ?_)
    · refine lv_iconst (v := nI 0) hx hb d_SpectrumDeskModel_within_73 (by decide) ?_
      refine lv_isub hx hb d_SpectrumDeskModel_within_74 ?_
      refine lv_iload_n hx hb d_SpectrumDeskModel_within_75 rfl (lv_at hl 0 rfl) ?_
      refine lv_isub hx hb d_SpectrumDeskModel_within_76 ?_
      exact xr_iret X I hr hlk ⟨by rw [era0, erb0]; rfl, s6, G6, P6, L6, M6, Z6, le6, eq6, rfl, hG6, hs6, hg6, hB6, fun w hw => by rcases hw with h | rfl | rfl; exact hz6 w h; exact z110; exact z111⟩ d_SpectrumDeskModel_within_77
    · exact absurd hw2 (by decide)
  · exact absurd hw1 (by decide)
set_option maxHeartbeats 4000000 in
set_option maxRecDepth 100000 in
theorem c_SpectrumDeskModel_halve {l : Launch} {D : va_G} {cI cJ cZ cC cG cP : ClassId} {ad : Nat → Nat} {σ0 : Nat → va_E} {th nn rws ps le eq : Int32} {P L M G : Nat → Int32} {Z : Nat → Int} (hG : σ0 187 = .inl (cI, 5, .inl G)) (hB : RB P L M Z) {dd : Nat} {p0 : Nat → Int} {i : Int32} (hd0 : dd ≤ 6) (hG0 : G 0 = nI dd) (hp0 : ∀ k, k ≤ dd → Z k = p0 k) (hb0 : ∀ k, k ≤ dd → bd (2 ^ 150) (p0 k)) (hpl : bd (2 ^ 355) (Z 110)) (hgr : bd (2 ^ 355) (Z 111)) :
    Met l y_SpectrumDeskModel_halve v_SpectrumDeskModel_halve (xrm 6) (va_Pc [.ref (ad 183), .int i] (xS D classes (xT cI cJ cZ cC cG cP) 193 ad (rw3 σ0 ciM cI cZ (mfs ad th nn rws ps le eq) P L M))) (va_Qv (mH σ0 cI cZ ad th nn rws ps G Z (if wL (Z 110 + Z 110 + 1) (Z 111 + Z 111) dd p0 ≤ i then Z 110 + Z 110 + 1 else Z 110 + Z 110) (Z 111 + Z 111)) (xS D classes (xT cI cJ cZ cC cG cP) 193 ad) (xA 193 ad)) 0 0 (xA 193 ad) := by
  refine xr_met rfl (Nat.le_of_ble_eq_true rfl) ?_
  intro p e s m args below meth c ls hx hb X hr hlk hl I
  have hl : lv_has ls 2 [(0, .ref (ad 183)), (1, .int i)] := hl
  have hzs : ∀ w, w < 32 → Z w = Z w := fun _ _ => rfl
  have z110 : Z 110 = Z 110 := rfl
  have z111 : Z 111 = Z 111 := rfl
  have r0 : rbd (Z 110) := sm_rbd (sm_of (by decide) hpl)
  have r1 : rbd (Z 111) := sm_rbd (sm_of (by decide) hgr)
  have b0 := bd_2 hpl
  have b1 := bd_2 hgr
  have b2 : bd (2 ^ 360) (Z 110 + Z 110 + 1) := bd_1 (by decide) b0
  refine lv_aload_n hx hb d_SpectrumDeskModel_halve_0 rfl (lv_at hl 0 rfl) ?_
  refine lv_bipush (v := nI 106) hx hb d_SpectrumDeskModel_halve_1 (by decide) ?_
  refine lv_bipush (v := nI 110) hx hb d_SpectrumDeskModel_halve_3 (by decide) ?_
  refine xr_callv (xr_runV (kc := 0) (kr := 6) (n := 2) (As := [.int (nI 106), .int (nI 110)]) (rest := []) X I (by decide) (r183 ..) rfl (c_SpectrumDeskModel_bigCopy (w := 106) (u := 110) mfs_ok (by decide) (by decide) (by decide) (hB 110 (by decide))) (xg k_b9c8150a19) (List.mem_cons_of_mem _ k_4f43ed96b8) (List.mem_cons_of_mem _ k_c9c9b5ab57) (List.mem_cons_of_mem _ k_5d491bf207) (List.mem_cons_of_mem _ k_30fa15c9ac) (by decide +kernel) (by decide) rfl hl.1 rfl (Nat.le_of_ble_eq_true rfl) d_SpectrumDeskModel_halve_5) I (fun σ9 H locs hp I => ?_)
  obtain ⟨P1, L1, M1, rfl, hf, hx9⟩ := hp
  have hB1 := RB_up hB hf hx9
  clear hf hx9
  obtain ⟨Z1, eZ1⟩ : ∃ Y, Y = va_up Z 106 (Z 110) := ⟨_, rfl⟩
  rw [← eZ1] at hB1
  have hz1 : ∀ w, w < 32 → Z1 w = Z w := fun w hw => by rw [eZ1]; exact (va_up_ne _ _ (by omega)).trans (hzs w hw)
  have y106 : Z1 106 = Z 110 := by rw [eZ1]; exact (va_up_self _ _ _).trans z110
  have z110 : Z1 110 = Z 110 := by rw [eZ1]; exact (va_up_ne _ _ (by decide)).trans z110
  have z111 : Z1 111 = Z 111 := by rw [eZ1]; exact (va_up_ne _ _ (by decide)).trans z111
  have z106 := y106
  refine lv_aload_n hx hb d_SpectrumDeskModel_halve_8 rfl (lv_at hl 0 rfl) ?_
  refine lv_bipush (v := nI 110) hx hb d_SpectrumDeskModel_halve_9 (by decide) ?_
  refine lv_bipush (v := nI 106) hx hb d_SpectrumDeskModel_halve_11 (by decide) ?_
  refine lv_iconst (v := nI 0) hx hb d_SpectrumDeskModel_halve_13 (by decide) ?_
  refine xr_callv (xr_runV (kc := 2) (kr := 6) (n := 3) (As := [.int (nI 110), .int (nI 106), .int (nI 0)]) (rest := []) X I (by decide) (r183 ..) rfl (c_SpectrumDeskModel_bigAdd0 (w := 110) (u := 106) mfs_ok (by decide) (by decide) (by decide) (hB1 110 (by decide)) (hB1 106 (by decide)) (by rw [z110]; exact r0) (by rw [z106]; exact r0)) (xg k_dd45f20b23) (List.mem_cons_of_mem _ k_1f49c5cd66) (List.mem_cons_of_mem _ k_a10028f3d7) (List.mem_cons_of_mem _ k_758e0597f6) (List.mem_cons_of_mem _ k_30fa15c9ac) (by decide +kernel) (by decide) rfl hl.1 rfl (Nat.le_of_ble_eq_true rfl) d_SpectrumDeskModel_halve_14) I (fun σ9 H locs hp I => ?_)
  obtain ⟨P2, L2, M2, rfl, hf, hx9⟩ := hp
  have hB2 := RB_up hB1 hf hx9
  clear hf hx9
  obtain ⟨Z2, eZ2⟩ : ∃ Y, Y = va_up Z1 110 (Z1 110 + Z1 106) := ⟨_, rfl⟩
  rw [← eZ2] at hB2
  have hz2 : ∀ w, w < 32 → Z2 w = Z w := fun w hw => by rw [eZ2]; exact (va_up_ne _ _ (by omega)).trans (hz1 w hw)
  have y110 : Z2 110 = Z 110 + Z 110 := by rw [eZ2, va_up_self, z110, z106]
  have z111 : Z2 111 = Z 111 := by rw [eZ2]; exact (va_up_ne _ _ (by decide)).trans z111
  have z106 : Z2 106 = Z 110 := by rw [eZ2]; exact (va_up_ne _ _ (by decide)).trans z106
  have z110 := y110
  refine lv_aload_n hx hb d_SpectrumDeskModel_halve_17 rfl (lv_at hl 0 rfl) ?_
  refine lv_bipush (v := nI 106) hx hb d_SpectrumDeskModel_halve_18 (by decide) ?_
  refine lv_bipush (v := nI 111) hx hb d_SpectrumDeskModel_halve_20 (by decide) ?_
  refine xr_callv (xr_runV (kc := 0) (kr := 6) (n := 2) (As := [.int (nI 106), .int (nI 111)]) (rest := []) X I (by decide) (r183 ..) rfl (c_SpectrumDeskModel_bigCopy (w := 106) (u := 111) mfs_ok (by decide) (by decide) (by decide) (hB2 111 (by decide))) (xg k_b9c8150a19) (List.mem_cons_of_mem _ k_4f43ed96b8) (List.mem_cons_of_mem _ k_c9c9b5ab57) (List.mem_cons_of_mem _ k_5d491bf207) (List.mem_cons_of_mem _ k_30fa15c9ac) (by decide +kernel) (by decide) rfl hl.1 rfl (Nat.le_of_ble_eq_true rfl) d_SpectrumDeskModel_halve_22) I (fun σ9 H locs hp I => ?_)
  obtain ⟨P3, L3, M3, rfl, hf, hx9⟩ := hp
  have hB3 := RB_up hB2 hf hx9
  clear hf hx9
  obtain ⟨Z3, eZ3⟩ : ∃ Y, Y = va_up Z2 106 (Z2 111) := ⟨_, rfl⟩
  rw [← eZ3] at hB3
  have hz3 : ∀ w, w < 32 → Z3 w = Z w := fun w hw => by rw [eZ3]; exact (va_up_ne _ _ (by omega)).trans (hz2 w hw)
  have y106 : Z3 106 = Z 111 := by rw [eZ3]; exact (va_up_self _ _ _).trans z111
  have z111 : Z3 111 = Z 111 := by rw [eZ3]; exact (va_up_ne _ _ (by decide)).trans z111
  have z110 : Z3 110 = Z 110 + Z 110 := by rw [eZ3]; exact (va_up_ne _ _ (by decide)).trans z110
  have z106 := y106
  refine lv_aload_n hx hb d_SpectrumDeskModel_halve_25 rfl (lv_at hl 0 rfl) ?_
  refine lv_bipush (v := nI 111) hx hb d_SpectrumDeskModel_halve_26 (by decide) ?_
  refine lv_bipush (v := nI 106) hx hb d_SpectrumDeskModel_halve_28 (by decide) ?_
  refine lv_iconst (v := nI 0) hx hb d_SpectrumDeskModel_halve_30 (by decide) ?_
  refine xr_callv (xr_runV (kc := 2) (kr := 6) (n := 3) (As := [.int (nI 111), .int (nI 106), .int (nI 0)]) (rest := []) X I (by decide) (r183 ..) rfl (c_SpectrumDeskModel_bigAdd0 (w := 111) (u := 106) mfs_ok (by decide) (by decide) (by decide) (hB3 111 (by decide)) (hB3 106 (by decide)) (by rw [z111]; exact r1) (by rw [z106]; exact r1)) (xg k_dd45f20b23) (List.mem_cons_of_mem _ k_1f49c5cd66) (List.mem_cons_of_mem _ k_a10028f3d7) (List.mem_cons_of_mem _ k_758e0597f6) (List.mem_cons_of_mem _ k_30fa15c9ac) (by decide +kernel) (by decide) rfl hl.1 rfl (Nat.le_of_ble_eq_true rfl) d_SpectrumDeskModel_halve_31) I (fun σ9 H locs hp I => ?_)
  obtain ⟨P4, L4, M4, rfl, hf, hx9⟩ := hp
  have hB4 := RB_up hB3 hf hx9
  clear hf hx9
  obtain ⟨Z4, eZ4⟩ : ∃ Y, Y = va_up Z3 111 (Z3 111 + Z3 106) := ⟨_, rfl⟩
  rw [← eZ4] at hB4
  have hz4 : ∀ w, w < 32 → Z4 w = Z w := fun w hw => by rw [eZ4]; exact (va_up_ne _ _ (by omega)).trans (hz3 w hw)
  have y111 : Z4 111 = Z 111 + Z 111 := by rw [eZ4, va_up_self, z111, z106]
  have z110 : Z4 110 = Z 110 + Z 110 := by rw [eZ4]; exact (va_up_ne _ _ (by decide)).trans z110
  have z106 : Z4 106 = Z 111 := by rw [eZ4]; exact (va_up_ne _ _ (by decide)).trans z106
  have z111 := y111
  refine lv_aload_n hx hb d_SpectrumDeskModel_halve_34 rfl (lv_at hl 0 rfl) ?_
  refine lv_bipush (v := nI 108) hx hb d_SpectrumDeskModel_halve_35 (by decide) ?_
  refine lv_bipush (v := nI 110) hx hb d_SpectrumDeskModel_halve_37 (by decide) ?_
  refine xr_callv (xr_runV (kc := 0) (kr := 6) (n := 2) (As := [.int (nI 108), .int (nI 110)]) (rest := []) X I (by decide) (r183 ..) rfl (c_SpectrumDeskModel_bigCopy (w := 108) (u := 110) mfs_ok (by decide) (by decide) (by decide) (hB4 110 (by decide))) (xg k_b9c8150a19) (List.mem_cons_of_mem _ k_4f43ed96b8) (List.mem_cons_of_mem _ k_c9c9b5ab57) (List.mem_cons_of_mem _ k_5d491bf207) (List.mem_cons_of_mem _ k_30fa15c9ac) (by decide +kernel) (by decide) rfl hl.1 rfl (Nat.le_of_ble_eq_true rfl) d_SpectrumDeskModel_halve_39) I (fun σ9 H locs hp I => ?_)
  obtain ⟨P5, L5, M5, rfl, hf, hx9⟩ := hp
  have hB5 := RB_up hB4 hf hx9
  clear hf hx9
  obtain ⟨Z5, eZ5⟩ : ∃ Y, Y = va_up Z4 108 (Z4 110) := ⟨_, rfl⟩
  rw [← eZ5] at hB5
  have hz5 : ∀ w, w < 32 → Z5 w = Z w := fun w hw => by rw [eZ5]; exact (va_up_ne _ _ (by omega)).trans (hz4 w hw)
  have y108 : Z5 108 = Z 110 + Z 110 := by rw [eZ5]; exact (va_up_self _ _ _).trans z110
  have z110 : Z5 110 = Z 110 + Z 110 := by rw [eZ5]; exact (va_up_ne _ _ (by decide)).trans z110
  have z111 : Z5 111 = Z 111 + Z 111 := by rw [eZ5]; exact (va_up_ne _ _ (by decide)).trans z111
  have z108 := y108
  refine lv_aload_n hx hb d_SpectrumDeskModel_halve_42 rfl (lv_at hl 0 rfl) ?_
  refine lv_bipush (v := nI 104) hx hb d_SpectrumDeskModel_halve_43 (by decide) ?_
  refine lv_lconst (v := 1) hx hb d_SpectrumDeskModel_halve_45 (by decide) ?_
  refine xr_callv (xr_runV (kc := 0) (kr := 6) (n := 2) (As := [.int (nI 104), .long 1]) (rest := []) X I (by decide) (r183 ..) rfl (c_SpectrumDeskModel_bigSet (w := 104) (v := 1) mfs_ok (by decide)) (xg k_5f300b8d49) (List.mem_cons_of_mem _ k_7a89662665) (List.mem_cons_of_mem _ k_203da126f2) (List.mem_cons_of_mem _ k_e2b6114fa3) (List.mem_cons_of_mem _ k_30fa15c9ac) (by decide +kernel) (by decide) rfl hl.1 rfl (Nat.le_of_ble_eq_true rfl) d_SpectrumDeskModel_halve_46) I (fun σ9 H locs hp I => ?_)
  obtain ⟨P6, L6, M6, rfl, hf, hx9⟩ := hp
  have hB6 := RB_up hB5 hf hx9
  clear hf hx9
  obtain ⟨Z6, eZ6⟩ : ∃ Y, Y = va_up Z5 104 ((1 : Int64).toInt) := ⟨_, rfl⟩
  rw [← eZ6] at hB6
  have hz6 : ∀ w, w < 32 → Z6 w = Z w := fun w hw => by rw [eZ6]; exact (va_up_ne _ _ (by omega)).trans (hz5 w hw)
  have z104 : Z6 104 = 1 := by rw [eZ6, va_up_self]; decide
  have z110 : Z6 110 = Z 110 + Z 110 := by rw [eZ6]; exact (va_up_ne _ _ (by decide)).trans z110
  have z111 : Z6 111 = Z 111 + Z 111 := by rw [eZ6]; exact (va_up_ne _ _ (by decide)).trans z111
  have z108 : Z6 108 = Z 110 + Z 110 := by rw [eZ6]; exact (va_up_ne _ _ (by decide)).trans z108
  refine lv_aload_n hx hb d_SpectrumDeskModel_halve_49 rfl (lv_at hl 0 rfl) ?_
  refine lv_bipush (v := nI 108) hx hb d_SpectrumDeskModel_halve_50 (by decide) ?_
  refine lv_bipush (v := nI 104) hx hb d_SpectrumDeskModel_halve_52 (by decide) ?_
  refine lv_iconst (v := nI 0) hx hb d_SpectrumDeskModel_halve_54 (by decide) ?_
  refine xr_callv (xr_runV (kc := 2) (kr := 6) (n := 3) (As := [.int (nI 108), .int (nI 104), .int (nI 0)]) (rest := []) X I (by decide) (r183 ..) rfl (c_SpectrumDeskModel_bigAdd0 (w := 108) (u := 104) mfs_ok (by decide) (by decide) (by decide) (hB6 108 (by decide)) (hB6 104 (by decide)) (by rw [z108]; exact (sm_rbd (sm_of (by decide) b0))) (by rw [z104]; exact (sm_rbd sm_1))) (xg k_dd45f20b23) (List.mem_cons_of_mem _ k_1f49c5cd66) (List.mem_cons_of_mem _ k_a10028f3d7) (List.mem_cons_of_mem _ k_758e0597f6) (List.mem_cons_of_mem _ k_30fa15c9ac) (by decide +kernel) (by decide) rfl hl.1 rfl (Nat.le_of_ble_eq_true rfl) d_SpectrumDeskModel_halve_55) I (fun σ9 H locs hp I => ?_)
  obtain ⟨P7, L7, M7, rfl, hf, hx9⟩ := hp
  have hB7 := RB_up hB6 hf hx9
  clear hf hx9
  obtain ⟨Z7, eZ7⟩ : ∃ Y, Y = va_up Z6 108 (Z6 108 + Z6 104) := ⟨_, rfl⟩
  rw [← eZ7] at hB7
  have hz7 : ∀ w, w < 32 → Z7 w = Z w := fun w hw => by rw [eZ7]; exact (va_up_ne _ _ (by omega)).trans (hz6 w hw)
  have y108 : Z7 108 = Z 110 + Z 110 + 1 := by rw [eZ7, va_up_self, z108, z104]
  have z110 : Z7 110 = Z 110 + Z 110 := by rw [eZ7]; exact (va_up_ne _ _ (by decide)).trans z110
  have z111 : Z7 111 = Z 111 + Z 111 := by rw [eZ7]; exact (va_up_ne _ _ (by decide)).trans z111
  have z104 : Z7 104 = 1 := by rw [eZ7]; exact (va_up_ne _ _ (by decide)).trans z104
  have z108 := y108
  refine lv_aload_n hx hb d_SpectrumDeskModel_halve_58 rfl (lv_at hl 0 rfl) ?_
  refine lv_bipush (v := nI 109) hx hb d_SpectrumDeskModel_halve_59 (by decide) ?_
  refine lv_bipush (v := nI 111) hx hb d_SpectrumDeskModel_halve_61 (by decide) ?_
  refine xr_callv (xr_runV (kc := 0) (kr := 6) (n := 2) (As := [.int (nI 109), .int (nI 111)]) (rest := []) X I (by decide) (r183 ..) rfl (c_SpectrumDeskModel_bigCopy (w := 109) (u := 111) mfs_ok (by decide) (by decide) (by decide) (hB7 111 (by decide))) (xg k_b9c8150a19) (List.mem_cons_of_mem _ k_4f43ed96b8) (List.mem_cons_of_mem _ k_c9c9b5ab57) (List.mem_cons_of_mem _ k_5d491bf207) (List.mem_cons_of_mem _ k_30fa15c9ac) (by decide +kernel) (by decide) rfl hl.1 rfl (Nat.le_of_ble_eq_true rfl) d_SpectrumDeskModel_halve_63) I (fun σ9 H locs hp I => ?_)
  obtain ⟨P8, L8, M8, rfl, hf, hx9⟩ := hp
  have hB8 := RB_up hB7 hf hx9
  clear hf hx9
  obtain ⟨Z8, eZ8⟩ : ∃ Y, Y = va_up Z7 109 (Z7 111) := ⟨_, rfl⟩
  rw [← eZ8] at hB8
  have hz8 : ∀ w, w < 32 → Z8 w = Z w := fun w hw => by rw [eZ8]; exact (va_up_ne _ _ (by omega)).trans (hz7 w hw)
  have y109 : Z8 109 = Z 111 + Z 111 := by rw [eZ8]; exact (va_up_self _ _ _).trans z111
  have z110 : Z8 110 = Z 110 + Z 110 := by rw [eZ8]; exact (va_up_ne _ _ (by decide)).trans z110
  have z111 : Z8 111 = Z 111 + Z 111 := by rw [eZ8]; exact (va_up_ne _ _ (by decide)).trans z111
  have z108 : Z8 108 = Z 110 + Z 110 + 1 := by rw [eZ8]; exact (va_up_ne _ _ (by decide)).trans z108
  have z109 := y109
  refine lv_aload_n hx hb d_SpectrumDeskModel_halve_66 rfl (lv_at hl 0 rfl) ?_
  refine lv_iload_n hx hb d_SpectrumDeskModel_halve_67 rfl (lv_at hl 1 rfl) ?_
  refine xr_calli (xr_runV (kc := 5) (kr := 6) (n := 1) (As := [.int i]) (rest := []) X I (by decide) (r183 ..) rfl (c_SpectrumDeskModel_isAtLeast (i := i) (p0 := p0) hG hB8 hd0 hG0 (fun k hk => (hz8 k (by omega)).trans (hp0 k hk)) (by rw [z108, z109]; exact wH_of hd0 b2 (bd_up (by decide) b1) hb0)) (xg k_b12ea24c8e) (List.mem_cons_of_mem _ k_06b9e39d42) (List.mem_cons_of_mem _ k_36b5ef1bbf) (List.mem_cons_of_mem _ k_abacde11fd) (List.mem_cons_of_mem _ k_30fa15c9ac) (by decide +kernel) (by decide) rfl hl.1 rfl (Nat.le_of_ble_eq_true rfl) d_SpectrumDeskModel_halve_68) I (fun r1 σ9 H locs hp I => ?_)
  obtain ⟨er, hu⟩ := hp
  obtain ⟨s9, G9, P9, L9, M9, Z9, le9, eq9, rfl, hG9, hs9, hg9, hB9, hza⟩ := wU_any hd0 hu
  rw [z108, z109] at er
  have hz9 : ∀ w, w < 32 → Z9 w = Z w := fun w hw => (hza w (by omega)).trans (hz8 w hw)
  have z108 : Z9 108 = Z 110 + Z 110 + 1 := (hza 108 (by decide)).trans z108
  have z110 : Z9 110 = Z 110 + Z 110 := (hza 110 (by decide)).trans z110
  have z111 : Z9 111 = Z 111 + Z 111 := (hza 111 (by decide)).trans z111
  refine lv_if_eq hx hb d_SpectrumDeskModel_halve_71 rfl (fun hd => ?_) (fun hd => ?_)
  · have hn : ¬ wL (Z 110 + Z 110 + 1) (Z 111 + Z 111) dd p0 ≤ i := fun h => by rw [er, if_pos h] at hd; exact absurd hd (by decide)
    exact xr_vret X I hr hlk ⟨s9, G9, P9, L9, M9, Z9, le9, eq9, rfl, hG9, hs9, hg9, hB9, hz9, by rw [if_neg hn]; exact z110, z111⟩ d_SpectrumDeskModel_halve_82
  · have hn : wL (Z 110 + Z 110 + 1) (Z 111 + Z 111) dd p0 ≤ i := Decidable.byContradiction fun h => by rw [er, if_neg h] at hd; exact absurd rfl hd
    refine lv_aload_n hx hb d_SpectrumDeskModel_halve_74 rfl (lv_at hl 0 rfl) ?_
    refine lv_bipush (v := nI 110) hx hb d_SpectrumDeskModel_halve_75 (by decide) ?_
    refine lv_bipush (v := nI 108) hx hb d_SpectrumDeskModel_halve_77 (by decide) ?_
    refine xr_callv (xr_runV (kc := 0) (kr := 6) (n := 2) (As := [.int (nI 110), .int (nI 108)]) (rest := []) X I (by decide) (r183 ..) rfl (c_SpectrumDeskModel_bigCopy (w := 110) (u := 108) mfs_ok (by decide) (by decide) (by decide) (hB9 108 (by decide))) (xg k_b9c8150a19) (List.mem_cons_of_mem _ k_4f43ed96b8) (List.mem_cons_of_mem _ k_c9c9b5ab57) (List.mem_cons_of_mem _ k_5d491bf207) (List.mem_cons_of_mem _ k_30fa15c9ac) (by decide +kernel) (by decide) rfl hl.1 rfl (Nat.le_of_ble_eq_true rfl) d_SpectrumDeskModel_halve_79) I (fun σ9 H locs hp I => ?_)
    obtain ⟨Pa, La, Ma, rfl, hf, hx9⟩ := hp
    have hBa := RB_up hB9 hf hx9
    exact xr_vret X I hr hlk ⟨s9, G9, Pa, La, Ma, _, le9, eq9, rfl, hG9, hs9, hg9, hBa, fun w hw => (va_up_ne _ _ (by omega)).trans (hz9 w hw), by rw [if_pos hn, va_up_self]; exact z108, (va_up_ne _ _ (by decide)).trans z111⟩ d_SpectrumDeskModel_halve_82
