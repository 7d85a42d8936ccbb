/-! SpectrumDesk$Spectrum: movedBlock, enterCell, rootsBelowOne, howManyDifferent (written by wip/gen) -/
abbrev b_Spectrum_movedBlock : ByteArray := prog_7_method_5_code
abbrev y_Spectrum_movedBlock : MethodName := ⟨"SpectrumDesk$Spectrum", "movedBlock", "(IJJ)LSpectrumDesk$Polynomial;"⟩
abbrev v_Spectrum_movedBlock : List Cond := Cond.code y_Spectrum_movedBlock b_Spectrum_movedBlock 6 (some (.object "SpectrumDesk$Polynomial")) :: AW
theorem d_Spectrum_movedBlock_0 : decode b_Spectrum_movedBlock 0 = .ok (.aload_n 0, 1) := by decide +kernel
theorem d_Spectrum_movedBlock_1 : decode b_Spectrum_movedBlock 1 = .ok (.getfield 37, 3) := by decide +kernel
theorem d_Spectrum_movedBlock_4 : decode b_Spectrum_movedBlock 4 = .ok (.aload_n 0, 1) := by decide +kernel
theorem d_Spectrum_movedBlock_5 : decode b_Spectrum_movedBlock 5 = .ok (.getfield 11, 3) := by decide +kernel
theorem d_Spectrum_movedBlock_8 : decode b_Spectrum_movedBlock 8 = .ok (.iload_n 1, 1) := by decide +kernel
theorem d_Spectrum_movedBlock_9 : decode b_Spectrum_movedBlock 9 = .ok (.aaload, 1) := by decide +kernel
theorem d_Spectrum_movedBlock_10 : decode b_Spectrum_movedBlock 10 = .ok (.bipush (20), 2) := by decide +kernel
theorem d_Spectrum_movedBlock_12 : decode b_Spectrum_movedBlock 12 = .ok (.invokevirtual 88, 3) := by decide +kernel
theorem d_Spectrum_movedBlock_15 : decode b_Spectrum_movedBlock 15 = .ok (.aload_n 0, 1) := by decide +kernel
theorem d_Spectrum_movedBlock_16 : decode b_Spectrum_movedBlock 16 = .ok (.getfield 37, 3) := by decide +kernel
theorem d_Spectrum_movedBlock_19 : decode b_Spectrum_movedBlock 19 = .ok (.lload 4, 2) := by decide +kernel
theorem d_Spectrum_movedBlock_21 : decode b_Spectrum_movedBlock 21 = .ok (.invokevirtual 94, 3) := by decide +kernel
theorem d_Spectrum_movedBlock_24 : decode b_Spectrum_movedBlock 24 = .ok (.aload_n 0, 1) := by decide +kernel
theorem d_Spectrum_movedBlock_25 : decode b_Spectrum_movedBlock 25 = .ok (.getfield 37, 3) := by decide +kernel
theorem d_Spectrum_movedBlock_28 : decode b_Spectrum_movedBlock 28 = .ok (.lload_n 2, 1) := by decide +kernel
theorem d_Spectrum_movedBlock_29 : decode b_Spectrum_movedBlock 29 = .ok (.invokevirtual 119, 3) := by decide +kernel
theorem d_Spectrum_movedBlock_32 : decode b_Spectrum_movedBlock 32 = .ok (.aload_n 0, 1) := by decide +kernel
theorem d_Spectrum_movedBlock_33 : decode b_Spectrum_movedBlock 33 = .ok (.getfield 37, 3) := by decide +kernel
theorem d_Spectrum_movedBlock_36 : decode b_Spectrum_movedBlock 36 = .ok (.areturn, 1) := by decide +kernel
abbrev b_Spectrum_enterCell : ByteArray := prog_7_method_13_code
abbrev y_Spectrum_enterCell : MethodName := ⟨"SpectrumDesk$Spectrum", "enterCell", "(LSpectrumDesk$Polynomial;LSpectrumDesk$Polynomial;J)V"⟩
abbrev v_Spectrum_enterCell : List Cond := Cond.code y_Spectrum_enterCell b_Spectrum_enterCell 4 none :: AW
theorem d_Spectrum_enterCell_0 : decode b_Spectrum_enterCell 0 = .ok (.aload_n 0, 1) := by decide +kernel
theorem d_Spectrum_enterCell_1 : decode b_Spectrum_enterCell 1 = .ok (.aload_n 1, 1) := by decide +kernel
theorem d_Spectrum_enterCell_2 : decode b_Spectrum_enterCell 2 = .ok (.bipush (20), 2) := by decide +kernel
theorem d_Spectrum_enterCell_4 : decode b_Spectrum_enterCell 4 = .ok (.invokevirtual 88, 3) := by decide +kernel
theorem d_Spectrum_enterCell_7 : decode b_Spectrum_enterCell 7 = .ok (.aload_n 0, 1) := by decide +kernel
theorem d_Spectrum_enterCell_8 : decode b_Spectrum_enterCell 8 = .ok (.ldc2_w 92, 3) := by decide +kernel
theorem d_Spectrum_enterCell_11 : decode b_Spectrum_enterCell 11 = .ok (.invokevirtual 94, 3) := by decide +kernel
theorem d_Spectrum_enterCell_14 : decode b_Spectrum_enterCell 14 = .ok (.aload_n 0, 1) := by decide +kernel
theorem d_Spectrum_enterCell_15 : decode b_Spectrum_enterCell 15 = .ok (.lload_n 2, 1) := by decide +kernel
theorem d_Spectrum_enterCell_16 : decode b_Spectrum_enterCell 16 = .ok (.invokevirtual 119, 3) := by decide +kernel
theorem d_Spectrum_enterCell_19 : decode b_Spectrum_enterCell 19 = .ok (.return_, 1) := by decide +kernel
abbrev b_Spectrum_rootsBelowOne : ByteArray := prog_7_method_14_code
abbrev y_Spectrum_rootsBelowOne : MethodName := ⟨"SpectrumDesk$Spectrum", "rootsBelowOne", "(LSpectrumDesk$Polynomial;)I"⟩
abbrev v_Spectrum_rootsBelowOne : List Cond := Cond.code y_Spectrum_rootsBelowOne b_Spectrum_rootsBelowOne 2 (some .int) :: AW
theorem d_Spectrum_rootsBelowOne_0 : decode b_Spectrum_rootsBelowOne 0 = .ok (.aload_n 0, 1) := by decide +kernel
theorem d_Spectrum_rootsBelowOne_1 : decode b_Spectrum_rootsBelowOne 1 = .ok (.getfield 37, 3) := by decide +kernel
theorem d_Spectrum_rootsBelowOne_4 : decode b_Spectrum_rootsBelowOne 4 = .ok (.aload_n 1, 1) := by decide +kernel
theorem d_Spectrum_rootsBelowOne_5 : decode b_Spectrum_rootsBelowOne 5 = .ok (.aload_n 1, 1) := by decide +kernel
theorem d_Spectrum_rootsBelowOne_6 : decode b_Spectrum_rootsBelowOne 6 = .ok (.getfield 122, 3) := by decide +kernel
theorem d_Spectrum_rootsBelowOne_9 : decode b_Spectrum_rootsBelowOne 9 = .ok (.invokevirtual 88, 3) := by decide +kernel
theorem d_Spectrum_rootsBelowOne_12 : decode b_Spectrum_rootsBelowOne 12 = .ok (.aload_n 0, 1) := by decide +kernel
theorem d_Spectrum_rootsBelowOne_13 : decode b_Spectrum_rootsBelowOne 13 = .ok (.getfield 37, 3) := by decide +kernel
theorem d_Spectrum_rootsBelowOne_16 : decode b_Spectrum_rootsBelowOne 16 = .ok (.lconst 1, 1) := by decide +kernel
theorem d_Spectrum_rootsBelowOne_17 : decode b_Spectrum_rootsBelowOne 17 = .ok (.invokevirtual 119, 3) := by decide +kernel
theorem d_Spectrum_rootsBelowOne_20 : decode b_Spectrum_rootsBelowOne 20 = .ok (.aload_n 0, 1) := by decide +kernel
theorem d_Spectrum_rootsBelowOne_21 : decode b_Spectrum_rootsBelowOne 21 = .ok (.getfield 37, 3) := by decide +kernel
theorem d_Spectrum_rootsBelowOne_24 : decode b_Spectrum_rootsBelowOne 24 = .ok (.invokevirtual 125, 3) := by decide +kernel
theorem d_Spectrum_rootsBelowOne_27 : decode b_Spectrum_rootsBelowOne 27 = .ok (.ireturn, 1) := by decide +kernel
abbrev b_Spectrum_howManyDifferent : ByteArray := prog_7_method_11_code
abbrev y_Spectrum_howManyDifferent : MethodName := ⟨"SpectrumDesk$Spectrum", "howManyDifferent", "()I"⟩
abbrev v_Spectrum_howManyDifferent : List Cond := Cond.code y_Spectrum_howManyDifferent b_Spectrum_howManyDifferent 1 (some .int) :: AW
theorem d_Spectrum_howManyDifferent_0 : decode b_Spectrum_howManyDifferent 0 = .ok (.aload_n 0, 1) := by decide +kernel
theorem d_Spectrum_howManyDifferent_1 : decode b_Spectrum_howManyDifferent 1 = .ok (.getfield 68, 3) := by decide +kernel
theorem d_Spectrum_howManyDifferent_4 : decode b_Spectrum_howManyDifferent 4 = .ok (.aload_n 0, 1) := by decide +kernel
theorem d_Spectrum_howManyDifferent_5 : decode b_Spectrum_howManyDifferent 5 = .ok (.getfield 30, 3) := by decide +kernel
theorem d_Spectrum_howManyDifferent_8 : decode b_Spectrum_howManyDifferent 8 = .ok (.getfield 144, 3) := by decide +kernel
theorem d_Spectrum_howManyDifferent_11 : decode b_Spectrum_howManyDifferent 11 = .ok (.isub, 1) := by decide +kernel
theorem d_Spectrum_howManyDifferent_12 : decode b_Spectrum_howManyDifferent 12 = .ok (.ireturn, 1) := by decide +kernel
theorem k_453373e9e7 : (Jvm.Cond.fieldLink "SpectrumDesk$Spectrum" (11 : Nat) "SpectrumDesk$Spectrum" "blocks" "[LSpectrumDesk$Polynomial;") ∈ AW := aw_1 (List.mem_of_getElem? (i := 133) (by decide +kernel)) (by decide +kernel)
theorem k_8e1bf97fa6 : (Jvm.Cond.methodLink "SpectrumDesk$Spectrum" (94 : Nat) ({ cls := "SpectrumDesk$Polynomial", name := "multiplyRoots", desc := "(J)V" } : Jvm.MethodName)) ∈ AW := aw_3 (List.mem_of_getElem? (i := 165) (by decide +kernel)) (by decide +kernel)
theorem k_9f9fb940be : (Jvm.Cond.instanceMethod ({ cls := "SpectrumDesk$Polynomial", name := "multiplyRoots", desc := "(J)V" } : Jvm.MethodName)) ∈ AW := aw_3 (List.mem_of_getElem? (i := 166) (by decide +kernel)) (by decide +kernel)
theorem k_91b385045a : (Jvm.Cond.selects "SpectrumDesk$Polynomial" ({ cls := "SpectrumDesk$Polynomial", name := "multiplyRoots", desc := "(J)V" } : Jvm.MethodName) ({ cls := "SpectrumDesk$Polynomial", name := "multiplyRoots", desc := "(J)V" } : Jvm.MethodName)) ∈ AW := aw_3 (List.mem_of_getElem? (i := 167) (by decide +kernel)) (by decide +kernel)
theorem k_d4fb48ecc0 : (Jvm.Cond.fieldLink "SpectrumDesk$Spectrum" (68 : Nat) "SpectrumDesk$Spectrum" "n" "I") ∈ AW := aw_1 (List.mem_of_getElem? (i := 145) (by decide +kernel)) (by decide +kernel)
theorem k_c500482549 : (Jvm.Cond.fieldLink "SpectrumDesk$Spectrum" (30 : Nat) "SpectrumDesk$Spectrum" "repeated" "LSpectrumDesk$Polynomial;") ∈ AW := aw_1 (List.mem_of_getElem? (i := 135) (by decide +kernel)) (by decide +kernel)
theorem k_a6dce73675 : (Jvm.Cond.fieldLink "SpectrumDesk$Spectrum" (144 : Nat) "SpectrumDesk$Polynomial" "degree" "I") ∈ AW := aw_1 (List.mem_of_getElem? (i := 80) (by decide +kernel)) (by decide +kernel)
theorem k_95f0356f31 : (Jvm.Cond.code ({ cls := "SpectrumDesk$Spectrum", name := "movedBlock", desc := "(IJJ)LSpectrumDesk$Polynomial;" } : Jvm.MethodName) prog_7_method_5_code (6 : Nat) (Option.some (Jvm.ClassFile.FieldType.object "SpectrumDesk$Polynomial"))) ∈ AW := aw_4 (List.mem_of_getElem? (i := 68) (by decide +kernel)) (by decide +kernel)
theorem k_294dbb847f : (Jvm.Cond.code ({ cls := "SpectrumDesk$Spectrum", name := "enterCell", desc := "(LSpectrumDesk$Polynomial;LSpectrumDesk$Polynomial;J)V" } : Jvm.MethodName) prog_7_method_13_code (4 : Nat) (Option.none : Option Jvm.ClassFile.FieldType)) ∈ AW := aw_4 (List.mem_of_getElem? (i := 156) (by decide +kernel)) (by decide +kernel)
theorem k_ecd90115f9 : (Jvm.Cond.code ({ cls := "SpectrumDesk$Spectrum", name := "rootsBelowOne", desc := "(LSpectrumDesk$Polynomial;)I" } : Jvm.MethodName) prog_7_method_14_code (2 : Nat) (Option.some Jvm.ClassFile.FieldType.int)) ∈ AW := aw_4 (List.mem_of_getElem? (i := 160) (by decide +kernel)) (by decide +kernel)
theorem k_c88c46ce79 : (Jvm.Cond.code ({ cls := "SpectrumDesk$Spectrum", name := "howManyDifferent", desc := "()I" } : Jvm.MethodName) prog_7_method_11_code (1 : Nat) (Option.some Jvm.ClassFile.FieldType.int)) ∈ AW := aw_4 (List.mem_of_getElem? (i := 18) (by decide +kernel)) (by decide +kernel)
set_option maxHeartbeats 4000000 in
set_option maxRecDepth 100000 in
theorem c_Spectrum_movedBlock {l : Launch} {D : va_G} {cI cJ cZ cC cG cP : ClassId} {N : Nat} {ad : Nat → Nat} {σ : Nat → va_E} {rk nn bo : Int32} {tr : Int64} (hN : N = 193) (hE : σ 18 = .inr (ciE, eF ad rk nn bo tr)) {k9 : Nat} {tp bt : Int64} {pk : Nat → Int} {Fk : Nat → Nat → Int32} {sk : Nat → Int32} (hBl : σ 19 = .inl (cP, 7, .inr (.inr (.inr (.inr (bl_g ad)))))) (hk : pl ad cI cG σ (20 + 10 * k9) 6 k9 6 Fk sk) (hp9 : prb ad cI cG σ) (hn : k9 ≤ 6) (his : pl_is Fk k9 6 pk) (hsz : pl_sz k9 6 pk) :
    Met l y_Spectrum_movedBlock v_Spectrum_movedBlock (xrm 4) (va_Pc [.ref (ad 18), .int (nI k9), .long tp, .long bt] (xS D classes (xT cI cJ cZ cC cG cP) N ad σ)) (xQk ad 110 (fun σ2 => ∃ (F' : Nat → Nat → Int32) (s' : Nat → Int32), pl_fr10 σ σ2 110 ∧ pl ad cI cG σ2 110 20 k9 20 F' s' ∧ pl_is F' k9 20 (low tp.toInt k9 (mulp bt.toInt k9 pk k9) k9)) (xS D classes (xT cI cJ cZ cC cG cP) N ad) (xA N ad)) 0 0 (xA N ad) := by
  obtain ⟨d0, l0, F0_, s0_, hp0⟩ := hp9
  refine xr_met rfl (Nat.le_of_ble_eq_true rfl) ?_
  intro p e s m args below meth c ls hx hb X hr hlk hl I
  have hl : lv_has ls 6 [(0, .ref (ad 18)), (1, .int (nI k9)), (2, .long tp), (4, .long bt)] := hl
  refine lv_aload_n hx hb d_Spectrum_movedBlock_0 rfl (lv_at hl 0 rfl) ?_
  refine xr_get X I fin_E 18 (by omega) hE rfl 3 (by decide) (List.mem_cons_of_mem _ k_0a83b20ad5) rfl rfl d_Spectrum_movedBlock_1 ?_
  refine lv_aload_n hx hb d_Spectrum_movedBlock_4 rfl (lv_at hl 0 rfl) ?_
  refine xr_get X I fin_E 18 (by omega) hE rfl 0 (by decide) (List.mem_cons_of_mem _ k_453373e9e7) rfl rfl d_Spectrum_movedBlock_5 ?_
  refine lv_iload_n hx hb d_Spectrum_movedBlock_8 rfl (lv_at hl 1 rfl) ?_
  refine xr_aald X I 19 5 (by omega) hBl rfl rfl (by omega) (by decide) (bl_at (by omega)) d_Spectrum_movedBlock_9 ?_
  refine lv_bipush (v := nI 20) hx hb d_Spectrum_movedBlock_10 (by decide) ?_
  refine xr_callv (xr_runV (kc := 3) (kr := 4) (n := 2) (As := [.ref (ad (20 + 10 * k9)), .int (nI 20)]) (rest := []) X I (by omega) (pl_o hp0) rfl (c_Polynomial_load (i := 110) (j := 20 + 10 * k9) (by omega) (by omega) (by omega) hp0 hk hn (by decide) (by decide) (by decide) (by decide) (by decide) his hsz) (xg k_69d11c4a63) (List.mem_cons_of_mem _ k_ad4977aa85) (List.mem_cons_of_mem _ k_b375a81d80) (List.mem_cons_of_mem _ k_fcbb6b90f7) (List.mem_cons_of_mem _ k_a8ac99ee00) (by decide +kernel) (by decide) rfl hl.1 rfl (Nat.le_of_ble_eq_true rfl) d_Spectrum_movedBlock_12) I (fun σ1 H locs hp I => ?_)
  obtain ⟨F1, fr1, hp1, hi1⟩ := hp
  have hE1 : σ1 18 = .inr (ciE, eF ad rk nn bo tr) := (fr1 18 (by omega)).trans hE
  refine lv_aload_n hx hb d_Spectrum_movedBlock_15 rfl (lv_at hl 0 rfl) ?_
  refine xr_get X I fin_E 18 (by omega) hE1 rfl 3 (by decide) (List.mem_cons_of_mem _ k_0a83b20ad5) rfl rfl d_Spectrum_movedBlock_16 ?_
  refine lv_lload hx hb d_Spectrum_movedBlock_19 (lv_at hl 3 rfl) ?_
  refine xr_callv (xr_runV (kc := 2) (kr := 4) (n := 1) (As := [.long bt]) (rest := []) X I (by omega) (pl_o hp1) rfl (c_Polynomial_multiplyRoots (i := 110) (v := bt) (by omega) hp1 hn (by decide) (show 20 ≤ 20 by omega) (by omega) hi1) (xg k_68ed1cfc4a) (List.mem_cons_of_mem _ k_8e1bf97fa6) (List.mem_cons_of_mem _ k_9f9fb940be) (List.mem_cons_of_mem _ k_91b385045a) (List.mem_cons_of_mem _ k_a8ac99ee00) (by decide +kernel) (by decide) rfl hl.1 rfl (Nat.le_of_ble_eq_true rfl) d_Spectrum_movedBlock_21) I (fun σ2 H locs hp I => ?_)
  obtain ⟨F2, s2, fr2, hp2, hi2⟩ := hp
  have hE2 : σ2 18 = .inr (ciE, eF ad rk nn bo tr) := (fr2 18 (by omega)).trans hE1
  refine lv_aload_n hx hb d_Spectrum_movedBlock_24 rfl (lv_at hl 0 rfl) ?_
  refine xr_get X I fin_E 18 (by omega) hE2 rfl 3 (by decide) (List.mem_cons_of_mem _ k_0a83b20ad5) rfl rfl d_Spectrum_movedBlock_25 ?_
  refine lv_lload_n hx hb d_Spectrum_movedBlock_28 rfl (lv_at hl 2 rfl) ?_
  refine xr_callv (xr_runV (kc := 2) (kr := 4) (n := 1) (As := [.long tp]) (rest := []) X I (by omega) (pl_o hp2) rfl (c_Polynomial_lowerRoots (i := 110) (v := tp) (by omega) hp2 hn (by decide) (show 20 ≤ 20 by omega) (by omega) hi2) (xg k_f8d403c61a) (List.mem_cons_of_mem _ k_5bc7bce489) (List.mem_cons_of_mem _ k_30782e9c94) (List.mem_cons_of_mem _ k_c1884cc592) (List.mem_cons_of_mem _ k_a8ac99ee00) (by decide +kernel) (by decide) rfl hl.1 rfl (Nat.le_of_ble_eq_true rfl) d_Spectrum_movedBlock_29) I (fun σ3 H locs hp I => ?_)
  obtain ⟨F3, s3, fr3, hp3, hi3⟩ := hp
  have hE3 : σ3 18 = .inr (ciE, eF ad rk nn bo tr) := (fr3 18 (by omega)).trans hE2
  refine lv_aload_n hx hb d_Spectrum_movedBlock_32 rfl (lv_at hl 0 rfl) ?_
  refine xr_get X I fin_E 18 (by omega) hE3 rfl 3 (by decide) (List.mem_cons_of_mem _ k_0a83b20ad5) rfl rfl d_Spectrum_movedBlock_33 ?_
  exact xr_aret X I hr hlk ⟨F3, s3, pl_fr10_tr fr1 (pl_fr10_tr (pl_fr_10 fr2) (pl_fr_10 fr3)), hp3, hi3⟩ d_Spectrum_movedBlock_36
set_option maxHeartbeats 4000000 in
set_option maxRecDepth 100000 in
theorem c_Spectrum_enterCell {l : Launch} {D : va_G} {cI cJ cZ cC cG cP : ClassId} {N : Nat} {ad : Nat → Nat} {σ : Nat → va_E} {i j di li dj : Nat} {v : Int64} {p0 : Nat → Int} {Fi Fj : Nat → Nat → Int32} {si sj : Nat → Int32} (hNi : i + 10 ≤ N) (hNj : j + 10 ≤ N) (hij : i + 10 ≤ j ∨ j + 10 ≤ i) (hp0 : pl ad cI cG σ i 20 di li Fi si) (hpj : pl ad cI cG σ j 6 dj 6 Fj sj) (hn : dj ≤ 6) (his : pl_is Fj dj 6 p0) (hsz : pl_sz dj 6 p0) :
    Met l y_Spectrum_enterCell v_Spectrum_enterCell (xrm 4) (va_Pc [.ref (ad i), .ref (ad j), .long v] (xS D classes (xT cI cJ cZ cC cG cP) N ad σ)) (va_Qv (fun σ2 => ∃ (F' : Nat → Nat → Int32) (s' : Nat → Int32), pl_fr10 σ σ2 i ∧ pl ad cI cG σ2 i 20 dj 20 F' s' ∧ pl_is F' dj 20 (low v.toInt dj (mulp 1073741824 dj p0 dj) dj)) (xS D classes (xT cI cJ cZ cC cG cP) N ad) (xA N ad)) 0 0 (xA N ad) := by
  refine xr_met rfl (Nat.le_of_ble_eq_true rfl) ?_
  intro p e s m args below meth c ls hx hb X hr hlk hl I
  have hl : lv_has ls 4 [(0, .ref (ad i)), (1, .ref (ad j)), (2, .long v)] := hl
  refine lv_aload_n hx hb d_Spectrum_enterCell_0 rfl (lv_at hl 0 rfl) ?_
  refine lv_aload_n hx hb d_Spectrum_enterCell_1 rfl (lv_at hl 1 rfl) ?_
  refine lv_bipush (v := nI 20) hx hb d_Spectrum_enterCell_2 (by decide) ?_
  refine xr_callv (xr_runV (kc := 3) (kr := 4) (n := 2) (As := [.ref (ad j), .int (nI 20)]) (rest := []) X I (by omega) (pl_o hp0) rfl (c_Polynomial_load (i := i) (j := j) (by omega) (by omega) hij hp0 hpj hn (by decide) (by decide) (by decide) (by decide) (by decide) his hsz) (xg k_69d11c4a63) (List.mem_cons_of_mem _ k_ad4977aa85) (List.mem_cons_of_mem _ k_b375a81d80) (List.mem_cons_of_mem _ k_fcbb6b90f7) (List.mem_cons_of_mem _ k_a8ac99ee00) (by decide +kernel) (by decide) rfl hl.1 rfl (Nat.le_of_ble_eq_true rfl) d_Spectrum_enterCell_4) I (fun σ1 H locs hp I => ?_)
  obtain ⟨F1, fr1, hp1, hi1⟩ := hp
  refine lv_aload_n hx hb d_Spectrum_enterCell_7 rfl (lv_at hl 0 rfl) ?_
  refine lv_ldc2 (v := 1073741824) hx hb X.1.2.2.2.1 (X.1.2.2.2.2 _ (List.mem_cons_of_mem _ k_86a0bb5680)) d_Spectrum_enterCell_8 ?_
  refine xr_callv (xr_runV (kc := 2) (kr := 4) (n := 1) (As := [.long 1073741824]) (rest := []) X I (by omega) (pl_o hp1) rfl (c_Polynomial_multiplyRoots (i := i) (v := (1073741824 : Int64)) (by omega) hp1 hn (by decide) (show 20 ≤ 20 by omega) (by omega) hi1) (xg k_68ed1cfc4a) (List.mem_cons_of_mem _ k_8e1bf97fa6) (List.mem_cons_of_mem _ k_9f9fb940be) (List.mem_cons_of_mem _ k_91b385045a) (List.mem_cons_of_mem _ k_a8ac99ee00) (by decide +kernel) (by decide) rfl hl.1 rfl (Nat.le_of_ble_eq_true rfl) d_Spectrum_enterCell_11) I (fun σ2 H locs hp I => ?_)
  obtain ⟨F2, s2, fr2, hp2, hi2⟩ := hp
  rw [show (1073741824 : Int64).toInt = 1073741824 by decide] at hi2
  refine lv_aload_n hx hb d_Spectrum_enterCell_14 rfl (lv_at hl 0 rfl) ?_
  refine lv_lload_n hx hb d_Spectrum_enterCell_15 rfl (lv_at hl 2 rfl) ?_
  refine xr_callv (xr_runV (kc := 2) (kr := 4) (n := 1) (As := [.long v]) (rest := []) X I (by omega) (pl_o hp2) rfl (c_Polynomial_lowerRoots (i := i) (v := v) (by omega) hp2 hn (by decide) (show 20 ≤ 20 by omega) (by omega) hi2) (xg k_f8d403c61a) (List.mem_cons_of_mem _ k_5bc7bce489) (List.mem_cons_of_mem _ k_30782e9c94) (List.mem_cons_of_mem _ k_c1884cc592) (List.mem_cons_of_mem _ k_a8ac99ee00) (by decide +kernel) (by decide) rfl hl.1 rfl (Nat.le_of_ble_eq_true rfl) d_Spectrum_enterCell_16) I (fun σ3 H locs hp I => ?_)
  obtain ⟨F3, s3, fr3, hp3, hi3⟩ := hp
  exact xr_vret X I hr hlk ⟨F3, s3, pl_fr10_tr fr1 (pl_fr10_tr (pl_fr_10 fr2) (pl_fr_10 fr3)), hp3, hi3⟩ d_Spectrum_enterCell_19
set_option maxHeartbeats 4000000 in
set_option maxRecDepth 100000 in
theorem c_Spectrum_rootsBelowOne {l : Launch} {D : va_G} {cI cJ cZ cC cG cP : ClassId} {N : Nat} {ad : Nat → Nat} {σ : Nat → va_E} {rk nn bo : Int32} {tr : Int64} (hN : N = 193) (hE : σ 18 = .inr (ciE, eF ad rk nn bo tr)) {j dj : Nat} {p0 : Nat → Int} {Fj : Nat → Nat → Int32} {sj : Nat → Int32} (hNj : j + 10 ≤ N) (hij : 110 + 10 ≤ j ∨ j + 10 ≤ 110) (hpj : pl ad cI cG σ j 20 dj 20 Fj sj) (hp9 : prb ad cI cG σ) (hn : dj ≤ 6) (his : pl_is Fj dj 20 p0) (hsz : pl_sz dj 20 p0) (hsz2 : pl_sz dj 20 (low 1 dj p0 dj)) :
    Met l y_Spectrum_rootsBelowOne v_Spectrum_rootsBelowOne (xrm 4) (va_Pc [.ref (ad 18), .ref (ad j)] (xS D classes (xT cI cJ cZ cC cG cP) N ad σ)) (va_Qi (fun r σ2 => r = lessI (low 1 dj p0 dj) dj ∧ pl_fr10 σ σ2 110 ∧ prb ad cI cG σ2) (xS D classes (xT cI cJ cZ cC cG cP) N ad) (xA N ad)) 0 0 (xA N ad) := by
  obtain ⟨d0, l0, F0_, s0_, hp0⟩ := hp9
  refine xr_met rfl (Nat.le_of_ble_eq_true rfl) ?_
  intro p e s m args below meth c ls hx hb X hr hlk hl I
  have hl : lv_has ls 2 [(0, .ref (ad 18)), (1, .ref (ad j))] := hl
  refine lv_aload_n hx hb d_Spectrum_rootsBelowOne_0 rfl (lv_at hl 0 rfl) ?_
  refine xr_get X I fin_E 18 (by omega) hE rfl 3 (by decide) (List.mem_cons_of_mem _ k_0a83b20ad5) rfl rfl d_Spectrum_rootsBelowOne_1 ?_
  refine lv_aload_n hx hb d_Spectrum_rootsBelowOne_4 rfl (lv_at hl 1 rfl) ?_
  refine lv_aload_n hx hb d_Spectrum_rootsBelowOne_5 rfl (lv_at hl 1 rfl) ?_
  refine xr_get X I fin_P j (by omega) (pl_o hpj) rfl 3 (by decide) (List.mem_cons_of_mem _ k_6fcd4e436b) rfl rfl d_Spectrum_rootsBelowOne_6 ?_
  refine xr_callv (xr_runV (kc := 3) (kr := 4) (n := 2) (As := [.ref (ad j), .int (nI 20)]) (rest := []) X I (by omega) (pl_o hp0) rfl (c_Polynomial_load (i := 110) (j := j) (by omega) (by omega) hij hp0 hpj hn (by decide) (by decide) (by decide) (by decide) (by decide) his hsz) (xg k_69d11c4a63) (List.mem_cons_of_mem _ k_ad4977aa85) (List.mem_cons_of_mem _ k_b375a81d80) (List.mem_cons_of_mem _ k_fcbb6b90f7) (List.mem_cons_of_mem _ k_a8ac99ee00) (by decide +kernel) (by decide) rfl hl.1 rfl (Nat.le_of_ble_eq_true rfl) d_Spectrum_rootsBelowOne_9) I (fun σ1 H locs hp I => ?_)
  obtain ⟨F1, fr1, hp1, hi1⟩ := hp
  have hE1 : σ1 18 = .inr (ciE, eF ad rk nn bo tr) := (fr1 18 (by omega)).trans hE
  refine lv_aload_n hx hb d_Spectrum_rootsBelowOne_12 rfl (lv_at hl 0 rfl) ?_
  refine xr_get X I fin_E 18 (by omega) hE1 rfl 3 (by decide) (List.mem_cons_of_mem _ k_0a83b20ad5) rfl rfl d_Spectrum_rootsBelowOne_13 ?_
  refine lv_lconst (v := 1) hx hb d_Spectrum_rootsBelowOne_16 (by decide) ?_
  refine xr_callv (xr_runV (kc := 2) (kr := 4) (n := 1) (As := [.long 1]) (rest := []) X I (by omega) (pl_o hp1) rfl (c_Polynomial_lowerRoots (i := 110) (v := (1 : Int64)) (by omega) hp1 hn (by decide) (show 20 ≤ 20 by omega) (by omega) hi1) (xg k_f8d403c61a) (List.mem_cons_of_mem _ k_5bc7bce489) (List.mem_cons_of_mem _ k_30782e9c94) (List.mem_cons_of_mem _ k_c1884cc592) (List.mem_cons_of_mem _ k_a8ac99ee00) (by decide +kernel) (by decide) rfl hl.1 rfl (Nat.le_of_ble_eq_true rfl) d_Spectrum_rootsBelowOne_17) I (fun σ2 H locs hp I => ?_)
  obtain ⟨F2, s2, fr2, hp2, hi2⟩ := hp
  rw [show (1 : Int64).toInt = 1 by decide] at hi2
  have hE2 : σ2 18 = .inr (ciE, eF ad rk nn bo tr) := (fr2 18 (by omega)).trans hE1
  refine lv_aload_n hx hb d_Spectrum_rootsBelowOne_20 rfl (lv_at hl 0 rfl) ?_
  refine xr_get X I fin_E 18 (by omega) hE2 rfl 3 (by decide) (List.mem_cons_of_mem _ k_0a83b20ad5) rfl rfl d_Spectrum_rootsBelowOne_21 ?_
  refine xr_calli (xr_runV (kc := 2) (kr := 4) (n := 0) (As := []) (rest := []) X I (by omega) (pl_o hp2) rfl (c_Polynomial_rootsBelow (i := 110) (by omega) hp2 hn (by decide) (by decide) (by decide) hi2 hsz2) (xg k_78be9b3f0a) (List.mem_cons_of_mem _ k_48413bf910) (List.mem_cons_of_mem _ k_29b5639176) (List.mem_cons_of_mem _ k_d43b154fc4) (List.mem_cons_of_mem _ k_a8ac99ee00) (by decide +kernel) (by decide) rfl hl.1 rfl (Nat.le_of_ble_eq_true rfl) d_Spectrum_rootsBelowOne_24) I (fun r1 σ3 H locs hp I => ?_)
  obtain ⟨rfl, h9⟩ := hp; rw [h9] at I
  exact xr_iret X I hr hlk ⟨rfl, pl_fr10_tr fr1 (pl_fr_10 fr2), _, _, _, _, hp2⟩ d_Spectrum_rootsBelowOne_27
set_option maxHeartbeats 4000000 in
set_option maxRecDepth 100000 in
theorem c_Spectrum_howManyDifferent {l : Launch} {D : va_G} {cI cJ cZ cC cG cP : ClassId} {N : Nat} {ad : Nat → Nat} {σ : Nat → va_E} {rk nn bo : Int32} {tr : Int64} (hN : N = 193) (hE : σ 18 = .inr (ciE, eF ad rk nn bo tr)) {most lr dr : Nat} {Fr : Nat → Nat → Int32} {sr : Nat → Int32} (hR : pl ad cI cG σ 90 most dr lr Fr sr) :
    Met l y_Spectrum_howManyDifferent v_Spectrum_howManyDifferent (xrm 0) (va_Pc [.ref (ad 18)] (xS D classes (xT cI cJ cZ cC cG cP) N ad σ)) (va_Qi (fun r σ2 => r = nn - nI dr ∧ σ2 = σ) (xS D classes (xT cI cJ cZ cC cG cP) N ad) (xA N ad)) 0 0 (xA N ad) := by
  refine xr_met rfl (Nat.le_of_ble_eq_true rfl) ?_
  intro p e s m args below meth c ls hx hb X hr hlk hl I
  have hl : lv_has ls 1 [(0, .ref (ad 18))] := hl
  refine lv_aload_n hx hb d_Spectrum_howManyDifferent_0 rfl (lv_at hl 0 rfl) ?_
  refine xr_get X I fin_E 18 (by omega) hE rfl 11 (by decide) (List.mem_cons_of_mem _ k_d4fb48ecc0) rfl rfl d_Spectrum_howManyDifferent_1 ?_
  refine lv_aload_n hx hb d_Spectrum_howManyDifferent_4 rfl (lv_at hl 0 rfl) ?_
  refine xr_get X I fin_E 18 (by omega) hE rfl 1 (by decide) (List.mem_cons_of_mem _ k_c500482549) rfl rfl d_Spectrum_howManyDifferent_5 ?_
  refine xr_get X I fin_P 90 (by omega) (pl_o hR) rfl 2 (by decide) (List.mem_cons_of_mem _ k_a6dce73675) rfl rfl d_Spectrum_howManyDifferent_8 ?_
  refine lv_isub hx hb d_Spectrum_howManyDifferent_11 ?_
  exact xr_iret X I hr hlk ⟨rfl, rfl⟩ d_Spectrum_howManyDifferent_12
