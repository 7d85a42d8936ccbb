/-! SpectrumDesk$Spectrum.finestCell (written by wip/gen) -/
abbrev b_Spectrum_finestCell : ByteArray := prog_7_method_7_code
abbrev y_Spectrum_finestCell : MethodName := ⟨"SpectrumDesk$Spectrum", "finestCell", "(I)J"⟩
abbrev v_Spectrum_finestCell : List Cond := Cond.code y_Spectrum_finestCell b_Spectrum_finestCell 9 (some .long) :: AW
theorem d_Spectrum_finestCell_0 : decode b_Spectrum_finestCell 0 = .ok (.aload_n 0, 1) := by decide +kernel
theorem d_Spectrum_finestCell_1 : decode b_Spectrum_finestCell 1 = .ok (.getfield 64, 3) := by decide +kernel
theorem d_Spectrum_finestCell_4 : decode b_Spectrum_finestCell 4 = .ok (.iload_n 1, 1) := by decide +kernel
theorem d_Spectrum_finestCell_5 : decode b_Spectrum_finestCell 5 = .ok (.baload, 1) := by decide +kernel
theorem d_Spectrum_finestCell_6 : decode b_Spectrum_finestCell 6 = .ok (.ifCond .eq (10), 3) := by decide +kernel
theorem d_Spectrum_finestCell_9 : decode b_Spectrum_finestCell 9 = .ok (.aload_n 0, 1) := by decide +kernel
theorem d_Spectrum_finestCell_10 : decode b_Spectrum_finestCell 10 = .ok (.getfield 60, 3) := by decide +kernel
theorem d_Spectrum_finestCell_13 : decode b_Spectrum_finestCell 13 = .ok (.iload_n 1, 1) := by decide +kernel
theorem d_Spectrum_finestCell_14 : decode b_Spectrum_finestCell 14 = .ok (.laload, 1) := by decide +kernel
theorem d_Spectrum_finestCell_15 : decode b_Spectrum_finestCell 15 = .ok (.lreturn, 1) := by decide +kernel
theorem d_Spectrum_finestCell_16 : decode b_Spectrum_finestCell 16 = .ok (.aload_n 0, 1) := by decide +kernel
theorem d_Spectrum_finestCell_17 : decode b_Spectrum_finestCell 17 = .ok (.getfield 98, 3) := by decide +kernel
theorem d_Spectrum_finestCell_20 : decode b_Spectrum_finestCell 20 = .ok (.i2l, 1) := by decide +kernel
theorem d_Spectrum_finestCell_21 : decode b_Spectrum_finestCell 21 = .ok (.ldc2_w 92, 3) := by decide +kernel
theorem d_Spectrum_finestCell_24 : decode b_Spectrum_finestCell 24 = .ok (.lmul, 1) := by decide +kernel
theorem d_Spectrum_finestCell_25 : decode b_Spectrum_finestCell 25 = .ok (.lstore_n 2, 1) := by decide +kernel
theorem d_Spectrum_finestCell_26 : decode b_Spectrum_finestCell 26 = .ok (.lload_n 2, 1) := by decide +kernel
theorem d_Spectrum_finestCell_27 : decode b_Spectrum_finestCell 27 = .ok (.lneg, 1) := by decide +kernel
theorem d_Spectrum_finestCell_28 : decode b_Spectrum_finestCell 28 = .ok (.lstore 4, 2) := by decide +kernel
theorem d_Spectrum_finestCell_30 : decode b_Spectrum_finestCell 30 = .ok (.ldc2_w 128, 3) := by decide +kernel
theorem d_Spectrum_finestCell_33 : decode b_Spectrum_finestCell 33 = .ok (.lload_n 2, 1) := by decide +kernel
theorem d_Spectrum_finestCell_34 : decode b_Spectrum_finestCell 34 = .ok (.lmul, 1) := by decide +kernel
theorem d_Spectrum_finestCell_35 : decode b_Spectrum_finestCell 35 = .ok (.invokestatic 115, 3) := by decide +kernel
theorem d_Spectrum_finestCell_38 : decode b_Spectrum_finestCell 38 = .ok (.istore 6, 2) := by decide +kernel
theorem d_Spectrum_finestCell_40 : decode b_Spectrum_finestCell 40 = .ok (.iload 6, 2) := by decide +kernel
theorem d_Spectrum_finestCell_42 : decode b_Spectrum_finestCell 42 = .ok (.ifCond .lt (39), 3) := by decide +kernel
theorem d_Spectrum_finestCell_45 : decode b_Spectrum_finestCell 45 = .ok (.lload 4, 2) := by decide +kernel
theorem d_Spectrum_finestCell_47 : decode b_Spectrum_finestCell 47 = .ok (.lconst 1, 1) := by decide +kernel
theorem d_Spectrum_finestCell_48 : decode b_Spectrum_finestCell 48 = .ok (.iload 6, 2) := by decide +kernel
theorem d_Spectrum_finestCell_50 : decode b_Spectrum_finestCell 50 = .ok (.lshl, 1) := by decide +kernel
theorem d_Spectrum_finestCell_51 : decode b_Spectrum_finestCell 51 = .ok (.ladd, 1) := by decide +kernel
theorem d_Spectrum_finestCell_52 : decode b_Spectrum_finestCell 52 = .ok (.lstore 7, 2) := by decide +kernel
theorem d_Spectrum_finestCell_54 : decode b_Spectrum_finestCell 54 = .ok (.lload 7, 2) := by decide +kernel
theorem d_Spectrum_finestCell_56 : decode b_Spectrum_finestCell 56 = .ok (.lload_n 2, 1) := by decide +kernel
theorem d_Spectrum_finestCell_57 : decode b_Spectrum_finestCell 57 = .ok (.lcmp, 1) := by decide +kernel
theorem d_Spectrum_finestCell_58 : decode b_Spectrum_finestCell 58 = .ok (.ifCond .gt (17), 3) := by decide +kernel
theorem d_Spectrum_finestCell_61 : decode b_Spectrum_finestCell 61 = .ok (.aload_n 0, 1) := by decide +kernel
theorem d_Spectrum_finestCell_62 : decode b_Spectrum_finestCell 62 = .ok (.lload 7, 2) := by decide +kernel
theorem d_Spectrum_finestCell_64 : decode b_Spectrum_finestCell 64 = .ok (.invokevirtual 130, 3) := by decide +kernel
theorem d_Spectrum_finestCell_67 : decode b_Spectrum_finestCell 67 = .ok (.iload_n 1, 1) := by decide +kernel
theorem d_Spectrum_finestCell_68 : decode b_Spectrum_finestCell 68 = .ok (.if_icmp .gt (7), 3) := by decide +kernel
theorem d_Spectrum_finestCell_71 : decode b_Spectrum_finestCell 71 = .ok (.lload 7, 2) := by decide +kernel
theorem d_Spectrum_finestCell_73 : decode b_Spectrum_finestCell 73 = .ok (.lstore 4, 2) := by decide +kernel
theorem d_Spectrum_finestCell_75 : decode b_Spectrum_finestCell 75 = .ok (.iinc 6 (-1), 3) := by decide +kernel
theorem d_Spectrum_finestCell_78 : decode b_Spectrum_finestCell 78 = .ok (.goto (-38), 3) := by decide +kernel
theorem d_Spectrum_finestCell_81 : decode b_Spectrum_finestCell 81 = .ok (.aload_n 0, 1) := by decide +kernel
theorem d_Spectrum_finestCell_82 : decode b_Spectrum_finestCell 82 = .ok (.lload 4, 2) := by decide +kernel
theorem d_Spectrum_finestCell_84 : decode b_Spectrum_finestCell 84 = .ok (.lconst 1, 1) := by decide +kernel
theorem d_Spectrum_finestCell_85 : decode b_Spectrum_finestCell 85 = .ok (.ladd, 1) := by decide +kernel
theorem d_Spectrum_finestCell_86 : decode b_Spectrum_finestCell 86 = .ok (.invokevirtual 130, 3) := by decide +kernel
theorem d_Spectrum_finestCell_89 : decode b_Spectrum_finestCell 89 = .ok (.istore 6, 2) := by decide +kernel
theorem d_Spectrum_finestCell_91 : decode b_Spectrum_finestCell 91 = .ok (.aload_n 0, 1) := by decide +kernel
theorem d_Spectrum_finestCell_92 : decode b_Spectrum_finestCell 92 = .ok (.lload 4, 2) := by decide +kernel
theorem d_Spectrum_finestCell_94 : decode b_Spectrum_finestCell 94 = .ok (.invokevirtual 130, 3) := by decide +kernel
theorem d_Spectrum_finestCell_97 : decode b_Spectrum_finestCell 97 = .ok (.istore 7, 2) := by decide +kernel
theorem d_Spectrum_finestCell_99 : decode b_Spectrum_finestCell 99 = .ok (.iload 7, 2) := by decide +kernel
theorem d_Spectrum_finestCell_101 : decode b_Spectrum_finestCell 101 = .ok (.iload 6, 2) := by decide +kernel
theorem d_Spectrum_finestCell_103 : decode b_Spectrum_finestCell 103 = .ok (.if_icmp .ge (26), 3) := by decide +kernel
theorem d_Spectrum_finestCell_106 : decode b_Spectrum_finestCell 106 = .ok (.aload_n 0, 1) := by decide +kernel
theorem d_Spectrum_finestCell_107 : decode b_Spectrum_finestCell 107 = .ok (.getfield 60, 3) := by decide +kernel
theorem d_Spectrum_finestCell_110 : decode b_Spectrum_finestCell 110 = .ok (.iload 7, 2) := by decide +kernel
theorem d_Spectrum_finestCell_112 : decode b_Spectrum_finestCell 112 = .ok (.lload 4, 2) := by decide +kernel
theorem d_Spectrum_finestCell_114 : decode b_Spectrum_finestCell 114 = .ok (.lastore, 1) := by decide +kernel
theorem d_Spectrum_finestCell_115 : decode b_Spectrum_finestCell 115 = .ok (.aload_n 0, 1) := by decide +kernel
theorem d_Spectrum_finestCell_116 : decode b_Spectrum_finestCell 116 = .ok (.getfield 64, 3) := by decide +kernel
theorem d_Spectrum_finestCell_119 : decode b_Spectrum_finestCell 119 = .ok (.iload 7, 2) := by decide +kernel
theorem d_Spectrum_finestCell_121 : decode b_Spectrum_finestCell 121 = .ok (.iconst 1, 1) := by decide +kernel
theorem d_Spectrum_finestCell_122 : decode b_Spectrum_finestCell 122 = .ok (.bastore, 1) := by decide +kernel
theorem d_Spectrum_finestCell_123 : decode b_Spectrum_finestCell 123 = .ok (.iinc 7 (1), 3) := by decide +kernel
theorem d_Spectrum_finestCell_126 : decode b_Spectrum_finestCell 126 = .ok (.goto (-27), 3) := by decide +kernel
theorem d_Spectrum_finestCell_129 : decode b_Spectrum_finestCell 129 = .ok (.lload 4, 2) := by decide +kernel
theorem d_Spectrum_finestCell_131 : decode b_Spectrum_finestCell 131 = .ok (.lreturn, 1) := by decide +kernel
theorem k_b2d2dedb7a : (Jvm.Cond.fieldLink "SpectrumDesk$Spectrum" (64 : Nat) "SpectrumDesk$Spectrum" "cellKnown" "[Z") ∈ AW := aw_1 (List.mem_of_getElem? (i := 143) (by decide +kernel)) (by decide +kernel)
theorem k_86a0bb5680 : (Jvm.Cond.constantLong "SpectrumDesk$Spectrum" (92 : Nat) (1073741824 : Int64)) ∈ AW := aw_3 (List.mem_of_getElem? (i := 164) (by decide +kernel)) (by decide +kernel)
theorem k_8a8601670a : (Jvm.Cond.fieldLink "SpectrumDesk$Spectrum" (98 : Nat) "SpectrumDesk$Spectrum" "bound" "I") ∈ AW := aw_1 (List.mem_of_getElem? (i := 146) (by decide +kernel)) (by decide +kernel)
theorem k_6f38d1c9dd : (Jvm.Cond.constantLong "SpectrumDesk$Spectrum" (128 : Nat) (2 : Int64)) ∈ AW := aw_4 (List.mem_of_getElem? (i := 31) (by decide +kernel)) (by decide +kernel)
theorem k_7d37d71315 : (Jvm.Cond.static ({ cls := "SpectrumDesk", name := "bitsOf", desc := "(J)I" } : Jvm.MethodName)) ∈ AW := aw_2 (List.mem_of_getElem? (i := 62) (by decide +kernel)) (by decide +kernel)
theorem k_6836736ab7 : (Jvm.Cond.initialized "SpectrumDesk") ∈ AW := aw_1 (List.mem_of_getElem? (i := 1) (by decide +kernel)) (by decide +kernel)
theorem k_0ec4a429b8 : (Jvm.Cond.fieldLink "SpectrumDesk$Spectrum" (60 : Nat) "SpectrumDesk$Spectrum" "cells" "[J") ∈ AW := aw_1 (List.mem_of_getElem? (i := 142) (by decide +kernel)) (by decide +kernel)
theorem k_97e08bc927 : (Jvm.Cond.methodLink "SpectrumDesk$Spectrum" (130 : Nat) ({ cls := "SpectrumDesk$Spectrum", name := "howManyBelowEdge", desc := "(J)I" } : Jvm.MethodName)) ∈ AW := aw_4 (List.mem_of_getElem? (i := 32) (by decide +kernel)) (by decide +kernel)
theorem k_1bd8a48ed1 : (Jvm.Cond.instanceMethod ({ cls := "SpectrumDesk$Spectrum", name := "howManyBelowEdge", desc := "(J)I" } : Jvm.MethodName)) ∈ AW := aw_4 (List.mem_of_getElem? (i := 34) (by decide +kernel)) (by decide +kernel)
theorem k_3bf7d3f7e0 : (Jvm.Cond.selects "SpectrumDesk$Spectrum" ({ cls := "SpectrumDesk$Spectrum", name := "howManyBelowEdge", desc := "(J)I" } : Jvm.MethodName) ({ cls := "SpectrumDesk$Spectrum", name := "howManyBelowEdge", desc := "(J)I" } : Jvm.MethodName)) ∈ AW := aw_p (by decide +kernel) (by decide +kernel)
theorem k_c663d572ae : (Jvm.Cond.initialized "SpectrumDesk$Spectrum") ∈ AW := aw_1 (List.mem_of_getElem? (i := 3) (by decide +kernel)) (by decide +kernel)
theorem k_15467f5cf6 : (Jvm.Cond.code ({ cls := "SpectrumDesk$Spectrum", name := "finestCell", desc := "(I)J" } : Jvm.MethodName) prog_7_method_7_code (9 : Nat) (Option.some Jvm.ClassFile.FieldType.long)) ∈ AW := aw_4 (List.mem_of_getElem? (i := 30) (by decide +kernel)) (by decide +kernel)
set_option maxHeartbeats 4000000 in
set_option maxRecDepth 100000 in
theorem c_Spectrum_finestCell {l : Launch} {D : va_G} {cI cJ cZ cC cG cP : ClassId} {N : Nat} {ad : Nat → Nat} {σ : Nat → va_E} {bo : Nat} {rk nn : Int32} {tr : Int64} (hN : N = 193) (hE : σ 18 = .inr (ciE, eF ad rk nn (nI bo) tr)) {n lf : Nat} {pf : Nat → Int} {Ff : Nat → Nat → Int32} {sf : Nat → Int32} {Cl : Nat → Int64} {Kn : Nat → Int32} {V : Nat → Int} (hC : σ 177 = .inl (cJ, 6, .inr (.inl Cl))) (hK : σ 178 = .inl (cZ, 6, .inl Kn)) (hf : pl ad cI cG σ 100 12 n lf Ff sf) (hp9 : prb ad cI cG σ) (hn : n ≤ 6) (hl2 : 2 ≤ lf) (hl12 : lf ≤ 12) (his : pl_is Ff n lf pf) (hsz : pl_sz n lf pf) (hbo : bo ≤ 6000000) (hsz2 : ∀ x : Int, -((bo : Int) * 1073741824) ≤ x → x ≤ (bo : Int) * 1073741824 + 1 → pl_sz n lf (low x n pf n)) (hfc : fcH (fun x => lessI (low x n pf n) n) n ((bo : Int) * 1073741824) V) (hme : memo n V Cl Kn) {i9 : Nat} (hi9 : i9 < n) :
    Met l y_Spectrum_finestCell v_Spectrum_finestCell (xrm 5) (va_Pc [.ref (ad 18), .int (nI i9)] (xS D classes (xT cI cJ cZ cC cG cP) N ad σ)) (va_Ql (fun r σ2 => r = Int64.ofInt (V i9) ∧ ∃ (Cl' : Nat → Int64) (Kn' : Nat → Int32), (∀ q, (q < 110 ∨ 120 ≤ q) → q ≠ 177 → q ≠ 178 → σ2 q = σ q) ∧ σ2 177 = .inl (cJ, 6, .inr (.inl Cl')) ∧ σ2 178 = .inl (cZ, 6, .inl Kn') ∧ prb ad cI cG σ2 ∧ memo n V Cl' Kn') (xS D classes (xT cI cJ cZ cC cG cP) N ad) (xA N ad)) 0 0 (xA N ad) := by
  refine xr_met rfl (Nat.le_of_ble_eq_true rfl) ?_
  intro p e s m args below meth c ls hx hb X hr hlk hl I
  have hl : lv_has ls 9 [(0, .ref (ad 18)), (1, .int (nI i9))] := hl
  refine lv_aload_n hx hb d_Spectrum_finestCell_0 rfl (lv_at hl 0 rfl) ?_
  refine xr_get X I fin_E 18 (by omega) hE rfl 9 (by decide) (List.mem_cons_of_mem _ k_b2d2dedb7a) rfl rfl d_Spectrum_finestCell_1 ?_
  refine lv_iload_n hx hb d_Spectrum_finestCell_4 rfl (lv_at hl 1 rfl) ?_
  refine xr_zald X I 178 2 (by omega) hK rfl (by omega) (by decide) d_Spectrum_finestCell_5 ?_
  refine lv_if_eq hx hb d_Spectrum_finestCell_6 rfl (fun hc => ?_) (fun hc => ?_)
  · refine lv_aload_n hx hb d_Spectrum_finestCell_16 rfl (lv_at hl 0 rfl) ?_
    refine xr_get X I fin_E 18 (by omega) hE rfl 12 (by decide) (List.mem_cons_of_mem _ k_8a8601670a) rfl rfl d_Spectrum_finestCell_17 ?_
    refine lv_i2l hx hb d_Spectrum_finestCell_20 (nI_l (by omega)) ?_
    refine lv_ldc2 (v := 1073741824) hx hb X.1.2.2.2.1 (X.1.2.2.2.2 _ (List.mem_cons_of_mem _ k_86a0bb5680)) d_Spectrum_finestCell_21 ?_
    refine xr_topl (y := lN 1073741824) (by decide +kernel) ?_
    refine lv_lmul hx hb d_Spectrum_finestCell_24 ?_
    refine xr_topl (y := lN (bo * 1073741824)) (lN_mul bo 1073741824) ?_
    have q0 : (lN (bo * 1073741824)).toInt = (bo : Int) * 1073741824 := by rw [pk_lT (by omega)]; simp
    refine lv_lstore_n (lv' := [(2, .long (lN (bo * 1073741824))), (0, .ref (ad 18)), (1, .int (nI i9))]) hx hb d_Spectrum_finestCell_25 rfl hl (by decide) rfl (fun ls hl => ?_)
    refine lv_lload_n hx hb d_Spectrum_finestCell_26 rfl (lv_at hl 0 rfl) ?_
    refine lv_lneg hx hb d_Spectrum_finestCell_27 ?_
    refine lv_topl (fun e0 ee0 => ?_)
    have he0 : e0.toInt = -((bo : Int) * 1073741824) := by rw [ee0, q_lneg (by rw [q0]; omega), q0]
    refine lv_lstore (lv' := [(4, .long e0), (2, .long (lN (bo * 1073741824))), (0, .ref (ad 18)), (1, .int (nI i9))]) hx hb d_Spectrum_finestCell_28 hl (by decide) rfl (fun ls hl => ?_)
    refine lv_ldc2 (v := 2) hx hb X.1.2.2.2.1 (X.1.2.2.2.2 _ (List.mem_cons_of_mem _ k_6f38d1c9dd)) d_Spectrum_finestCell_30 ?_
    refine xr_topl (y := lN 2) (by decide +kernel) ?_
    refine lv_lload_n hx hb d_Spectrum_finestCell_33 rfl (lv_at hl 1 rfl) ?_
    refine lv_lmul hx hb d_Spectrum_finestCell_34 ?_
    refine xr_topl (y := lN (2 * (bo * 1073741824))) (lN_mul 2 (bo * 1073741824)) ?_
    refine xr_calli (xr_runSN (kc := 0) (kr := 5) (n := 1) (As := [.long (lN (2 * (bo * 1073741824)))]) (rest := []) X I (c_SpectrumDesk_bitsOf (v := 2 * (bo * 1073741824)) (by omega)) (xg k_5f25c3479c) X.2.2.1 (List.mem_cons_of_mem _ k_7d37d71315) (List.mem_cons_of_mem _ k_6836736ab7) (by decide +kernel) (by decide) rfl hl.1 rfl (Nat.le_of_ble_eq_true rfl) d_Spectrum_finestCell_35) I (fun r1 σ9 H locs hp I => ?_)
    obtain ⟨B, rfl, hB1, hB2, h9⟩ := hp; rw [h9] at I; clear h9
    have hB3 : 2 * ((bo : Int) * 1073741824) < (2 : Int) ^ B := by have h : ((2 * (bo * 1073741824) : Nat) : Int) < ((2 ^ B : Nat) : Int) := Int.ofNat_lt.mpr hB1; simp at h; omega
    have hB4 : ∀ k, k < B → (2 : Int) ^ k ≤ 2 * ((bo : Int) * 1073741824) := fun k hk => by have h : ((2 ^ k : Nat) : Int) ≤ ((2 * (bo * 1073741824) : Nat) : Int) := Int.ofNat_le.mpr (hB2 k hk); simp at h; omega
    have hB5 : B ≤ 60 := q_lim hB4 (by omega)
    have hV := hfc.2.1 i9 B hi9 hB3 hB4
    refine xr_topi (y := nP (B + 1)) (nP_succ B).symm ?_
    refine lv_istore (lv' := [(6, .int (nP (B + 1))), (4, .long e0), (2, .long (lN (bo * 1073741824))), (0, .ref (ad 18)), (1, .int (nI i9))]) hx hb d_Spectrum_finestCell_38 hl (by decide) rfl (fun ls hl => ?_)
    have fill : ∀ (ed : Int64) (hed : ed = Int64.ofInt (V i9)) (m1 m2 : Nat) (hm1n : m1 ≤ n) (hm2n : m2 ≤ n) (hm1e : (fun x => lessI (low x n pf n) n) (V i9) = nI m1) (hm2e : (fun x => lessI (low x n pf n) n) (V i9 + 1) = nI m2) (k : Nat) (j : Nat) (σ1 : Nat → va_E) (C1 : Nat → Int64) (K1 : Nat → Int32) (ls : Array Slot) (H : Heap) (locs : List Loc), m2 ≤ j + k → j ≤ 6 → m1 ≤ j → (∀ q, (q < 110 ∨ 120 ≤ q) → q ≠ 177 → q ≠ 178 → σ1 q = σ q) → σ1 177 = .inl (cJ, 6, .inr (.inl C1)) → σ1 178 = .inl (cZ, 6, .inl K1) → prb ad cI cG σ1 → memo n V C1 K1 → lv_has ls 9 [(7, .int (nI j)), (6, .int (nI m2)), (4, .long ed), (2, .long (lN (bo * 1073741824))), (0, .ref (ad 18)), (1, .int (nI i9))] → xI D classes N ad s.heap (σ1) H locs → W p l e (xrm 5) s m args below meth c H locs 0 0 (MQ below (va_Ql (fun r σ2 => r = Int64.ofInt (V i9) ∧ ∃ (Cl' : Nat → Int64) (Kn' : Nat → Int32), (∀ q, (q < 110 ∨ 120 ≤ q) → q ≠ 177 → q ≠ 178 → σ2 q = σ q) ∧ σ2 177 = .inl (cJ, 6, .inr (.inl Cl')) ∧ σ2 178 = .inl (cZ, 6, .inl Kn') ∧ prb ad cI cG σ2 ∧ memo n V Cl' Kn') (xS D classes (xT cI cJ cZ cC cG cP) N ad) (xA N ad)) args s 0 0 (xA N ad)) (F0 m 99 ls []) := by
      intro ed hed m1 m2 hm1n hm2n hm1e hm2e k
      induction k with
      | zero =>
        intro j σ1 C1 K1 ls H locs hk hj6 hj1 fr hC1 hK1 hp1 hm1 hl I
        obtain h10 : m2 ≤ j := by omega
        refine lv_iload hx hb d_Spectrum_finestCell_99 (lv_at hl 0 rfl) ?_
        refine lv_iload hx hb d_Spectrum_finestCell_101 (lv_at hl 1 rfl) ?_
        refine lv_icmp_ge hx hb d_Spectrum_finestCell_103 rfl (fun hc => ?_) (fun hc => ?_)
        · refine lv_lload hx hb d_Spectrum_finestCell_129 (lv_at hl 2 rfl) ?_
          exact xr_lret X I hr hlk ⟨hed, C1, K1, fr, hC1, hK1, hp1, hm1⟩ d_Spectrum_finestCell_131
        · exact absurd (nI_le h10 (by omega)) hc
      | succ k ih =>
        intro j σ1 C1 K1 ls H locs hk hj6 hj1 fr hC1 hK1 hp1 hm1 hl I
        refine lv_iload hx hb d_Spectrum_finestCell_99 (lv_at hl 0 rfl) ?_
        refine lv_iload hx hb d_Spectrum_finestCell_101 (lv_at hl 1 rfl) ?_
        refine lv_icmp_ge hx hb d_Spectrum_finestCell_103 rfl (fun hc => ?_) (fun hc => ?_)
        · refine lv_lload hx hb d_Spectrum_finestCell_129 (lv_at hl 2 rfl) ?_
          exact xr_lret X I hr hlk ⟨hed, C1, K1, fr, hC1, hK1, hp1, hm1⟩ d_Spectrum_finestCell_131
        · have hjm : j < m2 := Nat.lt_of_not_le fun h => hc (nI_le h (by omega))
          have hVj : V j = V i9 := hfc.2.2 i9 m1 m2 j hi9 hm1e hm2e (by omega) (by omega) hj1 hjm
          refine lv_aload_n hx hb d_Spectrum_finestCell_106 rfl (lv_at hl 4 rfl) ?_
          refine xr_get X I fin_E 18 (by omega) ((fr 18 (by omega) (by decide) (by decide)).trans hE) rfl 8 (by decide) (List.mem_cons_of_mem _ k_0ec4a429b8) rfl rfl d_Spectrum_finestCell_107 ?_
          refine lv_iload hx hb d_Spectrum_finestCell_110 (lv_at hl 0 rfl) ?_
          refine lv_lload hx hb d_Spectrum_finestCell_112 (lv_at hl 2 rfl) ?_
          refine xr_last X I 177 1 (by omega) hC1 rfl (by omega) (by decide) d_Spectrum_finestCell_114 (fun H locs I => ?_)
          refine lv_aload_n hx hb d_Spectrum_finestCell_115 rfl (lv_at hl 4 rfl) ?_
          refine xr_get X I fin_E 18 (by omega) ((va_up_ne _ _ (by decide)).trans ((fr 18 (by omega) (by decide) (by decide)).trans hE)) rfl 9 (by decide) (List.mem_cons_of_mem _ k_b2d2dedb7a) rfl rfl d_Spectrum_finestCell_116 ?_
          refine lv_iload hx hb d_Spectrum_finestCell_119 (lv_at hl 0 rfl) ?_
          refine lv_iconst (v := nI 1) hx hb d_Spectrum_finestCell_121 (by decide) ?_
          refine xr_zast X I 178 2 (by omega) ((va_up_ne _ _ (by decide)).trans hK1) rfl (by omega) (by decide) d_Spectrum_finestCell_122 (fun H locs I => ?_)
          rw [show vp_nar .boolean (nI 1) = nI 1 by decide] at I
          refine lv_iinc (k := 0) (v := nI (j + 1)) (lv' := [(7, .int (nI (j + 1))), (6, .int (nI m2)), (4, .long ed), (2, .long (lN (bo * 1073741824))), (0, .ref (ad 18)), (1, .int (nI i9))]) hx hb d_Spectrum_finestCell_123 hl rfl (nI_1 j) (by decide) rfl (fun ls hl => ?_)
          refine lv_goto hx hb d_Spectrum_finestCell_126 rfl ?_
          refine ih (j + 1) _ (vp_updL C1 j ed) (upd K1 j (nI 1)) ls H locs (by omega) (by omega) (by omega) (fun q h1 h2 h3 => (va_up_ne _ _ h3).trans ((va_up_ne _ _ h2).trans (fr q h1 h2 h3))) ((va_up_ne _ _ (by decide)).trans (va_up_self _ _ _)) (va_up_self _ _ _) ?_ (fun k hk => ?_) hl I
          · obtain ⟨d0, l0, F0_, s0_, hq⟩ := hp1; exact ⟨d0, l0, F0_, s0_, pl_else (pl_else hq (by omega) _) (by omega) _⟩
          · by_cases ek : k = j
            · rw [ek]; right; exact ⟨upd_s, by rw [show vp_updL C1 j ed j = ed from if_pos rfl, hed, hVj]⟩
            · rw [upd_n ek, show vp_updL C1 j ed k = C1 k from if_neg ek]; exact hm1 k hk
    have srch : ∀ (b : Nat) (ed : Int64) (σ1 : Nat → va_E) (ls : Array Slot) (H : Heap) (locs : List Loc), b ≤ 61 → -((bo : Int) * 1073741824) ≤ ed.toInt → ed.toInt ≤ ((bo : Int) * 1073741824) → fcS (fun x => lessI (low x n pf n) n) ((bo : Int) * 1073741824) (nI i9) (B + 1) (-((bo : Int) * 1073741824)) = fcS (fun x => lessI (low x n pf n) n) ((bo : Int) * 1073741824) (nI i9) b ed.toInt → pl_fr10 σ σ1 110 → prb ad cI cG σ1 → lv_has ls 9 [(6, .int (nP b)), (4, .long ed), (2, .long (lN (bo * 1073741824))), (0, .ref (ad 18)), (1, .int (nI i9))] → xI D classes N ad s.heap (σ1) H locs → W p l e (xrm 5) s m args below meth c H locs 0 0 (MQ below (va_Ql (fun r σ2 => r = Int64.ofInt (V i9) ∧ ∃ (Cl' : Nat → Int64) (Kn' : Nat → Int32), (∀ q, (q < 110 ∨ 120 ≤ q) → q ≠ 177 → q ≠ 178 → σ2 q = σ q) ∧ σ2 177 = .inl (cJ, 6, .inr (.inl Cl')) ∧ σ2 178 = .inl (cZ, 6, .inl Kn') ∧ prb ad cI cG σ2 ∧ memo n V Cl' Kn') (xS D classes (xT cI cJ cZ cC cG cP) N ad) (xA N ad)) args s 0 0 (xA N ad)) (F0 m 40 ls []) := by
      intro b
      induction b with
      | zero =>
        intro ed σ1 ls H locs hb6 hr1 hr2 hse fr1 hpr hl I
        refine lv_iload hx hb d_Spectrum_finestCell_40 (lv_at hl 0 rfl) ?_
        refine lv_if_lt hx hb d_Spectrum_finestCell_42 rfl (fun hc => ?_) (fun hc => ?_)
        · have hedV : ed.toInt = V i9 := by rw [← hV, hse]; rfl
          have h1r := fcS_range (L := (fun x => lessI (low x n pf n) n)) (i := nI i9) (show 0 ≤ ((bo : Int) * 1073741824) by omega) (B + 1) (-((bo : Int) * 1073741824)) (Int.le_refl _) (by omega)
          rw [hV] at h1r; clear hse hV
          refine lv_aload_n hx hb d_Spectrum_finestCell_81 rfl (lv_at hl 3 rfl) ?_
          refine lv_lload hx hb d_Spectrum_finestCell_82 (lv_at hl 1 rfl) ?_
          refine lv_lconst (v := 1) hx hb d_Spectrum_finestCell_84 (by decide) ?_
          refine lv_ladd hx hb d_Spectrum_finestCell_85 ?_
          refine lv_topl (fun ed1 eed1 => ?_)
          have he1 : ed1.toInt = V i9 + 1 := by rw [eed1, q_ladd1 (by omega) (by omega), hedV]
          refine xr_calli (xr_runV (kc := 4) (kr := 5) (n := 1) (As := [.long ed1]) (rest := []) X I (by omega) ((fr1 18 (by omega)).trans hE) rfl (c_Spectrum_howManyBelowEdge (σ := σ1) (v := ed1) hN ((fr1 18 (by omega)).trans hE) (pl_keep hf fr1 (by omega)) hpr hn hl2 hl12 his hsz (by rw [he1]; exact hsz2 _ (by omega) (by omega))) (xg k_1a3fb439f2) (List.mem_cons_of_mem _ k_97e08bc927) (List.mem_cons_of_mem _ k_1bd8a48ed1) (List.mem_cons_of_mem _ k_3bf7d3f7e0) (List.mem_cons_of_mem _ k_c663d572ae) (by decide +kernel) (by decide) rfl hl.1 rfl (Nat.le_of_ble_eq_true rfl) d_Spectrum_finestCell_86) I (fun r2 σ3 H locs hp I => ?_)
          obtain ⟨er2, fr3, hpr3⟩ := hp
          rw [he1] at er2
          obtain ⟨m2, hm2n, hm2e⟩ := hfc.1 (V i9 + 1) (by omega) (by omega)
          have hm2e : lessI (low (V i9 + 1) n pf n) n = nI m2 := hm2e
          refine xr_topi (y := nI m2) (er2.trans hm2e) ?_
          have fr1 := pl_fr10_tr fr1 fr3
          have hpr := hpr3
          refine lv_istore (lv' := [(6, .int (nI m2)), (4, .long ed), (2, .long (lN (bo * 1073741824))), (0, .ref (ad 18)), (1, .int (nI i9))]) hx hb d_Spectrum_finestCell_89 hl (by decide) rfl (fun ls hl => ?_)
          refine lv_aload_n hx hb d_Spectrum_finestCell_91 rfl (lv_at hl 3 rfl) ?_
          refine lv_lload hx hb d_Spectrum_finestCell_92 (lv_at hl 1 rfl) ?_
          refine xr_calli (xr_runV (kc := 4) (kr := 5) (n := 1) (As := [.long ed]) (rest := []) X I (by omega) ((fr1 18 (by omega)).trans hE) rfl (c_Spectrum_howManyBelowEdge (σ := σ3) (v := ed) hN ((fr1 18 (by omega)).trans hE) (pl_keep hf fr1 (by omega)) hpr hn hl2 hl12 his hsz (by rw [hedV]; exact hsz2 _ (by omega) (by omega))) (xg k_1a3fb439f2) (List.mem_cons_of_mem _ k_97e08bc927) (List.mem_cons_of_mem _ k_1bd8a48ed1) (List.mem_cons_of_mem _ k_3bf7d3f7e0) (List.mem_cons_of_mem _ k_c663d572ae) (by decide +kernel) (by decide) rfl hl.1 rfl (Nat.le_of_ble_eq_true rfl) d_Spectrum_finestCell_94) I (fun r3 σ4 H locs hp I => ?_)
          obtain ⟨er3, fr4, hpr4⟩ := hp
          rw [hedV] at er3
          obtain ⟨m1, hm1n, hm1e⟩ := hfc.1 (V i9) (by omega) (by omega)
          have hm1e : lessI (low (V i9) n pf n) n = nI m1 := hm1e
          refine xr_topi (y := nI m1) (er3.trans hm1e) ?_
          have fr1 := pl_fr10_tr fr1 fr4
          refine lv_istore (lv' := [(7, .int (nI m1)), (6, .int (nI m2)), (4, .long ed), (2, .long (lN (bo * 1073741824))), (0, .ref (ad 18)), (1, .int (nI i9))]) hx hb d_Spectrum_finestCell_97 hl (by decide) rfl (fun ls hl => ?_)
          exact fill ed (q_ofInt hedV) m1 m2 hm1n hm2n hm1e hm2e m2 m1 σ4 Cl Kn ls H locs (by omega) (by omega) (Nat.le_refl _) (fun q h1 _ _ => fr1 q h1) ((fr1 177 (by omega)).trans hC) ((fr1 178 (by omega)).trans hK) hpr4 hme hl I
        · exact absurd nP_0 hc
      | succ b ih =>
        intro ed σ1 ls H locs hb6 hr1 hr2 hse fr1 hpr hl I
        have hpb : (2 : Int) ^ b ≤ 2 ^ 60 := p2_le (by omega)
        have hpb0 : (0 : Int) < 2 ^ b := Int.pow_pos (by decide)
        refine lv_iload hx hb d_Spectrum_finestCell_40 (lv_at hl 0 rfl) ?_
        refine xr_topi (y := nI b) (nP_succ b) ?_
        refine lv_if_lt hx hb d_Spectrum_finestCell_42 rfl (fun hc => ?_) (fun hc => ?_)
        · exact absurd hc (nI_pos (by omega))
        · refine lv_lload hx hb d_Spectrum_finestCell_45 (lv_at hl 1 rfl) ?_
          refine lv_lconst (v := lN 1) hx hb d_Spectrum_finestCell_47 (by decide) ?_
          refine lv_iload hx hb d_Spectrum_finestCell_48 (lv_at hl 0 rfl) ?_
          refine xr_topi (y := nI b) (nP_succ b) ?_
          refine lv_lshl hx hb d_Spectrum_finestCell_50 rfl ?_
          refine lv_ladd hx hb d_Spectrum_finestCell_51 ?_
          refine lv_topl (fun nx enx => ?_)
          have hnx : nx.toInt = ed.toInt + 2 ^ b := by rw [enx, q_ladd (by rw [q_shl1 (by omega)]; omega) (by rw [q_shl1 (by omega)]; omega), q_shl1 (by omega)]
          refine lv_lstore (lv' := [(7, .long nx), (6, .int (nP (b + 1))), (4, .long ed), (2, .long (lN (bo * 1073741824))), (0, .ref (ad 18)), (1, .int (nI i9))]) hx hb d_Spectrum_finestCell_52 hl (by decide) rfl (fun ls hl => ?_)
          refine lv_lload hx hb d_Spectrum_finestCell_54 (lv_at hl 0 rfl) ?_
          refine lv_lload_n hx hb d_Spectrum_finestCell_56 rfl (lv_at hl 3 rfl) ?_
          refine W.lcmp hx hb d_Spectrum_finestCell_57 ?_
          refine lv_if_gt hx hb d_Spectrum_finestCell_58 rfl (fun hg => ?_) (fun hg => ?_)
          · have ho : ¬ ed.toInt + 2 ^ b ≤ ((bo : Int) * 1073741824) := by have h := Int64.lt_iff_toInt_lt.mp ((lg_cmp_gt _ _).mp hg); rw [q0, hnx] at h; omega
            refine lv_iinc (k := 1) (v := nP b) (lv' := [(6, .int (nP b)), (7, .long nx), (4, .long ed), (2, .long (lN (bo * 1073741824))), (0, .ref (ad 18)), (1, .int (nI i9))]) hx hb d_Spectrum_finestCell_75 hl rfl (nP_dec b) (by decide) rfl (fun ls hl => ?_)
            refine lv_goto hx hb d_Spectrum_finestCell_78 rfl ?_
            have hl := lv_sub hl [0, 2, 3, 4, 5] rfl
            have hl : lv_has ls 9 [(6, .int (nP b)), (4, .long ed), (2, .long (lN (bo * 1073741824))), (0, .ref (ad 18)), (1, .int (nI i9))] := hl
            exact ih ed σ1 ls H locs (by omega) (by omega) (by omega) (by rw [hse, fcS, if_neg (fun h => ho h.1)]) fr1 hpr hl I
          · have ho : ed.toInt + 2 ^ b ≤ ((bo : Int) * 1073741824) := by have h := Int64.le_iff_toInt_le.mp (Int64.not_lt.mp (fun h => hg ((lg_cmp_gt _ _).mpr h))); rw [q0, hnx] at h; exact h
            refine lv_aload_n hx hb d_Spectrum_finestCell_61 rfl (lv_at hl 4 rfl) ?_
            refine lv_lload hx hb d_Spectrum_finestCell_62 (lv_at hl 0 rfl) ?_
            refine xr_calli (xr_runV (kc := 4) (kr := 5) (n := 1) (As := [.long nx]) (rest := []) X I (by omega) ((fr1 18 (by omega)).trans hE) rfl (c_Spectrum_howManyBelowEdge (σ := σ1) (v := nx) hN ((fr1 18 (by omega)).trans hE) (pl_keep hf fr1 (by omega)) hpr hn hl2 hl12 his hsz (by rw [hnx]; exact hsz2 _ (by omega) (by omega))) (xg k_1a3fb439f2) (List.mem_cons_of_mem _ k_97e08bc927) (List.mem_cons_of_mem _ k_1bd8a48ed1) (List.mem_cons_of_mem _ k_3bf7d3f7e0) (List.mem_cons_of_mem _ k_c663d572ae) (by decide +kernel) (by decide) rfl hl.1 rfl (Nat.le_of_ble_eq_true rfl) d_Spectrum_finestCell_64) I (fun r2 σ3 H locs hp I => ?_)
            obtain ⟨er2, fr3, hpr3⟩ := hp
            rw [hnx] at er2
            have fr1 := pl_fr10_tr fr1 fr3
            refine lv_iload_n hx hb d_Spectrum_finestCell_67 rfl (lv_at hl 5 rfl) ?_
            refine lv_icmp_gt hx hb d_Spectrum_finestCell_68 rfl (fun hh => ?_) (fun hh => ?_)
            · have hn9 : ¬ (fun x => lessI (low x n pf n) n) (ed.toInt + 2 ^ b) ≤ nI i9 := fun h => absurd hh (Int32.not_lt.mpr (by rw [er2]; exact h))
              refine lv_iinc (k := 1) (v := nP b) (lv' := [(6, .int (nP b)), (7, .long nx), (4, .long ed), (2, .long (lN (bo * 1073741824))), (0, .ref (ad 18)), (1, .int (nI i9))]) hx hb d_Spectrum_finestCell_75 hl rfl (nP_dec b) (by decide) rfl (fun ls hl => ?_)
              refine lv_goto hx hb d_Spectrum_finestCell_78 rfl ?_
              have hl := lv_sub hl [0, 2, 3, 4, 5] rfl
              have hl : lv_has ls 9 [(6, .int (nP b)), (4, .long ed), (2, .long (lN (bo * 1073741824))), (0, .ref (ad 18)), (1, .int (nI i9))] := hl
              exact ih ed σ3 ls H locs (by omega) (by omega) (by omega) (by rw [hse, fcS, if_neg (fun h => hn9 h.2)]) fr1 hpr3 hl I
            · have hn9 : (fun x => lessI (low x n pf n) n) (ed.toInt + 2 ^ b) ≤ nI i9 := by have h := Int32.not_lt.mp hh; rw [er2] at h; exact h
              refine lv_lload hx hb d_Spectrum_finestCell_71 (lv_at hl 0 rfl) ?_
              refine lv_lstore (lv' := [(4, .long nx), (7, .long nx), (6, .int (nP (b + 1))), (2, .long (lN (bo * 1073741824))), (0, .ref (ad 18)), (1, .int (nI i9))]) hx hb d_Spectrum_finestCell_73 hl (by decide) rfl (fun ls hl => ?_)
              refine lv_iinc (k := 2) (v := nP b) (lv' := [(6, .int (nP b)), (4, .long nx), (7, .long nx), (2, .long (lN (bo * 1073741824))), (0, .ref (ad 18)), (1, .int (nI i9))]) hx hb d_Spectrum_finestCell_75 hl rfl (nP_dec b) (by decide) rfl (fun ls hl => ?_)
              refine lv_goto hx hb d_Spectrum_finestCell_78 rfl ?_
              have hl := lv_sub hl [0, 1, 3, 4, 5] rfl
              have hl : lv_has ls 9 [(6, .int (nP b)), (4, .long nx), (2, .long (lN (bo * 1073741824))), (0, .ref (ad 18)), (1, .int (nI i9))] := hl
              exact ih nx σ3 ls H locs (by omega) (by omega) (by omega) (by rw [hse, fcS, if_pos ⟨ho, hn9⟩, hnx]) fr1 hpr3 hl I
    exact srch (B + 1) e0 σ ls _ _ (by omega) (by omega) (by omega) (by rw [he0]) pl_fr10_rf hp9 hl I
  · have h1 : Cl i9 = Int64.ofInt (V i9) := (hme i9 hi9).elim (fun h => absurd h hc) (fun h => h.2)
    refine lv_aload_n hx hb d_Spectrum_finestCell_9 rfl (lv_at hl 0 rfl) ?_
    refine xr_get X I fin_E 18 (by omega) hE rfl 8 (by decide) (List.mem_cons_of_mem _ k_0ec4a429b8) rfl rfl d_Spectrum_finestCell_10 ?_
    refine lv_iload_n hx hb d_Spectrum_finestCell_13 rfl (lv_at hl 1 rfl) ?_
    refine xr_lald X I 177 1 (by omega) hC rfl (by omega) (by decide) d_Spectrum_finestCell_14 ?_
    exact xr_lret X I hr hlk ⟨h1, Cl, Kn, fun _ _ _ _ => rfl, hC, hK, hp9, hme⟩ d_Spectrum_finestCell_15
