/-! SpectrumDesk$Limbs: addLongTimes, addProduct (written by wip/gen) -/
abbrev b_Limbs_addLongTimes : ByteArray := prog_4_method_7_code
abbrev y_Limbs_addLongTimes : MethodName := ⟨"SpectrumDesk$Limbs", "addLongTimes", "([I[IJI)V"⟩
abbrev v_Limbs_addLongTimes : List Cond := Cond.code y_Limbs_addLongTimes b_Limbs_addLongTimes 10 none :: AW
theorem d_Limbs_addLongTimes_0 : decode b_Limbs_addLongTimes 0 = .ok (.lload_n 2, 1) := by decide +kernel
theorem d_Limbs_addLongTimes_1 : decode b_Limbs_addLongTimes 1 = .ok (.lstore 5, 2) := by decide +kernel
theorem d_Limbs_addLongTimes_3 : decode b_Limbs_addLongTimes 3 = .ok (.iconst 0, 1) := by decide +kernel
theorem d_Limbs_addLongTimes_4 : decode b_Limbs_addLongTimes 4 = .ok (.istore 7, 2) := by decide +kernel
theorem d_Limbs_addLongTimes_6 : decode b_Limbs_addLongTimes 6 = .ok (.iload 7, 2) := by decide +kernel
theorem d_Limbs_addLongTimes_8 : decode b_Limbs_addLongTimes 8 = .ok (.iconst 3, 1) := by decide +kernel
theorem d_Limbs_addLongTimes_9 : decode b_Limbs_addLongTimes 9 = .ok (.if_icmp .ge (58), 3) := by decide +kernel
theorem d_Limbs_addLongTimes_12 : decode b_Limbs_addLongTimes 12 = .ok (.lload 5, 2) := by decide +kernel
theorem d_Limbs_addLongTimes_14 : decode b_Limbs_addLongTimes 14 = .ok (.ldc2_w 32, 3) := by decide +kernel
theorem d_Limbs_addLongTimes_17 : decode b_Limbs_addLongTimes 17 = .ok (.land, 1) := by decide +kernel
theorem d_Limbs_addLongTimes_18 : decode b_Limbs_addLongTimes 18 = .ok (.lstore 8, 2) := by decide +kernel
theorem d_Limbs_addLongTimes_20 : decode b_Limbs_addLongTimes 20 = .ok (.lload 5, 2) := by decide +kernel
theorem d_Limbs_addLongTimes_22 : decode b_Limbs_addLongTimes 22 = .ok (.bipush (30), 2) := by decide +kernel
theorem d_Limbs_addLongTimes_24 : decode b_Limbs_addLongTimes 24 = .ok (.lshr, 1) := by decide +kernel
theorem d_Limbs_addLongTimes_25 : decode b_Limbs_addLongTimes 25 = .ok (.lstore 5, 2) := by decide +kernel
theorem d_Limbs_addLongTimes_27 : decode b_Limbs_addLongTimes 27 = .ok (.lload 8, 2) := by decide +kernel
theorem d_Limbs_addLongTimes_29 : decode b_Limbs_addLongTimes 29 = .ok (.ldc2_w 34, 3) := by decide +kernel
theorem d_Limbs_addLongTimes_32 : decode b_Limbs_addLongTimes 32 = .ok (.lcmp, 1) := by decide +kernel
theorem d_Limbs_addLongTimes_33 : decode b_Limbs_addLongTimes 33 = .ok (.ifCond .le (17), 3) := by decide +kernel
theorem d_Limbs_addLongTimes_36 : decode b_Limbs_addLongTimes 36 = .ok (.lload 8, 2) := by decide +kernel
theorem d_Limbs_addLongTimes_38 : decode b_Limbs_addLongTimes 38 = .ok (.ldc2_w 36, 3) := by decide +kernel
theorem d_Limbs_addLongTimes_41 : decode b_Limbs_addLongTimes 41 = .ok (.lsub, 1) := by decide +kernel
theorem d_Limbs_addLongTimes_42 : decode b_Limbs_addLongTimes 42 = .ok (.lstore 8, 2) := by decide +kernel
theorem d_Limbs_addLongTimes_44 : decode b_Limbs_addLongTimes 44 = .ok (.lload 5, 2) := by decide +kernel
theorem d_Limbs_addLongTimes_46 : decode b_Limbs_addLongTimes 46 = .ok (.lconst 1, 1) := by decide +kernel
theorem d_Limbs_addLongTimes_47 : decode b_Limbs_addLongTimes 47 = .ok (.ladd, 1) := by decide +kernel
theorem d_Limbs_addLongTimes_48 : decode b_Limbs_addLongTimes 48 = .ok (.lstore 5, 2) := by decide +kernel
theorem d_Limbs_addLongTimes_50 : decode b_Limbs_addLongTimes 50 = .ok (.aload_n 0, 1) := by decide +kernel
theorem d_Limbs_addLongTimes_51 : decode b_Limbs_addLongTimes 51 = .ok (.aload_n 1, 1) := by decide +kernel
theorem d_Limbs_addLongTimes_52 : decode b_Limbs_addLongTimes 52 = .ok (.lload 8, 2) := by decide +kernel
theorem d_Limbs_addLongTimes_54 : decode b_Limbs_addLongTimes 54 = .ok (.iload 7, 2) := by decide +kernel
theorem d_Limbs_addLongTimes_56 : decode b_Limbs_addLongTimes 56 = .ok (.iload 4, 2) := by decide +kernel
theorem d_Limbs_addLongTimes_58 : decode b_Limbs_addLongTimes 58 = .ok (.invokestatic 38, 3) := by decide +kernel
theorem d_Limbs_addLongTimes_61 : decode b_Limbs_addLongTimes 61 = .ok (.iinc 7 (1), 3) := by decide +kernel
theorem d_Limbs_addLongTimes_64 : decode b_Limbs_addLongTimes 64 = .ok (.goto (-58), 3) := by decide +kernel
theorem d_Limbs_addLongTimes_67 : decode b_Limbs_addLongTimes 67 = .ok (.return_, 1) := by decide +kernel
abbrev b_Limbs_addProduct : ByteArray := prog_4_method_8_code
abbrev y_Limbs_addProduct : MethodName := ⟨"SpectrumDesk$Limbs", "addProduct", "([I[I[III)V"⟩
abbrev v_Limbs_addProduct : List Cond := Cond.code y_Limbs_addProduct b_Limbs_addProduct 9 none :: AW
theorem d_Limbs_addProduct_0 : decode b_Limbs_addProduct 0 = .ok (.iconst 0, 1) := by decide +kernel
theorem d_Limbs_addProduct_1 : decode b_Limbs_addProduct 1 = .ok (.istore 5, 2) := by decide +kernel
theorem d_Limbs_addProduct_3 : decode b_Limbs_addProduct 3 = .ok (.iconst 0, 1) := by decide +kernel
theorem d_Limbs_addProduct_4 : decode b_Limbs_addProduct 4 = .ok (.istore 6, 2) := by decide +kernel
theorem d_Limbs_addProduct_6 : decode b_Limbs_addProduct 6 = .ok (.iload 6, 2) := by decide +kernel
theorem d_Limbs_addProduct_8 : decode b_Limbs_addProduct 8 = .ok (.iload 4, 2) := by decide +kernel
theorem d_Limbs_addProduct_10 : decode b_Limbs_addProduct 10 = .ok (.if_icmp .ge (57), 3) := by decide +kernel
theorem d_Limbs_addProduct_13 : decode b_Limbs_addProduct 13 = .ok (.aload_n 2, 1) := by decide +kernel
theorem d_Limbs_addProduct_14 : decode b_Limbs_addProduct 14 = .ok (.iload 6, 2) := by decide +kernel
theorem d_Limbs_addProduct_16 : decode b_Limbs_addProduct 16 = .ok (.iaload, 1) := by decide +kernel
theorem d_Limbs_addProduct_17 : decode b_Limbs_addProduct 17 = .ok (.i2l, 1) := by decide +kernel
theorem d_Limbs_addProduct_18 : decode b_Limbs_addProduct 18 = .ok (.iload 5, 2) := by decide +kernel
theorem d_Limbs_addProduct_20 : decode b_Limbs_addProduct 20 = .ok (.i2l, 1) := by decide +kernel
theorem d_Limbs_addProduct_21 : decode b_Limbs_addProduct 21 = .ok (.ladd, 1) := by decide +kernel
theorem d_Limbs_addProduct_22 : decode b_Limbs_addProduct 22 = .ok (.lstore 7, 2) := by decide +kernel
theorem d_Limbs_addProduct_24 : decode b_Limbs_addProduct 24 = .ok (.iconst 0, 1) := by decide +kernel
theorem d_Limbs_addProduct_25 : decode b_Limbs_addProduct 25 = .ok (.istore 5, 2) := by decide +kernel
theorem d_Limbs_addProduct_27 : decode b_Limbs_addProduct 27 = .ok (.lload 7, 2) := by decide +kernel
theorem d_Limbs_addProduct_29 : decode b_Limbs_addProduct 29 = .ok (.ldc2_w 34, 3) := by decide +kernel
theorem d_Limbs_addProduct_32 : decode b_Limbs_addProduct 32 = .ok (.lcmp, 1) := by decide +kernel
theorem d_Limbs_addProduct_33 : decode b_Limbs_addProduct 33 = .ok (.ifCond .le (14), 3) := by decide +kernel
theorem d_Limbs_addProduct_36 : decode b_Limbs_addProduct 36 = .ok (.lload 7, 2) := by decide +kernel
theorem d_Limbs_addProduct_38 : decode b_Limbs_addProduct 38 = .ok (.ldc2_w 36, 3) := by decide +kernel
theorem d_Limbs_addProduct_41 : decode b_Limbs_addProduct 41 = .ok (.lsub, 1) := by decide +kernel
theorem d_Limbs_addProduct_42 : decode b_Limbs_addProduct 42 = .ok (.lstore 7, 2) := by decide +kernel
theorem d_Limbs_addProduct_44 : decode b_Limbs_addProduct 44 = .ok (.iconst 1, 1) := by decide +kernel
theorem d_Limbs_addProduct_45 : decode b_Limbs_addProduct 45 = .ok (.istore 5, 2) := by decide +kernel
theorem d_Limbs_addProduct_47 : decode b_Limbs_addProduct 47 = .ok (.aload_n 0, 1) := by decide +kernel
theorem d_Limbs_addProduct_48 : decode b_Limbs_addProduct 48 = .ok (.aload_n 1, 1) := by decide +kernel
theorem d_Limbs_addProduct_49 : decode b_Limbs_addProduct 49 = .ok (.iload_n 3, 1) := by decide +kernel
theorem d_Limbs_addProduct_50 : decode b_Limbs_addProduct 50 = .ok (.i2l, 1) := by decide +kernel
theorem d_Limbs_addProduct_51 : decode b_Limbs_addProduct 51 = .ok (.lload 7, 2) := by decide +kernel
theorem d_Limbs_addProduct_53 : decode b_Limbs_addProduct 53 = .ok (.lmul, 1) := by decide +kernel
theorem d_Limbs_addProduct_54 : decode b_Limbs_addProduct 54 = .ok (.iload 6, 2) := by decide +kernel
theorem d_Limbs_addProduct_56 : decode b_Limbs_addProduct 56 = .ok (.iload 4, 2) := by decide +kernel
theorem d_Limbs_addProduct_58 : decode b_Limbs_addProduct 58 = .ok (.invokestatic 38, 3) := by decide +kernel
theorem d_Limbs_addProduct_61 : decode b_Limbs_addProduct 61 = .ok (.iinc 6 (1), 3) := by decide +kernel
theorem d_Limbs_addProduct_64 : decode b_Limbs_addProduct 64 = .ok (.goto (-58), 3) := by decide +kernel
theorem d_Limbs_addProduct_67 : decode b_Limbs_addProduct 67 = .ok (.return_, 1) := by decide +kernel
theorem k_0c9e0e9e73 : (Jvm.Cond.constantLong "SpectrumDesk$Limbs" (34 : Nat) (536870912 : Int64)) ∈ AW := aw_3 (List.mem_of_getElem? (i := 174) (by decide +kernel)) (by decide +kernel)
theorem k_344626c77a : (Jvm.Cond.methodLink "SpectrumDesk$Limbs" (38 : Nat) ({ cls := "SpectrumDesk$Limbs", name := "addTimes", desc := "([I[IJII)V" } : Jvm.MethodName)) ∈ AW := aw_3 (List.mem_of_getElem? (i := 176) (by decide +kernel)) (by decide +kernel)
theorem k_0ef42f4896 : (Jvm.Cond.static ({ cls := "SpectrumDesk$Limbs", name := "addTimes", desc := "([I[IJII)V" } : Jvm.MethodName)) ∈ AW := aw_2 (List.mem_of_getElem? (i := 49) (by decide +kernel)) (by decide +kernel)
theorem k_b15d0305ca : (Jvm.Cond.initialized "SpectrumDesk$Limbs") ∈ AW := aw_1 (List.mem_of_getElem? (i := 5) (by decide +kernel)) (by decide +kernel)
theorem k_e2253de6ce : (Jvm.Cond.constantLong "SpectrumDesk$Limbs" (36 : Nat) (1073741824 : Int64)) ∈ AW := aw_3 (List.mem_of_getElem? (i := 175) (by decide +kernel)) (by decide +kernel)
theorem k_f8f2a75ec6 : (Jvm.Cond.code ({ cls := "SpectrumDesk$Limbs", name := "addLongTimes", desc := "([I[IJI)V" } : Jvm.MethodName) prog_4_method_7_code (10 : Nat) (Option.none : Option Jvm.ClassFile.FieldType)) ∈ AW := aw_3 (List.mem_of_getElem? (i := 173) (by decide +kernel)) (by decide +kernel)
theorem k_46770d5d82 : (Jvm.Cond.code ({ cls := "SpectrumDesk$Limbs", name := "addProduct", desc := "([I[I[III)V" } : Jvm.MethodName) prog_4_method_8_code (9 : Nat) (Option.none : Option Jvm.ClassFile.FieldType)) ∈ AW := aw_3 (List.mem_of_getElem? (i := 232) (by decide +kernel)) (by decide +kernel)
set_option maxHeartbeats 4000000 in
set_option maxRecDepth 100000 in
theorem c_Limbs_addLongTimes {l : Launch} {D : va_G} {cI cJ cZ cC cG cP : ClassId} {N : Nat} {ad : Nat → Nat} {σ : Nat → va_E} {a b La Lb n : Nat} {f g : Nat → Int32} {v : Int64} {x y : Int} (hNa : a < N) (hNb : b < N) (hσa : σ a = .inl (cI, La, .inl f)) (hσb : σ b = .inl (cI, Lb, .inl g)) (hba : b ≠ a) (hn2 : 2 ≤ n) (hn : n ≤ La) (hLa : La < 2 ^ 31) (hnb : n ≤ Lb) (hLb : Lb < 2 ^ 31) (hxf : lm_is f n x) (hyg : lm_is g n y) :
    Met l y_Limbs_addLongTimes v_Limbs_addLongTimes (xrm 1) (va_Pc [.ref (ad a), .ref (ad b), .long v, .int (nI n)] (xS D classes (xT cI cJ cZ cC cG cP) N ad σ)) (va_Qv (lm_up σ a cI La f n (x + v.toInt * y)) (xS D classes (xT cI cJ cZ cC cG cP) N ad) (xA N ad)) 0 0 (xA N ad) := by
  refine xr_met rfl (Nat.le_of_ble_eq_true rfl) ?_
  intro p e s m args below meth c ls hx hb X hr hlk hl I
  have hl : lv_has ls 10 [(0, .ref (ad a)), (1, .ref (ad b)), (2, .long v), (4, .int (nI n))] := hl
  refine lv_lload_n hx hb d_Limbs_addLongTimes_0 rfl (lv_at hl 2 rfl) ?_
  refine lv_lstore (lv' := [(5, .long v), (0, .ref (ad a)), (1, .ref (ad b)), (2, .long v), (4, .int (nI n))]) hx hb d_Limbs_addLongTimes_1 hl (by decide) rfl (fun ls hl => ?_)
  refine lv_iconst (v := nI 0) hx hb d_Limbs_addLongTimes_3 (by decide) ?_
  refine lv_istore (lv' := [(7, .int (nI 0)), (5, .long v), (0, .ref (ad a)), (1, .ref (ad b)), (2, .long v), (4, .int (nI n))]) hx hb d_Limbs_addLongTimes_4 hl (by decide) rfl (fun ls hl => ?_)
  have loop : ∀ (k : Nat) (i : Nat) (r : Int64) (acc : Int) (f' : Nat → Int32) (ls : Array Slot) (H : Heap) (locs : List Loc), i + k = 3 → v.toInt = acc + r.toInt * 1073741824 ^ i → (-lm_bd i ≤ r.toInt ∧ r.toInt ≤ lm_bd i) → (∀ j, n ≤ j → f' j = f j) → lm_is f' n (x + acc * y) → lv_has ls 10 [(7, .int (nI i)), (5, .long r), (0, .ref (ad a)), (1, .ref (ad b)), (2, .long v), (4, .int (nI n))] → xI D classes N ad s.heap (va_up σ a (.inl (cI, La, .inl f'))) H locs → W p l e (xrm 1) s m args below meth c H locs 0 0 (MQ below (va_Qv (lm_up σ a cI La f n (x + v.toInt * y)) (xS D classes (xT cI cJ cZ cC cG cP) N ad) (xA N ad)) args s 0 0 (xA N ad)) (F0 m 6 ls []) := by
    intro k
    induction k with
    | zero =>
      intro i r acc f' ls H locs hk hv hbd hge hf' hl I
      obtain rfl : i = 3 := by omega
      refine lv_iload hx hb d_Limbs_addLongTimes_6 (lv_at hl 0 rfl) ?_
      refine lv_iconst (v := nI 3) hx hb d_Limbs_addLongTimes_8 (by decide) ?_
      refine lv_icmp_ge hx hb d_Limbs_addLongTimes_9 rfl (fun hc => ?_) (fun hc => ?_)
      · have hr0 : r.toInt = 0 := by simp only [lm_bd] at hbd; omega
        rw [hr0] at hv; simp at hv
        exact xr_vret X I hr hlk ⟨f', rfl, hge, by rw [hv]; exact hf'⟩ d_Limbs_addLongTimes_67
      · exact absurd (nI_le (Nat.le_refl _) (by omega)) hc
    | succ k ih =>
      intro i r acc f' ls H locs hk hv hbd hge hf' hl I
      refine lv_iload hx hb d_Limbs_addLongTimes_6 (lv_at hl 0 rfl) ?_
      refine lv_iconst (v := nI 3) hx hb d_Limbs_addLongTimes_8 (by decide) ?_
      refine lv_icmp_ge hx hb d_Limbs_addLongTimes_9 rfl (fun hc => ?_) (fun hc => ?_)
      · exact absurd hc (nI_ge (by omega) (by omega))
      · refine lv_lload hx hb d_Limbs_addLongTimes_12 (lv_at hl 1 rfl) ?_
        refine lv_ldc2 (v := 1073741823) hx hb X.1.2.2.2.1 (X.1.2.2.2.2 _ (List.mem_cons_of_mem _ k_4b4bee73ee)) d_Limbs_addLongTimes_14 ?_
        refine lv_land hx hb d_Limbs_addLongTimes_17 ?_
        refine lv_topl (fun g0 eg0 => ?_)
        refine lv_lstore (lv' := [(8, .long g0), (7, .int (nI i)), (5, .long r), (0, .ref (ad a)), (1, .ref (ad b)), (2, .long v), (4, .int (nI n))]) hx hb d_Limbs_addLongTimes_18 hl (by decide) rfl (fun ls hl => ?_)
        refine lv_lload hx hb d_Limbs_addLongTimes_20 (lv_at hl 2 rfl) ?_
        refine lv_bipush (v := nI 30) hx hb d_Limbs_addLongTimes_22 (by decide) ?_
        refine lv_lshr hx hb d_Limbs_addLongTimes_24 rfl ?_
        refine lv_topl (fun r1 er1 => ?_)
        refine lv_lstore (lv' := [(5, .long r1), (8, .long g0), (7, .int (nI i)), (0, .ref (ad a)), (1, .ref (ad b)), (2, .long v), (4, .int (nI n))]) hx hb d_Limbs_addLongTimes_25 hl (by decide) rfl (fun ls hl => ?_)
        refine lv_lload hx hb d_Limbs_addLongTimes_27 (lv_at hl 1 rfl) ?_
        refine lv_ldc2 (v := 536870912) hx hb X.1.2.2.2.1 (X.1.2.2.2.2 _ (List.mem_cons_of_mem _ k_0c9e0e9e73)) d_Limbs_addLongTimes_29 ?_
        refine W.lcmp hx hb d_Limbs_addLongTimes_32 ?_
        have hdg := lm_digit r
        rw [← eg0, ← er1] at hdg
        have hrl := r.le_toInt; have hru := r.toInt_lt
        refine lv_if_le hx hb d_Limbs_addLongTimes_33 rfl (fun hc2 => ?_) (fun hc2 => ?_)
        · have hle : g0.toInt ≤ 536870912 := by have := Int64.le_iff_toInt_le.mp ((lg_cmp_le _ _).mp hc2); rw [show (536870912 : Int64).toInt = 536870912 by decide] at this; exact this
          have e9 : r.toInt = g0.toInt + r1.toInt * 1073741824 := by omega
          have hd9 : -536870912 ≤ g0.toInt ∧ g0.toInt ≤ 536870912 := by omega
          refine lv_aload_n hx hb d_Limbs_addLongTimes_50 rfl (lv_at hl 3 rfl) ?_
          refine lv_aload_n hx hb d_Limbs_addLongTimes_51 rfl (lv_at hl 4 rfl) ?_
          refine lv_lload hx hb d_Limbs_addLongTimes_52 (lv_at hl 1 rfl) ?_
          refine lv_iload hx hb d_Limbs_addLongTimes_54 (lv_at hl 2 rfl) ?_
          refine lv_iload hx hb d_Limbs_addLongTimes_56 (lv_at hl 6 rfl) ?_
          refine xr_callv (xr_runS (kc := 0) (kr := 1) (n := 5) (As := [.ref (ad a), .ref (ad b), .long g0, .int (nI i), .int (nI n)]) (rest := []) X I (c_Limbs_addTimes (σ := va_up σ a (.inl (cI, La, .inl f'))) (x := x + acc * y) (y := y) hNa hNb (va_up_self _ _ _) ((va_up_ne _ _ hba).trans hσb) hba ⟨by omega, by omega⟩ (show i ≤ n by omega) hn hLa (by omega) hLb hf' (lm_is_le hyg (by omega))) (xg k_c80bea473c) (List.mem_cons_of_mem _ k_344626c77a) (List.mem_cons_of_mem _ k_0ef42f4896) (List.mem_cons_of_mem _ k_b15d0305ca) (by decide +kernel) (by decide) rfl hl.1 rfl (Nat.le_of_ble_eq_true rfl) d_Limbs_addLongTimes_58) I (fun σ1 H locs hp I => ?_)
          obtain ⟨f2, rfl, h2, h3⟩ := hp
          rw [va_up_up] at I
          refine lv_iinc (k := 2) (v := nI (i + 1)) (lv' := [(7, .int (nI (i + 1))), (5, .long r1), (8, .long g0), (0, .ref (ad a)), (1, .ref (ad b)), (2, .long v), (4, .int (nI n))]) hx hb d_Limbs_addLongTimes_61 hl rfl (nI_1 i) (by decide) rfl (fun ls hl => ?_)
          refine lv_goto hx hb d_Limbs_addLongTimes_64 rfl ?_
          have hl := lv_sub hl [0, 1, 3, 4, 5, 6] rfl
          have hl : lv_has ls 10 [(7, .int (nI (i + 1))), (5, .long r1), (0, .ref (ad a)), (1, .ref (ad b)), (2, .long v), (4, .int (nI n))] := hl
          exact ih (i + 1) r1 (acc + g0.toInt * 1073741824 ^ i) f2 ls H locs (by omega) (by rw [hv, e9, Int.pow_succ]; grind) (lm_bd_step (by omega) hbd e9 hd9) (fun j hj => (h2 j hj).trans (hge j hj)) (by rw [Int.add_mul, ← Int.add_assoc]; exact h3) hl I
        · have hgt : ¬ g0.toInt ≤ 536870912 := fun h => hc2 ((lg_cmp_le _ _).mpr (Int64.le_iff_toInt_le.mpr (by rw [show (536870912 : Int64).toInt = 536870912 by decide]; exact h)))
          refine lv_lload hx hb d_Limbs_addLongTimes_36 (lv_at hl 1 rfl) ?_
          refine lv_ldc2 (v := 1073741824) hx hb X.1.2.2.2.1 (X.1.2.2.2.2 _ (List.mem_cons_of_mem _ k_e2253de6ce)) d_Limbs_addLongTimes_38 ?_
          refine lv_lsub hx hb d_Limbs_addLongTimes_41 ?_
          refine lv_topl (fun g1 eg1 => ?_)
          refine lv_lstore (lv' := [(8, .long g1), (5, .long r1), (7, .int (nI i)), (0, .ref (ad a)), (1, .ref (ad b)), (2, .long v), (4, .int (nI n))]) hx hb d_Limbs_addLongTimes_42 hl (by decide) rfl (fun ls hl => ?_)
          refine lv_lload hx hb d_Limbs_addLongTimes_44 (lv_at hl 1 rfl) ?_
          refine lv_lconst (v := 1) hx hb d_Limbs_addLongTimes_46 (by decide) ?_
          refine lv_ladd hx hb d_Limbs_addLongTimes_47 ?_
          refine lv_topl (fun r2 er2 => ?_)
          have q1 : g1.toInt = g0.toInt - 1073741824 := by
            have e0 : (1073741824 : Int64).toInt = 1073741824 := by decide
            rw [eg1, q_lsub (by rw [e0]; omega) (by rw [e0]; omega), e0]
          have q2 : r2.toInt = r1.toInt + 1 := by
            have e0 : (1 : Int64).toInt = 1 := by decide
            rw [er2, q_ladd (by rw [e0]; omega) (by rw [e0]; omega), e0]
          have e9 : r.toInt = g1.toInt + r2.toInt * 1073741824 := by omega
          have hd9 : -536870912 ≤ g1.toInt ∧ g1.toInt ≤ 536870912 := by omega
          refine lv_lstore (lv' := [(5, .long r2), (8, .long g1), (7, .int (nI i)), (0, .ref (ad a)), (1, .ref (ad b)), (2, .long v), (4, .int (nI n))]) hx hb d_Limbs_addLongTimes_48 hl (by decide) rfl (fun ls hl => ?_)
          refine lv_aload_n hx hb d_Limbs_addLongTimes_50 rfl (lv_at hl 3 rfl) ?_
          refine lv_aload_n hx hb d_Limbs_addLongTimes_51 rfl (lv_at hl 4 rfl) ?_
          refine lv_lload hx hb d_Limbs_addLongTimes_52 (lv_at hl 1 rfl) ?_
          refine lv_iload hx hb d_Limbs_addLongTimes_54 (lv_at hl 2 rfl) ?_
          refine lv_iload hx hb d_Limbs_addLongTimes_56 (lv_at hl 6 rfl) ?_
          refine xr_callv (xr_runS (kc := 0) (kr := 1) (n := 5) (As := [.ref (ad a), .ref (ad b), .long g1, .int (nI i), .int (nI n)]) (rest := []) X I (c_Limbs_addTimes (σ := va_up σ a (.inl (cI, La, .inl f'))) (x := x + acc * y) (y := y) hNa hNb (va_up_self _ _ _) ((va_up_ne _ _ hba).trans hσb) hba ⟨by omega, by omega⟩ (show i ≤ n by omega) hn hLa (by omega) hLb hf' (lm_is_le hyg (by omega))) (xg k_c80bea473c) (List.mem_cons_of_mem _ k_344626c77a) (List.mem_cons_of_mem _ k_0ef42f4896) (List.mem_cons_of_mem _ k_b15d0305ca) (by decide +kernel) (by decide) rfl hl.1 rfl (Nat.le_of_ble_eq_true rfl) d_Limbs_addLongTimes_58) I (fun σ1 H locs hp I => ?_)
          obtain ⟨f2, rfl, h2, h3⟩ := hp
          rw [va_up_up] at I
          refine lv_iinc (k := 2) (v := nI (i + 1)) (lv' := [(7, .int (nI (i + 1))), (5, .long r2), (8, .long g1), (0, .ref (ad a)), (1, .ref (ad b)), (2, .long v), (4, .int (nI n))]) hx hb d_Limbs_addLongTimes_61 hl rfl (nI_1 i) (by decide) rfl (fun ls hl => ?_)
          refine lv_goto hx hb d_Limbs_addLongTimes_64 rfl ?_
          have hl := lv_sub hl [0, 1, 3, 4, 5, 6] rfl
          have hl : lv_has ls 10 [(7, .int (nI (i + 1))), (5, .long r2), (0, .ref (ad a)), (1, .ref (ad b)), (2, .long v), (4, .int (nI n))] := hl
          exact ih (i + 1) r2 (acc + g1.toInt * 1073741824 ^ i) f2 ls H locs (by omega) (by rw [hv, e9, Int.pow_succ]; grind) (lm_bd_step (by omega) hbd e9 hd9) (fun j hj => (h2 j hj).trans (hge j hj)) (by rw [Int.add_mul, ← Int.add_assoc]; exact h3) hl I
  exact loop 3 0 v 0 f ls _ _ (by decide) (by simp) (by have h1 := v.le_toInt; have h2 := v.toInt_lt; simp only [lm_bd]; omega) (fun _ _ => rfl) (by simpa using hxf) hl (by rw [va_up_same hσa]; exact I)
set_option maxHeartbeats 4000000 in
set_option maxRecDepth 100000 in
theorem c_Limbs_addProductP {l : Launch} {D : va_G} {cI cJ cZ cC cG cP : ClassId} {N : Nat} {ad : Nat → Nat} {σ : Nat → va_E} {a b c9 La Lb Lc n : Nat} {f g h : Nat → Int32} {x y z : Int} (hNa : a < N) (hNb : b < N) (hNc : c9 < N) (hσa : σ a = .inl (cI, La, .inl f)) (hσb : σ b = .inl (cI, Lb, .inl g)) (hσc : σ c9 = .inl (cI, Lc, .inl h)) (hba : b ≠ a) (hca : c9 ≠ a) (hn : n ≤ La) (hLa : La < 2 ^ 31) (hnb : n ≤ Lb) (hLb : Lb < 2 ^ 31) (hnc : n ≤ Lc) (hLc : Lc < 2 ^ 31) (hxf : lm_is f n x) (hyg : lm_is g n y) (hzh : lm_is h n z) :
    Met l y_Limbs_addProduct v_Limbs_addProduct (xrm 1) (va_Pc [.ref (ad a), .ref (ad b), .ref (ad c9), .int (nI 1), .int (nI n)] (xS D classes (xT cI cJ cZ cC cG cP) N ad σ)) (va_Qv (lm_up σ a cI La f n (x + y * z)) (xS D classes (xT cI cJ cZ cC cG cP) N ad) (xA N ad)) 0 0 (xA N ad) := by
  refine xr_met rfl (Nat.le_of_ble_eq_true rfl) ?_
  intro p e s m args below meth c ls hx hb X hr hlk hl I
  have hl : lv_has ls 9 [(0, .ref (ad a)), (1, .ref (ad b)), (2, .ref (ad c9)), (3, .int (nI 1)), (4, .int (nI n))] := hl
  refine lv_iconst (v := nI 0) hx hb d_Limbs_addProduct_0 (by decide) ?_
  refine lv_istore (lv' := [(5, .int (nI 0)), (0, .ref (ad a)), (1, .ref (ad b)), (2, .ref (ad c9)), (3, .int (nI 1)), (4, .int (nI n))]) hx hb d_Limbs_addProduct_1 hl (by decide) rfl (fun ls hl => ?_)
  refine lv_iconst (v := nI 0) hx hb d_Limbs_addProduct_3 (by decide) ?_
  refine lv_istore (lv' := [(6, .int (nI 0)), (5, .int (nI 0)), (0, .ref (ad a)), (1, .ref (ad b)), (2, .ref (ad c9)), (3, .int (nI 1)), (4, .int (nI n))]) hx hb d_Limbs_addProduct_4 hl (by decide) rfl (fun ls hl => ?_)
  have loop : ∀ (k : Nat) (i cy : Nat) (S : Int) (f' : Nat → Int32) (ls : Array Slot) (H : Heap) (locs : List Loc), i + k = n → cy ≤ 1 → S + (cy : Int) * 1073741824 ^ i = lm_u h i → (∀ j, n ≤ j → f' j = f j) → lm_is f' n (x + y * S) → lv_has ls 9 [(6, .int (nI i)), (5, .int (nI cy)), (0, .ref (ad a)), (1, .ref (ad b)), (2, .ref (ad c9)), (3, .int (nI 1)), (4, .int (nI n))] → xI D classes N ad s.heap (va_up σ a (.inl (cI, La, .inl f'))) H locs → W p l e (xrm 1) s m args below meth c H locs 0 0 (MQ below (va_Qv (lm_up σ a cI La f n (x + y * z)) (xS D classes (xT cI cJ cZ cC cG cP) N ad) (xA N ad)) args s 0 0 (xA N ad)) (F0 m 6 ls []) := by
    intro k
    induction k with
    | zero =>
      intro i cy S f' ls H locs hk hcy hS hge hf' hl I
      obtain rfl : i = n := by omega
      refine lv_iload hx hb d_Limbs_addProduct_6 (lv_at hl 0 rfl) ?_
      refine lv_iload hx hb d_Limbs_addProduct_8 (lv_at hl 6 rfl) ?_
      refine lv_icmp_ge hx hb d_Limbs_addProduct_10 rfl (fun hc => ?_) (fun hc => ?_)
      · obtain ⟨-, q9, hz9⟩ := hzh
        exact xr_vret X I hr hlk ⟨f', rfl, hge, lm_is_mod hf' (y * (q9 + cy)) (by rw [hz9, ← hS]; grind)⟩ d_Limbs_addProduct_67
      · exact absurd (nI_le (Nat.le_refl _) (by omega)) hc
    | succ k ih =>
      intro i cy S f' ls H locs hk hcy hS hge hf' hl I
      refine lv_iload hx hb d_Limbs_addProduct_6 (lv_at hl 0 rfl) ?_
      refine lv_iload hx hb d_Limbs_addProduct_8 (lv_at hl 6 rfl) ?_
      refine lv_icmp_ge hx hb d_Limbs_addProduct_10 rfl (fun hc => ?_) (fun hc => ?_)
      · exact absurd hc (nI_ge (by omega) (by omega))
      · refine lv_aload_n hx hb d_Limbs_addProduct_13 rfl (lv_at hl 4 rfl) ?_
        refine lv_iload hx hb d_Limbs_addProduct_14 (lv_at hl 0 rfl) ?_
        refine xr_iald X I c9 0 hNc ((va_up_ne _ _ hca).trans hσc) rfl (by omega) hLc d_Limbs_addProduct_16 ?_
        refine lv_i2l hx hb d_Limbs_addProduct_17 rfl ?_
        refine lv_iload hx hb d_Limbs_addProduct_18 (lv_at hl 1 rfl) ?_
        refine lv_i2l hx hb d_Limbs_addProduct_20 rfl ?_
        refine lv_ladd hx hb d_Limbs_addProduct_21 ?_
        refine lv_topl (fun g0 eg0 => ?_)
        have hhi := hzh.1 i (by omega)
        have q0 : g0.toInt = (h i).toInt + cy := by rw [eg0, q_ladd (by rw [q_i2l, q_i2l, nI_toInt (by omega)]; omega) (by rw [q_i2l, q_i2l, nI_toInt (by omega)]; omega), q_i2l, q_i2l, nI_toInt (by omega)]
        refine lv_lstore (lv' := [(7, .long g0), (6, .int (nI i)), (5, .int (nI cy)), (0, .ref (ad a)), (1, .ref (ad b)), (2, .ref (ad c9)), (3, .int (nI 1)), (4, .int (nI n))]) hx hb d_Limbs_addProduct_22 hl (by decide) rfl (fun ls hl => ?_)
        refine lv_iconst (v := nI 0) hx hb d_Limbs_addProduct_24 (by decide) ?_
        refine lv_istore (lv' := [(5, .int (nI 0)), (7, .long g0), (6, .int (nI i)), (0, .ref (ad a)), (1, .ref (ad b)), (2, .ref (ad c9)), (3, .int (nI 1)), (4, .int (nI n))]) hx hb d_Limbs_addProduct_25 hl (by decide) rfl (fun ls hl => ?_)
        refine lv_lload hx hb d_Limbs_addProduct_27 (lv_at hl 1 rfl) ?_
        refine lv_ldc2 (v := 536870912) hx hb X.1.2.2.2.1 (X.1.2.2.2.2 _ (List.mem_cons_of_mem _ k_0c9e0e9e73)) d_Limbs_addProduct_29 ?_
        refine W.lcmp hx hb d_Limbs_addProduct_32 ?_
        refine lv_if_le hx hb d_Limbs_addProduct_33 rfl (fun hc2 => ?_) (fun hc2 => ?_)
        · have hle : g0.toInt ≤ 536870912 := by have := Int64.le_iff_toInt_le.mp ((lg_cmp_le _ _).mp hc2); rw [show (536870912 : Int64).toInt = 536870912 by decide] at this; exact this
          refine lv_aload_n hx hb d_Limbs_addProduct_47 rfl (lv_at hl 3 rfl) ?_
          refine lv_aload_n hx hb d_Limbs_addProduct_48 rfl (lv_at hl 4 rfl) ?_
          refine lv_iload_n hx hb d_Limbs_addProduct_49 rfl (lv_at hl 6 rfl) ?_
          refine lv_i2l hx hb d_Limbs_addProduct_50 rfl ?_
          refine lv_lload hx hb d_Limbs_addProduct_51 (lv_at hl 1 rfl) ?_
          refine lv_lmul hx hb d_Limbs_addProduct_53 ?_
          refine lv_topl (fun fd efd => ?_)
          have qf : fd.toInt = 1 * g0.toInt := by
            have e0 : ((nI 1) : Int32).toInt64.toInt = 1 := by decide
            rw [efd, q_lmul (by rw [e0]; omega) (by rw [e0]; omega), e0]
          refine lv_iload hx hb d_Limbs_addProduct_54 (lv_at hl 2 rfl) ?_
          refine lv_iload hx hb d_Limbs_addProduct_56 (lv_at hl 7 rfl) ?_
          refine xr_callv (xr_runS (kc := 0) (kr := 1) (n := 5) (As := [.ref (ad a), .ref (ad b), .long fd, .int (nI i), .int (nI n)]) (rest := []) X I (c_Limbs_addTimes (σ := va_up σ a (.inl (cI, La, .inl f'))) (x := x + y * S) (y := y) hNa hNb (va_up_self _ _ _) ((va_up_ne _ _ hba).trans hσb) hba ⟨by omega, by omega⟩ (show i ≤ n by omega) hn hLa (by omega) hLb hf' (lm_is_le hyg (by omega))) (xg k_c80bea473c) (List.mem_cons_of_mem _ k_344626c77a) (List.mem_cons_of_mem _ k_0ef42f4896) (List.mem_cons_of_mem _ k_b15d0305ca) (by decide +kernel) (by decide) rfl hl.1 rfl (Nat.le_of_ble_eq_true rfl) d_Limbs_addProduct_58) I (fun σ1 H locs hp I => ?_)
          obtain ⟨f2, rfl, h2, h3⟩ := hp
          rw [va_up_up] at I
          refine lv_iinc (k := 2) (v := nI (i + 1)) (lv' := [(6, .int (nI (i + 1))), (5, .int (nI 0)), (7, .long g0), (0, .ref (ad a)), (1, .ref (ad b)), (2, .ref (ad c9)), (3, .int (nI 1)), (4, .int (nI n))]) hx hb d_Limbs_addProduct_61 hl rfl (nI_1 i) (by decide) rfl (fun ls hl => ?_)
          refine lv_goto hx hb d_Limbs_addProduct_64 rfl ?_
          have hl := lv_sub hl [0, 1, 3, 4, 5, 6, 7] rfl
          have hl : lv_has ls 9 [(6, .int (nI (i + 1))), (5, .int (nI 0)), (0, .ref (ad a)), (1, .ref (ad b)), (2, .ref (ad c9)), (3, .int (nI 1)), (4, .int (nI n))] := hl
          exact ih (i + 1) 0 (S + g0.toInt * 1073741824 ^ i) f2 ls H locs (by omega) (by decide) (lm_prod (c := h) (cy := cy) (cy' := ((0 : Nat) : Int)) (by omega) S hS) (fun j hj => (h2 j hj).trans (hge j hj)) (by rw [qf] at h3; exact lm_is_mod h3 0 (by grind)) hl I
        · have hgt : ¬ g0.toInt ≤ 536870912 := fun h => hc2 ((lg_cmp_le _ _).mpr (Int64.le_iff_toInt_le.mpr (by rw [show (536870912 : Int64).toInt = 536870912 by decide]; exact h)))
          refine lv_lload hx hb d_Limbs_addProduct_36 (lv_at hl 1 rfl) ?_
          refine lv_ldc2 (v := 1073741824) hx hb X.1.2.2.2.1 (X.1.2.2.2.2 _ (List.mem_cons_of_mem _ k_e2253de6ce)) d_Limbs_addProduct_38 ?_
          refine lv_lsub hx hb d_Limbs_addProduct_41 ?_
          refine lv_topl (fun g1 eg1 => ?_)
          have q1 : g1.toInt = g0.toInt - 1073741824 := by
            have e0 : (1073741824 : Int64).toInt = 1073741824 := by decide
            rw [eg1, q_lsub (by rw [e0]; omega) (by rw [e0]; omega), e0]
          refine lv_lstore (lv' := [(7, .long g1), (5, .int (nI 0)), (6, .int (nI i)), (0, .ref (ad a)), (1, .ref (ad b)), (2, .ref (ad c9)), (3, .int (nI 1)), (4, .int (nI n))]) hx hb d_Limbs_addProduct_42 hl (by decide) rfl (fun ls hl => ?_)
          refine lv_iconst (v := nI 1) hx hb d_Limbs_addProduct_44 (by decide) ?_
          refine lv_istore (lv' := [(5, .int (nI 1)), (7, .long g1), (6, .int (nI i)), (0, .ref (ad a)), (1, .ref (ad b)), (2, .ref (ad c9)), (3, .int (nI 1)), (4, .int (nI n))]) hx hb d_Limbs_addProduct_45 hl (by decide) rfl (fun ls hl => ?_)
          refine lv_aload_n hx hb d_Limbs_addProduct_47 rfl (lv_at hl 3 rfl) ?_
          refine lv_aload_n hx hb d_Limbs_addProduct_48 rfl (lv_at hl 4 rfl) ?_
          refine lv_iload_n hx hb d_Limbs_addProduct_49 rfl (lv_at hl 6 rfl) ?_
          refine lv_i2l hx hb d_Limbs_addProduct_50 rfl ?_
          refine lv_lload hx hb d_Limbs_addProduct_51 (lv_at hl 1 rfl) ?_
          refine lv_lmul hx hb d_Limbs_addProduct_53 ?_
          refine lv_topl (fun fd efd => ?_)
          have qf : fd.toInt = 1 * g1.toInt := by
            have e0 : ((nI 1) : Int32).toInt64.toInt = 1 := by decide
            rw [efd, q_lmul (by rw [e0]; omega) (by rw [e0]; omega), e0]
          refine lv_iload hx hb d_Limbs_addProduct_54 (lv_at hl 2 rfl) ?_
          refine lv_iload hx hb d_Limbs_addProduct_56 (lv_at hl 7 rfl) ?_
          refine xr_callv (xr_runS (kc := 0) (kr := 1) (n := 5) (As := [.ref (ad a), .ref (ad b), .long fd, .int (nI i), .int (nI n)]) (rest := []) X I (c_Limbs_addTimes (σ := va_up σ a (.inl (cI, La, .inl f'))) (x := x + y * S) (y := y) hNa hNb (va_up_self _ _ _) ((va_up_ne _ _ hba).trans hσb) hba ⟨by omega, by omega⟩ (show i ≤ n by omega) hn hLa (by omega) hLb hf' (lm_is_le hyg (by omega))) (xg k_c80bea473c) (List.mem_cons_of_mem _ k_344626c77a) (List.mem_cons_of_mem _ k_0ef42f4896) (List.mem_cons_of_mem _ k_b15d0305ca) (by decide +kernel) (by decide) rfl hl.1 rfl (Nat.le_of_ble_eq_true rfl) d_Limbs_addProduct_58) I (fun σ1 H locs hp I => ?_)
          obtain ⟨f2, rfl, h2, h3⟩ := hp
          rw [va_up_up] at I
          refine lv_iinc (k := 2) (v := nI (i + 1)) (lv' := [(6, .int (nI (i + 1))), (5, .int (nI 1)), (7, .long g1), (0, .ref (ad a)), (1, .ref (ad b)), (2, .ref (ad c9)), (3, .int (nI 1)), (4, .int (nI n))]) hx hb d_Limbs_addProduct_61 hl rfl (nI_1 i) (by decide) rfl (fun ls hl => ?_)
          refine lv_goto hx hb d_Limbs_addProduct_64 rfl ?_
          have hl := lv_sub hl [0, 1, 3, 4, 5, 6, 7] rfl
          have hl : lv_has ls 9 [(6, .int (nI (i + 1))), (5, .int (nI 1)), (0, .ref (ad a)), (1, .ref (ad b)), (2, .ref (ad c9)), (3, .int (nI 1)), (4, .int (nI n))] := hl
          exact ih (i + 1) 1 (S + g1.toInt * 1073741824 ^ i) f2 ls H locs (by omega) (by decide) (lm_prod (c := h) (cy := cy) (cy' := ((1 : Nat) : Int)) (by omega) S hS) (fun j hj => (h2 j hj).trans (hge j hj)) (by rw [qf] at h3; exact lm_is_mod h3 0 (by grind)) hl I
  exact loop n 0 0 0 f ls _ _ (by omega) (by decide) (by simp [lm_u]) (fun _ _ => rfl) (by simpa using hxf) hl (by rw [va_up_same hσa]; exact I)
set_option maxHeartbeats 4000000 in
set_option maxRecDepth 100000 in
theorem c_Limbs_addProductM {l : Launch} {D : va_G} {cI cJ cZ cC cG cP : ClassId} {N : Nat} {ad : Nat → Nat} {σ : Nat → va_E} {a b c9 La Lb Lc n : Nat} {f g h : Nat → Int32} {x y z : Int} (hNa : a < N) (hNb : b < N) (hNc : c9 < N) (hσa : σ a = .inl (cI, La, .inl f)) (hσb : σ b = .inl (cI, Lb, .inl g)) (hσc : σ c9 = .inl (cI, Lc, .inl h)) (hba : b ≠ a) (hca : c9 ≠ a) (hn : n ≤ La) (hLa : La < 2 ^ 31) (hnb : n ≤ Lb) (hLb : Lb < 2 ^ 31) (hnc : n ≤ Lc) (hLc : Lc < 2 ^ 31) (hxf : lm_is f n x) (hyg : lm_is g n y) (hzh : lm_is h n z) :
    Met l y_Limbs_addProduct v_Limbs_addProduct (xrm 1) (va_Pc [.ref (ad a), .ref (ad b), .ref (ad c9), .int ((-1)), .int (nI n)] (xS D classes (xT cI cJ cZ cC cG cP) N ad σ)) (va_Qv (lm_up σ a cI La f n (x - y * z)) (xS D classes (xT cI cJ cZ cC cG cP) N ad) (xA N ad)) 0 0 (xA N ad) := by
  refine xr_met rfl (Nat.le_of_ble_eq_true rfl) ?_
  intro p e s m args below meth c ls hx hb X hr hlk hl I
  have hl : lv_has ls 9 [(0, .ref (ad a)), (1, .ref (ad b)), (2, .ref (ad c9)), (3, .int ((-1))), (4, .int (nI n))] := hl
  refine lv_iconst (v := nI 0) hx hb d_Limbs_addProduct_0 (by decide) ?_
  refine lv_istore (lv' := [(5, .int (nI 0)), (0, .ref (ad a)), (1, .ref (ad b)), (2, .ref (ad c9)), (3, .int ((-1))), (4, .int (nI n))]) hx hb d_Limbs_addProduct_1 hl (by decide) rfl (fun ls hl => ?_)
  refine lv_iconst (v := nI 0) hx hb d_Limbs_addProduct_3 (by decide) ?_
  refine lv_istore (lv' := [(6, .int (nI 0)), (5, .int (nI 0)), (0, .ref (ad a)), (1, .ref (ad b)), (2, .ref (ad c9)), (3, .int ((-1))), (4, .int (nI n))]) hx hb d_Limbs_addProduct_4 hl (by decide) rfl (fun ls hl => ?_)
  have loop : ∀ (k : Nat) (i cy : Nat) (S : Int) (f' : Nat → Int32) (ls : Array Slot) (H : Heap) (locs : List Loc), i + k = n → cy ≤ 1 → S + (cy : Int) * 1073741824 ^ i = lm_u h i → (∀ j, n ≤ j → f' j = f j) → lm_is f' n (x - y * S) → lv_has ls 9 [(6, .int (nI i)), (5, .int (nI cy)), (0, .ref (ad a)), (1, .ref (ad b)), (2, .ref (ad c9)), (3, .int ((-1))), (4, .int (nI n))] → xI D classes N ad s.heap (va_up σ a (.inl (cI, La, .inl f'))) H locs → W p l e (xrm 1) s m args below meth c H locs 0 0 (MQ below (va_Qv (lm_up σ a cI La f n (x - y * z)) (xS D classes (xT cI cJ cZ cC cG cP) N ad) (xA N ad)) args s 0 0 (xA N ad)) (F0 m 6 ls []) := by
    intro k
    induction k with
    | zero =>
      intro i cy S f' ls H locs hk hcy hS hge hf' hl I
      obtain rfl : i = n := by omega
      refine lv_iload hx hb d_Limbs_addProduct_6 (lv_at hl 0 rfl) ?_
      refine lv_iload hx hb d_Limbs_addProduct_8 (lv_at hl 6 rfl) ?_
      refine lv_icmp_ge hx hb d_Limbs_addProduct_10 rfl (fun hc => ?_) (fun hc => ?_)
      · obtain ⟨-, q9, hz9⟩ := hzh
        exact xr_vret X I hr hlk ⟨f', rfl, hge, lm_is_mod hf' (-(y * (q9 + cy))) (by rw [hz9, ← hS]; grind)⟩ d_Limbs_addProduct_67
      · exact absurd (nI_le (Nat.le_refl _) (by omega)) hc
    | succ k ih =>
      intro i cy S f' ls H locs hk hcy hS hge hf' hl I
      refine lv_iload hx hb d_Limbs_addProduct_6 (lv_at hl 0 rfl) ?_
      refine lv_iload hx hb d_Limbs_addProduct_8 (lv_at hl 6 rfl) ?_
      refine lv_icmp_ge hx hb d_Limbs_addProduct_10 rfl (fun hc => ?_) (fun hc => ?_)
      · exact absurd hc (nI_ge (by omega) (by omega))
      · refine lv_aload_n hx hb d_Limbs_addProduct_13 rfl (lv_at hl 4 rfl) ?_
        refine lv_iload hx hb d_Limbs_addProduct_14 (lv_at hl 0 rfl) ?_
        refine xr_iald X I c9 0 hNc ((va_up_ne _ _ hca).trans hσc) rfl (by omega) hLc d_Limbs_addProduct_16 ?_
        refine lv_i2l hx hb d_Limbs_addProduct_17 rfl ?_
        refine lv_iload hx hb d_Limbs_addProduct_18 (lv_at hl 1 rfl) ?_
        refine lv_i2l hx hb d_Limbs_addProduct_20 rfl ?_
        refine lv_ladd hx hb d_Limbs_addProduct_21 ?_
        refine lv_topl (fun g0 eg0 => ?_)
        have hhi := hzh.1 i (by omega)
        have q0 : g0.toInt = (h i).toInt + cy := by rw [eg0, q_ladd (by rw [q_i2l, q_i2l, nI_toInt (by omega)]; omega) (by rw [q_i2l, q_i2l, nI_toInt (by omega)]; omega), q_i2l, q_i2l, nI_toInt (by omega)]
        refine lv_lstore (lv' := [(7, .long g0), (6, .int (nI i)), (5, .int (nI cy)), (0, .ref (ad a)), (1, .ref (ad b)), (2, .ref (ad c9)), (3, .int ((-1))), (4, .int (nI n))]) hx hb d_Limbs_addProduct_22 hl (by decide) rfl (fun ls hl => ?_)
        refine lv_iconst (v := nI 0) hx hb d_Limbs_addProduct_24 (by decide) ?_
        refine lv_istore (lv' := [(5, .int (nI 0)), (7, .long g0), (6, .int (nI i)), (0, .ref (ad a)), (1, .ref (ad b)), (2, .ref (ad c9)), (3, .int ((-1))), (4, .int (nI n))]) hx hb d_Limbs_addProduct_25 hl (by decide) rfl (fun ls hl => ?_)
        refine lv_lload hx hb d_Limbs_addProduct_27 (lv_at hl 1 rfl) ?_
        refine lv_ldc2 (v := 536870912) hx hb X.1.2.2.2.1 (X.1.2.2.2.2 _ (List.mem_cons_of_mem _ k_0c9e0e9e73)) d_Limbs_addProduct_29 ?_
        refine W.lcmp hx hb d_Limbs_addProduct_32 ?_
        refine lv_if_le hx hb d_Limbs_addProduct_33 rfl (fun hc2 => ?_) (fun hc2 => ?_)
        · have hle : g0.toInt ≤ 536870912 := by have := Int64.le_iff_toInt_le.mp ((lg_cmp_le _ _).mp hc2); rw [show (536870912 : Int64).toInt = 536870912 by decide] at this; exact this
          refine lv_aload_n hx hb d_Limbs_addProduct_47 rfl (lv_at hl 3 rfl) ?_
          refine lv_aload_n hx hb d_Limbs_addProduct_48 rfl (lv_at hl 4 rfl) ?_
          refine lv_iload_n hx hb d_Limbs_addProduct_49 rfl (lv_at hl 6 rfl) ?_
          refine lv_i2l hx hb d_Limbs_addProduct_50 rfl ?_
          refine lv_lload hx hb d_Limbs_addProduct_51 (lv_at hl 1 rfl) ?_
          refine lv_lmul hx hb d_Limbs_addProduct_53 ?_
          refine lv_topl (fun fd efd => ?_)
          have qf : fd.toInt = -1 * g0.toInt := by
            have e0 : ((-1) : Int32).toInt64.toInt = -1 := by decide
            rw [efd, q_lmul (by rw [e0]; omega) (by rw [e0]; omega), e0]
          refine lv_iload hx hb d_Limbs_addProduct_54 (lv_at hl 2 rfl) ?_
          refine lv_iload hx hb d_Limbs_addProduct_56 (lv_at hl 7 rfl) ?_
          refine xr_callv (xr_runS (kc := 0) (kr := 1) (n := 5) (As := [.ref (ad a), .ref (ad b), .long fd, .int (nI i), .int (nI n)]) (rest := []) X I (c_Limbs_addTimes (σ := va_up σ a (.inl (cI, La, .inl f'))) (x := x - y * S) (y := y) hNa hNb (va_up_self _ _ _) ((va_up_ne _ _ hba).trans hσb) hba ⟨by omega, by omega⟩ (show i ≤ n by omega) hn hLa (by omega) hLb hf' (lm_is_le hyg (by omega))) (xg k_c80bea473c) (List.mem_cons_of_mem _ k_344626c77a) (List.mem_cons_of_mem _ k_0ef42f4896) (List.mem_cons_of_mem _ k_b15d0305ca) (by decide +kernel) (by decide) rfl hl.1 rfl (Nat.le_of_ble_eq_true rfl) d_Limbs_addProduct_58) I (fun σ1 H locs hp I => ?_)
          obtain ⟨f2, rfl, h2, h3⟩ := hp
          rw [va_up_up] at I
          refine lv_iinc (k := 2) (v := nI (i + 1)) (lv' := [(6, .int (nI (i + 1))), (5, .int (nI 0)), (7, .long g0), (0, .ref (ad a)), (1, .ref (ad b)), (2, .ref (ad c9)), (3, .int ((-1))), (4, .int (nI n))]) hx hb d_Limbs_addProduct_61 hl rfl (nI_1 i) (by decide) rfl (fun ls hl => ?_)
          refine lv_goto hx hb d_Limbs_addProduct_64 rfl ?_
          have hl := lv_sub hl [0, 1, 3, 4, 5, 6, 7] rfl
          have hl : lv_has ls 9 [(6, .int (nI (i + 1))), (5, .int (nI 0)), (0, .ref (ad a)), (1, .ref (ad b)), (2, .ref (ad c9)), (3, .int ((-1))), (4, .int (nI n))] := hl
          exact ih (i + 1) 0 (S + g0.toInt * 1073741824 ^ i) f2 ls H locs (by omega) (by decide) (lm_prod (c := h) (cy := cy) (cy' := ((0 : Nat) : Int)) (by omega) S hS) (fun j hj => (h2 j hj).trans (hge j hj)) (by rw [qf] at h3; exact lm_is_mod h3 0 (by grind)) hl I
        · have hgt : ¬ g0.toInt ≤ 536870912 := fun h => hc2 ((lg_cmp_le _ _).mpr (Int64.le_iff_toInt_le.mpr (by rw [show (536870912 : Int64).toInt = 536870912 by decide]; exact h)))
          refine lv_lload hx hb d_Limbs_addProduct_36 (lv_at hl 1 rfl) ?_
          refine lv_ldc2 (v := 1073741824) hx hb X.1.2.2.2.1 (X.1.2.2.2.2 _ (List.mem_cons_of_mem _ k_e2253de6ce)) d_Limbs_addProduct_38 ?_
          refine lv_lsub hx hb d_Limbs_addProduct_41 ?_
          refine lv_topl (fun g1 eg1 => ?_)
          have q1 : g1.toInt = g0.toInt - 1073741824 := by
            have e0 : (1073741824 : Int64).toInt = 1073741824 := by decide
            rw [eg1, q_lsub (by rw [e0]; omega) (by rw [e0]; omega), e0]
          refine lv_lstore (lv' := [(7, .long g1), (5, .int (nI 0)), (6, .int (nI i)), (0, .ref (ad a)), (1, .ref (ad b)), (2, .ref (ad c9)), (3, .int ((-1))), (4, .int (nI n))]) hx hb d_Limbs_addProduct_42 hl (by decide) rfl (fun ls hl => ?_)
          refine lv_iconst (v := nI 1) hx hb d_Limbs_addProduct_44 (by decide) ?_
          refine lv_istore (lv' := [(5, .int (nI 1)), (7, .long g1), (6, .int (nI i)), (0, .ref (ad a)), (1, .ref (ad b)), (2, .ref (ad c9)), (3, .int ((-1))), (4, .int (nI n))]) hx hb d_Limbs_addProduct_45 hl (by decide) rfl (fun ls hl => ?_)
          refine lv_aload_n hx hb d_Limbs_addProduct_47 rfl (lv_at hl 3 rfl) ?_
          refine lv_aload_n hx hb d_Limbs_addProduct_48 rfl (lv_at hl 4 rfl) ?_
          refine lv_iload_n hx hb d_Limbs_addProduct_49 rfl (lv_at hl 6 rfl) ?_
          refine lv_i2l hx hb d_Limbs_addProduct_50 rfl ?_
          refine lv_lload hx hb d_Limbs_addProduct_51 (lv_at hl 1 rfl) ?_
          refine lv_lmul hx hb d_Limbs_addProduct_53 ?_
          refine lv_topl (fun fd efd => ?_)
          have qf : fd.toInt = -1 * g1.toInt := by
            have e0 : ((-1) : Int32).toInt64.toInt = -1 := by decide
            rw [efd, q_lmul (by rw [e0]; omega) (by rw [e0]; omega), e0]
          refine lv_iload hx hb d_Limbs_addProduct_54 (lv_at hl 2 rfl) ?_
          refine lv_iload hx hb d_Limbs_addProduct_56 (lv_at hl 7 rfl) ?_
          refine xr_callv (xr_runS (kc := 0) (kr := 1) (n := 5) (As := [.ref (ad a), .ref (ad b), .long fd, .int (nI i), .int (nI n)]) (rest := []) X I (c_Limbs_addTimes (σ := va_up σ a (.inl (cI, La, .inl f'))) (x := x - y * S) (y := y) hNa hNb (va_up_self _ _ _) ((va_up_ne _ _ hba).trans hσb) hba ⟨by omega, by omega⟩ (show i ≤ n by omega) hn hLa (by omega) hLb hf' (lm_is_le hyg (by omega))) (xg k_c80bea473c) (List.mem_cons_of_mem _ k_344626c77a) (List.mem_cons_of_mem _ k_0ef42f4896) (List.mem_cons_of_mem _ k_b15d0305ca) (by decide +kernel) (by decide) rfl hl.1 rfl (Nat.le_of_ble_eq_true rfl) d_Limbs_addProduct_58) I (fun σ1 H locs hp I => ?_)
          obtain ⟨f2, rfl, h2, h3⟩ := hp
          rw [va_up_up] at I
          refine lv_iinc (k := 2) (v := nI (i + 1)) (lv' := [(6, .int (nI (i + 1))), (5, .int (nI 1)), (7, .long g1), (0, .ref (ad a)), (1, .ref (ad b)), (2, .ref (ad c9)), (3, .int ((-1))), (4, .int (nI n))]) hx hb d_Limbs_addProduct_61 hl rfl (nI_1 i) (by decide) rfl (fun ls hl => ?_)
          refine lv_goto hx hb d_Limbs_addProduct_64 rfl ?_
          have hl := lv_sub hl [0, 1, 3, 4, 5, 6, 7] rfl
          have hl : lv_has ls 9 [(6, .int (nI (i + 1))), (5, .int (nI 1)), (0, .ref (ad a)), (1, .ref (ad b)), (2, .ref (ad c9)), (3, .int ((-1))), (4, .int (nI n))] := hl
          exact ih (i + 1) 1 (S + g1.toInt * 1073741824 ^ i) f2 ls H locs (by omega) (by decide) (lm_prod (c := h) (cy := cy) (cy' := ((1 : Nat) : Int)) (by omega) S hS) (fun j hj => (h2 j hj).trans (hge j hj)) (by rw [qf] at h3; exact lm_is_mod h3 0 (by grind)) hl I
  exact loop n 0 0 0 f ls _ _ (by omega) (by decide) (by simp [lm_u]) (fun _ _ => rfl) (by simpa using hxf) hl (by rw [va_up_same hσa]; exact I)
