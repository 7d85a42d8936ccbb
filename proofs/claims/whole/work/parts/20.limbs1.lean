/-! SpectrumDesk$Limbs: addTimes, sign (written by wip/gen) -/
abbrev b_Limbs_addTimes : ByteArray := prog_4_method_6_code
abbrev y_Limbs_addTimes : MethodName := ⟨"SpectrumDesk$Limbs", "addTimes", "([I[IJII)V"⟩
abbrev v_Limbs_addTimes : List Cond := Cond.code y_Limbs_addTimes b_Limbs_addTimes 9 none :: AW
theorem d_Limbs_addTimes_0 : decode b_Limbs_addTimes 0 = .ok (.lload_n 2, 1) := by decide +kernel
theorem d_Limbs_addTimes_1 : decode b_Limbs_addTimes 1 = .ok (.lconst 0, 1) := by decide +kernel
theorem d_Limbs_addTimes_2 : decode b_Limbs_addTimes 2 = .ok (.lcmp, 1) := by decide +kernel
theorem d_Limbs_addTimes_3 : decode b_Limbs_addTimes 3 = .ok (.ifCond .ne (4), 3) := by decide +kernel
theorem d_Limbs_addTimes_6 : decode b_Limbs_addTimes 6 = .ok (.return_, 1) := by decide +kernel
theorem d_Limbs_addTimes_7 : decode b_Limbs_addTimes 7 = .ok (.lconst 0, 1) := by decide +kernel
theorem d_Limbs_addTimes_8 : decode b_Limbs_addTimes 8 = .ok (.lstore 6, 2) := by decide +kernel
theorem d_Limbs_addTimes_10 : decode b_Limbs_addTimes 10 = .ok (.iload 4, 2) := by decide +kernel
theorem d_Limbs_addTimes_12 : decode b_Limbs_addTimes 12 = .ok (.istore 8, 2) := by decide +kernel
theorem d_Limbs_addTimes_14 : decode b_Limbs_addTimes 14 = .ok (.iload 8, 2) := by decide +kernel
theorem d_Limbs_addTimes_16 : decode b_Limbs_addTimes 16 = .ok (.iload 5, 2) := by decide +kernel
theorem d_Limbs_addTimes_18 : decode b_Limbs_addTimes 18 = .ok (.if_icmp .ge (48), 3) := by decide +kernel
theorem d_Limbs_addTimes_21 : decode b_Limbs_addTimes 21 = .ok (.lload 6, 2) := by decide +kernel
theorem d_Limbs_addTimes_23 : decode b_Limbs_addTimes 23 = .ok (.aload_n 0, 1) := by decide +kernel
theorem d_Limbs_addTimes_24 : decode b_Limbs_addTimes 24 = .ok (.iload 8, 2) := by decide +kernel
theorem d_Limbs_addTimes_26 : decode b_Limbs_addTimes 26 = .ok (.iaload, 1) := by decide +kernel
theorem d_Limbs_addTimes_27 : decode b_Limbs_addTimes 27 = .ok (.i2l, 1) := by decide +kernel
theorem d_Limbs_addTimes_28 : decode b_Limbs_addTimes 28 = .ok (.aload_n 1, 1) := by decide +kernel
theorem d_Limbs_addTimes_29 : decode b_Limbs_addTimes 29 = .ok (.iload 8, 2) := by decide +kernel
theorem d_Limbs_addTimes_31 : decode b_Limbs_addTimes 31 = .ok (.iload 4, 2) := by decide +kernel
theorem d_Limbs_addTimes_33 : decode b_Limbs_addTimes 33 = .ok (.isub, 1) := by decide +kernel
theorem d_Limbs_addTimes_34 : decode b_Limbs_addTimes 34 = .ok (.iaload, 1) := by decide +kernel
theorem d_Limbs_addTimes_35 : decode b_Limbs_addTimes 35 = .ok (.i2l, 1) := by decide +kernel
theorem d_Limbs_addTimes_36 : decode b_Limbs_addTimes 36 = .ok (.lload_n 2, 1) := by decide +kernel
theorem d_Limbs_addTimes_37 : decode b_Limbs_addTimes 37 = .ok (.lmul, 1) := by decide +kernel
theorem d_Limbs_addTimes_38 : decode b_Limbs_addTimes 38 = .ok (.ladd, 1) := by decide +kernel
theorem d_Limbs_addTimes_39 : decode b_Limbs_addTimes 39 = .ok (.ladd, 1) := by decide +kernel
theorem d_Limbs_addTimes_40 : decode b_Limbs_addTimes 40 = .ok (.lstore 6, 2) := by decide +kernel
theorem d_Limbs_addTimes_42 : decode b_Limbs_addTimes 42 = .ok (.aload_n 0, 1) := by decide +kernel
theorem d_Limbs_addTimes_43 : decode b_Limbs_addTimes 43 = .ok (.iload 8, 2) := by decide +kernel
theorem d_Limbs_addTimes_45 : decode b_Limbs_addTimes 45 = .ok (.lload 6, 2) := by decide +kernel
theorem d_Limbs_addTimes_47 : decode b_Limbs_addTimes 47 = .ok (.ldc2_w 32, 3) := by decide +kernel
theorem d_Limbs_addTimes_50 : decode b_Limbs_addTimes 50 = .ok (.land, 1) := by decide +kernel
theorem d_Limbs_addTimes_51 : decode b_Limbs_addTimes 51 = .ok (.l2i, 1) := by decide +kernel
theorem d_Limbs_addTimes_52 : decode b_Limbs_addTimes 52 = .ok (.iastore, 1) := by decide +kernel
theorem d_Limbs_addTimes_53 : decode b_Limbs_addTimes 53 = .ok (.lload 6, 2) := by decide +kernel
theorem d_Limbs_addTimes_55 : decode b_Limbs_addTimes 55 = .ok (.bipush (30), 2) := by decide +kernel
theorem d_Limbs_addTimes_57 : decode b_Limbs_addTimes 57 = .ok (.lshr, 1) := by decide +kernel
theorem d_Limbs_addTimes_58 : decode b_Limbs_addTimes 58 = .ok (.lstore 6, 2) := by decide +kernel
theorem d_Limbs_addTimes_60 : decode b_Limbs_addTimes 60 = .ok (.iinc 8 (1), 3) := by decide +kernel
theorem d_Limbs_addTimes_63 : decode b_Limbs_addTimes 63 = .ok (.goto (-49), 3) := by decide +kernel
theorem d_Limbs_addTimes_66 : decode b_Limbs_addTimes 66 = .ok (.return_, 1) := by decide +kernel
abbrev b_Limbs_sign : ByteArray := prog_4_method_5_code
abbrev y_Limbs_sign : MethodName := ⟨"SpectrumDesk$Limbs", "sign", "([II)I"⟩
abbrev v_Limbs_sign : List Cond := Cond.code y_Limbs_sign b_Limbs_sign 3 (some .int) :: AW
theorem d_Limbs_sign_0 : decode b_Limbs_sign 0 = .ok (.aload_n 0, 1) := by decide +kernel
theorem d_Limbs_sign_1 : decode b_Limbs_sign 1 = .ok (.iload_n 1, 1) := by decide +kernel
theorem d_Limbs_sign_2 : decode b_Limbs_sign 2 = .ok (.iconst 1, 1) := by decide +kernel
theorem d_Limbs_sign_3 : decode b_Limbs_sign 3 = .ok (.isub, 1) := by decide +kernel
theorem d_Limbs_sign_4 : decode b_Limbs_sign 4 = .ok (.iaload, 1) := by decide +kernel
theorem d_Limbs_sign_5 : decode b_Limbs_sign 5 = .ok (.ldc 28, 2) := by decide +kernel
theorem d_Limbs_sign_7 : decode b_Limbs_sign 7 = .ok (.if_icmp .lt (5), 3) := by decide +kernel
theorem d_Limbs_sign_10 : decode b_Limbs_sign 10 = .ok (.iconst (-1), 1) := by decide +kernel
theorem d_Limbs_sign_11 : decode b_Limbs_sign 11 = .ok (.ireturn, 1) := by decide +kernel
theorem d_Limbs_sign_12 : decode b_Limbs_sign 12 = .ok (.iload_n 1, 1) := by decide +kernel
theorem d_Limbs_sign_13 : decode b_Limbs_sign 13 = .ok (.iconst 1, 1) := by decide +kernel
theorem d_Limbs_sign_14 : decode b_Limbs_sign 14 = .ok (.isub, 1) := by decide +kernel
theorem d_Limbs_sign_15 : decode b_Limbs_sign 15 = .ok (.istore_n 2, 1) := by decide +kernel
theorem d_Limbs_sign_16 : decode b_Limbs_sign 16 = .ok (.iload_n 2, 1) := by decide +kernel
theorem d_Limbs_sign_17 : decode b_Limbs_sign 17 = .ok (.ifCond .lt (17), 3) := by decide +kernel
theorem d_Limbs_sign_20 : decode b_Limbs_sign 20 = .ok (.aload_n 0, 1) := by decide +kernel
theorem d_Limbs_sign_21 : decode b_Limbs_sign 21 = .ok (.iload_n 2, 1) := by decide +kernel
theorem d_Limbs_sign_22 : decode b_Limbs_sign 22 = .ok (.iaload, 1) := by decide +kernel
theorem d_Limbs_sign_23 : decode b_Limbs_sign 23 = .ok (.ifCond .eq (5), 3) := by decide +kernel
theorem d_Limbs_sign_26 : decode b_Limbs_sign 26 = .ok (.iconst 1, 1) := by decide +kernel
theorem d_Limbs_sign_27 : decode b_Limbs_sign 27 = .ok (.ireturn, 1) := by decide +kernel
theorem d_Limbs_sign_28 : decode b_Limbs_sign 28 = .ok (.iinc 2 (-1), 3) := by decide +kernel
theorem d_Limbs_sign_31 : decode b_Limbs_sign 31 = .ok (.goto (-15), 3) := by decide +kernel
theorem d_Limbs_sign_34 : decode b_Limbs_sign 34 = .ok (.iconst 0, 1) := by decide +kernel
theorem d_Limbs_sign_35 : decode b_Limbs_sign 35 = .ok (.ireturn, 1) := by decide +kernel
theorem k_4b4bee73ee : (Jvm.Cond.constantLong "SpectrumDesk$Limbs" (32 : Nat) (1073741823 : Int64)) ∈ AW := aw_2 (List.mem_of_getElem? (i := 51) (by decide +kernel)) (by decide +kernel)
theorem k_660c696ae3 : (Jvm.Cond.constant "SpectrumDesk$Limbs" (28 : Nat) (536870912 : Int32)) ∈ AW := aw_2 (List.mem_of_getElem? (i := 74) (by decide +kernel)) (by decide +kernel)
theorem k_c80bea473c : (Jvm.Cond.code ({ cls := "SpectrumDesk$Limbs", name := "addTimes", desc := "([I[IJII)V" } : Jvm.MethodName) prog_4_method_6_code (9 : Nat) (Option.none : Option Jvm.ClassFile.FieldType)) ∈ AW := aw_2 (List.mem_of_getElem? (i := 50) (by decide +kernel)) (by decide +kernel)
theorem k_507de67514 : (Jvm.Cond.code ({ cls := "SpectrumDesk$Limbs", name := "sign", desc := "([II)I" } : Jvm.MethodName) prog_4_method_5_code (3 : Nat) (Option.some Jvm.ClassFile.FieldType.int)) ∈ AW := aw_3 (List.mem_of_getElem? (i := 183) (by decide +kernel)) (by decide +kernel)
set_option maxHeartbeats 4000000 in
set_option maxRecDepth 100000 in
theorem c_Limbs_addTimes {l : Launch} {D : va_G} {cI cJ cZ cC cG cP : ClassId} {N : Nat} {ad : Nat → Nat} {σ : Nat → va_E} {a b La Lb off n : Nat} {f g : Nat → Int32} {d : Int64} {x y : Int} (hNa : a < N) (hNb : b < N) (hσa : σ a = .inl (cI, La, .inl f)) (hσb : σ b = .inl (cI, Lb, .inl g)) (hba : b ≠ a) (hd : -1073741824 ≤ d.toInt ∧ d.toInt ≤ 1073741824) (hoff : off ≤ n) (hn : n ≤ La) (hLa : La < 2 ^ 31) (hnb : n - off ≤ Lb) (hLb : Lb < 2 ^ 31) (hxf : lm_is f n x) (hyg : lm_is g (n - off) y) :
    Met l y_Limbs_addTimes v_Limbs_addTimes (xrm 0) (va_Pc [.ref (ad a), .ref (ad b), .long d, .int (nI off), .int (nI n)] (xS D classes (xT cI cJ cZ cC cG cP) N ad σ)) (va_Qv (lm_up σ a cI La f n (x + d.toInt * 1073741824 ^ off * y)) (xS D classes (xT cI cJ cZ cC cG cP) N ad) (xA N ad)) 0 0 (xA N ad) := by
  have hf := hxf.1
  have hg := hyg.1
  refine xr_met rfl (Nat.le_of_ble_eq_true rfl) ?_
  intro p e s m args below meth c ls hx hb X hr hlk hl I
  have hl : lv_has ls 9 [(0, .ref (ad a)), (1, .ref (ad b)), (2, .long d), (4, .int (nI off)), (5, .int (nI n))] := hl
  refine lv_lload_n hx hb d_Limbs_addTimes_0 rfl (lv_at hl 2 rfl) ?_
  refine lv_lconst (v := 0) hx hb d_Limbs_addTimes_1 (by decide) ?_
  refine W.lcmp hx hb d_Limbs_addTimes_2 ?_
  refine lv_if_ne hx hb d_Limbs_addTimes_3 rfl (fun hz => ?_) (fun hz => ?_)
  · refine lv_lconst (v := 0) hx hb d_Limbs_addTimes_7 (by decide) ?_
    refine lv_lstore (lv' := [(6, .long 0), (0, .ref (ad a)), (1, .ref (ad b)), (2, .long d), (4, .int (nI off)), (5, .int (nI n))]) hx hb d_Limbs_addTimes_8 hl (by decide) rfl (fun ls hl => ?_)
    refine lv_iload hx hb d_Limbs_addTimes_10 (lv_at hl 4 rfl) ?_
    refine lv_istore (lv' := [(8, .int (nI off)), (6, .long 0), (0, .ref (ad a)), (1, .ref (ad b)), (2, .long d), (4, .int (nI off)), (5, .int (nI n))]) hx hb d_Limbs_addTimes_12 hl (by decide) rfl (fun ls hl => ?_)
    have loop : ∀ (k i : Nat) (f' : Nat → Int32) (cy : Int64) (ls : Array Slot) (H : Heap) (locs : List Loc), i + k = n → off ≤ i → (-1073741824 ≤ cy.toInt ∧ cy.toInt ≤ 1073741824) → lm_ok f' n → (∀ j, i ≤ j → f' j = f j) → lm_u f' i + cy.toInt * 1073741824 ^ i = lm_u f i + d.toInt * 1073741824 ^ off * lm_u g (i - off) → lv_has ls 9 [(8, .int (nI i)), (6, .long cy), (0, .ref (ad a)), (1, .ref (ad b)), (2, .long d), (4, .int (nI off)), (5, .int (nI n))] → xI D classes N ad s.heap (va_up σ a (.inl (cI, La, .inl f'))) H locs → W p l e (xrm 0) s m args below meth c H locs 0 0 (MQ below (va_Qv (lm_up σ a cI La f n (x + d.toInt * 1073741824 ^ off * y)) (xS D classes (xT cI cJ cZ cC cG cP) N ad) (xA N ad)) args s 0 0 (xA N ad)) (F0 m 14 ls []) := by
        intro k
        induction k with
        | zero =>
          intro i f' cy ls H locs hik hoi hcy hok hge inv hl I
          obtain rfl : i = n := by omega
          refine lv_iload hx hb d_Limbs_addTimes_14 (lv_at hl 0 rfl) ?_
          refine lv_iload hx hb d_Limbs_addTimes_16 (lv_at hl 6 rfl) ?_
          refine lv_icmp_ge hx hb d_Limbs_addTimes_18 rfl (fun hc => ?_) (fun hc => ?_)
          · exact xr_vret X I hr hlk ⟨f', rfl, hge, lm_add_is (q := -cy.toInt) hoi hok (by rw [Int.neg_mul]; omega) hxf hyg⟩ d_Limbs_addTimes_66
          · exact absurd (nI_le (Nat.le_refl _) (by omega)) hc
        | succ k ih =>
          intro i f' cy ls H locs hik hoi hcy hok hge inv hl I
          refine lv_iload hx hb d_Limbs_addTimes_14 (lv_at hl 0 rfl) ?_
          refine lv_iload hx hb d_Limbs_addTimes_16 (lv_at hl 6 rfl) ?_
          refine lv_icmp_ge hx hb d_Limbs_addTimes_18 rfl (fun hc => ?_) (fun hc => ?_)
          · exact absurd hc (nI_ge (by omega) (by omega))
          · refine lv_lload hx hb d_Limbs_addTimes_21 (lv_at hl 1 rfl) ?_
            refine lv_aload_n hx hb d_Limbs_addTimes_23 rfl (lv_at hl 2 rfl) ?_
            refine lv_iload hx hb d_Limbs_addTimes_24 (lv_at hl 0 rfl) ?_
            refine xr_iald X I a 0 hNa (va_up_self _ _ _) rfl (by omega) hLa d_Limbs_addTimes_26 ?_
            refine lv_i2l hx hb d_Limbs_addTimes_27 rfl ?_
            refine lv_aload_n hx hb d_Limbs_addTimes_28 rfl (lv_at hl 3 rfl) ?_
            refine lv_iload hx hb d_Limbs_addTimes_29 (lv_at hl 0 rfl) ?_
            refine lv_iload hx hb d_Limbs_addTimes_31 (lv_at hl 5 rfl) ?_
            refine lv_isub hx hb d_Limbs_addTimes_33 (xr_topi (y := nI (i - off)) (pk_sub hoi) ?_)
            refine xr_iald X I b 0 hNb ((va_up_ne _ _ hba).trans hσb) rfl (by omega) hLb d_Limbs_addTimes_34 ?_
            refine lv_i2l hx hb d_Limbs_addTimes_35 rfl ?_
            refine lv_lload_n hx hb d_Limbs_addTimes_36 rfl (lv_at hl 4 rfl) ?_
            refine lv_lmul hx hb d_Limbs_addTimes_37 ?_
            refine lv_ladd hx hb d_Limbs_addTimes_38 ?_
            refine lv_ladd hx hb d_Limbs_addTimes_39 ?_
            refine lv_topl (fun T eT => ?_)
            have hT := lm_carry hcy hd (hok i (by omega)) (hg (i - off) (by omega))
            rw [← eT] at hT
            have hv := lm_limb hT.2
            refine lv_lstore (lv' := [(6, .long T), (8, .int (nI i)), (0, .ref (ad a)), (1, .ref (ad b)), (2, .long d), (4, .int (nI off)), (5, .int (nI n))]) hx hb d_Limbs_addTimes_40 hl (by decide) rfl (fun ls hl => ?_)
            refine lv_aload_n hx hb d_Limbs_addTimes_42 rfl (lv_at hl 2 rfl) ?_
            refine lv_iload hx hb d_Limbs_addTimes_43 (lv_at hl 1 rfl) ?_
            refine lv_lload hx hb d_Limbs_addTimes_45 (lv_at hl 0 rfl) ?_
            refine lv_ldc2 (v := 1073741823) hx hb X.1.2.2.2.1 (X.1.2.2.2.2 _ (List.mem_cons_of_mem _ k_4b4bee73ee)) d_Limbs_addTimes_47 ?_
            refine lv_land hx hb d_Limbs_addTimes_50 ?_
            refine lv_l2i hx hb d_Limbs_addTimes_51 rfl ?_
            refine lv_topi (fun v ev => ?_)
            refine xr_iast X I a 0 hNa (va_up_self _ _ _) rfl (by omega) hLa d_Limbs_addTimes_52 (fun H locs I => ?_)
            refine lv_lload hx hb d_Limbs_addTimes_53 (lv_at hl 0 rfl) ?_
            refine lv_bipush (v := nI 30) hx hb d_Limbs_addTimes_55 (by decide) ?_
            refine lv_lshr hx hb d_Limbs_addTimes_57 rfl ?_
            rw [va_up_up] at I
            refine lv_topl (fun c2 ec => ?_)
            refine lv_lstore (lv' := [(6, .long c2), (8, .int (nI i)), (0, .ref (ad a)), (1, .ref (ad b)), (2, .long d), (4, .int (nI off)), (5, .int (nI n))]) hx hb d_Limbs_addTimes_58 hl (by decide) rfl (fun ls hl => ?_)
            refine lv_iinc (k := 1) (v := nI (i + 1)) (lv' := [(8, .int (nI (i + 1))), (6, .long c2), (0, .ref (ad a)), (1, .ref (ad b)), (2, .long d), (4, .int (nI off)), (5, .int (nI n))]) hx hb d_Limbs_addTimes_60 hl rfl (nI_1 i) (by decide) rfl (fun ls hl => ?_)
            refine lv_goto hx hb d_Limbs_addTimes_63 rfl ?_
            rw [← ev, ← ec] at hv
            refine ih (i + 1) (upd f' i v) c2 ls H locs (by omega) (by omega) hv.2.2 (lm_ok_upd hok (by omega)) (fun j hj => ?_) (lm_step hoi inv ?_) hl I
            · rw [show upd f' i v j = f' j from if_neg (by omega)]; exact hge j (by omega)
            · have e := hge i (Nat.le_refl _); rw [e] at hT; omega
    exact loop (n - off) off f 0 ls _ _ (by omega) (Nat.le_refl _) (by decide) hf (fun _ _ => rfl) (by rw [Nat.sub_self]; simp [lm_u]) hl (by rw [va_up_same hσa]; exact I)
  · have hd0 : d = 0 := (lg_cmp_eq d 0).mp hz
    exact xr_vret X I hr hlk ⟨f, (va_up_same hσa).symm, fun _ _ => rfl, by rw [hd0]; simpa using hxf⟩ d_Limbs_addTimes_6
set_option maxHeartbeats 4000000 in
set_option maxRecDepth 100000 in
theorem c_Limbs_sign {l : Launch} {D : va_G} {cI cJ cZ cC cG cP : ClassId} {N : Nat} {ad : Nat → Nat} {σ : Nat → va_E} {a La n : Nat} {f : Nat → Int32} {x : Int} (hNa : a < N) (hσa : σ a = .inl (cI, La, .inl f)) (hn0 : 0 < n) (hn : n ≤ La) (hLa : La < 2 ^ 31) (hx0 : lm_si f n x) :
    Met l y_Limbs_sign v_Limbs_sign (xrm 0) (va_Pc [.ref (ad a), .int (nI n)] (xS D classes (xT cI cJ cZ cC cG cP) N ad σ)) (va_Qi (fun r σ2 => r = sg x ∧ σ2 = σ) (xS D classes (xT cI cJ cZ cC cG cP) N ad) (xA N ad)) 0 0 (xA N ad) := by
  obtain ⟨k, rfl⟩ : ∃ k, n = k + 1 := ⟨n - 1, by omega⟩
  have htop := lm_si_top hx0
  have hcs := lm_si_cases hx0
  have hok := hx0.1.1
  refine xr_met rfl (Nat.le_of_ble_eq_true rfl) ?_
  intro p e s m args below meth c ls hx hb X hr hlk hl I
  have hl : lv_has ls 3 [(0, .ref (ad a)), (1, .int (nI (k + 1)))] := hl
  refine lv_aload_n hx hb d_Limbs_sign_0 rfl (lv_at hl 0 rfl) ?_
  refine lv_iload_n hx hb d_Limbs_sign_1 rfl (lv_at hl 1 rfl) ?_
  refine lv_iconst (v := nI 1) hx hb d_Limbs_sign_2 (by decide) ?_
  refine lv_isub hx hb d_Limbs_sign_3 (xr_topi (y := nI k) (nP_succ k) ?_)
  refine xr_iald X I a 0 hNa hσa rfl (by omega) hLa d_Limbs_sign_4 ?_
  refine lv_ldc (v := nI 536870912) hx hb X.1.2.2.2.1 (X.1.2.2.2.2 _ (List.mem_cons_of_mem _ k_660c696ae3)) d_Limbs_sign_5 ?_
  refine lv_icmp_lt hx hb d_Limbs_sign_7 rfl (fun hc => ?_) (fun hc => ?_)
  · refine lv_iload_n hx hb d_Limbs_sign_12 rfl (lv_at hl 1 rfl) ?_
    refine lv_iconst (v := nI 1) hx hb d_Limbs_sign_13 (by decide) ?_
    refine lv_isub hx hb d_Limbs_sign_14 (xr_topi (y := nP (k + 1)) rfl ?_)
    refine lv_istore_n (lv' := [(2, .int (nP (k + 1))), (0, .ref (ad a)), (1, .int (nI (k + 1)))]) hx hb d_Limbs_sign_15 rfl hl (by decide) rfl (fun ls hl => ?_)
    have hpos : ¬ x < 0 := fun h => by have h1 := htop.mpr h; have h2 := Int32.lt_iff_toInt_lt.mp hc; rw [nI_toInt (by decide)] at h2; omega
    have hu : lm_u f (k + 1) = x := by omega
    have loop : ∀ (i : Nat) (ls : Array Slot), i ≤ k + 1 → (∀ j, i ≤ j → j < k + 1 → f j = 0) → lv_has ls 3 [(2, .int (nP i)), (0, .ref (ad a)), (1, .int (nI (k + 1)))] → W p l e (xrm 0) s m args below meth c s.heap [] 0 0 (MQ below (va_Qi (fun r σ2 => r = sg x ∧ σ2 = σ) (xS D classes (xT cI cJ cZ cC cG cP) N ad) (xA N ad)) args s 0 0 (xA N ad)) (F0 m 16 ls []) := by
        intro i
        induction i with
        | zero =>
          intro ls hi hz hl
          refine lv_iload_n hx hb d_Limbs_sign_16 rfl (lv_at hl 0 rfl) ?_
          refine lv_if_lt hx hb d_Limbs_sign_17 rfl (fun hc => ?_) (fun hc => ?_)
          · refine lv_iconst (v := nI 0) hx hb d_Limbs_sign_34 (by decide) ?_
            have hx00 : x = 0 := by rw [← hu]; exact lm_u_zero hok (fun j hj => hz j (by omega) hj)
            exact xr_iret X I hr hlk ⟨by rw [hx00]; rfl, rfl⟩ d_Limbs_sign_35
          · exact absurd nP_0 hc
        | succ i ih =>
          intro ls hi hz hl
          refine lv_iload_n hx hb d_Limbs_sign_16 rfl (lv_at hl 0 rfl) ?_
          refine xr_topi (y := nI i) (nP_succ i) ?_
          refine lv_if_lt hx hb d_Limbs_sign_17 rfl (fun hc => ?_) (fun hc => ?_)
          · exact absurd hc (nI_pos (by omega))
          · refine lv_aload_n hx hb d_Limbs_sign_20 rfl (lv_at hl 1 rfl) ?_
            refine lv_iload_n hx hb d_Limbs_sign_21 rfl (lv_at hl 0 rfl) ?_
            refine xr_topi (y := nI i) (nP_succ i) ?_
            refine xr_iald X I a 0 hNa hσa rfl (by omega) hLa d_Limbs_sign_22 ?_
            refine lv_if_eq hx hb d_Limbs_sign_23 rfl (fun hv => ?_) (fun hv => ?_)
            · refine lv_iinc (k := 0) (v := nP i) (lv' := [(2, .int (nP i)), (0, .ref (ad a)), (1, .int (nI (k + 1)))]) hx hb d_Limbs_sign_28 hl rfl (nP_dec i) (by decide) rfl (fun ls hl => ?_)
              refine lv_goto hx hb d_Limbs_sign_31 rfl ?_
              exact ih ls (by omega) (fun j h1 h2 => if ej : j = i then (by rw [ej]; exact hv) else hz j (by omega) h2) hl
            · refine lv_iconst (v := nI 1) hx hb d_Limbs_sign_26 (by decide) ?_
              have hx1 : 0 < x := by rw [← hu]; exact lm_u_pos hok (show i < k + 1 by omega) hv
              exact xr_iret X I hr hlk ⟨by rw [sg, if_neg hpos, if_neg (by omega)]; rfl, rfl⟩ d_Limbs_sign_27
    exact loop (k + 1) ls (Nat.le_refl _) (fun j h1 h2 => by omega) hl
  · refine lv_iconst (v := (-1)) hx hb d_Limbs_sign_10 (by decide) ?_
    have hneg : x < 0 := htop.mp (by have := Int32.not_lt.mp hc; have := Int32.le_iff_toInt_le.mp this; rw [nI_toInt (by decide)] at this; omega)
    exact xr_iret X I hr hlk ⟨by rw [sg, if_pos hneg], rfl⟩ d_Limbs_sign_11
