/-! SpectrumDesk.spread (written by wip/gen) -/
abbrev b_SpectrumDesk_spread : ByteArray := prog_1_method_7_code
abbrev y_SpectrumDesk_spread : MethodName := ⟨"SpectrumDesk", "spread", "()I"⟩
abbrev v_SpectrumDesk_spread : List Cond := Cond.code y_SpectrumDesk_spread b_SpectrumDesk_spread 3 (some .int) :: AW
theorem d_SpectrumDesk_spread_0 : decode b_SpectrumDesk_spread 0 = .ok (.iconst 0, 1) := by decide +kernel
theorem d_SpectrumDesk_spread_1 : decode b_SpectrumDesk_spread 1 = .ok (.istore_n 1, 1) := by decide +kernel
theorem d_SpectrumDesk_spread_2 : decode b_SpectrumDesk_spread 2 = .ok (.iload_n 1, 1) := by decide +kernel
theorem d_SpectrumDesk_spread_3 : decode b_SpectrumDesk_spread 3 = .ok (.aload_n 0, 1) := by decide +kernel
theorem d_SpectrumDesk_spread_4 : decode b_SpectrumDesk_spread 4 = .ok (.getfield 39, 3) := by decide +kernel
theorem d_SpectrumDesk_spread_7 : decode b_SpectrumDesk_spread 7 = .ok (.if_icmp .ge (46), 3) := by decide +kernel
theorem d_SpectrumDesk_spread_10 : decode b_SpectrumDesk_spread 10 = .ok (.iconst 0, 1) := by decide +kernel
theorem d_SpectrumDesk_spread_11 : decode b_SpectrumDesk_spread 11 = .ok (.istore_n 2, 1) := by decide +kernel
theorem d_SpectrumDesk_spread_12 : decode b_SpectrumDesk_spread 12 = .ok (.iload_n 2, 1) := by decide +kernel
theorem d_SpectrumDesk_spread_13 : decode b_SpectrumDesk_spread 13 = .ok (.aload_n 0, 1) := by decide +kernel
theorem d_SpectrumDesk_spread_14 : decode b_SpectrumDesk_spread 14 = .ok (.getfield 39, 3) := by decide +kernel
theorem d_SpectrumDesk_spread_17 : decode b_SpectrumDesk_spread 17 = .ok (.if_icmp .ge (30), 3) := by decide +kernel
theorem d_SpectrumDesk_spread_20 : decode b_SpectrumDesk_spread 20 = .ok (.aload_n 0, 1) := by decide +kernel
theorem d_SpectrumDesk_spread_21 : decode b_SpectrumDesk_spread 21 = .ok (.getfield 21, 3) := by decide +kernel
theorem d_SpectrumDesk_spread_24 : decode b_SpectrumDesk_spread 24 = .ok (.iload_n 1, 1) := by decide +kernel
theorem d_SpectrumDesk_spread_25 : decode b_SpectrumDesk_spread 25 = .ok (.iload_n 2, 1) := by decide +kernel
theorem d_SpectrumDesk_spread_26 : decode b_SpectrumDesk_spread 26 = .ok (.invokevirtual 88, 3) := by decide +kernel
theorem d_SpectrumDesk_spread_29 : decode b_SpectrumDesk_spread 29 = .ok (.ldc2_w 72, 3) := by decide +kernel
theorem d_SpectrumDesk_spread_32 : decode b_SpectrumDesk_spread 32 = .ok (.invokestatic 74, 3) := by decide +kernel
theorem d_SpectrumDesk_spread_35 : decode b_SpectrumDesk_spread 35 = .ok (.ifCond .eq (6), 3) := by decide +kernel
theorem d_SpectrumDesk_spread_38 : decode b_SpectrumDesk_spread 38 = .ok (.bipush (-2), 2) := by decide +kernel
theorem d_SpectrumDesk_spread_40 : decode b_SpectrumDesk_spread 40 = .ok (.ireturn, 1) := by decide +kernel
theorem d_SpectrumDesk_spread_41 : decode b_SpectrumDesk_spread 41 = .ok (.iinc 2 (1), 3) := by decide +kernel
theorem d_SpectrumDesk_spread_44 : decode b_SpectrumDesk_spread 44 = .ok (.goto (-32), 3) := by decide +kernel
theorem d_SpectrumDesk_spread_47 : decode b_SpectrumDesk_spread 47 = .ok (.iinc 1 (1), 3) := by decide +kernel
theorem d_SpectrumDesk_spread_50 : decode b_SpectrumDesk_spread 50 = .ok (.goto (-48), 3) := by decide +kernel
theorem d_SpectrumDesk_spread_53 : decode b_SpectrumDesk_spread 53 = .ok (.iconst 0, 1) := by decide +kernel
theorem d_SpectrumDesk_spread_54 : decode b_SpectrumDesk_spread 54 = .ok (.istore_n 1, 1) := by decide +kernel
theorem d_SpectrumDesk_spread_55 : decode b_SpectrumDesk_spread 55 = .ok (.iload_n 1, 1) := by decide +kernel
theorem d_SpectrumDesk_spread_56 : decode b_SpectrumDesk_spread 56 = .ok (.aload_n 0, 1) := by decide +kernel
theorem d_SpectrumDesk_spread_57 : decode b_SpectrumDesk_spread 57 = .ok (.getfield 39, 3) := by decide +kernel
theorem d_SpectrumDesk_spread_60 : decode b_SpectrumDesk_spread 60 = .ok (.if_icmp .ge (43), 3) := by decide +kernel
theorem d_SpectrumDesk_spread_63 : decode b_SpectrumDesk_spread 63 = .ok (.iconst 0, 1) := by decide +kernel
theorem d_SpectrumDesk_spread_64 : decode b_SpectrumDesk_spread 64 = .ok (.istore_n 2, 1) := by decide +kernel
theorem d_SpectrumDesk_spread_65 : decode b_SpectrumDesk_spread 65 = .ok (.iload_n 2, 1) := by decide +kernel
theorem d_SpectrumDesk_spread_66 : decode b_SpectrumDesk_spread 66 = .ok (.aload_n 0, 1) := by decide +kernel
theorem d_SpectrumDesk_spread_67 : decode b_SpectrumDesk_spread 67 = .ok (.getfield 39, 3) := by decide +kernel
theorem d_SpectrumDesk_spread_70 : decode b_SpectrumDesk_spread 70 = .ok (.if_icmp .ge (27), 3) := by decide +kernel
theorem d_SpectrumDesk_spread_73 : decode b_SpectrumDesk_spread 73 = .ok (.aload_n 0, 1) := by decide +kernel
theorem d_SpectrumDesk_spread_74 : decode b_SpectrumDesk_spread 74 = .ok (.getfield 11, 3) := by decide +kernel
theorem d_SpectrumDesk_spread_77 : decode b_SpectrumDesk_spread 77 = .ok (.iload_n 1, 1) := by decide +kernel
theorem d_SpectrumDesk_spread_78 : decode b_SpectrumDesk_spread 78 = .ok (.aaload, 1) := by decide +kernel
theorem d_SpectrumDesk_spread_79 : decode b_SpectrumDesk_spread 79 = .ok (.iload_n 2, 1) := by decide +kernel
theorem d_SpectrumDesk_spread_80 : decode b_SpectrumDesk_spread 80 = .ok (.aload_n 0, 1) := by decide +kernel
theorem d_SpectrumDesk_spread_81 : decode b_SpectrumDesk_spread 81 = .ok (.getfield 21, 3) := by decide +kernel
theorem d_SpectrumDesk_spread_84 : decode b_SpectrumDesk_spread 84 = .ok (.iload_n 1, 1) := by decide +kernel
theorem d_SpectrumDesk_spread_85 : decode b_SpectrumDesk_spread 85 = .ok (.iload_n 2, 1) := by decide +kernel
theorem d_SpectrumDesk_spread_86 : decode b_SpectrumDesk_spread 86 = .ok (.invokevirtual 88, 3) := by decide +kernel
theorem d_SpectrumDesk_spread_89 : decode b_SpectrumDesk_spread 89 = .ok (.l2i, 1) := by decide +kernel
theorem d_SpectrumDesk_spread_90 : decode b_SpectrumDesk_spread 90 = .ok (.iastore, 1) := by decide +kernel
theorem d_SpectrumDesk_spread_91 : decode b_SpectrumDesk_spread 91 = .ok (.iinc 2 (1), 3) := by decide +kernel
theorem d_SpectrumDesk_spread_94 : decode b_SpectrumDesk_spread 94 = .ok (.goto (-29), 3) := by decide +kernel
theorem d_SpectrumDesk_spread_97 : decode b_SpectrumDesk_spread 97 = .ok (.iinc 1 (1), 3) := by decide +kernel
theorem d_SpectrumDesk_spread_100 : decode b_SpectrumDesk_spread 100 = .ok (.goto (-45), 3) := by decide +kernel
theorem d_SpectrumDesk_spread_103 : decode b_SpectrumDesk_spread 103 = .ok (.aload_n 0, 1) := by decide +kernel
theorem d_SpectrumDesk_spread_104 : decode b_SpectrumDesk_spread 104 = .ok (.iconst 1, 1) := by decide +kernel
theorem d_SpectrumDesk_spread_105 : decode b_SpectrumDesk_spread 105 = .ok (.putfield 43, 3) := by decide +kernel
theorem d_SpectrumDesk_spread_108 : decode b_SpectrumDesk_spread 108 = .ok (.iconst 0, 1) := by decide +kernel
theorem d_SpectrumDesk_spread_109 : decode b_SpectrumDesk_spread 109 = .ok (.ireturn, 1) := by decide +kernel
theorem k_c29755af0f : (Jvm.Cond.methodLink "SpectrumDesk" (88 : Nat) ({ cls := "SpectrumDesk$Sums", name := "spreadOf", desc := "(II)J" } : Jvm.MethodName)) ∈ AW := aw_2 (List.mem_of_getElem? (i := 3) (by decide +kernel)) (by decide +kernel)
theorem k_311afc6994 : (Jvm.Cond.instanceMethod ({ cls := "SpectrumDesk$Sums", name := "spreadOf", desc := "(II)J" } : Jvm.MethodName)) ∈ AW := aw_2 (List.mem_of_getElem? (i := 4) (by decide +kernel)) (by decide +kernel)
theorem k_0089f42f3d : (Jvm.Cond.selects "SpectrumDesk$Sums" ({ cls := "SpectrumDesk$Sums", name := "spreadOf", desc := "(II)J" } : Jvm.MethodName) ({ cls := "SpectrumDesk$Sums", name := "spreadOf", desc := "(II)J" } : Jvm.MethodName)) ∈ AW := aw_2 (List.mem_of_getElem? (i := 5) (by decide +kernel)) (by decide +kernel)
theorem k_b0010607e3 : (Jvm.Cond.code ({ cls := "SpectrumDesk", name := "spread", desc := "()I" } : Jvm.MethodName) prog_1_method_7_code (3 : Nat) (Option.some Jvm.ClassFile.FieldType.int)) ∈ AW := aw_2 (List.mem_of_getElem? (i := 2) (by decide +kernel)) (by decide +kernel)
set_option maxHeartbeats 4000000 in
set_option maxRecDepth 100000 in
theorem c_SpectrumDesk_spread {l : Launch} {D : va_G} {cI cJ cZ cC cG cP : ClassId} {N : Nat} {ad : Nat → Nat} {σ : Nat → va_E} {n : Nat} {st : Int32} (hN : N = 193) (hS0 : σ 0 = .inr (ciS, [.ref (ad 1), .ref (ad 8), .ref (ad 9), .ref (ad 18), .ref (ad 179), .int (nI n), .int st])) {A : Nat → Nat → Int32} {rw : Nat} {S : Nat → Int32} {P : Nat → Nat → Int32} (hn : n ≤ 6) (hA : mat ad cI cG σ 1 2 A) (hU : σ 9 = .inr (ciU, [.ref (ad 10), .ref (ad 11), .int (nI rw)])) (hS : σ 10 = .inl (cI, 6, .inl S)) (hP : mat ad cI cG σ 11 12 P) :
    Met l y_SpectrumDesk_spread v_SpectrumDesk_spread (xrm 1) (va_Pc [.ref (ad 0)] (xS D classes (xT cI cJ cZ cC cG cP) N ad σ)) (va_Qi (fun r σ2 => (spFit rw P S n n 0 ∧ r = nI 0 ∧ ∃ A' : Nat → Nat → Int32, (∀ q, q ≠ 0 → q < 2 ∨ 8 ≤ q → σ2 q = σ q) ∧ σ2 0 = .inr (ciS, [.ref (ad 1), .ref (ad 8), .ref (ad 9), .ref (ad 18), .ref (ad 179), .int (nI n), .int (nI 1)]) ∧ mat ad cI cG σ2 1 2 A' ∧ spM rw P S A n n 0 A') ∨ (¬ spFit rw P S n n 0 ∧ r = -2 ∧ σ2 = σ)) (xS D classes (xT cI cJ cZ cC cG cP) N ad) (xA N ad)) 0 0 (xA N ad) := by
  refine xr_met rfl (Nat.le_of_ble_eq_true rfl) ?_
  intro p e s m args below meth c ls hx hb X hr hlk hl I
  have hl : lv_has ls 3 [(0, .ref (ad 0))] := hl
  refine lv_iconst (v := nI 0) hx hb d_SpectrumDesk_spread_0 (by decide) ?_
  refine lv_istore_n (lv' := [(1, .int (nI 0)), (0, .ref (ad 0))]) hx hb d_SpectrumDesk_spread_1 rfl hl (by decide) rfl (fun ls hl => ?_)
  have second : ∀ (hfit : spFit rw P S n n 0) (f : Nat) (k : Nat) (σ2 : Nat → va_E) (A2 : Nat → Nat → Int32) (ls : Array Slot) (H : Heap) (locs : List Loc), k + f = n → (∀ q, q < 2 ∨ 8 ≤ q → σ2 q = σ q) → σ2 0 = .inr (ciS, [.ref (ad 1), .ref (ad 8), .ref (ad 9), .ref (ad 18), .ref (ad 179), .int (nI n), .int (st)]) → mat ad cI cG σ2 1 2 A2 → spM rw P S A n k 0 A2 → lv_has ls 3 [(1, .int (nI k)), (0, .ref (ad 0))] → xI D classes N ad s.heap (σ2) H locs → W p l e (xrm 1) s m args below meth c H locs 0 0 (MQ below (va_Qi (fun r σ2 => (spFit rw P S n n 0 ∧ r = nI 0 ∧ ∃ A' : Nat → Nat → Int32, (∀ q, q ≠ 0 → q < 2 ∨ 8 ≤ q → σ2 q = σ q) ∧ σ2 0 = .inr (ciS, [.ref (ad 1), .ref (ad 8), .ref (ad 9), .ref (ad 18), .ref (ad 179), .int (nI n), .int (nI 1)]) ∧ mat ad cI cG σ2 1 2 A' ∧ spM rw P S A n n 0 A') ∨ (¬ spFit rw P S n n 0 ∧ r = -2 ∧ σ2 = σ)) (xS D classes (xT cI cJ cZ cC cG cP) N ad) (xA N ad)) args s 0 0 (xA N ad)) (F0 m 55 ls []) := by
    intro hfit f
    induction f with
    | zero =>
      intro k σ2 A2 ls H locs hk a0 a1 a2 a3 hl I
      obtain rfl : k = n := by omega
      refine lv_iload_n hx hb d_SpectrumDesk_spread_55 rfl (lv_at hl 0 rfl) ?_
      refine lv_aload_n hx hb d_SpectrumDesk_spread_56 rfl (lv_at hl 1 rfl) ?_
      refine xr_get X I fin_S 0 (by omega) a1 rfl 5 (by decide) (List.mem_cons_of_mem _ k_7fc62aa415) rfl rfl d_SpectrumDesk_spread_57 ?_
      refine lv_icmp_ge hx hb d_SpectrumDesk_spread_60 rfl (fun hc => ?_) (fun hc => ?_)
      · refine lv_aload_n hx hb d_SpectrumDesk_spread_103 rfl (lv_at hl 1 rfl) ?_
        refine lv_iconst (v := nI 1) hx hb d_SpectrumDesk_spread_104 (by decide) ?_
        refine xr_put (ty := .boolean) X I fin_S t_S t_S_ok n_S 0 (by omega) a1 rfl 6 (by decide) (List.mem_cons_of_mem _ k_96c8c183a8) rfl rfl (by decide +kernel) rfl rfl (Nat.le_of_ble_eq_true rfl) d_SpectrumDesk_spread_105 (fun H locs I => ?_)
        refine lv_iconst (v := nI 0) hx hb d_SpectrumDesk_spread_108 (by decide) ?_
        exact xr_iret X I hr hlk (Or.inl ⟨hfit, rfl, A2, fun q h0 hq => (va_up_ne _ _ h0).trans (a0 q hq), va_up_self _ _ _, mat_same a2 (va_up_ne _ _ (by decide)) (fun q h1 h2 => va_up_ne _ _ (by omega)), a3⟩) d_SpectrumDesk_spread_109
      · exact absurd (nI_le (Nat.le_refl _) (by omega)) hc
    | succ f ih =>
      intro k σ2 A2 ls H locs hk a0 a1 a2 a3 hl I
      refine lv_iload_n hx hb d_SpectrumDesk_spread_55 rfl (lv_at hl 0 rfl) ?_
      refine lv_aload_n hx hb d_SpectrumDesk_spread_56 rfl (lv_at hl 1 rfl) ?_
      refine xr_get X I fin_S 0 (by omega) a1 rfl 5 (by decide) (List.mem_cons_of_mem _ k_7fc62aa415) rfl rfl d_SpectrumDesk_spread_57 ?_
      refine lv_icmp_ge hx hb d_SpectrumDesk_spread_60 rfl (fun hc => ?_) (fun hc => ?_)
      · exact absurd hc (nI_ge (by omega) (by omega))
      · refine lv_iconst (v := nI 0) hx hb d_SpectrumDesk_spread_63 (by decide) ?_
        refine lv_istore_n (lv' := [(2, .int (nI 0)), (1, .int (nI k)), (0, .ref (ad 0))]) hx hb d_SpectrumDesk_spread_64 rfl hl (by decide) rfl (fun ls hl => ?_)
        have inner : ∀ (f2 : Nat) (j : Nat) (σ2 : Nat → va_E) (A2 : Nat → Nat → Int32) (ls : Array Slot) (H : Heap) (locs : List Loc), j + f2 = n → (∀ q, q < 2 ∨ 8 ≤ q → σ2 q = σ q) → σ2 0 = .inr (ciS, [.ref (ad 1), .ref (ad 8), .ref (ad 9), .ref (ad 18), .ref (ad 179), .int (nI n), .int (st)]) → mat ad cI cG σ2 1 2 A2 → spM rw P S A n k j A2 → lv_has ls 3 [(2, .int (nI j)), (1, .int (nI k)), (0, .ref (ad 0))] → xI D classes N ad s.heap (σ2) H locs → W p l e (xrm 1) s m args below meth c H locs 0 0 (MQ below (va_Qi (fun r σ2 => (spFit rw P S n n 0 ∧ r = nI 0 ∧ ∃ A' : Nat → Nat → Int32, (∀ q, q ≠ 0 → q < 2 ∨ 8 ≤ q → σ2 q = σ q) ∧ σ2 0 = .inr (ciS, [.ref (ad 1), .ref (ad 8), .ref (ad 9), .ref (ad 18), .ref (ad 179), .int (nI n), .int (nI 1)]) ∧ mat ad cI cG σ2 1 2 A' ∧ spM rw P S A n n 0 A') ∨ (¬ spFit rw P S n n 0 ∧ r = -2 ∧ σ2 = σ)) (xS D classes (xT cI cJ cZ cC cG cP) N ad) (xA N ad)) args s 0 0 (xA N ad)) (F0 m 65 ls []) := by
          intro f2
          induction f2 with
          | zero =>
            intro j σ2 A2 ls H locs hj a0 a1 a2 a3 hl I
            obtain rfl : j = n := by omega
            refine lv_iload_n hx hb d_SpectrumDesk_spread_65 rfl (lv_at hl 0 rfl) ?_
            refine lv_aload_n hx hb d_SpectrumDesk_spread_66 rfl (lv_at hl 2 rfl) ?_
            refine xr_get X I fin_S 0 (by omega) a1 rfl 5 (by decide) (List.mem_cons_of_mem _ k_7fc62aa415) rfl rfl d_SpectrumDesk_spread_67 ?_
            refine lv_icmp_ge hx hb d_SpectrumDesk_spread_70 rfl (fun hd => ?_) (fun hd => ?_)
            · refine lv_iinc (k := 1) (v := nI (k + 1)) (lv' := [(1, .int (nI (k + 1))), (2, .int (nI j)), (0, .ref (ad 0))]) hx hb d_SpectrumDesk_spread_97 hl rfl (nI_1 k) (by decide) rfl (fun ls hl => ?_)
              refine lv_goto hx hb d_SpectrumDesk_spread_100 rfl ?_
              have hl := lv_sub hl [0, 2] rfl
              have hl : lv_has ls 3 [(1, .int (nI (k + 1))), (0, .ref (ad 0))] := hl
              exact ih (k + 1) σ2 A2 ls H locs (by omega) a0 a1 a2 (spM_n a3) hl I
            · exact absurd (nI_le (Nat.le_refl _) (by omega)) hd
          | succ f2 ih2 =>
            intro j σ2 A2 ls H locs hj a0 a1 a2 a3 hl I
            refine lv_iload_n hx hb d_SpectrumDesk_spread_65 rfl (lv_at hl 0 rfl) ?_
            refine lv_aload_n hx hb d_SpectrumDesk_spread_66 rfl (lv_at hl 2 rfl) ?_
            refine xr_get X I fin_S 0 (by omega) a1 rfl 5 (by decide) (List.mem_cons_of_mem _ k_7fc62aa415) rfl rfl d_SpectrumDesk_spread_67 ?_
            refine lv_icmp_ge hx hb d_SpectrumDesk_spread_70 rfl (fun hd => ?_) (fun hd => ?_)
            · exact absurd hd (nI_ge (by omega) (by omega))
            · refine lv_aload_n hx hb d_SpectrumDesk_spread_73 rfl (lv_at hl 2 rfl) ?_
              refine xr_get X I fin_S 0 (by omega) a1 rfl 0 (by decide) (List.mem_cons_of_mem _ k_c7908b049a) rfl rfl d_SpectrumDesk_spread_74 ?_
              refine lv_iload_n hx hb d_SpectrumDesk_spread_77 rfl (lv_at hl 1 rfl) ?_
              refine xr_aald X I 1 4 (by omega) (a2).1 rfl rfl (by omega) (by decide) (mx_at (by omega)) d_SpectrumDesk_spread_78 ?_
              refine lv_iload_n hx hb d_SpectrumDesk_spread_79 rfl (lv_at hl 0 rfl) ?_
              refine lv_aload_n hx hb d_SpectrumDesk_spread_80 rfl (lv_at hl 2 rfl) ?_
              refine xr_get X I fin_S 0 (by omega) a1 rfl 2 (by decide) (List.mem_cons_of_mem _ k_b8173ba267) rfl rfl d_SpectrumDesk_spread_81 ?_
              refine lv_iload_n hx hb d_SpectrumDesk_spread_84 rfl (lv_at hl 1 rfl) ?_
              refine lv_iload_n hx hb d_SpectrumDesk_spread_85 rfl (lv_at hl 0 rfl) ?_
              refine xr_calll (xr_runV (kc := 0) (kr := 1) (n := 2) (As := [.int (nI k), .int (nI j)]) (rest := [.int (nI j), .ref (ad (2 + k))]) X I (by omega) ((a0 9 (by omega)).trans hU) rfl (c_Sums_spreadOf (σ := σ2) (i := k) (j := j) hN ((a0 9 (by omega)).trans hU) ((a0 10 (by omega)).trans hS) (mat_same hP (a0 11 (by omega)) (fun q h1 h2 => a0 q (by omega))) (by omega) (by omega)) (xg k_78ccf9a33c) (List.mem_cons_of_mem _ k_c29755af0f) (List.mem_cons_of_mem _ k_311afc6994) (List.mem_cons_of_mem _ k_0089f42f3d) (List.mem_cons_of_mem _ k_9f148695dd) (by decide +kernel) (by decide) rfl hl.1 rfl (Nat.le_of_ble_eq_true rfl) d_SpectrumDesk_spread_86) I (fun r1 σ9 H locs hp I => ?_)
              obtain ⟨rfl, h9⟩ := hp; rw [h9] at I; clear h9
              refine lv_l2i hx hb d_SpectrumDesk_spread_89 rfl ?_
              refine xr_iast X I (2 + k) 0 (by omega) (a2.2 k (by omega)) rfl (by omega) (by decide) d_SpectrumDesk_spread_90 (fun H locs I => ?_)
              refine lv_iinc (k := 0) (v := nI (j + 1)) (lv' := [(2, .int (nI (j + 1))), (1, .int (nI k)), (0, .ref (ad 0))]) hx hb d_SpectrumDesk_spread_91 hl rfl (nI_1 j) (by decide) rfl (fun ls hl => ?_)
              refine lv_goto hx hb d_SpectrumDesk_spread_94 rfl ?_
              exact ih2 (j + 1) _ _ ls H locs (by omega) (fun q hq => (va_up_ne _ _ (by omega)).trans (a0 q hq)) ((va_up_ne _ _ (by omega)).trans a1) (mat_row a2 (by omega) (by omega) _) (spM_s a3 (by omega)) hl I
        exact inner n 0 σ2 A2 ls H locs (by omega) a0 a1 a2 a3 hl I
  have first : ∀ (f : Nat) (k : Nat) (ls : Array Slot) (H : Heap) (locs : List Loc), k + f = n → spFit rw P S n k 0 → lv_has ls 3 [(1, .int (nI k)), (0, .ref (ad 0))] → xI D classes N ad s.heap (σ) H locs → W p l e (xrm 1) s m args below meth c H locs 0 0 (MQ below (va_Qi (fun r σ2 => (spFit rw P S n n 0 ∧ r = nI 0 ∧ ∃ A' : Nat → Nat → Int32, (∀ q, q ≠ 0 → q < 2 ∨ 8 ≤ q → σ2 q = σ q) ∧ σ2 0 = .inr (ciS, [.ref (ad 1), .ref (ad 8), .ref (ad 9), .ref (ad 18), .ref (ad 179), .int (nI n), .int (nI 1)]) ∧ mat ad cI cG σ2 1 2 A' ∧ spM rw P S A n n 0 A') ∨ (¬ spFit rw P S n n 0 ∧ r = -2 ∧ σ2 = σ)) (xS D classes (xT cI cJ cZ cC cG cP) N ad) (xA N ad)) args s 0 0 (xA N ad)) (F0 m 2 ls []) := by
    intro f
    induction f with
    | zero =>
      intro k ls H locs hk hall hl I
      obtain rfl : k = n := by omega
      refine lv_iload_n hx hb d_SpectrumDesk_spread_2 rfl (lv_at hl 0 rfl) ?_
      refine lv_aload_n hx hb d_SpectrumDesk_spread_3 rfl (lv_at hl 1 rfl) ?_
      refine xr_get X I fin_S 0 (by omega) hS0 rfl 5 (by decide) (List.mem_cons_of_mem _ k_7fc62aa415) rfl rfl d_SpectrumDesk_spread_4 ?_
      refine lv_icmp_ge hx hb d_SpectrumDesk_spread_7 rfl (fun hc => ?_) (fun hc => ?_)
      · refine lv_iconst (v := nI 0) hx hb d_SpectrumDesk_spread_53 (by decide) ?_
        refine lv_istore_n (lv' := [(1, .int (nI 0)), (0, .ref (ad 0))]) hx hb d_SpectrumDesk_spread_54 rfl hl (by decide) rfl (fun ls hl => ?_)
        exact second hall k 0 σ A ls H locs (by omega) (fun _ _ => rfl) hS0 hA spM_0 hl I
      · exact absurd (nI_le (Nat.le_refl _) (by omega)) hc
    | succ f ih =>
      intro k ls H locs hk hall hl I
      refine lv_iload_n hx hb d_SpectrumDesk_spread_2 rfl (lv_at hl 0 rfl) ?_
      refine lv_aload_n hx hb d_SpectrumDesk_spread_3 rfl (lv_at hl 1 rfl) ?_
      refine xr_get X I fin_S 0 (by omega) hS0 rfl 5 (by decide) (List.mem_cons_of_mem _ k_7fc62aa415) rfl rfl d_SpectrumDesk_spread_4 ?_
      refine lv_icmp_ge hx hb d_SpectrumDesk_spread_7 rfl (fun hc => ?_) (fun hc => ?_)
      · exact absurd hc (nI_ge (by omega) (by omega))
      · refine lv_iconst (v := nI 0) hx hb d_SpectrumDesk_spread_10 (by decide) ?_
        refine lv_istore_n (lv' := [(2, .int (nI 0)), (1, .int (nI k)), (0, .ref (ad 0))]) hx hb d_SpectrumDesk_spread_11 rfl hl (by decide) rfl (fun ls hl => ?_)
        have inner : ∀ (f2 : Nat) (j : Nat) (ls : Array Slot) (H : Heap) (locs : List Loc), j + f2 = n → spFit rw P S n k j → lv_has ls 3 [(2, .int (nI j)), (1, .int (nI k)), (0, .ref (ad 0))] → xI D classes N ad s.heap (σ) H locs → W p l e (xrm 1) s m args below meth c H locs 0 0 (MQ below (va_Qi (fun r σ2 => (spFit rw P S n n 0 ∧ r = nI 0 ∧ ∃ A' : Nat → Nat → Int32, (∀ q, q ≠ 0 → q < 2 ∨ 8 ≤ q → σ2 q = σ q) ∧ σ2 0 = .inr (ciS, [.ref (ad 1), .ref (ad 8), .ref (ad 9), .ref (ad 18), .ref (ad 179), .int (nI n), .int (nI 1)]) ∧ mat ad cI cG σ2 1 2 A' ∧ spM rw P S A n n 0 A') ∨ (¬ spFit rw P S n n 0 ∧ r = -2 ∧ σ2 = σ)) (xS D classes (xT cI cJ cZ cC cG cP) N ad) (xA N ad)) args s 0 0 (xA N ad)) (F0 m 12 ls []) := by
          intro f2
          induction f2 with
          | zero =>
            intro j ls H locs hj hall hl I
            obtain rfl : j = n := by omega
            refine lv_iload_n hx hb d_SpectrumDesk_spread_12 rfl (lv_at hl 0 rfl) ?_
            refine lv_aload_n hx hb d_SpectrumDesk_spread_13 rfl (lv_at hl 2 rfl) ?_
            refine xr_get X I fin_S 0 (by omega) hS0 rfl 5 (by decide) (List.mem_cons_of_mem _ k_7fc62aa415) rfl rfl d_SpectrumDesk_spread_14 ?_
            refine lv_icmp_ge hx hb d_SpectrumDesk_spread_17 rfl (fun hd => ?_) (fun hd => ?_)
            · refine lv_iinc (k := 1) (v := nI (k + 1)) (lv' := [(1, .int (nI (k + 1))), (2, .int (nI j)), (0, .ref (ad 0))]) hx hb d_SpectrumDesk_spread_47 hl rfl (nI_1 k) (by decide) rfl (fun ls hl => ?_)
              refine lv_goto hx hb d_SpectrumDesk_spread_50 rfl ?_
              have hl := lv_sub hl [0, 2] rfl
              have hl : lv_has ls 3 [(1, .int (nI (k + 1))), (0, .ref (ad 0))] := hl
              exact ih (k + 1) ls H locs (by omega) (spFit_n hall) hl I
            · exact absurd (nI_le (Nat.le_refl _) (by omega)) hd
          | succ f2 ih2 =>
            intro j ls H locs hj hall hl I
            refine lv_iload_n hx hb d_SpectrumDesk_spread_12 rfl (lv_at hl 0 rfl) ?_
            refine lv_aload_n hx hb d_SpectrumDesk_spread_13 rfl (lv_at hl 2 rfl) ?_
            refine xr_get X I fin_S 0 (by omega) hS0 rfl 5 (by decide) (List.mem_cons_of_mem _ k_7fc62aa415) rfl rfl d_SpectrumDesk_spread_14 ?_
            refine lv_icmp_ge hx hb d_SpectrumDesk_spread_17 rfl (fun hd => ?_) (fun hd => ?_)
            · exact absurd hd (nI_ge (by omega) (by omega))
            · refine lv_aload_n hx hb d_SpectrumDesk_spread_20 rfl (lv_at hl 2 rfl) ?_
              refine xr_get X I fin_S 0 (by omega) hS0 rfl 2 (by decide) (List.mem_cons_of_mem _ k_b8173ba267) rfl rfl d_SpectrumDesk_spread_21 ?_
              refine lv_iload_n hx hb d_SpectrumDesk_spread_24 rfl (lv_at hl 1 rfl) ?_
              refine lv_iload_n hx hb d_SpectrumDesk_spread_25 rfl (lv_at hl 0 rfl) ?_
              refine xr_calll (xr_runV (kc := 0) (kr := 1) (n := 2) (As := [.int (nI k), .int (nI j)]) (rest := []) X I (by omega) hU rfl (c_Sums_spreadOf (σ := σ) (i := k) (j := j) hN hU hS hP (by omega) (by omega)) (xg k_78ccf9a33c) (List.mem_cons_of_mem _ k_c29755af0f) (List.mem_cons_of_mem _ k_311afc6994) (List.mem_cons_of_mem _ k_0089f42f3d) (List.mem_cons_of_mem _ k_9f148695dd) (by decide +kernel) (by decide) rfl hl.1 rfl (Nat.le_of_ble_eq_true rfl) d_SpectrumDesk_spread_26) I (fun r1 σ9 H locs hp I => ?_)
              obtain ⟨rfl, h9⟩ := hp; rw [h9] at I; clear h9
              refine lv_ldc2 (v := 1000000) hx hb X.1.2.2.2.1 (X.1.2.2.2.2 _ (List.mem_cons_of_mem _ k_95d26a71b1)) d_SpectrumDesk_spread_29 ?_
              refine xr_calli (xr_runS (kc := 0) (kr := 1) (n := 2) (As := [.long (spC rw P S k j), .long 1000000]) (rest := []) X I (c_SpectrumDesk_isTooLarge (v := spC rw P S k j) (b := 1000000) (by decide)) (xg k_8af4840bff) (List.mem_cons_of_mem _ k_6d288a6279) (List.mem_cons_of_mem _ k_e5a468ce78) (List.mem_cons_of_mem _ k_6836736ab7) (by decide +kernel) (by decide) rfl hl.1 rfl (Nat.le_of_ble_eq_true rfl) d_SpectrumDesk_spread_32) I (fun r2 σ9 H locs hp I => ?_)
              obtain ⟨er2, h9⟩ := hp; rw [h9] at I; clear h9
              rw [show (1000000 : Int64).toInt = 1000000 by decide] at er2
              refine lv_if_eq hx hb d_SpectrumDesk_spread_35 rfl (fun he => ?_) (fun he => ?_)
              · have h0 : ¬ ((spC rw P S k j).toInt > 1000000 ∨ (spC rw P S k j).toInt < -1000000) := fun h => by rw [er2, if_pos h] at he; exact absurd he (by decide)
                refine lv_iinc (k := 0) (v := nI (j + 1)) (lv' := [(2, .int (nI (j + 1))), (1, .int (nI k)), (0, .ref (ad 0))]) hx hb d_SpectrumDesk_spread_41 hl rfl (nI_1 j) (by decide) rfl (fun ls hl => ?_)
                refine lv_goto hx hb d_SpectrumDesk_spread_44 rfl ?_
                exact ih2 (j + 1) ls H locs (by omega) (spFit_s hall (by omega)) hl I
              · have h0 : ((spC rw P S k j).toInt > 1000000 ∨ (spC rw P S k j).toInt < -1000000) := Decidable.not_not.mp (fun h => he (by rw [er2, if_neg h]; rfl))
                refine lv_bipush (v := (-2)) hx hb d_SpectrumDesk_spread_38 (by decide) ?_
                exact xr_iret X I hr hlk (Or.inr ⟨fun h => by have := h k j (by omega) (by omega); omega, rfl, rfl⟩) d_SpectrumDesk_spread_40
        exact inner n 0 ls H locs (by omega) hall hl I
  exact first n 0 ls _ _ (by omega) spFit_0 hl I
