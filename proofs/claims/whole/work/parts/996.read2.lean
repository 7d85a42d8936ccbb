/-! SpectrumDesk$Spectrum: read (written by wip/gen) -/
abbrev b_Spectrum_read : ByteArray := prog_7_method_2_code
abbrev y_Spectrum_read : MethodName := ⟨"SpectrumDesk$Spectrum", "read", "([[II)V"⟩
abbrev v_Spectrum_read : List Cond := Cond.code y_Spectrum_read b_Spectrum_read 4 none :: AW
theorem d_Spectrum_read_0 : decode b_Spectrum_read 0 = .ok (.aload_n 0, 1) := by decide +kernel
theorem d_Spectrum_read_1 : decode b_Spectrum_read 1 = .ok (.iload_n 2, 1) := by decide +kernel
theorem d_Spectrum_read_2 : decode b_Spectrum_read 2 = .ok (.putfield 68, 3) := by decide +kernel
theorem d_Spectrum_read_5 : decode b_Spectrum_read 5 = .ok (.aload_n 0, 1) := by decide +kernel
theorem d_Spectrum_read_6 : decode b_Spectrum_read 6 = .ok (.aload_n 1, 1) := by decide +kernel
theorem d_Spectrum_read_7 : decode b_Spectrum_read 7 = .ok (.invokevirtual 72, 3) := by decide +kernel
theorem d_Spectrum_read_10 : decode b_Spectrum_read 10 = .ok (.iconst 0, 1) := by decide +kernel
theorem d_Spectrum_read_11 : decode b_Spectrum_read 11 = .ok (.istore_n 3, 1) := by decide +kernel
theorem d_Spectrum_read_12 : decode b_Spectrum_read 12 = .ok (.iload_n 3, 1) := by decide +kernel
theorem d_Spectrum_read_13 : decode b_Spectrum_read 13 = .ok (.iload_n 2, 1) := by decide +kernel
theorem d_Spectrum_read_14 : decode b_Spectrum_read 14 = .ok (.if_icmp .ge (38), 3) := by decide +kernel
theorem d_Spectrum_read_17 : decode b_Spectrum_read 17 = .ok (.aload_n 0, 1) := by decide +kernel
theorem d_Spectrum_read_18 : decode b_Spectrum_read 18 = .ok (.getfield 49, 3) := by decide +kernel
theorem d_Spectrum_read_21 : decode b_Spectrum_read 21 = .ok (.aload_n 0, 1) := by decide +kernel
theorem d_Spectrum_read_22 : decode b_Spectrum_read 22 = .ok (.getfield 11, 3) := by decide +kernel
theorem d_Spectrum_read_25 : decode b_Spectrum_read 25 = .ok (.iload_n 3, 1) := by decide +kernel
theorem d_Spectrum_read_26 : decode b_Spectrum_read 26 = .ok (.iconst 1, 1) := by decide +kernel
theorem d_Spectrum_read_27 : decode b_Spectrum_read 27 = .ok (.iadd, 1) := by decide +kernel
theorem d_Spectrum_read_28 : decode b_Spectrum_read 28 = .ok (.aaload, 1) := by decide +kernel
theorem d_Spectrum_read_29 : decode b_Spectrum_read 29 = .ok (.aload_n 0, 1) := by decide +kernel
theorem d_Spectrum_read_30 : decode b_Spectrum_read 30 = .ok (.getfield 11, 3) := by decide +kernel
theorem d_Spectrum_read_33 : decode b_Spectrum_read 33 = .ok (.iload_n 3, 1) := by decide +kernel
theorem d_Spectrum_read_34 : decode b_Spectrum_read 34 = .ok (.aaload, 1) := by decide +kernel
theorem d_Spectrum_read_35 : decode b_Spectrum_read 35 = .ok (.aload_n 1, 1) := by decide +kernel
theorem d_Spectrum_read_36 : decode b_Spectrum_read 36 = .ok (.invokevirtual 76, 3) := by decide +kernel
theorem d_Spectrum_read_39 : decode b_Spectrum_read 39 = .ok (.aload_n 0, 1) := by decide +kernel
theorem d_Spectrum_read_40 : decode b_Spectrum_read 40 = .ok (.getfield 64, 3) := by decide +kernel
theorem d_Spectrum_read_43 : decode b_Spectrum_read 43 = .ok (.iload_n 3, 1) := by decide +kernel
theorem d_Spectrum_read_44 : decode b_Spectrum_read 44 = .ok (.iconst 0, 1) := by decide +kernel
theorem d_Spectrum_read_45 : decode b_Spectrum_read 45 = .ok (.bastore, 1) := by decide +kernel
theorem d_Spectrum_read_46 : decode b_Spectrum_read 46 = .ok (.iinc 3 (1), 3) := by decide +kernel
theorem d_Spectrum_read_49 : decode b_Spectrum_read 49 = .ok (.goto (-37), 3) := by decide +kernel
theorem d_Spectrum_read_52 : decode b_Spectrum_read 52 = .ok (.aload_n 0, 1) := by decide +kernel
theorem d_Spectrum_read_53 : decode b_Spectrum_read 53 = .ok (.iconst 0, 1) := by decide +kernel
theorem d_Spectrum_read_54 : decode b_Spectrum_read 54 = .ok (.putfield 80, 3) := by decide +kernel
theorem d_Spectrum_read_57 : decode b_Spectrum_read 57 = .ok (.aload_n 0, 1) := by decide +kernel
theorem d_Spectrum_read_58 : decode b_Spectrum_read 58 = .ok (.getfield 34, 3) := by decide +kernel
theorem d_Spectrum_read_61 : decode b_Spectrum_read 61 = .ok (.aload_n 0, 1) := by decide +kernel
theorem d_Spectrum_read_62 : decode b_Spectrum_read 62 = .ok (.getfield 11, 3) := by decide +kernel
theorem d_Spectrum_read_65 : decode b_Spectrum_read 65 = .ok (.iload_n 2, 1) := by decide +kernel
theorem d_Spectrum_read_66 : decode b_Spectrum_read 66 = .ok (.aaload, 1) := by decide +kernel
theorem d_Spectrum_read_67 : decode b_Spectrum_read 67 = .ok (.aload_n 0, 1) := by decide +kernel
theorem d_Spectrum_read_68 : decode b_Spectrum_read 68 = .ok (.invokevirtual 84, 3) := by decide +kernel
theorem d_Spectrum_read_71 : decode b_Spectrum_read 71 = .ok (.invokevirtual 88, 3) := by decide +kernel
theorem d_Spectrum_read_74 : decode b_Spectrum_read 74 = .ok (.aload_n 0, 1) := by decide +kernel
theorem d_Spectrum_read_75 : decode b_Spectrum_read 75 = .ok (.getfield 34, 3) := by decide +kernel
theorem d_Spectrum_read_78 : decode b_Spectrum_read 78 = .ok (.ldc2_w 92, 3) := by decide +kernel
theorem d_Spectrum_read_81 : decode b_Spectrum_read 81 = .ok (.invokevirtual 94, 3) := by decide +kernel
theorem d_Spectrum_read_84 : decode b_Spectrum_read 84 = .ok (.return_, 1) := by decide +kernel
theorem k_4166ee24a5 : (Jvm.Cond.methodLink "SpectrumDesk$Spectrum" (72 : Nat) ({ cls := "SpectrumDesk$Spectrum", name := "measure", desc := "([[I)V" } : Jvm.MethodName)) ∈ AW := aw_2 (List.mem_of_getElem? (i := 24) (by decide +kernel)) (by decide +kernel)
theorem k_5e59954fd7 : (Jvm.Cond.instanceMethod ({ cls := "SpectrumDesk$Spectrum", name := "measure", desc := "([[I)V" } : Jvm.MethodName)) ∈ AW := aw_2 (List.mem_of_getElem? (i := 26) (by decide +kernel)) (by decide +kernel)
theorem k_aded0cc218 : (Jvm.Cond.selects "SpectrumDesk$Spectrum" ({ cls := "SpectrumDesk$Spectrum", name := "measure", desc := "([[I)V" } : Jvm.MethodName) ({ cls := "SpectrumDesk$Spectrum", name := "measure", desc := "([[I)V" } : Jvm.MethodName)) ∈ AW := aw_p (by decide +kernel) (by decide +kernel)
theorem k_85f06032a7 : (Jvm.Cond.fieldLink "SpectrumDesk$Spectrum" (80 : Nat) "SpectrumDesk$Spectrum" "repeatedKnown" "Z") ∈ AW := aw_1 (List.mem_of_getElem? (i := 144) (by decide +kernel)) (by decide +kernel)
theorem k_0fab8790b9 : (Jvm.Cond.methodLink "SpectrumDesk$Spectrum" (84 : Nat) ({ cls := "SpectrumDesk$Spectrum", name := "limbsForEdges", desc := "()I" } : Jvm.MethodName)) ∈ AW := aw_2 (List.mem_of_getElem? (i := 57) (by decide +kernel)) (by decide +kernel)
theorem k_92a7d7f857 : (Jvm.Cond.instanceMethod ({ cls := "SpectrumDesk$Spectrum", name := "limbsForEdges", desc := "()I" } : Jvm.MethodName)) ∈ AW := aw_2 (List.mem_of_getElem? (i := 59) (by decide +kernel)) (by decide +kernel)
theorem k_5cc079e01f : (Jvm.Cond.selects "SpectrumDesk$Spectrum" ({ cls := "SpectrumDesk$Spectrum", name := "limbsForEdges", desc := "()I" } : Jvm.MethodName) ({ cls := "SpectrumDesk$Spectrum", name := "limbsForEdges", desc := "()I" } : Jvm.MethodName)) ∈ AW := aw_p (by decide +kernel) (by decide +kernel)
theorem k_dc79b5a992 : (Jvm.Cond.fieldLink "SpectrumDesk$Spectrum" (49 : Nat) "SpectrumDesk$Spectrum" "border" "LSpectrumDesk$Border;") ∈ AW := aw_1 (List.mem_of_getElem? (i := 140) (by decide +kernel)) (by decide +kernel)
theorem k_648192101f : (Jvm.Cond.methodLink "SpectrumDesk$Spectrum" (76 : Nat) ({ cls := "SpectrumDesk$Border", name := "grow", desc := "(LSpectrumDesk$Polynomial;LSpectrumDesk$Polynomial;[[I)V" } : Jvm.MethodName)) ∈ AW := aw_2 (List.mem_of_getElem? (i := 34) (by decide +kernel)) (by decide +kernel)
theorem k_a72d12cad0 : (Jvm.Cond.instanceMethod ({ cls := "SpectrumDesk$Border", name := "grow", desc := "(LSpectrumDesk$Polynomial;LSpectrumDesk$Polynomial;[[I)V" } : Jvm.MethodName)) ∈ AW := aw_2 (List.mem_of_getElem? (i := 35) (by decide +kernel)) (by decide +kernel)
theorem k_5c771c7988 : (Jvm.Cond.selects "SpectrumDesk$Border" ({ cls := "SpectrumDesk$Border", name := "grow", desc := "(LSpectrumDesk$Polynomial;LSpectrumDesk$Polynomial;[[I)V" } : Jvm.MethodName) ({ cls := "SpectrumDesk$Border", name := "grow", desc := "(LSpectrumDesk$Polynomial;LSpectrumDesk$Polynomial;[[I)V" } : Jvm.MethodName)) ∈ AW := aw_2 (List.mem_of_getElem? (i := 36) (by decide +kernel)) (by decide +kernel)
theorem k_c402171c53 : (Jvm.Cond.code ({ cls := "SpectrumDesk$Spectrum", name := "read", desc := "([[II)V" } : Jvm.MethodName) prog_7_method_2_code (4 : Nat) (Option.none : Option Jvm.ClassFile.FieldType)) ∈ AW := aw_2 (List.mem_of_getElem? (i := 23) (by decide +kernel)) (by decide +kernel)
set_option maxHeartbeats 4000000 in
set_option maxRecDepth 100000 in
theorem c_Spectrum_read {l : Launch} {D : va_G} {cI cJ cZ cC cG cP : ClassId} {N : Nat} {ad : Nat → Nat} {σ : Nat → va_E} {rk bo n0 : Int32} {n : Nat} {tr : Int64} {A Vf Xf : Nat → Nat → Int32} {Kn : Nat → Int32} {df lf0 : Nat} {Ff0 : Nat → Nat → Int32} {sf0 : Nat → Int32} (hN : N = 193) (hE : σ 18 = .inr (ciE, eF ad rk n0 bo tr)) (hBl : σ 19 = .inl (cP, 7, .inr (.inr (.inr (.inr (bl_g ad)))))) (hn1 : 1 ≤ n) (hn : n ≤ 6) (hA : mat ad cI cG σ 1 2 A) (hOb : σ 140 = .inr (ciB, [.ref (ad 141), .ref (ad 148)])) (hV : mat ad cI cG σ 141 142 Vf) (hX : mat ad cI cG σ 148 149 Xf) (hK : σ 178 = .inl (cZ, 6, .inl Kn)) (hbk : bkU ad cI cG σ (fun i j => (A i j).toInt) 0) (hfi : pl ad cI cG σ 100 12 df lf0 Ff0 sf0) (hszn : pl_sz n 6 (pB (fun i j => (A i j).toInt) n)) (hAb : ∀ i j, i < 6 → j < 6 → -1000000 ≤ (A i j).toInt ∧ (A i j).toInt ≤ 1000000) :
    Met l y_Spectrum_read v_Spectrum_read (xrm 6) (va_Pc [.ref (ad 18), .ref (ad 1), .int (nI n)] (xS D classes (xT cI cJ cZ cC cG cP) N ad σ)) (va_Qv (fun σ2 => ∃ (t : Int64) (b lf : Nat) (K' : Nat → Int32) (V' X' Ff : Nat → Nat → Int32) (sf : Nat → Int32), t.toInt = trF A n ∧ bdF A n n < 2 ^ b ∧ (∀ k, k < b → 2 ^ k ≤ bdF A n n) ∧ lf = (n * (b + 30 + 1) + 6) / 30 + 1 ∧ 2 ≤ lf ∧ lf ≤ 12 ∧ (∀ q, q < 18 ∨ q = 19 ∨ (90 ≤ q ∧ q < 100) ∨ (110 ≤ q ∧ q < 141) ∨ (155 ≤ q ∧ q ≠ 178) → σ2 q = σ q) ∧ σ2 18 = .inr (ciE, eF ad (nI 0) (nI n) (nI (bdF A n n)) t) ∧ bkU ad cI cG σ2 (fun i j => (A i j).toInt) n ∧ mat ad cI cG σ2 141 142 V' ∧ mat ad cI cG σ2 148 149 X' ∧ σ2 178 = .inl (cZ, 6, .inl K') ∧ (∀ k, k < n → K' k = 0) ∧ pl ad cI cG σ2 100 12 n lf Ff sf ∧ pl_is Ff n lf (mulp 1073741824 n (pB (fun i j => (A i j).toInt) n) n)) (xS D classes (xT cI cJ cZ cC cG cP) N ad) (xA N ad)) 0 0 (xA N ad) := by
  refine xr_met rfl (Nat.le_of_ble_eq_true rfl) ?_
  intro p e s m args below meth c ls hx hb X hr hlk hl I
  have hl : lv_has ls 4 [(0, .ref (ad 18)), (1, .ref (ad 1)), (2, .int (nI n))] := hl
  refine lv_aload_n hx hb d_Spectrum_read_0 rfl (lv_at hl 0 rfl) ?_
  refine lv_iload_n hx hb d_Spectrum_read_1 rfl (lv_at hl 2 rfl) ?_
  refine xr_put (ty := .int) X I fin_E t_E t_E_ok n_E 18 (by omega) hE rfl 11 (by decide) (List.mem_cons_of_mem _ k_d4fb48ecc0) rfl rfl (by decide +kernel) rfl rfl (Nat.le_of_ble_eq_true rfl) d_Spectrum_read_2 (fun H locs I => ?_)
  have I : xI D classes N ad s.heap (va_up σ 18 (.inr (ciE, eF ad rk (nI n) bo tr))) H locs := I
  refine lv_aload_n hx hb d_Spectrum_read_5 rfl (lv_at hl 0 rfl) ?_
  refine lv_aload_n hx hb d_Spectrum_read_6 rfl (lv_at hl 1 rfl) ?_
  refine xr_callv (xr_runV (kc := 1) (kr := 6) (n := 1) (As := [.ref (ad 1)]) (rest := []) X I (by omega) (va_up_self _ _ _) rfl (c_Spectrum_measure (n := n) (A := A) hN (va_up_self _ _ _) hn (mat_same hA (va_up_ne _ _ (by decide)) (fun q h1 h2 => va_up_ne _ _ (by omega))) hAb) (xg k_cc6c39792b) (List.mem_cons_of_mem _ k_4166ee24a5) (List.mem_cons_of_mem _ k_5e59954fd7) (List.mem_cons_of_mem _ k_aded0cc218) (List.mem_cons_of_mem _ k_c663d572ae) (by decide +kernel) (by decide) rfl hl.1 rfl (Nat.le_of_ble_eq_true rfl) d_Spectrum_read_7) I (fun σ1 H locs hp I => ?_)
  obtain ⟨t9, ht9, h9⟩ := hp
  rw [va_up_up] at h9
  have E1 : σ1 18 = .inr (ciE, eF ad rk (nI n) (nI (bdF A n n)) t9) := by rw [h9]; exact va_up_self _ _ _
  have f1 : ∀ q, q ≠ 18 → σ1 q = σ q := fun q hq => by rw [h9]; exact va_up_ne _ _ hq
  clear h9
  have hbl := bdF_le (n := n) hAb hn n hn
  refine lv_iconst (v := nI 0) hx hb d_Spectrum_read_10 (by decide) ?_
  refine lv_istore_n (lv' := [(3, .int (nI 0)), (0, .ref (ad 18)), (1, .ref (ad 1)), (2, .int (nI n))]) hx hb d_Spectrum_read_11 rfl hl (by decide) rfl (fun ls hl => ?_)
  have loop : ∀ (f : Nat) (k : Nat) (σ2 : Nat → va_E) (V2 X2 : Nat → Nat → Int32) (K2 : Nat → Int32) (ls : Array Slot) (H : Heap) (locs : List Loc), k + f = n → (∀ q, q < 20 ∨ (90 ≤ q ∧ q < 141) ∨ (155 ≤ q ∧ q ≠ 178) → σ2 q = σ1 q) → bkU ad cI cG σ2 (fun i j => (A i j).toInt) k → mat ad cI cG σ2 141 142 V2 → mat ad cI cG σ2 148 149 X2 → σ2 178 = .inl (cZ, 6, .inl K2) → (∀ a, a < k → K2 a = 0) → lv_has ls 4 [(3, .int (nI k)), (0, .ref (ad 18)), (1, .ref (ad 1)), (2, .int (nI n))] → xI D classes N ad s.heap (σ2) H locs → W p l e (xrm 6) s m args below meth c H locs 0 0 (MQ below (va_Qv (fun σ2 => ∃ (t : Int64) (b lf : Nat) (K' : Nat → Int32) (V' X' Ff : Nat → Nat → Int32) (sf : Nat → Int32), t.toInt = trF A n ∧ bdF A n n < 2 ^ b ∧ (∀ k, k < b → 2 ^ k ≤ bdF A n n) ∧ lf = (n * (b + 30 + 1) + 6) / 30 + 1 ∧ 2 ≤ lf ∧ lf ≤ 12 ∧ (∀ q, q < 18 ∨ q = 19 ∨ (90 ≤ q ∧ q < 100) ∨ (110 ≤ q ∧ q < 141) ∨ (155 ≤ q ∧ q ≠ 178) → σ2 q = σ q) ∧ σ2 18 = .inr (ciE, eF ad (nI 0) (nI n) (nI (bdF A n n)) t) ∧ bkU ad cI cG σ2 (fun i j => (A i j).toInt) n ∧ mat ad cI cG σ2 141 142 V' ∧ mat ad cI cG σ2 148 149 X' ∧ σ2 178 = .inl (cZ, 6, .inl K') ∧ (∀ k, k < n → K' k = 0) ∧ pl ad cI cG σ2 100 12 n lf Ff sf ∧ pl_is Ff n lf (mulp 1073741824 n (pB (fun i j => (A i j).toInt) n) n)) (xS D classes (xT cI cJ cZ cC cG cP) N ad) (xA N ad)) args s 0 0 (xA N ad)) (F0 m 12 ls []) := by
    intro f
    induction f with
    | zero =>
      intro k σ2 V2 X2 K2 ls H locs hk f2 b1 v1 x1 k1 k2 hl I
      obtain rfl : n = k := by omega
      refine lv_iload_n hx hb d_Spectrum_read_12 rfl (lv_at hl 0 rfl) ?_
      refine lv_iload_n hx hb d_Spectrum_read_13 rfl (lv_at hl 3 rfl) ?_
      refine lv_icmp_ge hx hb d_Spectrum_read_14 rfl (fun hc => ?_) (fun hc => ?_)
      · have E2 : σ2 18 = .inr (ciE, eF ad rk (nI n) (nI (bdF A n n)) t9) := (f2 18 (by omega)).trans E1
        refine lv_aload_n hx hb d_Spectrum_read_52 rfl (lv_at hl 1 rfl) ?_
        refine lv_iconst (v := nI 0) hx hb d_Spectrum_read_53 (by decide) ?_
        refine xr_put (ty := .boolean) X I fin_E t_E t_E_ok n_E 18 (by omega) E2 rfl 10 (by decide) (List.mem_cons_of_mem _ k_85f06032a7) rfl rfl (by decide +kernel) rfl rfl (Nat.le_of_ble_eq_true rfl) d_Spectrum_read_54 (fun H locs I => ?_)
        have I : xI D classes N ad s.heap (va_up σ2 18 (.inr (ciE, eF ad (nI 0) (nI n) (nI (bdF A n n)) t9))) H locs := I
        obtain ⟨σ3, hσ3⟩ : ∃ s3, s3 = va_up σ2 18 (.inr (ciE, eF ad (nI 0) (nI n) (nI (bdF A n n)) t9)) := ⟨_, rfl⟩
        rw [← hσ3] at I
        have E3 : σ3 18 = .inr (ciE, eF ad (nI 0) (nI n) (nI (bdF A n n)) t9) := by rw [hσ3]; exact va_up_self _ _ _
        have f3 : ∀ q, q ≠ 18 → σ3 q = σ2 q := fun q hq => by rw [hσ3]; exact va_up_ne _ _ hq
        clear hσ3
        refine lv_aload_n hx hb d_Spectrum_read_57 rfl (lv_at hl 1 rfl) ?_
        refine xr_get X I fin_E 18 (by omega) E3 rfl 2 (by decide) (List.mem_cons_of_mem _ k_e152497569) rfl rfl d_Spectrum_read_58 ?_
        refine lv_aload_n hx hb d_Spectrum_read_61 rfl (lv_at hl 1 rfl) ?_
        refine xr_get X I fin_E 18 (by omega) E3 rfl 0 (by decide) (List.mem_cons_of_mem _ k_453373e9e7) rfl rfl d_Spectrum_read_62 ?_
        refine lv_iload_n hx hb d_Spectrum_read_65 rfl (lv_at hl 3 rfl) ?_
        refine xr_aald X I 19 5 (by omega) ((f3 19 (by decide)).trans ((f2 19 (by omega)).trans ((f1 19 (by decide)).trans hBl))) rfl rfl (by omega) (by decide) (bl_at (by omega)) d_Spectrum_read_66 ?_
        refine lv_aload_n hx hb d_Spectrum_read_67 rfl (lv_at hl 1 rfl) ?_
        refine xr_calli (xr_runV (kc := 5) (kr := 6) (n := 0) (As := []) (rest := [.ref (ad (20 + 10 * n)), .ref (ad 100)]) X I (by omega) E3 rfl (c_Spectrum_limbsForEdges (n := n) (bo := bdF A n n) hN E3 hn hbl) (xg k_46cf53696f) (List.mem_cons_of_mem _ k_0fab8790b9) (List.mem_cons_of_mem _ k_92a7d7f857) (List.mem_cons_of_mem _ k_5cc079e01f) (List.mem_cons_of_mem _ k_c663d572ae) (by decide +kernel) (by decide) rfl hl.1 rfl (Nat.le_of_ble_eq_true rfl) d_Spectrum_read_68) I (fun r1 σ9 H locs hp I => ?_)
        obtain ⟨b, rfl, q1, q2, h9⟩ := hp; rw [h9] at I; clear h9
        have hb23 : b ≤ 23 := by rcases Nat.lt_or_ge 23 b with h | h; have := q2 23 h; omega; exact h
        have hnb : n * (b + 30 + 1) ≤ 6 * 54 := Nat.mul_le_mul hn (by omega)
        have hnb2 : 1 * 31 ≤ n * (b + 30 + 1) := Nat.mul_le_mul hn1 (by omega)
        obtain ⟨lf, hlf⟩ : ∃ lf, lf = (n * (b + 30 + 1) + 6) / 30 + 1 := ⟨_, rfl⟩
        refine xr_topi (y := nI lf) (by rw [hlf]) ?_
        have hl12 : lf ≤ 12 := by omega
        have hl2 : 2 ≤ lf := by omega
        obtain ⟨Fk, sk, p1, p2⟩ := b1.1 n (Nat.le_refl _)
        have p3 := pl_same p1 (fun q h1 h2 => f3 q (by omega))
        have fi3 := pl_same hfi (fun q h1 h2 => (f3 q (by omega)).trans ((f2 q (by omega)).trans (f1 q (by omega))))
        refine xr_callv (xr_runV (kc := 3) (kr := 6) (n := 2) (As := [.ref (ad (20 + 10 * n)), .int (nI lf)]) (rest := []) X I (by omega) (pl_o fi3) rfl (c_Polynomial_load (i := 100) (j := 20 + 10 * n) (by omega) (by omega) (by omega) fi3 p3 hn (by decide) (by decide) (by decide) (by decide) hl12 p2 hszn) (xg k_69d11c4a63) (List.mem_cons_of_mem _ k_ad4977aa85) (List.mem_cons_of_mem _ k_b375a81d80) (List.mem_cons_of_mem _ k_fcbb6b90f7) (List.mem_cons_of_mem _ k_a8ac99ee00) (by decide +kernel) (by decide) rfl hl.1 rfl (Nat.le_of_ble_eq_true rfl) d_Spectrum_read_71) I (fun σ4 H locs hp I => ?_)
        obtain ⟨F4, fr4, hp4, hi4⟩ := hp
        refine lv_aload_n hx hb d_Spectrum_read_74 rfl (lv_at hl 1 rfl) ?_
        refine xr_get X I fin_E 18 (by omega) ((fr4 18 (by omega)).trans E3) rfl 2 (by decide) (List.mem_cons_of_mem _ k_e152497569) rfl rfl d_Spectrum_read_75 ?_
        refine lv_ldc2 (v := 1073741824) hx hb X.1.2.2.2.1 (X.1.2.2.2.2 _ (List.mem_cons_of_mem _ k_86a0bb5680)) d_Spectrum_read_78 ?_
        refine xr_callv (xr_runV (kc := 2) (kr := 6) (n := 1) (As := [.long 1073741824]) (rest := []) X I (by omega) (pl_o hp4) rfl (c_Polynomial_multiplyRoots (i := 100) (v := (1073741824 : Int64)) (by omega) hp4 hn (by decide) hl12 hl2 hi4) (xg k_68ed1cfc4a) (List.mem_cons_of_mem _ k_8e1bf97fa6) (List.mem_cons_of_mem _ k_9f9fb940be) (List.mem_cons_of_mem _ k_91b385045a) (List.mem_cons_of_mem _ k_a8ac99ee00) (by decide +kernel) (by decide) rfl hl.1 rfl (Nat.le_of_ble_eq_true rfl) d_Spectrum_read_81) I (fun σ5 H locs hp I => ?_)
        obtain ⟨F5, s5, fr5, hp5, hi5⟩ := hp
        rw [show (1073741824 : Int64).toInt = 1073741824 by decide] at hi5
        have g5 : ∀ q, q < 100 ∨ 110 ≤ q → σ5 q = σ3 q := fun q hq => (fr5 q (by omega)).trans (fr4 q (by omega))
        exact xr_vret X I hr hlk ⟨t9, b, lf, K2, V2, X2, F5, s5, ht9, q1, q2, hlf, hl2, hl12, fun q hq => (g5 q (by omega)).trans ((f3 q (by omega)).trans ((f2 q (by omega)).trans (f1 q (by omega)))), (g5 18 (by omega)).trans E3, bkU_keep b1 hn (fun q h1 h2 => (g5 q (by omega)).trans (f3 q (by omega))), mat_same v1 ((g5 141 (by omega)).trans (f3 141 (by decide))) (fun q h1 h2 => (g5 q (by omega)).trans (f3 q (by omega))), mat_same x1 ((g5 148 (by omega)).trans (f3 148 (by decide))) (fun q h1 h2 => (g5 q (by omega)).trans (f3 q (by omega))), (g5 178 (by omega)).trans ((f3 178 (by decide)).trans k1), k2, hp5, hi5⟩ d_Spectrum_read_84
      · exact absurd (nI_le (Nat.le_refl _) (by omega)) hc
    | succ f ih =>
      intro k σ2 V2 X2 K2 ls H locs hk f2 b1 v1 x1 k1 k2 hl I
      have E2 : σ2 18 = .inr (ciE, eF ad rk (nI n) (nI (bdF A n n)) t9) := (f2 18 (by omega)).trans E1
      refine lv_iload_n hx hb d_Spectrum_read_12 rfl (lv_at hl 0 rfl) ?_
      refine lv_iload_n hx hb d_Spectrum_read_13 rfl (lv_at hl 3 rfl) ?_
      refine lv_icmp_ge hx hb d_Spectrum_read_14 rfl (fun hc => ?_) (fun hc => ?_)
      · exact absurd hc (nI_ge (by omega) (by omega))
      · refine lv_aload_n hx hb d_Spectrum_read_17 rfl (lv_at hl 1 rfl) ?_
        refine xr_get X I fin_E 18 (by omega) E2 rfl 6 (by decide) (List.mem_cons_of_mem _ k_dc79b5a992) rfl rfl d_Spectrum_read_18 ?_
        refine lv_aload_n hx hb d_Spectrum_read_21 rfl (lv_at hl 1 rfl) ?_
        refine xr_get X I fin_E 18 (by omega) E2 rfl 0 (by decide) (List.mem_cons_of_mem _ k_453373e9e7) rfl rfl d_Spectrum_read_22 ?_
        refine lv_iload_n hx hb d_Spectrum_read_25 rfl (lv_at hl 0 rfl) ?_
        refine lv_iconst (v := nI 1) hx hb d_Spectrum_read_26 (by decide) ?_
        refine lv_iadd hx hb d_Spectrum_read_27 (xr_topi (y := nI (k + 1)) (nI_add k 1) ?_)
        refine xr_aald X I 19 5 (by omega) ((f2 19 (by omega)).trans ((f1 19 (by decide)).trans hBl)) rfl rfl (by omega) (by decide) (bl_at (by omega)) d_Spectrum_read_28 ?_
        refine lv_aload_n hx hb d_Spectrum_read_29 rfl (lv_at hl 1 rfl) ?_
        refine xr_get X I fin_E 18 (by omega) E2 rfl 0 (by decide) (List.mem_cons_of_mem _ k_453373e9e7) rfl rfl d_Spectrum_read_30 ?_
        refine lv_iload_n hx hb d_Spectrum_read_33 rfl (lv_at hl 0 rfl) ?_
        refine xr_aald X I 19 5 (by omega) ((f2 19 (by omega)).trans ((f1 19 (by decide)).trans hBl)) rfl rfl (by omega) (by decide) (bl_at (by omega)) d_Spectrum_read_34 ?_
        refine lv_aload_n hx hb d_Spectrum_read_35 rfl (lv_at hl 2 rfl) ?_
        obtain ⟨Fk, sk, p1, p2⟩ := b1.1 k (Nat.le_refl _)
        obtain ⟨dg, Fg, sg9, p3⟩ := b1.2 (k + 1) (by omega) (by omega)
        have A2 := mat_same hA ((f2 1 (by omega)).trans (f1 1 (by decide))) (fun q h1 h2 => (f2 q (by omega)).trans (f1 q (by omega)))
        have O2 : σ2 140 = .inr (ciB, [.ref (ad 141), .ref (ad 148)]) := (f2 140 (by omega)).trans ((f1 140 (by decide)).trans hOb)
        refine xr_callv (xr_runV (kc := 3) (kr := 6) (n := 3) (As := [.ref (ad (20 + 10 * (k + 1))), .ref (ad (20 + 10 * k)), .ref (ad 1)]) (rest := []) X I (by omega) O2 rfl (c_Border_grow (gi := 20 + 10 * (k + 1)) (oi := 20 + 10 * k) (k := k) (p0 := pB (fun i j => (A i j).toInt) k) hN O2 A2 v1 x1 (by omega) (by omega) (by omega) p3 p1 (by omega) p2 hAb) (xg k_40725100b0) (List.mem_cons_of_mem _ k_648192101f) (List.mem_cons_of_mem _ k_a72d12cad0) (List.mem_cons_of_mem _ k_5c771c7988) (List.mem_cons_of_mem _ k_d3d54dd4b0) (by decide +kernel) (by decide) rfl hl.1 rfl (Nat.le_of_ble_eq_true rfl) d_Spectrum_read_36) I (fun σ3 H locs hp I => ?_)
        obtain ⟨F3, V3, X3, g0, g1, g2, g3, g4⟩ := hp
        refine lv_aload_n hx hb d_Spectrum_read_39 rfl (lv_at hl 1 rfl) ?_
        refine xr_get X I fin_E 18 (by omega) ((g0 18 (by omega) (by omega)).trans E2) rfl 9 (by decide) (List.mem_cons_of_mem _ k_b2d2dedb7a) rfl rfl d_Spectrum_read_40 ?_
        refine lv_iload_n hx hb d_Spectrum_read_43 rfl (lv_at hl 0 rfl) ?_
        refine lv_iconst (v := nI 0) hx hb d_Spectrum_read_44 (by decide) ?_
        refine xr_zast X I 178 2 (by omega) ((g0 178 (by omega) (by omega)).trans k1) rfl (by omega) (by decide) d_Spectrum_read_45 (fun H locs I => ?_)
        rw [show vp_nar .boolean (nI 0) = 0 by decide] at I
        refine lv_iinc (k := 0) (v := nI (k + 1)) (lv' := [(3, .int (nI (k + 1))), (0, .ref (ad 18)), (1, .ref (ad 1)), (2, .int (nI n))]) hx hb d_Spectrum_read_46 hl rfl (nI_1 k) (by decide) rfl (fun ls hl => ?_)
        refine lv_goto hx hb d_Spectrum_read_49 rfl ?_
        refine ih (k + 1) _ V3 X3 (upd K2 k 0) ls H locs (by omega) (fun q hq => (va_up_ne _ _ (by omega)).trans ((g0 q (by omega) (by omega)).trans (f2 q hq))) (bkU_next b1 (by omega) (fun q h1 h2 h3 => (va_up_ne _ _ (by omega)).trans (g0 q h3 (by omega))) (pl_else g1 (by omega) _) g2) (mat_same g3 (va_up_ne _ _ (by decide)) (fun q h1 h2 => va_up_ne _ _ (by omega))) (mat_same g4 (va_up_ne _ _ (by decide)) (fun q h1 h2 => va_up_ne _ _ (by omega))) (va_up_self _ _ _) (fun a ha => ?_) hl I
        by_cases e9 : a = k
        · rw [e9, upd_s]
        · rw [upd_n e9]; exact k2 a (by omega)
  exact loop n 0 σ1 Vf Xf Kn ls _ _ (by omega) (fun _ _ => rfl) (bkU_keep hbk (by decide) (fun q h1 h2 => f1 q (by omega))) (mat_same hV (f1 141 (by decide)) (fun q h1 h2 => f1 q (by omega))) (mat_same hX (f1 148 (by decide)) (fun q h1 h2 => f1 q (by omega))) ((f1 178 (by decide)).trans hK) (fun a ha => absurd ha (Nat.not_lt_zero _)) hl I
