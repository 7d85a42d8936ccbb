/-! the reference: bigHolds (written by wip/gen) -/
abbrev b_SpectrumDeskModel_bigHolds : ByteArray := prog_10_method_14_code
abbrev y_SpectrumDeskModel_bigHolds : MethodName := ⟨"SpectrumDeskModel", "bigHolds", "(III)Z"⟩
abbrev v_SpectrumDeskModel_bigHolds : List Cond := Cond.code y_SpectrumDeskModel_bigHolds b_SpectrumDeskModel_bigHolds 5 (some .boolean) :: AW
theorem d_SpectrumDeskModel_bigHolds_0 : decode b_SpectrumDeskModel_bigHolds 0 = .ok (.aload_n 0, 1) := by decide +kernel
theorem d_SpectrumDeskModel_bigHolds_1 : decode b_SpectrumDeskModel_bigHolds 1 = .ok (.getfield 13, 3) := by decide +kernel
theorem d_SpectrumDeskModel_bigHolds_4 : decode b_SpectrumDeskModel_bigHolds 4 = .ok (.iload_n 1, 1) := by decide +kernel
theorem d_SpectrumDeskModel_bigHolds_5 : decode b_SpectrumDeskModel_bigHolds 5 = .ok (.iaload, 1) := by decide +kernel
theorem d_SpectrumDeskModel_bigHolds_6 : decode b_SpectrumDeskModel_bigHolds 6 = .ok (.aload_n 0, 1) := by decide +kernel
theorem d_SpectrumDeskModel_bigHolds_7 : decode b_SpectrumDeskModel_bigHolds 7 = .ok (.getfield 13, 3) := by decide +kernel
theorem d_SpectrumDeskModel_bigHolds_10 : decode b_SpectrumDeskModel_bigHolds 10 = .ok (.iload_n 2, 1) := by decide +kernel
theorem d_SpectrumDeskModel_bigHolds_11 : decode b_SpectrumDeskModel_bigHolds 11 = .ok (.iaload, 1) := by decide +kernel
theorem d_SpectrumDeskModel_bigHolds_12 : decode b_SpectrumDeskModel_bigHolds 12 = .ok (.iload_n 3, 1) := by decide +kernel
theorem d_SpectrumDeskModel_bigHolds_13 : decode b_SpectrumDeskModel_bigHolds 13 = .ok (.iadd, 1) := by decide +kernel
theorem d_SpectrumDeskModel_bigHolds_14 : decode b_SpectrumDeskModel_bigHolds 14 = .ok (.if_icmp .eq (26), 3) := by decide +kernel
theorem d_SpectrumDeskModel_bigHolds_17 : decode b_SpectrumDeskModel_bigHolds 17 = .ok (.aload_n 0, 1) := by decide +kernel
theorem d_SpectrumDeskModel_bigHolds_18 : decode b_SpectrumDeskModel_bigHolds 18 = .ok (.getfield 13, 3) := by decide +kernel
theorem d_SpectrumDeskModel_bigHolds_21 : decode b_SpectrumDeskModel_bigHolds 21 = .ok (.iload_n 1, 1) := by decide +kernel
theorem d_SpectrumDeskModel_bigHolds_22 : decode b_SpectrumDeskModel_bigHolds 22 = .ok (.iaload, 1) := by decide +kernel
theorem d_SpectrumDeskModel_bigHolds_23 : decode b_SpectrumDeskModel_bigHolds 23 = .ok (.aload_n 0, 1) := by decide +kernel
theorem d_SpectrumDeskModel_bigHolds_24 : decode b_SpectrumDeskModel_bigHolds 24 = .ok (.getfield 13, 3) := by decide +kernel
theorem d_SpectrumDeskModel_bigHolds_27 : decode b_SpectrumDeskModel_bigHolds 27 = .ok (.iload_n 2, 1) := by decide +kernel
theorem d_SpectrumDeskModel_bigHolds_28 : decode b_SpectrumDeskModel_bigHolds 28 = .ok (.iaload, 1) := by decide +kernel
theorem d_SpectrumDeskModel_bigHolds_29 : decode b_SpectrumDeskModel_bigHolds 29 = .ok (.iload_n 3, 1) := by decide +kernel
theorem d_SpectrumDeskModel_bigHolds_30 : decode b_SpectrumDeskModel_bigHolds 30 = .ok (.iadd, 1) := by decide +kernel
theorem d_SpectrumDeskModel_bigHolds_31 : decode b_SpectrumDeskModel_bigHolds 31 = .ok (.if_icmp .le (7), 3) := by decide +kernel
theorem d_SpectrumDeskModel_bigHolds_34 : decode b_SpectrumDeskModel_bigHolds 34 = .ok (.iconst 1, 1) := by decide +kernel
theorem d_SpectrumDeskModel_bigHolds_35 : decode b_SpectrumDeskModel_bigHolds 35 = .ok (.goto (4), 3) := by decide +kernel
theorem d_SpectrumDeskModel_bigHolds_38 : decode b_SpectrumDeskModel_bigHolds 38 = .ok (.iconst 0, 1) := by decide +kernel
theorem d_SpectrumDeskModel_bigHolds_39 : decode b_SpectrumDeskModel_bigHolds 39 = .ok (.ireturn, 1) := by decide +kernel
theorem d_SpectrumDeskModel_bigHolds_40 : decode b_SpectrumDeskModel_bigHolds 40 = .ok (.aload_n 0, 1) := by decide +kernel
theorem d_SpectrumDeskModel_bigHolds_41 : decode b_SpectrumDeskModel_bigHolds 41 = .ok (.getfield 13, 3) := by decide +kernel
theorem d_SpectrumDeskModel_bigHolds_44 : decode b_SpectrumDeskModel_bigHolds 44 = .ok (.iload_n 1, 1) := by decide +kernel
theorem d_SpectrumDeskModel_bigHolds_45 : decode b_SpectrumDeskModel_bigHolds 45 = .ok (.iaload, 1) := by decide +kernel
theorem d_SpectrumDeskModel_bigHolds_46 : decode b_SpectrumDeskModel_bigHolds 46 = .ok (.iconst 1, 1) := by decide +kernel
theorem d_SpectrumDeskModel_bigHolds_47 : decode b_SpectrumDeskModel_bigHolds 47 = .ok (.isub, 1) := by decide +kernel
theorem d_SpectrumDeskModel_bigHolds_48 : decode b_SpectrumDeskModel_bigHolds 48 = .ok (.istore 4, 2) := by decide +kernel
theorem d_SpectrumDeskModel_bigHolds_50 : decode b_SpectrumDeskModel_bigHolds 50 = .ok (.iload 4, 2) := by decide +kernel
theorem d_SpectrumDeskModel_bigHolds_52 : decode b_SpectrumDeskModel_bigHolds 52 = .ok (.iload_n 3, 1) := by decide +kernel
theorem d_SpectrumDeskModel_bigHolds_53 : decode b_SpectrumDeskModel_bigHolds 53 = .ok (.if_icmp .lt (28), 3) := by decide +kernel
theorem d_SpectrumDeskModel_bigHolds_56 : decode b_SpectrumDeskModel_bigHolds 56 = .ok (.aload_n 0, 1) := by decide +kernel
theorem d_SpectrumDeskModel_bigHolds_57 : decode b_SpectrumDeskModel_bigHolds 57 = .ok (.iload_n 1, 1) := by decide +kernel
theorem d_SpectrumDeskModel_bigHolds_58 : decode b_SpectrumDeskModel_bigHolds 58 = .ok (.iload 4, 2) := by decide +kernel
theorem d_SpectrumDeskModel_bigHolds_60 : decode b_SpectrumDeskModel_bigHolds 60 = .ok (.invokevirtual 16, 3) := by decide +kernel
theorem d_SpectrumDeskModel_bigHolds_63 : decode b_SpectrumDeskModel_bigHolds 63 = .ok (.aload_n 0, 1) := by decide +kernel
theorem d_SpectrumDeskModel_bigHolds_64 : decode b_SpectrumDeskModel_bigHolds 64 = .ok (.iload_n 2, 1) := by decide +kernel
theorem d_SpectrumDeskModel_bigHolds_65 : decode b_SpectrumDeskModel_bigHolds 65 = .ok (.iload 4, 2) := by decide +kernel
theorem d_SpectrumDeskModel_bigHolds_67 : decode b_SpectrumDeskModel_bigHolds 67 = .ok (.iload_n 3, 1) := by decide +kernel
theorem d_SpectrumDeskModel_bigHolds_68 : decode b_SpectrumDeskModel_bigHolds 68 = .ok (.isub, 1) := by decide +kernel
theorem d_SpectrumDeskModel_bigHolds_69 : decode b_SpectrumDeskModel_bigHolds 69 = .ok (.invokevirtual 16, 3) := by decide +kernel
theorem d_SpectrumDeskModel_bigHolds_72 : decode b_SpectrumDeskModel_bigHolds 72 = .ok (.if_icmp .ne (9), 3) := by decide +kernel
theorem d_SpectrumDeskModel_bigHolds_75 : decode b_SpectrumDeskModel_bigHolds 75 = .ok (.iinc 4 (-1), 3) := by decide +kernel
theorem d_SpectrumDeskModel_bigHolds_78 : decode b_SpectrumDeskModel_bigHolds 78 = .ok (.goto (-28), 3) := by decide +kernel
theorem d_SpectrumDeskModel_bigHolds_81 : decode b_SpectrumDeskModel_bigHolds 81 = .ok (.iload 4, 2) := by decide +kernel
theorem d_SpectrumDeskModel_bigHolds_83 : decode b_SpectrumDeskModel_bigHolds 83 = .ok (.iload_n 3, 1) := by decide +kernel
theorem d_SpectrumDeskModel_bigHolds_84 : decode b_SpectrumDeskModel_bigHolds 84 = .ok (.if_icmp .lt (22), 3) := by decide +kernel
theorem d_SpectrumDeskModel_bigHolds_87 : decode b_SpectrumDeskModel_bigHolds 87 = .ok (.aload_n 0, 1) := by decide +kernel
theorem d_SpectrumDeskModel_bigHolds_88 : decode b_SpectrumDeskModel_bigHolds 88 = .ok (.iload_n 1, 1) := by decide +kernel
theorem d_SpectrumDeskModel_bigHolds_89 : decode b_SpectrumDeskModel_bigHolds 89 = .ok (.iload 4, 2) := by decide +kernel
theorem d_SpectrumDeskModel_bigHolds_91 : decode b_SpectrumDeskModel_bigHolds 91 = .ok (.invokevirtual 16, 3) := by decide +kernel
theorem d_SpectrumDeskModel_bigHolds_94 : decode b_SpectrumDeskModel_bigHolds 94 = .ok (.aload_n 0, 1) := by decide +kernel
theorem d_SpectrumDeskModel_bigHolds_95 : decode b_SpectrumDeskModel_bigHolds 95 = .ok (.iload_n 2, 1) := by decide +kernel
theorem d_SpectrumDeskModel_bigHolds_96 : decode b_SpectrumDeskModel_bigHolds 96 = .ok (.iload 4, 2) := by decide +kernel
theorem d_SpectrumDeskModel_bigHolds_98 : decode b_SpectrumDeskModel_bigHolds 98 = .ok (.iload_n 3, 1) := by decide +kernel
theorem d_SpectrumDeskModel_bigHolds_99 : decode b_SpectrumDeskModel_bigHolds 99 = .ok (.isub, 1) := by decide +kernel
theorem d_SpectrumDeskModel_bigHolds_100 : decode b_SpectrumDeskModel_bigHolds 100 = .ok (.invokevirtual 16, 3) := by decide +kernel
theorem d_SpectrumDeskModel_bigHolds_103 : decode b_SpectrumDeskModel_bigHolds 103 = .ok (.if_icmp .le (7), 3) := by decide +kernel
theorem d_SpectrumDeskModel_bigHolds_106 : decode b_SpectrumDeskModel_bigHolds 106 = .ok (.iconst 1, 1) := by decide +kernel
theorem d_SpectrumDeskModel_bigHolds_107 : decode b_SpectrumDeskModel_bigHolds 107 = .ok (.goto (4), 3) := by decide +kernel
theorem d_SpectrumDeskModel_bigHolds_110 : decode b_SpectrumDeskModel_bigHolds 110 = .ok (.iconst 0, 1) := by decide +kernel
theorem d_SpectrumDeskModel_bigHolds_111 : decode b_SpectrumDeskModel_bigHolds 111 = .ok (.ireturn, 1) := by decide +kernel
theorem k_1601e1a340 : (Jvm.Cond.code ({ cls := "SpectrumDeskModel", name := "bigHolds", desc := "(III)Z" } : Jvm.MethodName) prog_10_method_14_code (5 : Nat) (Option.some Jvm.ClassFile.FieldType.boolean)) ∈ AW := aw_5 (List.mem_of_getElem? (i := 146) (by decide +kernel)) (by decide +kernel)
set_option maxHeartbeats 4000000 in
set_option maxRecDepth 100000 in
theorem c_SpectrumDeskModel_bigHolds {l : Launch} {D : va_G} {cI cJ cZ cC cG cP : ClassId} {ad : Nat → Nat} {σ0 : Nat → va_E} {fs : List Value} {P L M : Nat → Int32} {w u a b up : Nat} (hF : mF ad fs) (hw : w < 112) (hu : u < 112) (hne : u ≠ w) (ha : a < 300) (hb9 : b < 300) (hLw : L w = nI a) (hLu : L u = nI b) (hwo : rg_ok P (300 * w) a) (huo : rg_ok P (300 * u) b) (hwt : 0 < a → P (300 * w + (a - 1)) ≠ 0) (hut : 0 < b → P (300 * u + (b - 1)) ≠ 0) (hup : up ≤ 300) (hb0 : 0 < b) :
    Met l y_SpectrumDeskModel_bigHolds v_SpectrumDeskModel_bigHolds (xrm 1) (va_Pc [.ref (ad 183), .int (nI w), .int (nI u), .int (nI up)] (xS D classes (xT cI cJ cZ cC cG cP) 193 ad (rw3 σ0 ciM cI cZ fs P L M))) (va_Qi (fun r σ2 => r = (if rg P (300 * u) b * 16777216 ^ up ≤ rg P (300 * w) a then nI 1 else nI 0) ∧ σ2 = rw3 σ0 ciM cI cZ fs P L M) (xS D classes (xT cI cJ cZ cC cG cP) 193 ad) (xA 193 ad)) 0 0 (xA 193 ad) := by
  refine xr_met rfl (Nat.le_of_ble_eq_true rfl) ?_
  intro p e s m args below meth c ls hx hb X hr hlk hl I
  have hl : lv_has ls 5 [(0, .ref (ad 183)), (1, .int (nI w)), (2, .int (nI u)), (3, .int (nI up))] := hl
  refine lv_aload_n hx hb d_SpectrumDeskModel_bigHolds_0 rfl (lv_at hl 0 rfl) ?_
  refine xr_get X I fin_M 183 (by decide) (r183 ..) rfl 1 (by decide) (List.mem_cons_of_mem _ k_4ae214c350) rfl (mF_lengths hF) d_SpectrumDeskModel_bigHolds_1 ?_
  refine lv_iload_n hx hb d_SpectrumDeskModel_bigHolds_4 rfl (lv_at hl 1 rfl) ?_
  refine xr_iald X I 185 0 (by decide) (r185 ..) rfl (by omega) (by decide) d_SpectrumDeskModel_bigHolds_5 ?_
  refine xr_topi (y := nI a) hLw ?_
  refine lv_aload_n hx hb d_SpectrumDeskModel_bigHolds_6 rfl (lv_at hl 0 rfl) ?_
  refine xr_get X I fin_M 183 (by decide) (r183 ..) rfl 1 (by decide) (List.mem_cons_of_mem _ k_4ae214c350) rfl (mF_lengths hF) d_SpectrumDeskModel_bigHolds_7 ?_
  refine lv_iload_n hx hb d_SpectrumDeskModel_bigHolds_10 rfl (lv_at hl 2 rfl) ?_
  refine xr_iald X I 185 0 (by decide) (r185 ..) rfl (by omega) (by decide) d_SpectrumDeskModel_bigHolds_11 ?_
  refine xr_topi (y := nI b) hLu ?_
  refine lv_iload_n hx hb d_SpectrumDeskModel_bigHolds_12 rfl (lv_at hl 3 rfl) ?_
  refine lv_iadd hx hb d_SpectrumDeskModel_bigHolds_13 (xr_topi (y := nI (b + up)) (nI_add b up) ?_)
  refine lv_icmp_eq hx hb d_SpectrumDeskModel_bigHolds_14 rfl (fun hc => ?_) (fun hc => ?_)
  · have hab : a = up + b := by have h := (nI_eq (by omega) (by omega)).mp hc; omega
    rw [hab] at hLw hwo
    have hvo := rg_ok_up hwo
    have hH : ∀ x : Int, x * 16777216 ^ up ≤ rg P (300 * w) (up + b) ↔ x ≤ rg P (300 * w + up) b := fun x => hold_eq hwo
    refine lv_aload_n hx hb d_SpectrumDeskModel_bigHolds_40 rfl (lv_at hl 0 rfl) ?_
    refine xr_get X I fin_M 183 (by decide) (r183 ..) rfl 1 (by decide) (List.mem_cons_of_mem _ k_4ae214c350) rfl (mF_lengths hF) d_SpectrumDeskModel_bigHolds_41 ?_
    refine lv_iload_n hx hb d_SpectrumDeskModel_bigHolds_44 rfl (lv_at hl 1 rfl) ?_
    refine xr_iald X I 185 0 (by decide) (r185 ..) rfl (by omega) (by decide) d_SpectrumDeskModel_bigHolds_45 ?_
    refine xr_topi (y := nI (up + b)) hLw ?_
    refine lv_iconst (v := nI 1) hx hb d_SpectrumDeskModel_bigHolds_46 (by decide) ?_
    refine lv_isub hx hb d_SpectrumDeskModel_bigHolds_47 ?_
    refine xr_topi (y := nP (up + b)) rfl ?_
    refine lv_istore (lv' := [(4, .int (nP (up + b))), (0, .ref (ad 183)), (1, .int (nI w)), (2, .int (nI u)), (3, .int (nI up))]) hx hb d_SpectrumDeskModel_bigHolds_48 hl (by decide) rfl (fun ls hl => ?_)
    have loop : ∀ (k : Nat)  (ls : Array Slot) (H : Heap) (locs : List Loc), k ≤ b → (∀ j, k ≤ j → j < b → P (300 * w + up + j) = P (300 * u + j)) → lv_has ls 5 [(4, .int (nP (up + k))), (0, .ref (ad 183)), (1, .int (nI w)), (2, .int (nI u)), (3, .int (nI up))] → xI D classes 193 ad s.heap (rw3 σ0 ciM cI cZ fs P L M) H locs → W p l e (xrm 1) s m args below meth c H locs 0 0 (MQ below (va_Qi (fun r σ2 => r = (if rg P (300 * u) b * 16777216 ^ up ≤ rg P (300 * w) a then nI 1 else nI 0) ∧ σ2 = rw3 σ0 ciM cI cZ fs P L M) (xS D classes (xT cI cJ cZ cC cG cP) 193 ad) (xA 193 ad)) args s 0 0 (xA 193 ad)) (F0 m 50 ls []) := by
      intro k
      induction k with
      | zero =>
        intro ls H locs hk hz hl I
        refine lv_iload hx hb d_SpectrumDeskModel_bigHolds_50 (lv_at hl 0 rfl) ?_
        refine lv_iload_n hx hb d_SpectrumDeskModel_bigHolds_52 rfl (lv_at hl 4 rfl) ?_
        refine lv_icmp_lt hx hb d_SpectrumDeskModel_bigHolds_53 rfl (fun hc => ?_) (fun hc => ?_)
        · refine lv_iload hx hb d_SpectrumDeskModel_bigHolds_81 (lv_at hl 0 rfl) ?_
          refine lv_iload_n hx hb d_SpectrumDeskModel_bigHolds_83 rfl (lv_at hl 4 rfl) ?_
          refine lv_icmp_lt hx hb d_SpectrumDeskModel_bigHolds_84 rfl (fun hd => ?_) (fun hd => ?_)
          · refine lv_iconst (v := nI 1) hx hb d_SpectrumDeskModel_bigHolds_106 (by decide) ?_
            refine lv_goto hx hb d_SpectrumDeskModel_bigHolds_107 rfl ?_
            exact xr_zret X I hr hlk (by decide +kernel) ⟨by rw [hab, if_pos ((hH _).mpr (by rw [rg_congr (P := P) (o := 300 * w + up) (P' := P) (o' := 300 * u) (fun j hj => hz j (Nat.zero_le _) hj)]; exact Int.le_refl _))], rfl⟩ d_SpectrumDeskModel_bigHolds_111
          · exact absurd (nP_lt (by omega)) hd
        · exact absurd (nP_lt (by omega)) hc
      | succ k ih =>
        intro ls H locs hk hz hl I
        refine lv_iload hx hb d_SpectrumDeskModel_bigHolds_50 (lv_at hl 0 rfl) ?_
        refine xr_topi (y := nI (up + k)) (nP_succ (up + k)) ?_
        refine lv_iload_n hx hb d_SpectrumDeskModel_bigHolds_52 rfl (lv_at hl 4 rfl) ?_
        refine lv_icmp_lt hx hb d_SpectrumDeskModel_bigHolds_53 rfl (fun hc => ?_) (fun hc => ?_)
        · exact absurd hc (nI_nlt (by omega) (by omega))
        · refine lv_aload_n hx hb d_SpectrumDeskModel_bigHolds_56 rfl (lv_at hl 1 rfl) ?_
          refine lv_iload_n hx hb d_SpectrumDeskModel_bigHolds_57 rfl (lv_at hl 2 rfl) ?_
          refine lv_iload hx hb d_SpectrumDeskModel_bigHolds_58 (lv_at hl 0 rfl) ?_
          refine xr_topi (y := nI (up + k)) (nP_succ (up + k)) ?_
          refine xr_calli (xr_runV (kc := 0) (kr := 1) (n := 2) (As := [.int (nI w), .int (nI (up + k))]) (rest := []) X I (by decide) (r183 ..) rfl (c_SpectrumDeskModel_bigAt (P := P) (L := L) (M := M) (n := up + b) (i := up + k) hF hw (by omega) (by omega) hLw) (xg k_9795bdc343) (List.mem_cons_of_mem _ k_42414df306) (List.mem_cons_of_mem _ k_a35af8c930) (List.mem_cons_of_mem _ k_9a4475df0e) (List.mem_cons_of_mem _ k_30fa15c9ac) (by decide +kernel) (by decide) rfl hl.1 rfl (Nat.le_of_ble_eq_true rfl) d_SpectrumDeskModel_bigHolds_60) I (fun r1 σ1 H locs hp I => ?_)
          obtain ⟨hp1, rfl⟩ := hp
          obtain ⟨x, x1, rfl, x3⟩ := dg_nat hwo hp1
          rw [dg, if_pos (show up + k < up + b by omega), ← Nat.add_assoc] at x3
          refine lv_aload_n hx hb d_SpectrumDeskModel_bigHolds_63 rfl (lv_at hl 1 rfl) ?_
          refine lv_iload_n hx hb d_SpectrumDeskModel_bigHolds_64 rfl (lv_at hl 3 rfl) ?_
          refine lv_iload hx hb d_SpectrumDeskModel_bigHolds_65 (lv_at hl 0 rfl) ?_
          refine xr_topi (y := nI (up + k)) (nP_succ (up + k)) ?_
          refine lv_iload_n hx hb d_SpectrumDeskModel_bigHolds_67 rfl (lv_at hl 4 rfl) ?_
          refine lv_isub hx hb d_SpectrumDeskModel_bigHolds_68 (xr_topi (y := nI k) (by rw [pk_sub (by omega), Nat.add_sub_cancel_left]) ?_)
          refine xr_calli (xr_runV (kc := 0) (kr := 1) (n := 2) (As := [.int (nI u), .int (nI k)]) (rest := [.int (nI x)]) X I (by decide) (r183 ..) rfl (c_SpectrumDeskModel_bigAt (P := P) (L := L) (M := M) (n := b) (i := k) hF hu (by omega) (by omega) hLu) (xg k_9795bdc343) (List.mem_cons_of_mem _ k_42414df306) (List.mem_cons_of_mem _ k_a35af8c930) (List.mem_cons_of_mem _ k_9a4475df0e) (List.mem_cons_of_mem _ k_30fa15c9ac) (by decide +kernel) (by decide) rfl hl.1 rfl (Nat.le_of_ble_eq_true rfl) d_SpectrumDeskModel_bigHolds_69) I (fun r1 σ1 H locs hp I => ?_)
          obtain ⟨hp1, rfl⟩ := hp
          obtain ⟨y, y1, rfl, y3⟩ := dg_nat huo hp1
          rw [dg, if_pos (show k < b by omega)] at y3
          refine lv_icmp_ne hx hb d_SpectrumDeskModel_bigHolds_72 rfl (fun hd => ?_) (fun hd => ?_)
          · have hxy : x ≠ y := fun h => hd (by rw [h])
            refine lv_iload hx hb d_SpectrumDeskModel_bigHolds_81 (lv_at hl 0 rfl) ?_
            refine xr_topi (y := nI (up + k)) (nP_succ (up + k)) ?_
            refine lv_iload_n hx hb d_SpectrumDeskModel_bigHolds_83 rfl (lv_at hl 4 rfl) ?_
            refine lv_icmp_lt hx hb d_SpectrumDeskModel_bigHolds_84 rfl (fun hf => ?_) (fun hf => ?_)
            · exact absurd hf (nI_nlt (by omega) (by omega))
            · refine lv_aload_n hx hb d_SpectrumDeskModel_bigHolds_87 rfl (lv_at hl 1 rfl) ?_
              refine lv_iload_n hx hb d_SpectrumDeskModel_bigHolds_88 rfl (lv_at hl 2 rfl) ?_
              refine lv_iload hx hb d_SpectrumDeskModel_bigHolds_89 (lv_at hl 0 rfl) ?_
              refine xr_topi (y := nI (up + k)) (nP_succ (up + k)) ?_
              refine xr_calli (xr_runV (kc := 0) (kr := 1) (n := 2) (As := [.int (nI w), .int (nI (up + k))]) (rest := []) X I (by decide) (r183 ..) rfl (c_SpectrumDeskModel_bigAt (P := P) (L := L) (M := M) (n := up + b) (i := up + k) hF hw (by omega) (by omega) hLw) (xg k_9795bdc343) (List.mem_cons_of_mem _ k_42414df306) (List.mem_cons_of_mem _ k_a35af8c930) (List.mem_cons_of_mem _ k_9a4475df0e) (List.mem_cons_of_mem _ k_30fa15c9ac) (by decide +kernel) (by decide) rfl hl.1 rfl (Nat.le_of_ble_eq_true rfl) d_SpectrumDeskModel_bigHolds_91) I (fun r1 σ1 H locs hp I => ?_)
              obtain ⟨hp1, rfl⟩ := hp
              obtain ⟨x2, x21, rfl, x23⟩ := dg_nat hwo hp1
              rw [dg, if_pos (show up + k < up + b by omega), ← Nat.add_assoc] at x23
              refine lv_aload_n hx hb d_SpectrumDeskModel_bigHolds_94 rfl (lv_at hl 1 rfl) ?_
              refine lv_iload_n hx hb d_SpectrumDeskModel_bigHolds_95 rfl (lv_at hl 3 rfl) ?_
              refine lv_iload hx hb d_SpectrumDeskModel_bigHolds_96 (lv_at hl 0 rfl) ?_
              refine xr_topi (y := nI (up + k)) (nP_succ (up + k)) ?_
              refine lv_iload_n hx hb d_SpectrumDeskModel_bigHolds_98 rfl (lv_at hl 4 rfl) ?_
              refine lv_isub hx hb d_SpectrumDeskModel_bigHolds_99 (xr_topi (y := nI k) (by rw [pk_sub (by omega), Nat.add_sub_cancel_left]) ?_)
              refine xr_calli (xr_runV (kc := 0) (kr := 1) (n := 2) (As := [.int (nI u), .int (nI k)]) (rest := [.int (nI x2)]) X I (by decide) (r183 ..) rfl (c_SpectrumDeskModel_bigAt (P := P) (L := L) (M := M) (n := b) (i := k) hF hu (by omega) (by omega) hLu) (xg k_9795bdc343) (List.mem_cons_of_mem _ k_42414df306) (List.mem_cons_of_mem _ k_a35af8c930) (List.mem_cons_of_mem _ k_9a4475df0e) (List.mem_cons_of_mem _ k_30fa15c9ac) (by decide +kernel) (by decide) rfl hl.1 rfl (Nat.le_of_ble_eq_true rfl) d_SpectrumDeskModel_bigHolds_100) I (fun r1 σ1 H locs hp I => ?_)
              obtain ⟨hp1, rfl⟩ := hp
              obtain ⟨y2, y21, rfl, y23⟩ := dg_nat huo hp1
              rw [dg, if_pos (show k < b by omega)] at y23
              refine lv_icmp_le hx hb d_SpectrumDeskModel_bigHolds_103 rfl (fun hg => ?_) (fun hg => ?_)
              · have h := (nI_leI (by omega) (by omega)).mp hg
                have hlt := rg_lt_at (show k < b by omega) hvo huo (fun j h1 h2 => hz j (by omega) h2) (by omega)
                refine lv_iconst (v := nI 0) hx hb d_SpectrumDeskModel_bigHolds_110 (by decide) ?_
                exact xr_zret X I hr hlk (by decide +kernel) ⟨by rw [hab, if_neg (fun h => absurd ((hH _).mp h) (Int.not_le.mpr hlt))], rfl⟩ d_SpectrumDeskModel_bigHolds_111
              · have h : ¬ x2 ≤ y2 := fun h => hg (nI_le h (by omega))
                have hlt := rg_lt_at (show k < b by omega) huo hvo (fun j h1 h2 => (hz j (by omega) h2).symm) (by omega)
                refine lv_iconst (v := nI 1) hx hb d_SpectrumDeskModel_bigHolds_106 (by decide) ?_
                refine lv_goto hx hb d_SpectrumDeskModel_bigHolds_107 rfl ?_
                exact xr_zret X I hr hlk (by decide +kernel) ⟨by rw [hab, if_pos ((hH _).mpr (Int.le_of_lt hlt))], rfl⟩ d_SpectrumDeskModel_bigHolds_111
          · have hxy : x = y := (nI_eq (by omega) (by omega)).mp hd
            refine lv_iinc (k := 0) (v := nP (up + k)) (lv' := [(4, .int (nP (up + k))), (0, .ref (ad 183)), (1, .int (nI w)), (2, .int (nI u)), (3, .int (nI up))]) hx hb d_SpectrumDeskModel_bigHolds_75 hl rfl (nP_dec (up + k)) (by decide) rfl (fun ls hl => ?_)
            refine lv_goto hx hb d_SpectrumDeskModel_bigHolds_78 rfl ?_
            exact ih ls H locs (by omega) (fun j h1 h2 => if ej : j = k then (by rw [ej]; exact q_iinj (by omega)) else hz j (by omega) h2) hl I
    exact loop b ls _ _ (Nat.le_refl _) (fun j h1 h2 => by omega) hl I
  · have hab : a ≠ b + up := fun h => hc (by rw [h])
    refine lv_aload_n hx hb d_SpectrumDeskModel_bigHolds_17 rfl (lv_at hl 0 rfl) ?_
    refine xr_get X I fin_M 183 (by decide) (r183 ..) rfl 1 (by decide) (List.mem_cons_of_mem _ k_4ae214c350) rfl (mF_lengths hF) d_SpectrumDeskModel_bigHolds_18 ?_
    refine lv_iload_n hx hb d_SpectrumDeskModel_bigHolds_21 rfl (lv_at hl 1 rfl) ?_
    refine xr_iald X I 185 0 (by decide) (r185 ..) rfl (by omega) (by decide) d_SpectrumDeskModel_bigHolds_22 ?_
    refine xr_topi (y := nI a) hLw ?_
    refine lv_aload_n hx hb d_SpectrumDeskModel_bigHolds_23 rfl (lv_at hl 0 rfl) ?_
    refine xr_get X I fin_M 183 (by decide) (r183 ..) rfl 1 (by decide) (List.mem_cons_of_mem _ k_4ae214c350) rfl (mF_lengths hF) d_SpectrumDeskModel_bigHolds_24 ?_
    refine lv_iload_n hx hb d_SpectrumDeskModel_bigHolds_27 rfl (lv_at hl 2 rfl) ?_
    refine xr_iald X I 185 0 (by decide) (r185 ..) rfl (by omega) (by decide) d_SpectrumDeskModel_bigHolds_28 ?_
    refine xr_topi (y := nI b) hLu ?_
    refine lv_iload_n hx hb d_SpectrumDeskModel_bigHolds_29 rfl (lv_at hl 3 rfl) ?_
    refine lv_iadd hx hb d_SpectrumDeskModel_bigHolds_30 (xr_topi (y := nI (b + up)) (nI_add b up) ?_)
    refine lv_icmp_le hx hb d_SpectrumDeskModel_bigHolds_31 rfl (fun hd => ?_) (fun hd => ?_)
    · have h := (nI_leI (by omega) (by omega)).mp hd
      refine lv_iconst (v := nI 0) hx hb d_SpectrumDeskModel_bigHolds_38 (by decide) ?_
      exact xr_zret X I hr hlk (by decide +kernel) ⟨by rw [if_neg (hold_lt hwo huo hb0 (hut hb0) (by omega))], rfl⟩ d_SpectrumDeskModel_bigHolds_39
    · have h : ¬ a ≤ b + up := fun h => hd (nI_le h (by omega))
      refine lv_iconst (v := nI 1) hx hb d_SpectrumDeskModel_bigHolds_34 (by decide) ?_
      refine lv_goto hx hb d_SpectrumDeskModel_bigHolds_35 rfl ?_
      exact xr_zret X I hr hlk (by decide +kernel) ⟨by rw [if_pos (hold_gt hwo huo hwt (by omega))], rfl⟩ d_SpectrumDeskModel_bigHolds_39
