/-! the reference: bigLose (written by wip/gen) -/
abbrev b_SpectrumDeskModel_bigLose : ByteArray := prog_10_method_13_code
abbrev y_SpectrumDeskModel_bigLose : MethodName := ⟨"SpectrumDeskModel", "bigLose", "(IIJI)V"⟩
abbrev v_SpectrumDeskModel_bigLose : List Cond := Cond.code y_SpectrumDeskModel_bigLose b_SpectrumDeskModel_bigLose 13 none :: AW
theorem d_SpectrumDeskModel_bigLose_0 : decode b_SpectrumDeskModel_bigLose 0 = .ok (.lconst 0, 1) := by decide +kernel
theorem d_SpectrumDeskModel_bigLose_1 : decode b_SpectrumDeskModel_bigLose 1 = .ok (.lstore 6, 2) := by decide +kernel
theorem d_SpectrumDeskModel_bigLose_3 : decode b_SpectrumDeskModel_bigLose 3 = .ok (.iload 5, 2) := by decide +kernel
theorem d_SpectrumDeskModel_bigLose_5 : decode b_SpectrumDeskModel_bigLose 5 = .ok (.istore 8, 2) := by decide +kernel
theorem d_SpectrumDeskModel_bigLose_7 : decode b_SpectrumDeskModel_bigLose 7 = .ok (.iload 8, 2) := by decide +kernel
theorem d_SpectrumDeskModel_bigLose_9 : decode b_SpectrumDeskModel_bigLose 9 = .ok (.aload_n 0, 1) := by decide +kernel
theorem d_SpectrumDeskModel_bigLose_10 : decode b_SpectrumDeskModel_bigLose 10 = .ok (.getfield 13, 3) := by decide +kernel
theorem d_SpectrumDeskModel_bigLose_13 : decode b_SpectrumDeskModel_bigLose 13 = .ok (.iload_n 1, 1) := by decide +kernel
theorem d_SpectrumDeskModel_bigLose_14 : decode b_SpectrumDeskModel_bigLose 14 = .ok (.iaload, 1) := by decide +kernel
theorem d_SpectrumDeskModel_bigLose_15 : decode b_SpectrumDeskModel_bigLose 15 = .ok (.if_icmp .ge (100), 3) := by decide +kernel
theorem d_SpectrumDeskModel_bigLose_18 : decode b_SpectrumDeskModel_bigLose 18 = .ok (.aload_n 0, 1) := by decide +kernel
theorem d_SpectrumDeskModel_bigLose_19 : decode b_SpectrumDeskModel_bigLose 19 = .ok (.getfield 7, 3) := by decide +kernel
theorem d_SpectrumDeskModel_bigLose_22 : decode b_SpectrumDeskModel_bigLose 22 = .ok (.sipush (300), 3) := by decide +kernel
theorem d_SpectrumDeskModel_bigLose_25 : decode b_SpectrumDeskModel_bigLose 25 = .ok (.iload_n 1, 1) := by decide +kernel
theorem d_SpectrumDeskModel_bigLose_26 : decode b_SpectrumDeskModel_bigLose 26 = .ok (.imul, 1) := by decide +kernel
theorem d_SpectrumDeskModel_bigLose_27 : decode b_SpectrumDeskModel_bigLose 27 = .ok (.iload 8, 2) := by decide +kernel
theorem d_SpectrumDeskModel_bigLose_29 : decode b_SpectrumDeskModel_bigLose 29 = .ok (.iadd, 1) := by decide +kernel
theorem d_SpectrumDeskModel_bigLose_30 : decode b_SpectrumDeskModel_bigLose 30 = .ok (.iaload, 1) := by decide +kernel
theorem d_SpectrumDeskModel_bigLose_31 : decode b_SpectrumDeskModel_bigLose 31 = .ok (.i2l, 1) := by decide +kernel
theorem d_SpectrumDeskModel_bigLose_32 : decode b_SpectrumDeskModel_bigLose 32 = .ok (.lload 6, 2) := by decide +kernel
theorem d_SpectrumDeskModel_bigLose_34 : decode b_SpectrumDeskModel_bigLose 34 = .ok (.lsub, 1) := by decide +kernel
theorem d_SpectrumDeskModel_bigLose_35 : decode b_SpectrumDeskModel_bigLose 35 = .ok (.iload 8, 2) := by decide +kernel
theorem d_SpectrumDeskModel_bigLose_37 : decode b_SpectrumDeskModel_bigLose 37 = .ok (.iload 5, 2) := by decide +kernel
theorem d_SpectrumDeskModel_bigLose_39 : decode b_SpectrumDeskModel_bigLose 39 = .ok (.isub, 1) := by decide +kernel
theorem d_SpectrumDeskModel_bigLose_40 : decode b_SpectrumDeskModel_bigLose 40 = .ok (.aload_n 0, 1) := by decide +kernel
theorem d_SpectrumDeskModel_bigLose_41 : decode b_SpectrumDeskModel_bigLose 41 = .ok (.getfield 13, 3) := by decide +kernel
theorem d_SpectrumDeskModel_bigLose_44 : decode b_SpectrumDeskModel_bigLose 44 = .ok (.iload_n 2, 1) := by decide +kernel
theorem d_SpectrumDeskModel_bigLose_45 : decode b_SpectrumDeskModel_bigLose 45 = .ok (.iaload, 1) := by decide +kernel
theorem d_SpectrumDeskModel_bigLose_46 : decode b_SpectrumDeskModel_bigLose 46 = .ok (.if_icmp .ge (25), 3) := by decide +kernel
theorem d_SpectrumDeskModel_bigLose_49 : decode b_SpectrumDeskModel_bigLose 49 = .ok (.lload_n 3, 1) := by decide +kernel
theorem d_SpectrumDeskModel_bigLose_50 : decode b_SpectrumDeskModel_bigLose 50 = .ok (.aload_n 0, 1) := by decide +kernel
theorem d_SpectrumDeskModel_bigLose_51 : decode b_SpectrumDeskModel_bigLose 51 = .ok (.getfield 7, 3) := by decide +kernel
theorem d_SpectrumDeskModel_bigLose_54 : decode b_SpectrumDeskModel_bigLose 54 = .ok (.sipush (300), 3) := by decide +kernel
theorem d_SpectrumDeskModel_bigLose_57 : decode b_SpectrumDeskModel_bigLose 57 = .ok (.iload_n 2, 1) := by decide +kernel
theorem d_SpectrumDeskModel_bigLose_58 : decode b_SpectrumDeskModel_bigLose 58 = .ok (.imul, 1) := by decide +kernel
theorem d_SpectrumDeskModel_bigLose_59 : decode b_SpectrumDeskModel_bigLose 59 = .ok (.iload 8, 2) := by decide +kernel
theorem d_SpectrumDeskModel_bigLose_61 : decode b_SpectrumDeskModel_bigLose 61 = .ok (.iadd, 1) := by decide +kernel
theorem d_SpectrumDeskModel_bigLose_62 : decode b_SpectrumDeskModel_bigLose 62 = .ok (.iload 5, 2) := by decide +kernel
theorem d_SpectrumDeskModel_bigLose_64 : decode b_SpectrumDeskModel_bigLose 64 = .ok (.isub, 1) := by decide +kernel
theorem d_SpectrumDeskModel_bigLose_65 : decode b_SpectrumDeskModel_bigLose 65 = .ok (.iaload, 1) := by decide +kernel
theorem d_SpectrumDeskModel_bigLose_66 : decode b_SpectrumDeskModel_bigLose 66 = .ok (.i2l, 1) := by decide +kernel
theorem d_SpectrumDeskModel_bigLose_67 : decode b_SpectrumDeskModel_bigLose 67 = .ok (.lmul, 1) := by decide +kernel
theorem d_SpectrumDeskModel_bigLose_68 : decode b_SpectrumDeskModel_bigLose 68 = .ok (.goto (4), 3) := by decide +kernel
theorem d_SpectrumDeskModel_bigLose_71 : decode b_SpectrumDeskModel_bigLose 71 = .ok (.lconst 0, 1) := by decide +kernel
theorem d_SpectrumDeskModel_bigLose_72 : decode b_SpectrumDeskModel_bigLose 72 = .ok (.lsub, 1) := by decide +kernel
theorem d_SpectrumDeskModel_bigLose_73 : decode b_SpectrumDeskModel_bigLose 73 = .ok (.lstore 9, 2) := by decide +kernel
theorem d_SpectrumDeskModel_bigLose_75 : decode b_SpectrumDeskModel_bigLose 75 = .ok (.lload 9, 2) := by decide +kernel
theorem d_SpectrumDeskModel_bigLose_77 : decode b_SpectrumDeskModel_bigLose 77 = .ok (.ldc2_w 11, 3) := by decide +kernel
theorem d_SpectrumDeskModel_bigLose_80 : decode b_SpectrumDeskModel_bigLose 80 = .ok (.land, 1) := by decide +kernel
theorem d_SpectrumDeskModel_bigLose_81 : decode b_SpectrumDeskModel_bigLose 81 = .ok (.lstore 11, 2) := by decide +kernel
theorem d_SpectrumDeskModel_bigLose_83 : decode b_SpectrumDeskModel_bigLose 83 = .ok (.lload 11, 2) := by decide +kernel
theorem d_SpectrumDeskModel_bigLose_85 : decode b_SpectrumDeskModel_bigLose 85 = .ok (.lload 9, 2) := by decide +kernel
theorem d_SpectrumDeskModel_bigLose_87 : decode b_SpectrumDeskModel_bigLose 87 = .ok (.lsub, 1) := by decide +kernel
theorem d_SpectrumDeskModel_bigLose_88 : decode b_SpectrumDeskModel_bigLose 88 = .ok (.bipush (24), 2) := by decide +kernel
theorem d_SpectrumDeskModel_bigLose_90 : decode b_SpectrumDeskModel_bigLose 90 = .ok (.lshr, 1) := by decide +kernel
theorem d_SpectrumDeskModel_bigLose_91 : decode b_SpectrumDeskModel_bigLose 91 = .ok (.lstore 6, 2) := by decide +kernel
theorem d_SpectrumDeskModel_bigLose_93 : decode b_SpectrumDeskModel_bigLose 93 = .ok (.aload_n 0, 1) := by decide +kernel
theorem d_SpectrumDeskModel_bigLose_94 : decode b_SpectrumDeskModel_bigLose 94 = .ok (.getfield 7, 3) := by decide +kernel
theorem d_SpectrumDeskModel_bigLose_97 : decode b_SpectrumDeskModel_bigLose 97 = .ok (.sipush (300), 3) := by decide +kernel
theorem d_SpectrumDeskModel_bigLose_100 : decode b_SpectrumDeskModel_bigLose 100 = .ok (.iload_n 1, 1) := by decide +kernel
theorem d_SpectrumDeskModel_bigLose_101 : decode b_SpectrumDeskModel_bigLose 101 = .ok (.imul, 1) := by decide +kernel
theorem d_SpectrumDeskModel_bigLose_102 : decode b_SpectrumDeskModel_bigLose 102 = .ok (.iload 8, 2) := by decide +kernel
theorem d_SpectrumDeskModel_bigLose_104 : decode b_SpectrumDeskModel_bigLose 104 = .ok (.iadd, 1) := by decide +kernel
theorem d_SpectrumDeskModel_bigLose_105 : decode b_SpectrumDeskModel_bigLose 105 = .ok (.lload 11, 2) := by decide +kernel
theorem d_SpectrumDeskModel_bigLose_107 : decode b_SpectrumDeskModel_bigLose 107 = .ok (.l2i, 1) := by decide +kernel
theorem d_SpectrumDeskModel_bigLose_108 : decode b_SpectrumDeskModel_bigLose 108 = .ok (.iastore, 1) := by decide +kernel
theorem d_SpectrumDeskModel_bigLose_109 : decode b_SpectrumDeskModel_bigLose 109 = .ok (.iinc 8 (1), 3) := by decide +kernel
theorem d_SpectrumDeskModel_bigLose_112 : decode b_SpectrumDeskModel_bigLose 112 = .ok (.goto (-105), 3) := by decide +kernel
theorem d_SpectrumDeskModel_bigLose_115 : decode b_SpectrumDeskModel_bigLose 115 = .ok (.aload_n 0, 1) := by decide +kernel
theorem d_SpectrumDeskModel_bigLose_116 : decode b_SpectrumDeskModel_bigLose 116 = .ok (.iload_n 1, 1) := by decide +kernel
theorem d_SpectrumDeskModel_bigLose_117 : decode b_SpectrumDeskModel_bigLose 117 = .ok (.invokevirtual 21, 3) := by decide +kernel
theorem d_SpectrumDeskModel_bigLose_120 : decode b_SpectrumDeskModel_bigLose 120 = .ok (.return_, 1) := by decide +kernel
theorem k_7d22e87f20 : (Jvm.Cond.code ({ cls := "SpectrumDeskModel", name := "bigLose", desc := "(IIJI)V" } : Jvm.MethodName) prog_10_method_13_code (13 : Nat) (Option.none : Option Jvm.ClassFile.FieldType)) ∈ AW := aw_5 (List.mem_of_getElem? (i := 150) (by decide +kernel)) (by decide +kernel)
set_option maxHeartbeats 4000000 in
set_option maxRecDepth 100000 in
theorem c_SpectrumDeskModel_bigLose {l : Launch} {D : va_G} {cI cJ cZ cC cG cP : ClassId} {ad : Nat → Nat} {σ0 : Nat → va_E} {fs : List Value} {P L M : Nat → Int32} {w u n b up t : Nat} (hF : mF ad fs) (hw : w < 112) (hu : u < 112) (hne : u ≠ w) (ha : up + n ≤ 300) (hbn : b ≤ n) (ht9 : t < 16777216) (hLw : L w = nI (up + n)) (hLu : L u = nI b) (hwo : rg_ok P (300 * w) (up + n)) (huo : rg_ok P (300 * u) b) (hle : rg P (300 * u) b * (t : Int) * 16777216 ^ up ≤ rg P (300 * w) (up + n)) :
    Met l y_SpectrumDeskModel_bigLose v_SpectrumDeskModel_bigLose (xrm 1) (va_Pc [.ref (ad 183), .int (nI w), .int (nI u), .long (lN t), .int (nI up)] (xS D classes (xT cI cJ cZ cC cG cP) 193 ad (rw3 σ0 ciM cI cZ fs P L M))) (va_Qv (rm_up σ0 ciM cI cZ fs P L M w (rg P (300 * w) (up + n) - rg P (300 * u) b * (t : Int) * 16777216 ^ up)) (xS D classes (xT cI cJ cZ cC cG cP) 193 ad) (xA 193 ad)) 0 0 (xA 193 ad) := by
  refine xr_met rfl (Nat.le_of_ble_eq_true rfl) ?_
  intro p e s m args below meth c ls hx hb X hr hlk hl I
  have hl : lv_has ls 13 [(0, .ref (ad 183)), (1, .int (nI w)), (2, .int (nI u)), (3, .long (lN t)), (5, .int (nI up))] := hl
  refine lv_lconst (v := lN 0) hx hb d_SpectrumDeskModel_bigLose_0 (by decide) ?_
  refine lv_lstore (lv' := [(6, .long (lN 0)), (0, .ref (ad 183)), (1, .int (nI w)), (2, .int (nI u)), (3, .long (lN t)), (5, .int (nI up))]) hx hb d_SpectrumDeskModel_bigLose_1 hl (by decide) rfl (fun ls hl => ?_)
  refine lv_iload hx hb d_SpectrumDeskModel_bigLose_3 (lv_at hl 5 rfl) ?_
  refine lv_istore (lv' := [(8, .int (nI up)), (6, .long (lN 0)), (0, .ref (ad 183)), (1, .int (nI w)), (2, .int (nI u)), (3, .long (lN t)), (5, .int (nI up))]) hx hb d_SpectrumDeskModel_bigLose_5 hl (by decide) rfl (fun ls hl => ?_)
  have loop : ∀ (j : Nat) (k cy : Nat) (P2 : Nat → Int32) (ls : Array Slot) (H : Heap) (locs : List Loc), k + j = n → cy ≤ 16777216 → (∀ j, j < 300 * w ∨ 300 * w + 300 ≤ j → P2 j = P j) → (∀ j, j < 300 * w + up → P2 j = P j) → (∀ j, 300 * w + (up + k) ≤ j → j < 300 * w + 300 → P2 j = P j) → rg_ok P2 (300 * w + up) k → rg P2 (300 * w + up) k = dv (dg P (300 * w + up) n) k - (t : Int) * dv (dg P (300 * u) b) k + (cy : Int) * 16777216 ^ k → lv_has ls 13 [(8, .int (nI (up + k))), (6, .long (lN cy)), (0, .ref (ad 183)), (1, .int (nI w)), (2, .int (nI u)), (3, .long (lN t)), (5, .int (nI up))] → xI D classes 193 ad s.heap (rw3 σ0 ciM cI cZ fs P2 L M) H locs → W p l e (xrm 1) s m args below meth c H locs 0 0 (MQ below (va_Qv (rm_up σ0 ciM cI cZ fs P L M w (rg P (300 * w) (up + n) - rg P (300 * u) b * (t : Int) * 16777216 ^ up)) (xS D classes (xT cI cJ cZ cC cG cP) 193 ad) (xA 193 ad)) args s 0 0 (xA 193 ad)) (F0 m 7 ls []) := by
    intro j
    induction j with
    | zero =>
      intro k cy P2 ls H locs hk hcy hfr hlow hge hok inv hl I
      obtain rfl : k = n := by omega
      refine lv_iload hx hb d_SpectrumDeskModel_bigLose_7 (lv_at hl 0 rfl) ?_
      refine lv_aload_n hx hb d_SpectrumDeskModel_bigLose_9 rfl (lv_at hl 2 rfl) ?_
      refine xr_get X I fin_M 183 (by decide) (r183 ..) rfl 1 (by decide) (List.mem_cons_of_mem _ k_4ae214c350) rfl (mF_lengths hF) d_SpectrumDeskModel_bigLose_10 ?_
      refine lv_iload_n hx hb d_SpectrumDeskModel_bigLose_13 rfl (lv_at hl 3 rfl) ?_
      refine xr_iald X I 185 0 (by decide) (r185 ..) rfl (by omega) (by decide) d_SpectrumDeskModel_bigLose_14 ?_
      refine xr_topi (y := nI (up + k)) hLw ?_
      refine lv_icmp_ge hx hb d_SpectrumDeskModel_bigLose_15 rfl (fun hc => ?_) (fun hc => ?_)
      · rw [dv_all hbn, dv_in (Nat.le_refl _)] at inv
        obtain ⟨e1, e2⟩ := lose_end hwo hlow hok hle inv
        refine lv_aload_n hx hb d_SpectrumDeskModel_bigLose_115 rfl (lv_at hl 2 rfl) ?_
        refine lv_iload_n hx hb d_SpectrumDeskModel_bigLose_116 rfl (lv_at hl 3 rfl) ?_
        refine xr_callv (xr_runV (kc := 0) (kr := 1) (n := 1) (As := [.int (nI w)]) (rest := []) X I (by decide) (r183 ..) rfl (c_SpectrumDeskModel_bigTrim (P := P2) (L := L) (M := M) (n := up + k) hF hw ha hLw) (xg k_10a67c202b) (List.mem_cons_of_mem _ k_fdf1e9da4b) (List.mem_cons_of_mem _ k_72a5102e81) (List.mem_cons_of_mem _ k_90f9c60262) (List.mem_cons_of_mem _ k_30fa15c9ac) (by decide +kernel) (by decide) rfl hl.1 rfl (Nat.le_of_ble_eq_true rfl) d_SpectrumDeskModel_bigLose_117) I (fun σ1 H locs hp I => ?_)
        obtain ⟨n2, t1, rfl, t2, t3⟩ := hp
        exact xr_vret X I hr hlk ⟨P2, n2, rfl, by omega, hfr, rg_ok_le e1 t1, t3, t2.trans e2⟩ d_SpectrumDeskModel_bigLose_120
      · exact absurd (nI_le (Nat.le_refl _) (by omega)) hc
    | succ j ih =>
      intro k cy P2 ls H locs hk hcy hfr hlow hge hok inv hl I
      refine lv_iload hx hb d_SpectrumDeskModel_bigLose_7 (lv_at hl 0 rfl) ?_
      refine lv_aload_n hx hb d_SpectrumDeskModel_bigLose_9 rfl (lv_at hl 2 rfl) ?_
      refine xr_get X I fin_M 183 (by decide) (r183 ..) rfl 1 (by decide) (List.mem_cons_of_mem _ k_4ae214c350) rfl (mF_lengths hF) d_SpectrumDeskModel_bigLose_10 ?_
      refine lv_iload_n hx hb d_SpectrumDeskModel_bigLose_13 rfl (lv_at hl 3 rfl) ?_
      refine xr_iald X I 185 0 (by decide) (r185 ..) rfl (by omega) (by decide) d_SpectrumDeskModel_bigLose_14 ?_
      refine xr_topi (y := nI (up + n)) hLw ?_
      refine lv_icmp_ge hx hb d_SpectrumDeskModel_bigLose_15 rfl (fun hc => ?_) (fun hc => ?_)
      · exact absurd hc (nI_ge (by omega) (by omega))
      · obtain ⟨x, x1, x2, x3⟩ := dg_nat (j := up + k) (r := P (300 * w + (up + k))) hwo (by rw [if_pos (by omega)])
        refine lv_aload_n hx hb d_SpectrumDeskModel_bigLose_18 rfl (lv_at hl 2 rfl) ?_
        refine xr_get X I fin_M 183 (by decide) (r183 ..) rfl 0 (by decide) (List.mem_cons_of_mem _ k_eae5455160) rfl (mF_parts hF) d_SpectrumDeskModel_bigLose_19 ?_
        refine lv_sipush (v := nI 300) hx hb d_SpectrumDeskModel_bigLose_22 (by decide) ?_
        refine lv_iload_n hx hb d_SpectrumDeskModel_bigLose_25 rfl (lv_at hl 3 rfl) ?_
        refine lv_imul hx hb d_SpectrumDeskModel_bigLose_26 (xr_topi (y := nI (300 * w)) (pk_mul 300 w) ?_)
        refine lv_iload hx hb d_SpectrumDeskModel_bigLose_27 (lv_at hl 0 rfl) ?_
        refine lv_iadd hx hb d_SpectrumDeskModel_bigLose_29 (xr_topi (y := nI ((300 * w) + (up + k))) (nI_add (300 * w) (up + k)) ?_)
        refine xr_iald X I 184 0 (by decide) (r184 ..) rfl (by omega) (by decide) d_SpectrumDeskModel_bigLose_30 ?_
        refine xr_topi (y := nI x) ((hge _ (by omega) (by omega)).trans x2) ?_
        refine lv_i2l hx hb d_SpectrumDeskModel_bigLose_31 (nI_l (by omega)) ?_
        refine lv_lload hx hb d_SpectrumDeskModel_bigLose_32 (lv_at hl 1 rfl) ?_
        refine lv_lsub hx hb d_SpectrumDeskModel_bigLose_34 ?_
        refine lv_topl (fun v1 ev1 => ?_)
        have hv1 : v1.toInt = (x : Int) - cy := by rw [ev1, q_lsub (by rw [pk_lT (by omega), pk_lT (by omega)]; omega) (by rw [pk_lT (by omega), pk_lT (by omega)]; omega), pk_lT (by omega), pk_lT (by omega)]
        refine lv_iload hx hb d_SpectrumDeskModel_bigLose_35 (lv_at hl 0 rfl) ?_
        refine lv_iload hx hb d_SpectrumDeskModel_bigLose_37 (lv_at hl 6 rfl) ?_
        refine lv_isub hx hb d_SpectrumDeskModel_bigLose_39 (xr_topi (y := nI k) (by rw [pk_sub (by omega), Nat.add_sub_cancel_left]) ?_)
        refine lv_aload_n hx hb d_SpectrumDeskModel_bigLose_40 rfl (lv_at hl 2 rfl) ?_
        refine xr_get X I fin_M 183 (by decide) (r183 ..) rfl 1 (by decide) (List.mem_cons_of_mem _ k_4ae214c350) rfl (mF_lengths hF) d_SpectrumDeskModel_bigLose_41 ?_
        refine lv_iload_n hx hb d_SpectrumDeskModel_bigLose_44 rfl (lv_at hl 4 rfl) ?_
        refine xr_iald X I 185 0 (by decide) (r185 ..) rfl (by omega) (by decide) d_SpectrumDeskModel_bigLose_45 ?_
        refine xr_topi (y := nI b) hLu ?_
        refine lv_icmp_ge hx hb d_SpectrumDeskModel_bigLose_46 rfl (fun hd => ?_) (fun hd => ?_)
        · have hkb : ¬ k < b := fun h => absurd hd (nI_ge h (by omega))
          refine lv_lconst (v := lN 0) hx hb d_SpectrumDeskModel_bigLose_71 (by decide) ?_
          refine lv_lsub hx hb d_SpectrumDeskModel_bigLose_72 ?_
          refine lv_topl (fun v9 ev9 => ?_)
          have hv9 : v9.toInt = (x : Int) - cy - ((0 : Nat) : Int) := by rw [ev9, q_lsub (by rw [pk_lT (by omega), hv1]; omega) (by rw [pk_lT (by omega), hv1]; omega), pk_lT (by omega), hv1]
          obtain ⟨v, c2, g1, g2, g3, g4⟩ := lose_digit (z := v9.toInt) (by omega) (by omega)
          refine lv_lstore (lv' := [(9, .long v9), (8, .int (nI (up + k))), (6, .long (lN cy)), (0, .ref (ad 183)), (1, .int (nI w)), (2, .int (nI u)), (3, .long (lN t)), (5, .int (nI up))]) hx hb d_SpectrumDeskModel_bigLose_73 hl (by decide) rfl (fun ls hl => ?_)
          refine lv_lload hx hb d_SpectrumDeskModel_bigLose_75 (lv_at hl 0 rfl) ?_
          refine lv_ldc2 (v := 16777215) hx hb X.1.2.2.2.1 (X.1.2.2.2.2 _ (List.mem_cons_of_mem _ k_3ec0f02ce9)) d_SpectrumDeskModel_bigLose_77 ?_
          refine lv_land hx hb d_SpectrumDeskModel_bigLose_80 ?_
          refine xr_topl (y := lN v) (q_linj (by rw [q_land24, pk_lT (by omega), g4])) ?_
          refine lv_lstore (lv' := [(11, .long (lN v)), (9, .long v9), (8, .int (nI (up + k))), (6, .long (lN cy)), (0, .ref (ad 183)), (1, .int (nI w)), (2, .int (nI u)), (3, .long (lN t)), (5, .int (nI up))]) hx hb d_SpectrumDeskModel_bigLose_81 hl (by decide) rfl (fun ls hl => ?_)
          refine lv_lload hx hb d_SpectrumDeskModel_bigLose_83 (lv_at hl 0 rfl) ?_
          refine lv_lload hx hb d_SpectrumDeskModel_bigLose_85 (lv_at hl 1 rfl) ?_
          refine lv_lsub hx hb d_SpectrumDeskModel_bigLose_87 ?_
          refine lv_topl (fun v8 ev8 => ?_)
          have hv8 : v8.toInt = (c2 : Int) * 16777216 := by rw [ev8, q_lsub (by rw [pk_lT (by omega)]; omega) (by rw [pk_lT (by omega)]; omega), pk_lT (by omega)]; omega
          refine lv_bipush (v := nI 24) hx hb d_SpectrumDeskModel_bigLose_88 (by decide) ?_
          refine lv_lshr hx hb d_SpectrumDeskModel_bigLose_90 rfl ?_
          refine xr_topl (y := lN c2) (q_linj (by rw [q_shr24, hv8, pk_lT (by omega)]; omega)) ?_
          refine lv_lstore (lv' := [(6, .long (lN c2)), (11, .long (lN v)), (9, .long v9), (8, .int (nI (up + k))), (0, .ref (ad 183)), (1, .int (nI w)), (2, .int (nI u)), (3, .long (lN t)), (5, .int (nI up))]) hx hb d_SpectrumDeskModel_bigLose_91 hl (by decide) rfl (fun ls hl => ?_)
          refine lv_aload_n hx hb d_SpectrumDeskModel_bigLose_93 rfl (lv_at hl 4 rfl) ?_
          refine xr_get X I fin_M 183 (by decide) (r183 ..) rfl 0 (by decide) (List.mem_cons_of_mem _ k_eae5455160) rfl (mF_parts hF) d_SpectrumDeskModel_bigLose_94 ?_
          refine lv_sipush (v := nI 300) hx hb d_SpectrumDeskModel_bigLose_97 (by decide) ?_
          refine lv_iload_n hx hb d_SpectrumDeskModel_bigLose_100 rfl (lv_at hl 5 rfl) ?_
          refine lv_imul hx hb d_SpectrumDeskModel_bigLose_101 (xr_topi (y := nI (300 * w)) (pk_mul 300 w) ?_)
          refine lv_iload hx hb d_SpectrumDeskModel_bigLose_102 (lv_at hl 3 rfl) ?_
          refine lv_iadd hx hb d_SpectrumDeskModel_bigLose_104 (xr_topi (y := nI ((300 * w) + (up + k))) (nI_add (300 * w) (up + k)) ?_)
          refine lv_lload hx hb d_SpectrumDeskModel_bigLose_105 (lv_at hl 1 rfl) ?_
          refine lv_l2i hx hb d_SpectrumDeskModel_bigLose_107 rfl ?_
          refine xr_topi (y := nI v) (lN_i v) ?_
          refine xr_iast X I 184 0 (by decide) (r184 ..) rfl (by omega) (by decide) d_SpectrumDeskModel_bigLose_108 (fun H locs I => ?_)
          rw [rw3_P] at I
          refine lv_iinc (k := 3) (v := nI (up + (k + 1))) (lv' := [(8, .int (nI (up + (k + 1)))), (6, .long (lN c2)), (11, .long (lN v)), (9, .long v9), (0, .ref (ad 183)), (1, .int (nI w)), (2, .int (nI u)), (3, .long (lN t)), (5, .int (nI up))]) hx hb d_SpectrumDeskModel_bigLose_109 hl rfl (nI_1 (up + k)) (by decide) rfl (fun ls hl => ?_)
          refine lv_goto hx hb d_SpectrumDeskModel_bigLose_112 rfl ?_
          have hl := lv_sub hl [0, 1, 4, 5, 6, 7, 8] rfl
          have hl : lv_has ls 13 [(8, .int (nI (up + (k + 1)))), (6, .long (lN c2)), (0, .ref (ad 183)), (1, .int (nI w)), (2, .int (nI u)), (3, .long (lN t)), (5, .int (nI up))] := hl
          have hin : dg P (300 * w + up) n k - (t : Int) * dg P (300 * u) b k - (cy : Int) = (v : Int) - (c2 : Int) * 16777216 := by
            have hxx : dg P (300 * w + up) n k = (x : Int) := by rw [← x3, dg, dg, if_pos (by omega), if_pos (by omega), Nat.add_assoc]
            rw [hxx, dg, if_neg hkb, Int.mul_zero]; omega
          rw [← Nat.add_assoc] at I
          obtain ⟨s1, s2⟩ := less_step (o := 300 * w + up) (g := fun j => (t : Int) * dg P (300 * u) b j) (b := cy) (b' := c2) (v := v) hok g1 (by rw [dv_mul]; exact inv) hin
          rw [dv_mul] at s2
          exact ih (k + 1) c2 _ ls H locs (by omega) g2 (fun j hj => (upd_n (by omega)).trans (hfr j hj)) (fun j hj => (upd_n (by omega)).trans (hlow j hj)) (fun j h1 h2 => (upd_n (by omega)).trans (hge j (by omega) h2)) s1 s2 hl I
        · have hkb : k < b := Nat.lt_of_not_le fun h => hd (nI_le h (by omega))
          obtain ⟨y, y1, y2, y3⟩ := dg_nat (j := k) (r := P (300 * u + k)) huo (by rw [if_pos hkb])
          have hty := lose_ty y1 ht9
          refine lv_lload_n hx hb d_SpectrumDeskModel_bigLose_49 rfl (lv_at hl 5 rfl) ?_
          refine lv_aload_n hx hb d_SpectrumDeskModel_bigLose_50 rfl (lv_at hl 2 rfl) ?_
          refine xr_get X I fin_M 183 (by decide) (r183 ..) rfl 0 (by decide) (List.mem_cons_of_mem _ k_eae5455160) rfl (mF_parts hF) d_SpectrumDeskModel_bigLose_51 ?_
          refine lv_sipush (v := nI 300) hx hb d_SpectrumDeskModel_bigLose_54 (by decide) ?_
          refine lv_iload_n hx hb d_SpectrumDeskModel_bigLose_57 rfl (lv_at hl 4 rfl) ?_
          refine lv_imul hx hb d_SpectrumDeskModel_bigLose_58 (xr_topi (y := nI (300 * u)) (pk_mul 300 u) ?_)
          refine lv_iload hx hb d_SpectrumDeskModel_bigLose_59 (lv_at hl 0 rfl) ?_
          refine lv_iadd hx hb d_SpectrumDeskModel_bigLose_61 (xr_topi (y := nI ((300 * u) + (up + k))) (nI_add (300 * u) (up + k)) ?_)
          refine lv_iload hx hb d_SpectrumDeskModel_bigLose_62 (lv_at hl 6 rfl) ?_
          refine lv_isub hx hb d_SpectrumDeskModel_bigLose_64 (xr_topi (y := nI (300 * u + k)) (by rw [pk_sub (by omega), show 300 * u + (up + k) - up = 300 * u + k by omega]) ?_)
          refine xr_iald X I 184 0 (by decide) (r184 ..) rfl (by omega) (by decide) d_SpectrumDeskModel_bigLose_65 ?_
          refine xr_topi (y := nI y) ((hfr _ (by omega)).trans y2) ?_
          refine lv_i2l hx hb d_SpectrumDeskModel_bigLose_66 (nI_l (by omega)) ?_
          refine lv_lmul hx hb d_SpectrumDeskModel_bigLose_67 ?_
          refine xr_topl (y := lN (t * y)) (lN_mul t y) ?_
          refine lv_goto hx hb d_SpectrumDeskModel_bigLose_68 rfl ?_
          have hlo := lose_low (x := x) y1 ht9 hcy
          refine lv_lsub hx hb d_SpectrumDeskModel_bigLose_72 ?_
          refine lv_topl (fun v9 ev9 => ?_)
          have hv9 : v9.toInt = (x : Int) - cy - ((t * y : Nat) : Int) := by rw [ev9, q_lsub (by rw [pk_lT (by omega), hv1]; omega) (by rw [pk_lT (by omega), hv1]; omega), pk_lT (by omega), hv1]
          obtain ⟨v, c2, g1, g2, g3, g4⟩ := lose_digit (z := v9.toInt) (by omega) (by omega)
          refine lv_lstore (lv' := [(9, .long v9), (8, .int (nI (up + k))), (6, .long (lN cy)), (0, .ref (ad 183)), (1, .int (nI w)), (2, .int (nI u)), (3, .long (lN t)), (5, .int (nI up))]) hx hb d_SpectrumDeskModel_bigLose_73 hl (by decide) rfl (fun ls hl => ?_)
          refine lv_lload hx hb d_SpectrumDeskModel_bigLose_75 (lv_at hl 0 rfl) ?_
          refine lv_ldc2 (v := 16777215) hx hb X.1.2.2.2.1 (X.1.2.2.2.2 _ (List.mem_cons_of_mem _ k_3ec0f02ce9)) d_SpectrumDeskModel_bigLose_77 ?_
          refine lv_land hx hb d_SpectrumDeskModel_bigLose_80 ?_
          refine xr_topl (y := lN v) (q_linj (by rw [q_land24, pk_lT (by omega), g4])) ?_
          refine lv_lstore (lv' := [(11, .long (lN v)), (9, .long v9), (8, .int (nI (up + k))), (6, .long (lN cy)), (0, .ref (ad 183)), (1, .int (nI w)), (2, .int (nI u)), (3, .long (lN t)), (5, .int (nI up))]) hx hb d_SpectrumDeskModel_bigLose_81 hl (by decide) rfl (fun ls hl => ?_)
          refine lv_lload hx hb d_SpectrumDeskModel_bigLose_83 (lv_at hl 0 rfl) ?_
          refine lv_lload hx hb d_SpectrumDeskModel_bigLose_85 (lv_at hl 1 rfl) ?_
          refine lv_lsub hx hb d_SpectrumDeskModel_bigLose_87 ?_
          refine lv_topl (fun v8 ev8 => ?_)
          have hv8 : v8.toInt = (c2 : Int) * 16777216 := by rw [ev8, q_lsub (by rw [pk_lT (by omega)]; omega) (by rw [pk_lT (by omega)]; omega), pk_lT (by omega)]; omega
          refine lv_bipush (v := nI 24) hx hb d_SpectrumDeskModel_bigLose_88 (by decide) ?_
          refine lv_lshr hx hb d_SpectrumDeskModel_bigLose_90 rfl ?_
          refine xr_topl (y := lN c2) (q_linj (by rw [q_shr24, hv8, pk_lT (by omega)]; omega)) ?_
          refine lv_lstore (lv' := [(6, .long (lN c2)), (11, .long (lN v)), (9, .long v9), (8, .int (nI (up + k))), (0, .ref (ad 183)), (1, .int (nI w)), (2, .int (nI u)), (3, .long (lN t)), (5, .int (nI up))]) hx hb d_SpectrumDeskModel_bigLose_91 hl (by decide) rfl (fun ls hl => ?_)
          refine lv_aload_n hx hb d_SpectrumDeskModel_bigLose_93 rfl (lv_at hl 4 rfl) ?_
          refine xr_get X I fin_M 183 (by decide) (r183 ..) rfl 0 (by decide) (List.mem_cons_of_mem _ k_eae5455160) rfl (mF_parts hF) d_SpectrumDeskModel_bigLose_94 ?_
          refine lv_sipush (v := nI 300) hx hb d_SpectrumDeskModel_bigLose_97 (by decide) ?_
          refine lv_iload_n hx hb d_SpectrumDeskModel_bigLose_100 rfl (lv_at hl 5 rfl) ?_
          refine lv_imul hx hb d_SpectrumDeskModel_bigLose_101 (xr_topi (y := nI (300 * w)) (pk_mul 300 w) ?_)
          refine lv_iload hx hb d_SpectrumDeskModel_bigLose_102 (lv_at hl 3 rfl) ?_
          refine lv_iadd hx hb d_SpectrumDeskModel_bigLose_104 (xr_topi (y := nI ((300 * w) + (up + k))) (nI_add (300 * w) (up + k)) ?_)
          refine lv_lload hx hb d_SpectrumDeskModel_bigLose_105 (lv_at hl 1 rfl) ?_
          refine lv_l2i hx hb d_SpectrumDeskModel_bigLose_107 rfl ?_
          refine xr_topi (y := nI v) (lN_i v) ?_
          refine xr_iast X I 184 0 (by decide) (r184 ..) rfl (by omega) (by decide) d_SpectrumDeskModel_bigLose_108 (fun H locs I => ?_)
          rw [rw3_P] at I
          refine lv_iinc (k := 3) (v := nI (up + (k + 1))) (lv' := [(8, .int (nI (up + (k + 1)))), (6, .long (lN c2)), (11, .long (lN v)), (9, .long v9), (0, .ref (ad 183)), (1, .int (nI w)), (2, .int (nI u)), (3, .long (lN t)), (5, .int (nI up))]) hx hb d_SpectrumDeskModel_bigLose_109 hl rfl (nI_1 (up + k)) (by decide) rfl (fun ls hl => ?_)
          refine lv_goto hx hb d_SpectrumDeskModel_bigLose_112 rfl ?_
          have hl := lv_sub hl [0, 1, 4, 5, 6, 7, 8] rfl
          have hl : lv_has ls 13 [(8, .int (nI (up + (k + 1)))), (6, .long (lN c2)), (0, .ref (ad 183)), (1, .int (nI w)), (2, .int (nI u)), (3, .long (lN t)), (5, .int (nI up))] := hl
          have hin : dg P (300 * w + up) n k - (t : Int) * dg P (300 * u) b k - (cy : Int) = (v : Int) - (c2 : Int) * 16777216 := by
            have hxx : dg P (300 * w + up) n k = (x : Int) := by rw [← x3, dg, dg, if_pos (by omega), if_pos (by omega), Nat.add_assoc]
            rw [hxx, y3, ← Int.natCast_mul]; omega
          rw [← Nat.add_assoc] at I
          obtain ⟨s1, s2⟩ := less_step (o := 300 * w + up) (g := fun j => (t : Int) * dg P (300 * u) b j) (b := cy) (b' := c2) (v := v) hok g1 (by rw [dv_mul]; exact inv) hin
          rw [dv_mul] at s2
          exact ih (k + 1) c2 _ ls H locs (by omega) g2 (fun j hj => (upd_n (by omega)).trans (hfr j hj)) (fun j hj => (upd_n (by omega)).trans (hlow j hj)) (fun j h1 h2 => (upd_n (by omega)).trans (hge j (by omega) h2)) s1 s2 hl I
  exact loop n 0 0 P ls _ _ (by omega) (by decide) (fun _ _ => rfl) (fun _ _ => rfl) (fun _ _ _ => rfl) (fun j hj => absurd hj (Nat.not_lt_zero _)) (by simp [rg, dv]) hl I
