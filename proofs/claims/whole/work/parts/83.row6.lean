/-! the reference: simplify (written by wip/gen) -/
abbrev b_SpectrumDeskModel_simplify : ByteArray := prog_10_method_40_code
abbrev y_SpectrumDeskModel_simplify : MethodName := ⟨"SpectrumDeskModel", "simplify", "(I)V"⟩
abbrev v_SpectrumDeskModel_simplify : List Cond := Cond.code y_SpectrumDeskModel_simplify b_SpectrumDeskModel_simplify 4 none :: AW
theorem d_SpectrumDeskModel_simplify_0 : decode b_SpectrumDeskModel_simplify 0 = .ok (.aload_n 0, 1) := by decide +kernel
theorem d_SpectrumDeskModel_simplify_1 : decode b_SpectrumDeskModel_simplify 1 = .ok (.bipush (104), 2) := by decide +kernel
theorem d_SpectrumDeskModel_simplify_3 : decode b_SpectrumDeskModel_simplify 3 = .ok (.lconst 0, 1) := by decide +kernel
theorem d_SpectrumDeskModel_simplify_4 : decode b_SpectrumDeskModel_simplify 4 = .ok (.invokevirtual 104, 3) := by decide +kernel
theorem d_SpectrumDeskModel_simplify_7 : decode b_SpectrumDeskModel_simplify 7 = .ok (.iconst 0, 1) := by decide +kernel
theorem d_SpectrumDeskModel_simplify_8 : decode b_SpectrumDeskModel_simplify 8 = .ok (.istore_n 2, 1) := by decide +kernel
theorem d_SpectrumDeskModel_simplify_9 : decode b_SpectrumDeskModel_simplify 9 = .ok (.iload_n 2, 1) := by decide +kernel
theorem d_SpectrumDeskModel_simplify_10 : decode b_SpectrumDeskModel_simplify 10 = .ok (.aload_n 0, 1) := by decide +kernel
theorem d_SpectrumDeskModel_simplify_11 : decode b_SpectrumDeskModel_simplify 11 = .ok (.getfield 46, 3) := by decide +kernel
theorem d_SpectrumDeskModel_simplify_14 : decode b_SpectrumDeskModel_simplify 14 = .ok (.iload_n 1, 1) := by decide +kernel
theorem d_SpectrumDeskModel_simplify_15 : decode b_SpectrumDeskModel_simplify 15 = .ok (.bipush (8), 2) := by decide +kernel
theorem d_SpectrumDeskModel_simplify_17 : decode b_SpectrumDeskModel_simplify 17 = .ok (.idiv, 1) := by decide +kernel
theorem d_SpectrumDeskModel_simplify_18 : decode b_SpectrumDeskModel_simplify 18 = .ok (.iaload, 1) := by decide +kernel
theorem d_SpectrumDeskModel_simplify_19 : decode b_SpectrumDeskModel_simplify 19 = .ok (.if_icmp .gt (80), 3) := by decide +kernel
theorem d_SpectrumDeskModel_simplify_22 : decode b_SpectrumDeskModel_simplify 22 = .ok (.aload_n 0, 1) := by decide +kernel
theorem d_SpectrumDeskModel_simplify_23 : decode b_SpectrumDeskModel_simplify 23 = .ok (.bipush (105), 2) := by decide +kernel
theorem d_SpectrumDeskModel_simplify_25 : decode b_SpectrumDeskModel_simplify 25 = .ok (.iload_n 1, 1) := by decide +kernel
theorem d_SpectrumDeskModel_simplify_26 : decode b_SpectrumDeskModel_simplify 26 = .ok (.iload_n 2, 1) := by decide +kernel
theorem d_SpectrumDeskModel_simplify_27 : decode b_SpectrumDeskModel_simplify 27 = .ok (.iadd, 1) := by decide +kernel
theorem d_SpectrumDeskModel_simplify_28 : decode b_SpectrumDeskModel_simplify 28 = .ok (.invokevirtual 49, 3) := by decide +kernel
theorem d_SpectrumDeskModel_simplify_31 : decode b_SpectrumDeskModel_simplify 31 = .ok (.aload_n 0, 1) := by decide +kernel
theorem d_SpectrumDeskModel_simplify_32 : decode b_SpectrumDeskModel_simplify 32 = .ok (.getfield 1, 3) := by decide +kernel
theorem d_SpectrumDeskModel_simplify_35 : decode b_SpectrumDeskModel_simplify 35 = .ok (.bipush (105), 2) := by decide +kernel
theorem d_SpectrumDeskModel_simplify_37 : decode b_SpectrumDeskModel_simplify 37 = .ok (.iconst 0, 1) := by decide +kernel
theorem d_SpectrumDeskModel_simplify_38 : decode b_SpectrumDeskModel_simplify 38 = .ok (.bastore, 1) := by decide +kernel
theorem d_SpectrumDeskModel_simplify_39 : decode b_SpectrumDeskModel_simplify 39 = .ok (.aload_n 0, 1) := by decide +kernel
theorem d_SpectrumDeskModel_simplify_40 : decode b_SpectrumDeskModel_simplify 40 = .ok (.bipush (105), 2) := by decide +kernel
theorem d_SpectrumDeskModel_simplify_42 : decode b_SpectrumDeskModel_simplify 42 = .ok (.invokevirtual 52, 3) := by decide +kernel
theorem d_SpectrumDeskModel_simplify_45 : decode b_SpectrumDeskModel_simplify 45 = .ok (.ifCond .eq (48), 3) := by decide +kernel
theorem d_SpectrumDeskModel_simplify_48 : decode b_SpectrumDeskModel_simplify 48 = .ok (.aload_n 0, 1) := by decide +kernel
theorem d_SpectrumDeskModel_simplify_49 : decode b_SpectrumDeskModel_simplify 49 = .ok (.bipush (106), 2) := by decide +kernel
theorem d_SpectrumDeskModel_simplify_51 : decode b_SpectrumDeskModel_simplify 51 = .ok (.bipush (105), 2) := by decide +kernel
theorem d_SpectrumDeskModel_simplify_53 : decode b_SpectrumDeskModel_simplify 53 = .ok (.invokevirtual 49, 3) := by decide +kernel
theorem d_SpectrumDeskModel_simplify_56 : decode b_SpectrumDeskModel_simplify 56 = .ok (.aload_n 0, 1) := by decide +kernel
theorem d_SpectrumDeskModel_simplify_57 : decode b_SpectrumDeskModel_simplify 57 = .ok (.bipush (104), 2) := by decide +kernel
theorem d_SpectrumDeskModel_simplify_59 : decode b_SpectrumDeskModel_simplify 59 = .ok (.bipush (106), 2) := by decide +kernel
theorem d_SpectrumDeskModel_simplify_61 : decode b_SpectrumDeskModel_simplify 61 = .ok (.bipush (107), 2) := by decide +kernel
theorem d_SpectrumDeskModel_simplify_63 : decode b_SpectrumDeskModel_simplify 63 = .ok (.invokevirtual 142, 3) := by decide +kernel
theorem d_SpectrumDeskModel_simplify_66 : decode b_SpectrumDeskModel_simplify 66 = .ok (.aload_n 0, 1) := by decide +kernel
theorem d_SpectrumDeskModel_simplify_67 : decode b_SpectrumDeskModel_simplify 67 = .ok (.bipush (106), 2) := by decide +kernel
theorem d_SpectrumDeskModel_simplify_69 : decode b_SpectrumDeskModel_simplify 69 = .ok (.bipush (104), 2) := by decide +kernel
theorem d_SpectrumDeskModel_simplify_71 : decode b_SpectrumDeskModel_simplify 71 = .ok (.invokevirtual 49, 3) := by decide +kernel
theorem d_SpectrumDeskModel_simplify_74 : decode b_SpectrumDeskModel_simplify 74 = .ok (.aload_n 0, 1) := by decide +kernel
theorem d_SpectrumDeskModel_simplify_75 : decode b_SpectrumDeskModel_simplify 75 = .ok (.bipush (104), 2) := by decide +kernel
theorem d_SpectrumDeskModel_simplify_77 : decode b_SpectrumDeskModel_simplify 77 = .ok (.bipush (105), 2) := by decide +kernel
theorem d_SpectrumDeskModel_simplify_79 : decode b_SpectrumDeskModel_simplify 79 = .ok (.invokevirtual 49, 3) := by decide +kernel
theorem d_SpectrumDeskModel_simplify_82 : decode b_SpectrumDeskModel_simplify 82 = .ok (.aload_n 0, 1) := by decide +kernel
theorem d_SpectrumDeskModel_simplify_83 : decode b_SpectrumDeskModel_simplify 83 = .ok (.bipush (105), 2) := by decide +kernel
theorem d_SpectrumDeskModel_simplify_85 : decode b_SpectrumDeskModel_simplify 85 = .ok (.bipush (106), 2) := by decide +kernel
theorem d_SpectrumDeskModel_simplify_87 : decode b_SpectrumDeskModel_simplify 87 = .ok (.invokevirtual 49, 3) := by decide +kernel
theorem d_SpectrumDeskModel_simplify_90 : decode b_SpectrumDeskModel_simplify 90 = .ok (.goto (-51), 3) := by decide +kernel
theorem d_SpectrumDeskModel_simplify_93 : decode b_SpectrumDeskModel_simplify 93 = .ok (.iinc 2 (1), 3) := by decide +kernel
theorem d_SpectrumDeskModel_simplify_96 : decode b_SpectrumDeskModel_simplify 96 = .ok (.goto (-87), 3) := by decide +kernel
theorem d_SpectrumDeskModel_simplify_99 : decode b_SpectrumDeskModel_simplify 99 = .ok (.iconst 0, 1) := by decide +kernel
theorem d_SpectrumDeskModel_simplify_100 : decode b_SpectrumDeskModel_simplify 100 = .ok (.istore_n 2, 1) := by decide +kernel
theorem d_SpectrumDeskModel_simplify_101 : decode b_SpectrumDeskModel_simplify 101 = .ok (.iload_n 2, 1) := by decide +kernel
theorem d_SpectrumDeskModel_simplify_102 : decode b_SpectrumDeskModel_simplify 102 = .ok (.aload_n 0, 1) := by decide +kernel
theorem d_SpectrumDeskModel_simplify_103 : decode b_SpectrumDeskModel_simplify 103 = .ok (.getfield 46, 3) := by decide +kernel
theorem d_SpectrumDeskModel_simplify_106 : decode b_SpectrumDeskModel_simplify 106 = .ok (.iload_n 1, 1) := by decide +kernel
theorem d_SpectrumDeskModel_simplify_107 : decode b_SpectrumDeskModel_simplify 107 = .ok (.bipush (8), 2) := by decide +kernel
theorem d_SpectrumDeskModel_simplify_109 : decode b_SpectrumDeskModel_simplify 109 = .ok (.idiv, 1) := by decide +kernel
theorem d_SpectrumDeskModel_simplify_110 : decode b_SpectrumDeskModel_simplify 110 = .ok (.iaload, 1) := by decide +kernel
theorem d_SpectrumDeskModel_simplify_111 : decode b_SpectrumDeskModel_simplify 111 = .ok (.if_icmp .gt (55), 3) := by decide +kernel
theorem d_SpectrumDeskModel_simplify_114 : decode b_SpectrumDeskModel_simplify 114 = .ok (.aload_n 0, 1) := by decide +kernel
theorem d_SpectrumDeskModel_simplify_115 : decode b_SpectrumDeskModel_simplify 115 = .ok (.getfield 1, 3) := by decide +kernel
theorem d_SpectrumDeskModel_simplify_118 : decode b_SpectrumDeskModel_simplify 118 = .ok (.iload_n 1, 1) := by decide +kernel
theorem d_SpectrumDeskModel_simplify_119 : decode b_SpectrumDeskModel_simplify 119 = .ok (.iload_n 2, 1) := by decide +kernel
theorem d_SpectrumDeskModel_simplify_120 : decode b_SpectrumDeskModel_simplify 120 = .ok (.iadd, 1) := by decide +kernel
theorem d_SpectrumDeskModel_simplify_121 : decode b_SpectrumDeskModel_simplify 121 = .ok (.baload, 1) := by decide +kernel
theorem d_SpectrumDeskModel_simplify_122 : decode b_SpectrumDeskModel_simplify 122 = .ok (.istore_n 3, 1) := by decide +kernel
theorem d_SpectrumDeskModel_simplify_123 : decode b_SpectrumDeskModel_simplify 123 = .ok (.aload_n 0, 1) := by decide +kernel
theorem d_SpectrumDeskModel_simplify_124 : decode b_SpectrumDeskModel_simplify 124 = .ok (.bipush (105), 2) := by decide +kernel
theorem d_SpectrumDeskModel_simplify_126 : decode b_SpectrumDeskModel_simplify 126 = .ok (.bipush (104), 2) := by decide +kernel
theorem d_SpectrumDeskModel_simplify_128 : decode b_SpectrumDeskModel_simplify 128 = .ok (.invokevirtual 49, 3) := by decide +kernel
theorem d_SpectrumDeskModel_simplify_131 : decode b_SpectrumDeskModel_simplify 131 = .ok (.aload_n 0, 1) := by decide +kernel
theorem d_SpectrumDeskModel_simplify_132 : decode b_SpectrumDeskModel_simplify 132 = .ok (.iload_n 1, 1) := by decide +kernel
theorem d_SpectrumDeskModel_simplify_133 : decode b_SpectrumDeskModel_simplify 133 = .ok (.iload_n 2, 1) := by decide +kernel
theorem d_SpectrumDeskModel_simplify_134 : decode b_SpectrumDeskModel_simplify 134 = .ok (.iadd, 1) := by decide +kernel
theorem d_SpectrumDeskModel_simplify_135 : decode b_SpectrumDeskModel_simplify 135 = .ok (.bipush (105), 2) := by decide +kernel
theorem d_SpectrumDeskModel_simplify_137 : decode b_SpectrumDeskModel_simplify 137 = .ok (.bipush (107), 2) := by decide +kernel
theorem d_SpectrumDeskModel_simplify_139 : decode b_SpectrumDeskModel_simplify 139 = .ok (.invokevirtual 142, 3) := by decide +kernel
theorem d_SpectrumDeskModel_simplify_142 : decode b_SpectrumDeskModel_simplify 142 = .ok (.aload_n 0, 1) := by decide +kernel
theorem d_SpectrumDeskModel_simplify_143 : decode b_SpectrumDeskModel_simplify 143 = .ok (.iload_n 1, 1) := by decide +kernel
theorem d_SpectrumDeskModel_simplify_144 : decode b_SpectrumDeskModel_simplify 144 = .ok (.iload_n 2, 1) := by decide +kernel
theorem d_SpectrumDeskModel_simplify_145 : decode b_SpectrumDeskModel_simplify 145 = .ok (.iadd, 1) := by decide +kernel
theorem d_SpectrumDeskModel_simplify_146 : decode b_SpectrumDeskModel_simplify 146 = .ok (.bipush (107), 2) := by decide +kernel
theorem d_SpectrumDeskModel_simplify_148 : decode b_SpectrumDeskModel_simplify 148 = .ok (.invokevirtual 49, 3) := by decide +kernel
theorem d_SpectrumDeskModel_simplify_151 : decode b_SpectrumDeskModel_simplify 151 = .ok (.aload_n 0, 1) := by decide +kernel
theorem d_SpectrumDeskModel_simplify_152 : decode b_SpectrumDeskModel_simplify 152 = .ok (.getfield 1, 3) := by decide +kernel
theorem d_SpectrumDeskModel_simplify_155 : decode b_SpectrumDeskModel_simplify 155 = .ok (.iload_n 1, 1) := by decide +kernel
theorem d_SpectrumDeskModel_simplify_156 : decode b_SpectrumDeskModel_simplify 156 = .ok (.iload_n 2, 1) := by decide +kernel
theorem d_SpectrumDeskModel_simplify_157 : decode b_SpectrumDeskModel_simplify 157 = .ok (.iadd, 1) := by decide +kernel
theorem d_SpectrumDeskModel_simplify_158 : decode b_SpectrumDeskModel_simplify 158 = .ok (.iload_n 3, 1) := by decide +kernel
theorem d_SpectrumDeskModel_simplify_159 : decode b_SpectrumDeskModel_simplify 159 = .ok (.bastore, 1) := by decide +kernel
theorem d_SpectrumDeskModel_simplify_160 : decode b_SpectrumDeskModel_simplify 160 = .ok (.iinc 2 (1), 3) := by decide +kernel
theorem d_SpectrumDeskModel_simplify_163 : decode b_SpectrumDeskModel_simplify 163 = .ok (.goto (-62), 3) := by decide +kernel
theorem d_SpectrumDeskModel_simplify_166 : decode b_SpectrumDeskModel_simplify 166 = .ok (.return_, 1) := by decide +kernel
theorem k_bdb09b636c : (Jvm.Cond.methodLink "SpectrumDeskModel" (142 : Nat) ({ cls := "SpectrumDeskModel", name := "bigDivide", desc := "(III)V" } : Jvm.MethodName)) ∈ AW := aw_5 (List.mem_of_getElem? (i := 139) (by decide +kernel)) (by decide +kernel)
theorem k_e87bc6411c : (Jvm.Cond.instanceMethod ({ cls := "SpectrumDeskModel", name := "bigDivide", desc := "(III)V" } : Jvm.MethodName)) ∈ AW := aw_5 (List.mem_of_getElem? (i := 141) (by decide +kernel)) (by decide +kernel)
theorem k_3f9d7caf04 : (Jvm.Cond.selects "SpectrumDeskModel" ({ cls := "SpectrumDeskModel", name := "bigDivide", desc := "(III)V" } : Jvm.MethodName) ({ cls := "SpectrumDeskModel", name := "bigDivide", desc := "(III)V" } : Jvm.MethodName)) ∈ AW := aw_p (by decide +kernel) (by decide +kernel)
theorem k_130109c8be : (Jvm.Cond.code ({ cls := "SpectrumDeskModel", name := "simplify", desc := "(I)V" } : Jvm.MethodName) prog_10_method_40_code (4 : Nat) (Option.none : Option Jvm.ClassFile.FieldType)) ∈ AW := aw_5 (List.mem_of_getElem? (i := 138) (by decide +kernel)) (by decide +kernel)
set_option maxHeartbeats 4000000 in
set_option maxRecDepth 100000 in
theorem c_SpectrumDeskModel_simplify {l : Launch} {D : va_G} {cI cJ cZ cC cG cP : ClassId} {ad : Nat → Nat} {σ0 : Nat → va_E} {th nn rws ps le eq : Int32} {P L M G : Nat → Int32} {Z : Nat → Int} (hG : σ0 187 = .inl (cI, 5, .inl G)) (hB : RB P L M Z) {b c9 : Nat} (hb9 : b < 5) (hc9 : c9 ≤ 8) (hGb : G b = nP c9) (hgc : c9 = 0 ∨ gcN (fun k => Z (8 * b + k)) c9 ≠ 0) (hsz : ∀ k, k < c9 → rbd (Z (8 * b + k))) :
    Met l y_SpectrumDeskModel_simplify v_SpectrumDeskModel_simplify (xrm 3) (va_Pc [.ref (ad 183), .int (nI (8 * b))] (xS D classes (xT cI cJ cZ cC cG cP) 193 ad (rw3 σ0 ciM cI cZ (mfs ad th nn rws ps le eq) P L M))) (va_Qv (fun σ2 => ∃ (P' L' M' : Nat → Int32) (X' : Nat → Int), σ2 = rw3 σ0 ciM cI cZ (mfs ad th nn rws ps le eq) P' L' M' ∧ RB P' L' M' X' ∧ ∀ v, (v < 104 ∨ 107 < v) → X' v = dvX Z (8 * b) c9 (gcN (fun k => Z (8 * b + k)) c9) v) (xS D classes (xT cI cJ cZ cC cG cP) 193 ad) (xA 193 ad)) 0 0 (xA 193 ad) := by
  refine xr_met rfl (Nat.le_of_ble_eq_true rfl) ?_
  intro p e s m args below meth c ls hx hb X hr hlk hl I
  have hl : lv_has ls 4 [(0, .ref (ad 183)), (1, .int (nI (8 * b)))] := hl
  have hrB : 0 < rBB := rg_B 299
  refine lv_aload_n hx hb d_SpectrumDeskModel_simplify_0 rfl (lv_at hl 0 rfl) ?_
  refine lv_bipush (v := nI 104) hx hb d_SpectrumDeskModel_simplify_1 (by decide) ?_
  refine lv_lconst (v := lN 0) hx hb d_SpectrumDeskModel_simplify_3 (by decide) ?_
  refine xr_callv (xr_runV (kc := 0) (kr := 3) (n := 2) (As := [.int (nI 104), .long (lN 0)]) (rest := []) X I (by decide) (r183 ..) rfl (c_SpectrumDeskModel_bigSet (w := 104) (v := lN 0) mfs_ok (by decide)) (xg k_5f300b8d49) (List.mem_cons_of_mem _ k_7a89662665) (List.mem_cons_of_mem _ k_203da126f2) (List.mem_cons_of_mem _ k_e2b6114fa3) (List.mem_cons_of_mem _ k_30fa15c9ac) (by decide +kernel) (by decide) rfl hl.1 rfl (Nat.le_of_ble_eq_true rfl) d_SpectrumDeskModel_simplify_4) I (fun σ1 H locs hp I => ?_)
  obtain ⟨P1, L1, M1, rfl, hf, hx9⟩ := hp
  have h1 := RB_up hB hf hx9
  clear hf hx9
  refine lv_iconst (v := nI 0) hx hb d_SpectrumDeskModel_simplify_7 (by decide) ?_
  refine lv_istore_n (lv' := [(2, .int (nI 0)), (0, .ref (ad 183)), (1, .int (nI (8 * b)))]) hx hb d_SpectrumDeskModel_simplify_8 rfl hl (by decide) rfl (fun ls hl => ?_)
  have second : ∀ (hgb : ((gcN (fun k => Z (8 * b + k)) c9) : Int) < rBB) (j : Nat) (k : Nat) (P2 L2 M2 : Nat → Int32) (X2 : Nat → Int) (ls : Array Slot) (H : Heap) (locs : List Loc), k + j = c9 → RB P2 L2 M2 X2 → (∀ v, (v < 104 ∨ 107 < v) → X2 v = dvX Z (8 * b) k (gcN (fun k => Z (8 * b + k)) c9) v) → X2 104 = ((gcN (fun k => Z (8 * b + k)) c9) : Int) → lv_has ls 4 [(2, .int (nI k)), (0, .ref (ad 183)), (1, .int (nI (8 * b)))] → xI D classes 193 ad s.heap (rw3 σ0 ciM cI cZ (mfs ad th nn rws ps le eq) P2 L2 M2) H locs → W p l e (xrm 3) s m args below meth c H locs 0 0 (MQ below (va_Qv (fun σ2 => ∃ (P' L' M' : Nat → Int32) (X' : Nat → Int), σ2 = rw3 σ0 ciM cI cZ (mfs ad th nn rws ps le eq) P' L' M' ∧ RB P' L' M' X' ∧ ∀ v, (v < 104 ∨ 107 < v) → X' v = dvX Z (8 * b) c9 (gcN (fun k => Z (8 * b + k)) c9) v) (xS D classes (xT cI cJ cZ cC cG cP) 193 ad) (xA 193 ad)) args s 0 0 (xA 193 ad)) (F0 m 101 ls []) := by
    intro hgb j
    induction j with
    | zero =>
      intro k P2 L2 M2 X2 ls H locs hk h2 h3 h4 hl I
      obtain rfl : k = c9 := by omega
      refine lv_iload_n hx hb d_SpectrumDeskModel_simplify_101 rfl (lv_at hl 0 rfl) ?_
      refine lv_aload_n hx hb d_SpectrumDeskModel_simplify_102 rfl (lv_at hl 1 rfl) ?_
      refine xr_get X I fin_M 183 (by decide) (r183 ..) rfl 3 (by decide) (List.mem_cons_of_mem _ k_176eac5e1f) rfl rfl d_SpectrumDeskModel_simplify_103 ?_
      refine lv_iload_n hx hb d_SpectrumDeskModel_simplify_106 rfl (lv_at hl 2 rfl) ?_
      refine lv_bipush (v := nI 8) hx hb d_SpectrumDeskModel_simplify_107 (by decide) ?_
      refine lv_idiv hx hb d_SpectrumDeskModel_simplify_109 (by decide) ?_
      refine xr_topi (y := nI b) (q_div8 (by omega)) ?_
      refine xr_iald X I 187 0 (by decide) ((r_o (by decide)).trans hG) rfl (by omega) (by decide) d_SpectrumDeskModel_simplify_110 ?_
      refine xr_topi (y := nP k) hGb ?_
      refine lv_icmp_gt hx hb d_SpectrumDeskModel_simplify_111 rfl (fun hc => ?_) (fun hc => ?_)
      · exact xr_vret X I hr hlk ⟨P2, L2, M2, X2, rfl, h2, h3⟩ d_SpectrumDeskModel_simplify_166
      · exact absurd (nP_lt (by omega)) hc
    | succ j ih =>
      intro k P2 L2 M2 X2 ls H locs hk h2 h3 h4 hl I
      refine lv_iload_n hx hb d_SpectrumDeskModel_simplify_101 rfl (lv_at hl 0 rfl) ?_
      refine lv_aload_n hx hb d_SpectrumDeskModel_simplify_102 rfl (lv_at hl 1 rfl) ?_
      refine xr_get X I fin_M 183 (by decide) (r183 ..) rfl 3 (by decide) (List.mem_cons_of_mem _ k_176eac5e1f) rfl rfl d_SpectrumDeskModel_simplify_103 ?_
      refine lv_iload_n hx hb d_SpectrumDeskModel_simplify_106 rfl (lv_at hl 2 rfl) ?_
      refine lv_bipush (v := nI 8) hx hb d_SpectrumDeskModel_simplify_107 (by decide) ?_
      refine lv_idiv hx hb d_SpectrumDeskModel_simplify_109 (by decide) ?_
      refine xr_topi (y := nI b) (q_div8 (by omega)) ?_
      refine xr_iald X I 187 0 (by decide) ((r_o (by decide)).trans hG) rfl (by omega) (by decide) d_SpectrumDeskModel_simplify_110 ?_
      refine xr_topi (y := nP c9) hGb ?_
      refine lv_icmp_gt hx hb d_SpectrumDeskModel_simplify_111 rfl (fun hc => ?_) (fun hc => ?_)
      · exact absurd hc (nP_nlt (by omega) (by omega))
      · refine lv_aload_n hx hb d_SpectrumDeskModel_simplify_114 rfl (lv_at hl 1 rfl) ?_
        refine xr_get X I fin_M 183 (by decide) (r183 ..) rfl 2 (by decide) (List.mem_cons_of_mem _ k_7646d4378e) rfl rfl d_SpectrumDeskModel_simplify_115 ?_
        refine lv_iload_n hx hb d_SpectrumDeskModel_simplify_118 rfl (lv_at hl 2 rfl) ?_
        refine lv_iload_n hx hb d_SpectrumDeskModel_simplify_119 rfl (lv_at hl 0 rfl) ?_
        refine lv_iadd hx hb d_SpectrumDeskModel_simplify_120 (xr_topi (y := nI ((8 * b) + k)) (nI_add (8 * b) k) ?_)
        have hbit := RB_bit h2 (show 8 * b + k < 112 by omega)
        have hX8 : X2 (8 * b + k) = Z (8 * b + k) := by rw [h3 _ (by omega), dvX, if_neg (by omega)]
        have hnar : vp_nar .boolean (M2 (8 * b + k)) = M2 (8 * b + k) := by rcases hbit with ⟨h, -⟩ | ⟨h, -⟩ <;> rw [h] <;> decide
        refine xr_zald X I 186 2 (by decide) (r186 ..) rfl (by omega) (by decide) d_SpectrumDeskModel_simplify_121 ?_
        refine lv_istore_n (lv' := [(3, .int (M2 ((8 * b) + k))), (2, .int (nI k)), (0, .ref (ad 183)), (1, .int (nI (8 * b)))]) hx hb d_SpectrumDeskModel_simplify_122 rfl hl (by decide) rfl (fun ls hl => ?_)
        refine lv_aload_n hx hb d_SpectrumDeskModel_simplify_123 rfl (lv_at hl 2 rfl) ?_
        refine lv_bipush (v := nI 105) hx hb d_SpectrumDeskModel_simplify_124 (by decide) ?_
        refine lv_bipush (v := nI 104) hx hb d_SpectrumDeskModel_simplify_126 (by decide) ?_
        refine xr_callv (xr_runV (kc := 0) (kr := 3) (n := 2) (As := [.int (nI 105), .int (nI 104)]) (rest := []) X I (by decide) (r183 ..) rfl (c_SpectrumDeskModel_bigCopy (w := 105) (u := 104) mfs_ok (by omega) (by omega) (by omega) (h2 (104) (by omega))) (xg k_b9c8150a19) (List.mem_cons_of_mem _ k_4f43ed96b8) (List.mem_cons_of_mem _ k_c9c9b5ab57) (List.mem_cons_of_mem _ k_5d491bf207) (List.mem_cons_of_mem _ k_30fa15c9ac) (by decide +kernel) (by decide) rfl hl.1 rfl (Nat.le_of_ble_eq_true rfl) d_SpectrumDeskModel_simplify_128) I (fun σ9 H locs hp I => ?_)
        obtain ⟨P3, L3, M3, rfl, hf, hx9⟩ := hp
        have g3 := RB_up h2 hf hx9
        clear hf hx9
        refine lv_aload_n hx hb d_SpectrumDeskModel_simplify_131 rfl (lv_at hl 2 rfl) ?_
        refine lv_iload_n hx hb d_SpectrumDeskModel_simplify_132 rfl (lv_at hl 3 rfl) ?_
        refine lv_iload_n hx hb d_SpectrumDeskModel_simplify_133 rfl (lv_at hl 1 rfl) ?_
        refine lv_iadd hx hb d_SpectrumDeskModel_simplify_134 (xr_topi (y := nI ((8 * b) + k)) (nI_add (8 * b) k) ?_)
        refine lv_bipush (v := nI 105) hx hb d_SpectrumDeskModel_simplify_135 (by decide) ?_
        refine lv_bipush (v := nI 107) hx hb d_SpectrumDeskModel_simplify_137 (by decide) ?_
        have w1 : va_up X2 105 (X2 104) (8 * b + k) = Z (8 * b + k) := (va_up_ne _ _ (by omega)).trans hX8
        have w2 : va_up X2 105 (X2 104) 105 = ((gcN (fun k => Z (8 * b + k)) c9) : Int) := (va_up_self _ _ _).trans h4
        refine xr_callv (xr_runV (kc := 2) (kr := 3) (n := 3) (As := [.int (nI ((8 * b) + k)), .int (nI 105), .int (nI 107)]) (rest := []) X I (by decide) (r183 ..) rfl (c_SpectrumDeskModel_bigDivide (w := 8 * b + k) (u := 105) (o := 107) mfs_ok g3 (by omega) (by decide) (by decide) (by omega) (by omega) (by decide) (by rw [w1]; exact hsz k (by omega)) (by rw [w2]; exact ⟨by omega, hgb⟩) (by rw [w2]; omega)) (xg k_7cfb511d06) (List.mem_cons_of_mem _ k_bdb09b636c) (List.mem_cons_of_mem _ k_e87bc6411c) (List.mem_cons_of_mem _ k_3f9d7caf04) (List.mem_cons_of_mem _ k_30fa15c9ac) (by decide +kernel) (by decide) rfl hl.1 rfl (Nat.le_of_ble_eq_true rfl) d_SpectrumDeskModel_simplify_139) I (fun σ9 H locs hp I => ?_)
        obtain ⟨P4, L4, M4, rfl, g4⟩ := hp
        rw [w1, w2] at g4
        refine lv_aload_n hx hb d_SpectrumDeskModel_simplify_142 rfl (lv_at hl 2 rfl) ?_
        refine lv_iload_n hx hb d_SpectrumDeskModel_simplify_143 rfl (lv_at hl 3 rfl) ?_
        refine lv_iload_n hx hb d_SpectrumDeskModel_simplify_144 rfl (lv_at hl 1 rfl) ?_
        refine lv_iadd hx hb d_SpectrumDeskModel_simplify_145 (xr_topi (y := nI ((8 * b) + k)) (nI_add (8 * b) k) ?_)
        refine lv_bipush (v := nI 107) hx hb d_SpectrumDeskModel_simplify_146 (by decide) ?_
        refine xr_callv (xr_runV (kc := 0) (kr := 3) (n := 2) (As := [.int (nI ((8 * b) + k)), .int (nI 107)]) (rest := []) X I (by decide) (r183 ..) rfl (c_SpectrumDeskModel_bigCopy (w := 8 * b + k) (u := 107) mfs_ok (by omega) (by omega) (by omega) (g4 (107) (by omega))) (xg k_b9c8150a19) (List.mem_cons_of_mem _ k_4f43ed96b8) (List.mem_cons_of_mem _ k_c9c9b5ab57) (List.mem_cons_of_mem _ k_5d491bf207) (List.mem_cons_of_mem _ k_30fa15c9ac) (by decide +kernel) (by decide) rfl hl.1 rfl (Nat.le_of_ble_eq_true rfl) d_SpectrumDeskModel_simplify_148) I (fun σ9 H locs hp I => ?_)
        obtain ⟨P5, L5, M5, rfl, hf, hx9⟩ := hp
        have g5 := RB_up g4 hf hx9
        clear hf hx9
        rw [va_up_self] at g5
        refine lv_aload_n hx hb d_SpectrumDeskModel_simplify_151 rfl (lv_at hl 2 rfl) ?_
        refine xr_get X I fin_M 183 (by decide) (r183 ..) rfl 2 (by decide) (List.mem_cons_of_mem _ k_7646d4378e) rfl rfl d_SpectrumDeskModel_simplify_152 ?_
        refine lv_iload_n hx hb d_SpectrumDeskModel_simplify_155 rfl (lv_at hl 3 rfl) ?_
        refine lv_iload_n hx hb d_SpectrumDeskModel_simplify_156 rfl (lv_at hl 1 rfl) ?_
        refine lv_iadd hx hb d_SpectrumDeskModel_simplify_157 (xr_topi (y := nI ((8 * b) + k)) (nI_add (8 * b) k) ?_)
        refine lv_iload_n hx hb d_SpectrumDeskModel_simplify_158 rfl (lv_at hl 0 rfl) ?_
        refine xr_zast X I 186 2 (by decide) (r186 ..) rfl (by omega) (by decide) d_SpectrumDeskModel_simplify_159 (fun H locs I => ?_)
        rw [rw3_M, hnar] at I
        have g6 := RB_sgn (v := 8 * b + k) (mi := M2 (8 * b + k)) g5 (by rcases hbit with ⟨h, -⟩ | ⟨h, -⟩ <;> simp [h])
        rw [va_up_self] at g6
        rw [show ((((gcN (fun k => Z (8 * b + k)) c9) : Int).natAbs : Nat) : Int) = ((gcN (fun k => Z (8 * b + k)) c9) : Int) by omega, sgn_div (gcN_dvd (f := (fun k => Z (8 * b + k))) (show k < c9 by omega)) (by rw [hX8] at hbit; exact hbit)] at g6
        refine lv_iinc (k := 1) (v := nI (k + 1)) (lv' := [(2, .int (nI (k + 1))), (3, .int (M2 ((8 * b) + k))), (0, .ref (ad 183)), (1, .int (nI (8 * b)))]) hx hb d_SpectrumDeskModel_simplify_160 hl rfl (nI_1 k) (by decide) rfl (fun ls hl => ?_)
        refine lv_goto hx hb d_SpectrumDeskModel_simplify_163 rfl ?_
        have hl := lv_sub hl [0, 2, 3] rfl
        have hl : lv_has ls 4 [(2, .int (nI (k + 1))), (0, .ref (ad 183)), (1, .int (nI (8 * b)))] := hl
        refine ih (k + 1) P5 L5 _ _ ls H locs (by omega) g6 (fun v hv => ?_) ?_ hl I
        · by_cases ev : v = 8 * b + k
          · rw [ev, va_up_self, dvX, if_pos (by omega)]
          · rw [va_up_ne _ _ ev, va_up_ne _ _ ev, va_up_ne _ _ (by omega), va_up_ne _ _ ev, va_up_ne _ _ (by omega), h3 v hv]; simp only [dvX]
            by_cases e3 : 8 * b ≤ v ∧ v < 8 * b + k
            · rw [if_pos e3, if_pos (by omega)]
            · rw [if_neg e3, if_neg (by omega)]
        · rw [va_up_ne _ _ (by omega), va_up_ne _ _ (by omega), va_up_ne _ _ (by omega), va_up_ne _ _ (by omega), va_up_ne _ _ (by omega)]; exact h4
  have first : ∀ (j : Nat) (k : Nat) (P2 L2 M2 : Nat → Int32) (X2 : Nat → Int) (ls : Array Slot) (H : Heap) (locs : List Loc), k + j = c9 → RB P2 L2 M2 X2 → (∀ v, (v < 104 ∨ 107 < v) → X2 v = Z v) → X2 104 = (gcN (fun k => Z (8 * b + k)) k : Int) → (gcN (fun k => Z (8 * b + k)) k : Int) < rBB → lv_has ls 4 [(2, .int (nI k)), (0, .ref (ad 183)), (1, .int (nI (8 * b)))] → xI D classes 193 ad s.heap (rw3 σ0 ciM cI cZ (mfs ad th nn rws ps le eq) P2 L2 M2) H locs → W p l e (xrm 3) s m args below meth c H locs 0 0 (MQ below (va_Qv (fun σ2 => ∃ (P' L' M' : Nat → Int32) (X' : Nat → Int), σ2 = rw3 σ0 ciM cI cZ (mfs ad th nn rws ps le eq) P' L' M' ∧ RB P' L' M' X' ∧ ∀ v, (v < 104 ∨ 107 < v) → X' v = dvX Z (8 * b) c9 (gcN (fun k => Z (8 * b + k)) c9) v) (xS D classes (xT cI cJ cZ cC cG cP) 193 ad) (xA 193 ad)) args s 0 0 (xA 193 ad)) (F0 m 9 ls []) := by
    intro j
    induction j with
    | zero =>
      intro k P2 L2 M2 X2 ls H locs hk h2 h3 h4 h5 hl I
      obtain rfl : k = c9 := by omega
      refine lv_iload_n hx hb d_SpectrumDeskModel_simplify_9 rfl (lv_at hl 0 rfl) ?_
      refine lv_aload_n hx hb d_SpectrumDeskModel_simplify_10 rfl (lv_at hl 1 rfl) ?_
      refine xr_get X I fin_M 183 (by decide) (r183 ..) rfl 3 (by decide) (List.mem_cons_of_mem _ k_176eac5e1f) rfl rfl d_SpectrumDeskModel_simplify_11 ?_
      refine lv_iload_n hx hb d_SpectrumDeskModel_simplify_14 rfl (lv_at hl 2 rfl) ?_
      refine lv_bipush (v := nI 8) hx hb d_SpectrumDeskModel_simplify_15 (by decide) ?_
      refine lv_idiv hx hb d_SpectrumDeskModel_simplify_17 (by decide) ?_
      refine xr_topi (y := nI b) (q_div8 (by omega)) ?_
      refine xr_iald X I 187 0 (by decide) ((r_o (by decide)).trans hG) rfl (by omega) (by decide) d_SpectrumDeskModel_simplify_18 ?_
      refine xr_topi (y := nP k) hGb ?_
      refine lv_icmp_gt hx hb d_SpectrumDeskModel_simplify_19 rfl (fun hc => ?_) (fun hc => ?_)
      · refine lv_iconst (v := nI 0) hx hb d_SpectrumDeskModel_simplify_99 (by decide) ?_
        refine lv_istore_n (lv' := [(2, .int (nI 0)), (0, .ref (ad 183)), (1, .int (nI (8 * b)))]) hx hb d_SpectrumDeskModel_simplify_100 rfl hl (by decide) rfl (fun ls hl => ?_)
        exact second h5 k 0 P2 L2 M2 X2 ls H locs (by omega) h2 (fun v hv => by rw [h3 v hv, dvX, if_neg (by omega)]) h4 hl I
      · exact absurd (nP_lt (by omega)) hc
    | succ j ih =>
      intro k P2 L2 M2 X2 ls H locs hk h2 h3 h4 h5 hl I
      refine lv_iload_n hx hb d_SpectrumDeskModel_simplify_9 rfl (lv_at hl 0 rfl) ?_
      refine lv_aload_n hx hb d_SpectrumDeskModel_simplify_10 rfl (lv_at hl 1 rfl) ?_
      refine xr_get X I fin_M 183 (by decide) (r183 ..) rfl 3 (by decide) (List.mem_cons_of_mem _ k_176eac5e1f) rfl rfl d_SpectrumDeskModel_simplify_11 ?_
      refine lv_iload_n hx hb d_SpectrumDeskModel_simplify_14 rfl (lv_at hl 2 rfl) ?_
      refine lv_bipush (v := nI 8) hx hb d_SpectrumDeskModel_simplify_15 (by decide) ?_
      refine lv_idiv hx hb d_SpectrumDeskModel_simplify_17 (by decide) ?_
      refine xr_topi (y := nI b) (q_div8 (by omega)) ?_
      refine xr_iald X I 187 0 (by decide) ((r_o (by decide)).trans hG) rfl (by omega) (by decide) d_SpectrumDeskModel_simplify_18 ?_
      refine xr_topi (y := nP c9) hGb ?_
      refine lv_icmp_gt hx hb d_SpectrumDeskModel_simplify_19 rfl (fun hc => ?_) (fun hc => ?_)
      · exact absurd hc (nP_nlt (by omega) (by omega))
      · refine lv_aload_n hx hb d_SpectrumDeskModel_simplify_22 rfl (lv_at hl 1 rfl) ?_
        refine lv_bipush (v := nI 105) hx hb d_SpectrumDeskModel_simplify_23 (by decide) ?_
        refine lv_iload_n hx hb d_SpectrumDeskModel_simplify_25 rfl (lv_at hl 2 rfl) ?_
        refine lv_iload_n hx hb d_SpectrumDeskModel_simplify_26 rfl (lv_at hl 0 rfl) ?_
        refine lv_iadd hx hb d_SpectrumDeskModel_simplify_27 (xr_topi (y := nI ((8 * b) + k)) (nI_add (8 * b) k) ?_)
        refine xr_callv (xr_runV (kc := 0) (kr := 3) (n := 2) (As := [.int (nI 105), .int (nI ((8 * b) + k))]) (rest := []) X I (by decide) (r183 ..) rfl (c_SpectrumDeskModel_bigCopy (w := 105) (u := 8 * b + k) mfs_ok (by omega) (by omega) (by omega) (h2 (8 * b + k) (by omega))) (xg k_b9c8150a19) (List.mem_cons_of_mem _ k_4f43ed96b8) (List.mem_cons_of_mem _ k_c9c9b5ab57) (List.mem_cons_of_mem _ k_5d491bf207) (List.mem_cons_of_mem _ k_30fa15c9ac) (by decide +kernel) (by decide) rfl hl.1 rfl (Nat.le_of_ble_eq_true rfl) d_SpectrumDeskModel_simplify_28) I (fun σ9 H locs hp I => ?_)
        obtain ⟨P3, L3, M3, rfl, hf, hx9⟩ := hp
        have g3 := RB_up h2 hf hx9
        clear hf hx9
        refine lv_aload_n hx hb d_SpectrumDeskModel_simplify_31 rfl (lv_at hl 1 rfl) ?_
        refine xr_get X I fin_M 183 (by decide) (r183 ..) rfl 2 (by decide) (List.mem_cons_of_mem _ k_7646d4378e) rfl rfl d_SpectrumDeskModel_simplify_32 ?_
        refine lv_bipush (v := nI 105) hx hb d_SpectrumDeskModel_simplify_35 (by decide) ?_
        refine lv_iconst (v := nI 0) hx hb d_SpectrumDeskModel_simplify_37 (by decide) ?_
        refine xr_zast X I 186 2 (by decide) (r186 ..) rfl (by omega) (by decide) d_SpectrumDeskModel_simplify_38 (fun H locs I => ?_)
        rw [rw3_M, show vp_nar .boolean (nI 0) = 0 by decide] at I
        have g4 := RB_sgn (v := 105) (mi := 0) g3 (Or.inl rfl)
        rw [va_up_self, if_neg (by decide), h3 (8 * b + k) (by omega)] at g4
        have inner : ∀ (f : Nat) (A9 B9 : Nat) (P6 L6 M6 : Nat → Int32) (X6 : Nat → Int) (ls : Array Slot) (H : Heap) (locs : List Loc), B9 < f → RB P6 L6 M6 X6 → (∀ v, (v < 104 ∨ 107 < v) → X6 v = Z v) → X6 104 = (A9 : Int) → X6 105 = (B9 : Int) → Nat.gcd A9 B9 = gcN (fun k => Z (8 * b + k)) (k + 1) → (A9 : Int) < rBB → (B9 : Int) < rBB → lv_has ls 4 [(2, .int (nI k)), (0, .ref (ad 183)), (1, .int (nI (8 * b)))] → xI D classes 193 ad s.heap (rw3 σ0 ciM cI cZ (mfs ad th nn rws ps le eq) P6 L6 M6) H locs → W p l e (xrm 3) s m args below meth c H locs 0 0 (MQ below (va_Qv (fun σ2 => ∃ (P' L' M' : Nat → Int32) (X' : Nat → Int), σ2 = rw3 σ0 ciM cI cZ (mfs ad th nn rws ps le eq) P' L' M' ∧ RB P' L' M' X' ∧ ∀ v, (v < 104 ∨ 107 < v) → X' v = dvX Z (8 * b) c9 (gcN (fun k => Z (8 * b + k)) c9) v) (xS D classes (xT cI cJ cZ cC cG cP) 193 ad) (xA 193 ad)) args s 0 0 (xA 193 ad)) (F0 m 39 ls []) := by
          intro f
          induction f with
          | zero =>
            intro A9 B9 P6 L6 M6 X6 ls H locs i1 i2 i3 i4 i5 i6 i7 i8 hl I
            exact absurd i1 (Nat.not_lt_zero _)
          | succ f jh =>
            intro A9 B9 P6 L6 M6 X6 ls H locs i1 i2 i3 i4 i5 i6 i7 i8 hl I
            refine lv_aload_n hx hb d_SpectrumDeskModel_simplify_39 rfl (lv_at hl 1 rfl) ?_
            refine lv_bipush (v := nI 105) hx hb d_SpectrumDeskModel_simplify_40 (by decide) ?_
            refine xr_calli (xr_runV (kc := 0) (kr := 3) (n := 1) (As := [.int (nI 105)]) (rest := []) X I (by decide) (r183 ..) rfl (c_SpectrumDeskModel_bigSign (w := 105) mfs_ok (by decide) (i2 105 (by decide))) (xg k_e13fc765ad) (List.mem_cons_of_mem _ k_6487c7a510) (List.mem_cons_of_mem _ k_b18f58b667) (List.mem_cons_of_mem _ k_0ad4753b22) (List.mem_cons_of_mem _ k_30fa15c9ac) (by decide +kernel) (by decide) rfl hl.1 rfl (Nat.le_of_ble_eq_true rfl) d_SpectrumDeskModel_simplify_42) I (fun r1 σ9 H locs hp I => ?_)
            obtain ⟨rfl, rfl⟩ := hp
            refine lv_if_eq hx hb d_SpectrumDeskModel_simplify_45 rfl (fun hd => ?_) (fun hd => ?_)
            · have hB0 : B9 = 0 := by have h := sg_zero.mp hd; omega
              rw [hB0, Nat.gcd_zero_right] at i6
              refine lv_iinc (k := 0) (v := nI (k + 1)) (lv' := [(2, .int (nI (k + 1))), (0, .ref (ad 183)), (1, .int (nI (8 * b)))]) hx hb d_SpectrumDeskModel_simplify_93 hl rfl (nI_1 k) (by decide) rfl (fun ls hl => ?_)
              refine lv_goto hx hb d_SpectrumDeskModel_simplify_96 rfl ?_
              exact ih (k + 1) P6 L6 M6 X6 ls H locs (by omega) i2 i3 (by rw [i4, i6]) (by rw [← i6]; exact i7) hl I
            · have hB0 : B9 ≠ 0 := fun h => hd (sg_zero.mpr (by omega))
              refine lv_aload_n hx hb d_SpectrumDeskModel_simplify_48 rfl (lv_at hl 1 rfl) ?_
              refine lv_bipush (v := nI 106) hx hb d_SpectrumDeskModel_simplify_49 (by decide) ?_
              refine lv_bipush (v := nI 105) hx hb d_SpectrumDeskModel_simplify_51 (by decide) ?_
              refine xr_callv (xr_runV (kc := 0) (kr := 3) (n := 2) (As := [.int (nI 106), .int (nI 105)]) (rest := []) X I (by decide) (r183 ..) rfl (c_SpectrumDeskModel_bigCopy (w := 106) (u := 105) mfs_ok (by omega) (by omega) (by omega) (i2 (105) (by omega))) (xg k_b9c8150a19) (List.mem_cons_of_mem _ k_4f43ed96b8) (List.mem_cons_of_mem _ k_c9c9b5ab57) (List.mem_cons_of_mem _ k_5d491bf207) (List.mem_cons_of_mem _ k_30fa15c9ac) (by decide +kernel) (by decide) rfl hl.1 rfl (Nat.le_of_ble_eq_true rfl) d_SpectrumDeskModel_simplify_53) I (fun σ9 H locs hp I => ?_)
              obtain ⟨P7, L7, M7, rfl, hf, hx9⟩ := hp
              have j3 := RB_up i2 hf hx9
              clear hf hx9
              rw [i5] at j3
              refine lv_aload_n hx hb d_SpectrumDeskModel_simplify_56 rfl (lv_at hl 1 rfl) ?_
              refine lv_bipush (v := nI 104) hx hb d_SpectrumDeskModel_simplify_57 (by decide) ?_
              refine lv_bipush (v := nI 106) hx hb d_SpectrumDeskModel_simplify_59 (by decide) ?_
              refine lv_bipush (v := nI 107) hx hb d_SpectrumDeskModel_simplify_61 (by decide) ?_
              have y1 : va_up X6 106 (B9 : Int) 104 = (A9 : Int) := (va_up_ne _ _ (by decide)).trans i4
              have y2 : va_up X6 106 (B9 : Int) 106 = (B9 : Int) := va_up_self _ _ _
              refine xr_callv (xr_runV (kc := 2) (kr := 3) (n := 3) (As := [.int (nI 104), .int (nI 106), .int (nI 107)]) (rest := []) X I (by decide) (r183 ..) rfl (c_SpectrumDeskModel_bigDivide (w := 104) (u := 106) (o := 107) mfs_ok j3 (by decide) (by decide) (by decide) (by decide) (by decide) (by decide) (by rw [y1]; exact ⟨by omega, i7⟩) (by rw [y2]; exact ⟨by omega, i8⟩) (by rw [y2]; omega)) (xg k_7cfb511d06) (List.mem_cons_of_mem _ k_bdb09b636c) (List.mem_cons_of_mem _ k_e87bc6411c) (List.mem_cons_of_mem _ k_3f9d7caf04) (List.mem_cons_of_mem _ k_30fa15c9ac) (by decide +kernel) (by decide) rfl hl.1 rfl (Nat.le_of_ble_eq_true rfl) d_SpectrumDeskModel_simplify_63) I (fun σ9 H locs hp I => ?_)
              obtain ⟨P8, L8, M8, rfl, j4⟩ := hp
              rw [y1, y2, Int.natAbs_natCast, Int.natAbs_natCast] at j4
              refine lv_aload_n hx hb d_SpectrumDeskModel_simplify_66 rfl (lv_at hl 1 rfl) ?_
              refine lv_bipush (v := nI 106) hx hb d_SpectrumDeskModel_simplify_67 (by decide) ?_
              refine lv_bipush (v := nI 104) hx hb d_SpectrumDeskModel_simplify_69 (by decide) ?_
              refine xr_callv (xr_runV (kc := 0) (kr := 3) (n := 2) (As := [.int (nI 106), .int (nI 104)]) (rest := []) X I (by decide) (r183 ..) rfl (c_SpectrumDeskModel_bigCopy (w := 106) (u := 104) mfs_ok (by omega) (by omega) (by omega) (j4 (104) (by omega))) (xg k_b9c8150a19) (List.mem_cons_of_mem _ k_4f43ed96b8) (List.mem_cons_of_mem _ k_c9c9b5ab57) (List.mem_cons_of_mem _ k_5d491bf207) (List.mem_cons_of_mem _ k_30fa15c9ac) (by decide +kernel) (by decide) rfl hl.1 rfl (Nat.le_of_ble_eq_true rfl) d_SpectrumDeskModel_simplify_71) I (fun σ9 H locs hp I => ?_)
              obtain ⟨P9, L9, M9, rfl, hf, hx9⟩ := hp
              have j5 := RB_up j4 hf hx9
              clear hf hx9
              refine lv_aload_n hx hb d_SpectrumDeskModel_simplify_74 rfl (lv_at hl 1 rfl) ?_
              refine lv_bipush (v := nI 104) hx hb d_SpectrumDeskModel_simplify_75 (by decide) ?_
              refine lv_bipush (v := nI 105) hx hb d_SpectrumDeskModel_simplify_77 (by decide) ?_
              refine xr_callv (xr_runV (kc := 0) (kr := 3) (n := 2) (As := [.int (nI 104), .int (nI 105)]) (rest := []) X I (by decide) (r183 ..) rfl (c_SpectrumDeskModel_bigCopy (w := 104) (u := 105) mfs_ok (by omega) (by omega) (by omega) (j5 (105) (by omega))) (xg k_b9c8150a19) (List.mem_cons_of_mem _ k_4f43ed96b8) (List.mem_cons_of_mem _ k_c9c9b5ab57) (List.mem_cons_of_mem _ k_5d491bf207) (List.mem_cons_of_mem _ k_30fa15c9ac) (by decide +kernel) (by decide) rfl hl.1 rfl (Nat.le_of_ble_eq_true rfl) d_SpectrumDeskModel_simplify_79) I (fun σ9 H locs hp I => ?_)
              obtain ⟨P10, L10, M10, rfl, hf, hx9⟩ := hp
              have j6 := RB_up j5 hf hx9
              clear hf hx9
              refine lv_aload_n hx hb d_SpectrumDeskModel_simplify_82 rfl (lv_at hl 1 rfl) ?_
              refine lv_bipush (v := nI 105) hx hb d_SpectrumDeskModel_simplify_83 (by decide) ?_
              refine lv_bipush (v := nI 106) hx hb d_SpectrumDeskModel_simplify_85 (by decide) ?_
              refine xr_callv (xr_runV (kc := 0) (kr := 3) (n := 2) (As := [.int (nI 105), .int (nI 106)]) (rest := []) X I (by decide) (r183 ..) rfl (c_SpectrumDeskModel_bigCopy (w := 105) (u := 106) mfs_ok (by omega) (by omega) (by omega) (j6 (106) (by omega))) (xg k_b9c8150a19) (List.mem_cons_of_mem _ k_4f43ed96b8) (List.mem_cons_of_mem _ k_c9c9b5ab57) (List.mem_cons_of_mem _ k_5d491bf207) (List.mem_cons_of_mem _ k_30fa15c9ac) (by decide +kernel) (by decide) rfl hl.1 rfl (Nat.le_of_ble_eq_true rfl) d_SpectrumDeskModel_simplify_87) I (fun σ9 H locs hp I => ?_)
              obtain ⟨P11, L11, M11, rfl, hf, hx9⟩ := hp
              have j7 := RB_up j6 hf hx9
              clear hf hx9
              refine lv_goto hx hb d_SpectrumDeskModel_simplify_90 rfl ?_
              refine jh B9 (A9 % B9) P11 L11 M11 _ ls H locs ?_ j7 (fun v hv => ?_) ?_ ?_ ((gcd_turn A9 B9).trans i6) i8 ?_ hl I
              · have := Nat.mod_lt A9 (Nat.pos_of_ne_zero hB0); omega
              · repeat rw [va_up_ne _ _ (by omega)]
                exact i3 v hv
              · simp [va_up, i5]
              · simp [va_up]
              · have := Nat.mod_lt A9 (Nat.pos_of_ne_zero hB0); omega
        exact inner _ (gcN (fun k => Z (8 * b + k)) k) (Z (8 * b + k)).natAbs P3 L3 _ _ ls _ _ (Nat.lt_succ_self _) g4 (fun v hv => by rw [va_up_ne _ _ (by omega), va_up_ne _ _ (by omega)]; exact h3 v hv) (by rw [va_up_ne _ _ (by decide), va_up_ne _ _ (by decide)]; exact h4) (va_up_self _ _ _) rfl h5 (by have h := hsz k (by omega); have h6 : -rBB < Z (8 * b + k) := h.1; have h7 : Z (8 * b + k) < rBB := h.2; omega) hl I
  exact first c9 0 P1 L1 M1 _ ls _ _ (by omega) h1 (fun v hv => va_up_ne _ _ (by omega)) (va_up_self _ _ _) (by simpa [gcN] using hrB) hl I
