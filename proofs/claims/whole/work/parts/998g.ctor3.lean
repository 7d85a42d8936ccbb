/-! the constructors: Spectrum (written by wip/gen) -/
abbrev b_Spectrum_init : ByteArray := prog_7_method_1_code
abbrev y_Spectrum_init : MethodName := ⟨"SpectrumDesk$Spectrum", "<init>", "()V"⟩
abbrev v_Spectrum_init : List Cond := Cond.code y_Spectrum_init b_Spectrum_init 2 none :: AW
theorem d_Spectrum_init_0 : decode b_Spectrum_init 0 = .ok (.aload_n 0, 1) := by decide +kernel
theorem d_Spectrum_init_1 : decode b_Spectrum_init 1 = .ok (.invokespecial 3, 3) := by decide +kernel
theorem d_Spectrum_init_4 : decode b_Spectrum_init 4 = .ok (.aload_n 0, 1) := by decide +kernel
theorem d_Spectrum_init_5 : decode b_Spectrum_init 5 = .ok (.bipush (7), 2) := by decide +kernel
theorem d_Spectrum_init_7 : decode b_Spectrum_init 7 = .ok (.anewarray 9, 3) := by decide +kernel
theorem d_Spectrum_init_10 : decode b_Spectrum_init 10 = .ok (.putfield 11, 3) := by decide +kernel
theorem d_Spectrum_init_13 : decode b_Spectrum_init 13 = .ok (.iconst 0, 1) := by decide +kernel
theorem d_Spectrum_init_14 : decode b_Spectrum_init 14 = .ok (.istore_n 1, 1) := by decide +kernel
theorem d_Spectrum_init_15 : decode b_Spectrum_init 15 = .ok (.iload_n 1, 1) := by decide +kernel
theorem d_Spectrum_init_16 : decode b_Spectrum_init 16 = .ok (.bipush (6), 2) := by decide +kernel
theorem d_Spectrum_init_18 : decode b_Spectrum_init 18 = .ok (.if_icmp .gt (24), 3) := by decide +kernel
theorem d_Spectrum_init_21 : decode b_Spectrum_init 21 = .ok (.aload_n 0, 1) := by decide +kernel
theorem d_Spectrum_init_22 : decode b_Spectrum_init 22 = .ok (.getfield 11, 3) := by decide +kernel
theorem d_Spectrum_init_25 : decode b_Spectrum_init 25 = .ok (.iload_n 1, 1) := by decide +kernel
theorem d_Spectrum_init_26 : decode b_Spectrum_init 26 = .ok (.new 9, 3) := by decide +kernel
theorem d_Spectrum_init_29 : decode b_Spectrum_init 29 = .ok (.dup, 1) := by decide +kernel
theorem d_Spectrum_init_30 : decode b_Spectrum_init 30 = .ok (.bipush (6), 2) := by decide +kernel
theorem d_Spectrum_init_32 : decode b_Spectrum_init 32 = .ok (.invokespecial 19, 3) := by decide +kernel
theorem d_Spectrum_init_35 : decode b_Spectrum_init 35 = .ok (.aastore, 1) := by decide +kernel
theorem d_Spectrum_init_36 : decode b_Spectrum_init 36 = .ok (.iinc 1 (1), 3) := by decide +kernel
theorem d_Spectrum_init_39 : decode b_Spectrum_init 39 = .ok (.goto (-24), 3) := by decide +kernel
theorem d_Spectrum_init_42 : decode b_Spectrum_init 42 = .ok (.aload_n 0, 1) := by decide +kernel
theorem d_Spectrum_init_43 : decode b_Spectrum_init 43 = .ok (.getfield 11, 3) := by decide +kernel
theorem d_Spectrum_init_46 : decode b_Spectrum_init 46 = .ok (.iconst 0, 1) := by decide +kernel
theorem d_Spectrum_init_47 : decode b_Spectrum_init 47 = .ok (.aaload, 1) := by decide +kernel
theorem d_Spectrum_init_48 : decode b_Spectrum_init 48 = .ok (.getfield 22, 3) := by decide +kernel
theorem d_Spectrum_init_51 : decode b_Spectrum_init 51 = .ok (.iconst 0, 1) := by decide +kernel
theorem d_Spectrum_init_52 : decode b_Spectrum_init 52 = .ok (.aaload, 1) := by decide +kernel
theorem d_Spectrum_init_53 : decode b_Spectrum_init 53 = .ok (.iconst 1, 1) := by decide +kernel
theorem d_Spectrum_init_54 : decode b_Spectrum_init 54 = .ok (.invokestatic 26, 3) := by decide +kernel
theorem d_Spectrum_init_57 : decode b_Spectrum_init 57 = .ok (.aload_n 0, 1) := by decide +kernel
theorem d_Spectrum_init_58 : decode b_Spectrum_init 58 = .ok (.new 9, 3) := by decide +kernel
theorem d_Spectrum_init_61 : decode b_Spectrum_init 61 = .ok (.dup, 1) := by decide +kernel
theorem d_Spectrum_init_62 : decode b_Spectrum_init 62 = .ok (.bipush (6), 2) := by decide +kernel
theorem d_Spectrum_init_64 : decode b_Spectrum_init 64 = .ok (.invokespecial 19, 3) := by decide +kernel
theorem d_Spectrum_init_67 : decode b_Spectrum_init 67 = .ok (.putfield 30, 3) := by decide +kernel
theorem d_Spectrum_init_70 : decode b_Spectrum_init 70 = .ok (.aload_n 0, 1) := by decide +kernel
theorem d_Spectrum_init_71 : decode b_Spectrum_init 71 = .ok (.new 9, 3) := by decide +kernel
theorem d_Spectrum_init_74 : decode b_Spectrum_init 74 = .ok (.dup, 1) := by decide +kernel
theorem d_Spectrum_init_75 : decode b_Spectrum_init 75 = .ok (.bipush (12), 2) := by decide +kernel
theorem d_Spectrum_init_77 : decode b_Spectrum_init 77 = .ok (.invokespecial 19, 3) := by decide +kernel
theorem d_Spectrum_init_80 : decode b_Spectrum_init 80 = .ok (.putfield 34, 3) := by decide +kernel
theorem d_Spectrum_init_83 : decode b_Spectrum_init 83 = .ok (.aload_n 0, 1) := by decide +kernel
theorem d_Spectrum_init_84 : decode b_Spectrum_init 84 = .ok (.new 9, 3) := by decide +kernel
theorem d_Spectrum_init_87 : decode b_Spectrum_init 87 = .ok (.dup, 1) := by decide +kernel
theorem d_Spectrum_init_88 : decode b_Spectrum_init 88 = .ok (.bipush (20), 2) := by decide +kernel
theorem d_Spectrum_init_90 : decode b_Spectrum_init 90 = .ok (.invokespecial 19, 3) := by decide +kernel
theorem d_Spectrum_init_93 : decode b_Spectrum_init 93 = .ok (.putfield 37, 3) := by decide +kernel
theorem d_Spectrum_init_96 : decode b_Spectrum_init 96 = .ok (.aload_n 0, 1) := by decide +kernel
theorem d_Spectrum_init_97 : decode b_Spectrum_init 97 = .ok (.new 9, 3) := by decide +kernel
theorem d_Spectrum_init_100 : decode b_Spectrum_init 100 = .ok (.dup, 1) := by decide +kernel
theorem d_Spectrum_init_101 : decode b_Spectrum_init 101 = .ok (.bipush (20), 2) := by decide +kernel
theorem d_Spectrum_init_103 : decode b_Spectrum_init 103 = .ok (.invokespecial 19, 3) := by decide +kernel
theorem d_Spectrum_init_106 : decode b_Spectrum_init 106 = .ok (.putfield 40, 3) := by decide +kernel
theorem d_Spectrum_init_109 : decode b_Spectrum_init 109 = .ok (.aload_n 0, 1) := by decide +kernel
theorem d_Spectrum_init_110 : decode b_Spectrum_init 110 = .ok (.new 9, 3) := by decide +kernel
theorem d_Spectrum_init_113 : decode b_Spectrum_init 113 = .ok (.dup, 1) := by decide +kernel
theorem d_Spectrum_init_114 : decode b_Spectrum_init 114 = .ok (.bipush (20), 2) := by decide +kernel
theorem d_Spectrum_init_116 : decode b_Spectrum_init 116 = .ok (.invokespecial 19, 3) := by decide +kernel
theorem d_Spectrum_init_119 : decode b_Spectrum_init 119 = .ok (.putfield 43, 3) := by decide +kernel
theorem d_Spectrum_init_122 : decode b_Spectrum_init 122 = .ok (.aload_n 0, 1) := by decide +kernel
theorem d_Spectrum_init_123 : decode b_Spectrum_init 123 = .ok (.new 46, 3) := by decide +kernel
theorem d_Spectrum_init_126 : decode b_Spectrum_init 126 = .ok (.dup, 1) := by decide +kernel
theorem d_Spectrum_init_127 : decode b_Spectrum_init 127 = .ok (.invokespecial 48, 3) := by decide +kernel
theorem d_Spectrum_init_130 : decode b_Spectrum_init 130 = .ok (.putfield 49, 3) := by decide +kernel
theorem d_Spectrum_init_133 : decode b_Spectrum_init 133 = .ok (.aload_n 0, 1) := by decide +kernel
theorem d_Spectrum_init_134 : decode b_Spectrum_init 134 = .ok (.new 53, 3) := by decide +kernel
theorem d_Spectrum_init_137 : decode b_Spectrum_init 137 = .ok (.dup, 1) := by decide +kernel
theorem d_Spectrum_init_138 : decode b_Spectrum_init 138 = .ok (.invokespecial 55, 3) := by decide +kernel
theorem d_Spectrum_init_141 : decode b_Spectrum_init 141 = .ok (.putfield 56, 3) := by decide +kernel
theorem d_Spectrum_init_144 : decode b_Spectrum_init 144 = .ok (.aload_n 0, 1) := by decide +kernel
theorem d_Spectrum_init_145 : decode b_Spectrum_init 145 = .ok (.bipush (6), 2) := by decide +kernel
theorem d_Spectrum_init_147 : decode b_Spectrum_init 147 = .ok (.newarray .long, 2) := by decide +kernel
theorem d_Spectrum_init_149 : decode b_Spectrum_init 149 = .ok (.putfield 60, 3) := by decide +kernel
theorem d_Spectrum_init_152 : decode b_Spectrum_init 152 = .ok (.aload_n 0, 1) := by decide +kernel
theorem d_Spectrum_init_153 : decode b_Spectrum_init 153 = .ok (.bipush (6), 2) := by decide +kernel
theorem d_Spectrum_init_155 : decode b_Spectrum_init 155 = .ok (.newarray .boolean, 2) := by decide +kernel
theorem d_Spectrum_init_157 : decode b_Spectrum_init 157 = .ok (.putfield 64, 3) := by decide +kernel
theorem d_Spectrum_init_160 : decode b_Spectrum_init 160 = .ok (.return_, 1) := by decide +kernel
theorem k_5ce220920d : (Jvm.Cond.methodLink "SpectrumDesk$Spectrum" (3 : Nat) ({ cls := "java/lang/Object", name := "<init>", desc := "()V" } : Jvm.MethodName)) ∈ AW := aw_1 (List.mem_of_getElem? (i := 61) (by decide +kernel)) (by decide +kernel)
theorem k_4ccf1b3ee6 : (Jvm.Cond.classLink "SpectrumDesk$Spectrum" (9 : Nat) "SpectrumDesk$Polynomial") ∈ AW := aw_1 (List.mem_of_getElem? (i := 62) (by decide +kernel)) (by decide +kernel)
theorem k_2a20c776fd : (Jvm.Cond.fieldLink "SpectrumDesk$Spectrum" (22 : Nat) "SpectrumDesk$Polynomial" "c" "[[I") ∈ AW := aw_1 (List.mem_of_getElem? (i := 71) (by decide +kernel)) (by decide +kernel)
theorem k_73ae05f87a : (Jvm.Cond.methodLink "SpectrumDesk$Spectrum" (26 : Nat) ({ cls := "SpectrumDesk$Limbs", name := "assign", desc := "([II)V" } : Jvm.MethodName)) ∈ AW := aw_1 (List.mem_of_getElem? (i := 94) (by decide +kernel)) (by decide +kernel)
theorem k_460b8e0a49 : (Jvm.Cond.methodLink "SpectrumDesk$Spectrum" (19 : Nat) ({ cls := "SpectrumDesk$Polynomial", name := "<init>", desc := "(I)V" } : Jvm.MethodName)) ∈ AW := aw_1 (List.mem_of_getElem? (i := 65) (by decide +kernel)) (by decide +kernel)
theorem k_4347c87725 : (Jvm.Cond.classLink "SpectrumDesk$Spectrum" (46 : Nat) "SpectrumDesk$Border") ∈ AW := aw_1 (List.mem_of_getElem? (i := 101) (by decide +kernel)) (by decide +kernel)
theorem k_6bf704437e : (Jvm.Cond.instantiable "SpectrumDesk$Border" (2 : Nat)) ∈ AW := aw_1 (List.mem_of_getElem? (i := 102) (by decide +kernel)) (by decide +kernel)
theorem k_30d1c468c8 : (Jvm.Cond.initialized "SpectrumDesk$Border") ∈ AW := aw_1 (List.mem_of_getElem? (i := 7) (by decide +kernel)) (by decide +kernel)
theorem k_2ed9379159 : (Jvm.Cond.methodLink "SpectrumDesk$Spectrum" (48 : Nat) ({ cls := "SpectrumDesk$Border", name := "<init>", desc := "()V" } : Jvm.MethodName)) ∈ AW := aw_1 (List.mem_of_getElem? (i := 103) (by decide +kernel)) (by decide +kernel)
theorem k_62ea39f6e7 : (Jvm.Cond.instanceMethod ({ cls := "SpectrumDesk$Border", name := "<init>", desc := "()V" } : Jvm.MethodName)) ∈ AW := aw_1 (List.mem_of_getElem? (i := 104) (by decide +kernel)) (by decide +kernel)
theorem k_baea43adf3 : (Jvm.Cond.classLink "SpectrumDesk$Spectrum" (53 : Nat) "SpectrumDesk$Euclid") ∈ AW := aw_1 (List.mem_of_getElem? (i := 115) (by decide +kernel)) (by decide +kernel)
theorem k_5159f414ab : (Jvm.Cond.instantiable "SpectrumDesk$Euclid" (3 : Nat)) ∈ AW := aw_1 (List.mem_of_getElem? (i := 116) (by decide +kernel)) (by decide +kernel)
theorem k_4dfe674813 : (Jvm.Cond.initialized "SpectrumDesk$Euclid") ∈ AW := aw_1 (List.mem_of_getElem? (i := 8) (by decide +kernel)) (by decide +kernel)
theorem k_6ca0843d44 : (Jvm.Cond.methodLink "SpectrumDesk$Spectrum" (55 : Nat) ({ cls := "SpectrumDesk$Euclid", name := "<init>", desc := "()V" } : Jvm.MethodName)) ∈ AW := aw_1 (List.mem_of_getElem? (i := 117) (by decide +kernel)) (by decide +kernel)
theorem k_cf9f046282 : (Jvm.Cond.instanceMethod ({ cls := "SpectrumDesk$Euclid", name := "<init>", desc := "()V" } : Jvm.MethodName)) ∈ AW := aw_1 (List.mem_of_getElem? (i := 118) (by decide +kernel)) (by decide +kernel)
theorem k_9bf18df0e3 : (Jvm.Cond.arrayClass Jvm.ClassFile.FieldType.long) ∈ AW := aw_1 (List.mem_of_getElem? (i := 177) (by decide +kernel)) (by decide +kernel)
theorem k_316403286a : (Jvm.Cond.code ({ cls := "SpectrumDesk$Spectrum", name := "<init>", desc := "()V" } : Jvm.MethodName) prog_7_method_1_code (2 : Nat) (Option.none : Option Jvm.ClassFile.FieldType)) ∈ AW := aw_1 (List.mem_of_getElem? (i := 60) (by decide +kernel)) (by decide +kernel)
set_option maxHeartbeats 4000000 in
set_option maxRecDepth 100000 in
theorem c_Spectrum_init {l : Launch} {D : va_G} {cI cJ cZ cC cG cP : ClassId} {z N : Nat} {ad : Nat → Nat} {σ : Nat → va_E} (had : ∀ k, ad k = z + k) (hNi : N = 19) (ho : σ 18 = .inr (ciE, [.null, .null, .null, .null, .null, .null, .null, .null, .null, .null, .int 0, .int 0, .int 0, .long 0])) :
    Met l y_Spectrum_init v_Spectrum_init { frames := 3, cells := 160, slots := 1987, locals := 192 } (va_Pc [.ref (ad 18)] (xG D classes (xT cI cJ cZ cC cG cP) z N ad σ)) (va_Qv (fun σ2 => (∀ q, q < 18 → σ2 q = σ q) ∧ spZ ad cI cG cP σ2 ∧ spN ad cI cJ cZ cG σ2) (xS D classes (xT cI cJ cZ cC cG cP) (179) ad) (xgA z N ad)) (160) (1987) (xgA z N ad) := by
  subst hNi
  refine xj_met rfl (Nat.le_of_ble_eq_true rfl) ?_
  intro p e s m args below meth c ls hx hb X hr hlk hnm hl hao hz0 J
  have hA : ∀ q, s.heap.size ≤ q → xgA z 19 ad q := fun q hq => Or.inr (by omega)
  have hl : lv_has ls 2 [(0, .ref (ad 18))] := hl
  refine lv_aload_n hx hb d_Spectrum_init_0 rfl (lv_at hl 0 rfl) ?_
  refine xj_obj X hl.1 (List.mem_cons_of_mem _ k_5ce220920d) (List.mem_cons_of_mem _ k_739ca49096) (List.mem_cons_of_mem _ k_539172dd6b) (Nat.le_of_ble_eq_true rfl) (Nat.le_of_ble_eq_true rfl) d_Spectrum_init_1 ?_
  refine lv_aload_n hx hb d_Spectrum_init_4 rfl (lv_at hl 0 rfl) ?_
  refine lv_bipush (v := nI 7) hx hb d_Spectrum_init_5 (by decide) ?_
  refine xj_newq X J had hA (by omega) (by omega) (List.mem_cons_of_mem _ k_4ccf1b3ee6) hao.2 5 rfl (n := 7) (by decide) (by decide) (show 0 + 1 ≤ 160 by decide) (show 0 + 7 ≤ 1987 by decide) d_Spectrum_init_7 (fun H J => ?_)
  obtain ⟨σa, hσa⟩ : ∃ s9, s9 = va_up σ 19 (.inl (cP, 7, .inr (.inr (.inr (.inr (fun _ => none)))))) := ⟨_, rfl⟩
  rw [← hσa] at J
  have σak : σa 19 = (.inl (cP, 7, .inr (.inr (.inr (.inr (fun _ => none)))))) := by rw [hσa]; exact va_up_self _ _ _
  have σao : ∀ q, q ≠ 19 → σa q = σ q := fun q hq => by rw [hσa]; exact va_up_ne _ _ hq
  clear hσa
  have o1 := (σao 18 (by decide)).trans ho
  refine xj_putF (ty := .array (.object "SpectrumDesk$Polynomial")) X J fin_E t_E t_E_ok n_E 18 (by omega) o1 rfl 0 (by decide) (List.mem_cons_of_mem _ k_453373e9e7) rfl rfl hnm rfl (by decide +kernel) rfl rfl (Nat.le_of_ble_eq_true rfl) d_Spectrum_init_10 (fun H locs J => ?_)
  have J : xJ D classes (xgA z 19 ad) _ ad s.heap (va_up σa 18 (.inr (ciE, [.ref (ad 19), .null, .null, .null, .null, .null, .null, .null, .null, .null, .int 0, .int 0, .int 0, .long 0]))) H locs := J
  obtain ⟨σb, hσb⟩ : ∃ s9, s9 = va_up σa 18 (.inr (ciE, [.ref (ad 19), .null, .null, .null, .null, .null, .null, .null, .null, .null, .int 0, .int 0, .int 0, .long 0])) := ⟨_, rfl⟩
  rw [← hσb] at J
  have σbk : σb 18 = (.inr (ciE, [.ref (ad 19), .null, .null, .null, .null, .null, .null, .null, .null, .null, .int 0, .int 0, .int 0, .long 0])) := by rw [hσb]; exact va_up_self _ _ _
  have σbo : ∀ q, q ≠ 18 → σb q = σa q := fun q hq => by rw [hσb]; exact va_up_ne _ _ hq
  clear hσb
  have q19 : σb 19 = .inl (cP, 7, .inr (.inr (.inr (.inr (bl_k ad 0))))) := (σbo 19 (by decide)).trans σak
  refine lv_iconst (v := nI 0) hx hb d_Spectrum_init_13 (by decide) ?_
  refine lv_istore_n (lv' := [(1, .int (nI 0)), (0, .ref (ad 18))]) hx hb d_Spectrum_init_14 rfl hl (by decide) rfl (fun ls hl => ?_)
  have loop : ∀ (f k : Nat) (σ2 : Nat → va_E) (ls : Array Slot) (H : Heap) (locs : List Loc), k + f = 7 → (∀ q, q < 18 → σ2 q = σ q) → σ2 18 = .inr (ciE, [.ref (ad 19), .null, .null, .null, .null, .null, .null, .null, .null, .null, .int 0, .int 0, .int 0, .long 0]) → σ2 19 = .inl (cP, 7, .inr (.inr (.inr (.inr (bl_k ad k))))) → bkM ad cI cG σ2 k → lv_has ls 2 [(1, .int (nI k)), (0, .ref (ad 18))] → xJ D classes (xgA z 19 ad) (20 + 10 * k) ad s.heap σ2 H locs → W p l e { frames := 3, cells := 160, slots := 1987, locals := 192 } s m args below meth c H locs (1 + 10 * k) (7 + 59 * k) (MQ below (va_Qv (fun σ2 => (∀ q, q < 18 → σ2 q = σ q) ∧ spZ ad cI cG cP σ2 ∧ spN ad cI cJ cZ cG σ2) (xS D classes (xT cI cJ cZ cC cG cP) (179) ad) (xgA z 19 ad)) args s (160) (1987) (xgA z 19 ad)) (F0 m 15 ls []) := by
    intro f
    induction f with
    | zero =>
      intro k σ2 ls H locs hk lo e18 e19 bk hl J
      obtain rfl : k = 7 := by omega
      refine lv_iload_n hx hb d_Spectrum_init_15 rfl (lv_at hl 0 rfl) ?_
      refine lv_bipush (v := nI 6) hx hb d_Spectrum_init_16 (by decide) ?_
      refine lv_icmp_gt hx hb d_Spectrum_init_18 rfl (fun hc => ?_) (fun hc => ?_)
      · have J : xJ D classes (xgA z 19 ad) 90 ad s.heap σ2 H locs := J
        obtain ⟨F0_, s0_, b0, bz⟩ := bk 0 (by decide)
        have b0 : pl ad cI cG σ2 20 6 0 6 F0_ s0_ := b0
        refine lv_aload_n hx hb d_Spectrum_init_42 rfl (lv_at hl 1 rfl) ?_
        refine xj_get X J fin_E 18 (by omega) e18 rfl 0 (by decide) (List.mem_cons_of_mem _ k_453373e9e7) rfl rfl d_Spectrum_init_43 ?_
        refine lv_iconst (v := nI 0) hx hb d_Spectrum_init_46 (by decide) ?_
        refine xj_aald X J 19 5 (by omega) (r := 20) e19 rfl rfl (j := 0) (by decide) (by decide) rfl d_Spectrum_init_47 ?_
        refine xj_get X J fin_P 20 (by omega) (pl_o b0) rfl 0 (by decide) (List.mem_cons_of_mem _ k_2a20c776fd) rfl rfl d_Spectrum_init_48 ?_
        refine lv_iconst (v := nI 0) hx hb d_Spectrum_init_51 (by decide) ?_
        refine xj_aald X J 21 4 (by omega) (r := 22) (pl_c b0) rfl rfl (j := 0) (by decide) (by decide) rfl d_Spectrum_init_52 ?_
        refine lv_iconst (v := nI 1) hx hb d_Spectrum_init_53 (by decide) ?_
        refine xj_callv (xj_runS (kc := 1) (n := 2) (As := [.ref (ad 22), .int (nI 1)]) (rest := []) X J (c_Limbs_assign (a := 22) (La := 6) (v := nI 1) (by omega) (pl_r b0 (k := 0) (by decide)) (by decide) (by decide) (by decide)) (xg k_987c15d378) (List.mem_cons_of_mem _ k_73ae05f87a) (List.mem_cons_of_mem _ k_e133681707) (List.mem_cons_of_mem _ k_b15d0305ca) (by decide +kernel) (by decide) rfl hl.1 rfl (Nat.le_of_ble_eq_true rfl) d_Spectrum_init_54 ⟨(show 1 + 10 * 7 + 0 ≤ 160 by decide), (show 7 + 59 * 7 + 0 ≤ 1987 by decide)⟩) J (fun σ3 H locs hp J => ?_)
        obtain ⟨f9, h9, -, f8⟩ := hp
        have b1 := pl_row b0 (k := 0) (by decide) f9
        have c3 : ∀ q, q ≠ 22 → σ3 q = σ2 q := fun q hq => by rw [h9]; exact va_up_ne _ _ hq
        rw [show (va_up σ2 (20 + 2 + 0) (.inl (cI, 6, .inl f9))) = σ3 from h9.symm] at b1
        clear h9
        have bu : bkU ad cI cG σ3 (fun _ _ => 0) 0 := by
          refine ⟨fun a ha => ?_, fun a h1 h2 => ?_⟩
          · obtain rfl : a = 0 := by omega
            refine ⟨_, _, b1, fun k hk => ?_⟩
            obtain rfl : k = 0 := by omega
            rw [va_up_self]; exact f8
          · obtain ⟨F, s, b, _⟩ := bk a (by omega)
            exact ⟨_, F, s, pl_same b (fun q q1 q2 => c3 q (by omega))⟩
        have lo := fun q (hq : q < 18) => (c3 q (by omega)).trans (lo q hq)
        have e18 := (c3 18 (by decide)).trans e18
        have e19 := (c3 19 (by decide)).trans e19
        clear b0 b1 bz bk f8 c3
        refine lv_aload_n hx hb d_Spectrum_init_57 rfl (lv_at hl 1 rfl) ?_
        refine xj_new X J had hA (by omega) (by omega) fin_P t_P t_P_ok (List.mem_cons_of_mem _ k_4ccf1b3ee6) (List.mem_cons_of_mem _ k_360d028f84) (List.mem_cons_of_mem _ k_7331dc5fb5) (ci := ciP) rfl (fs := [.null, .null, .int 0, .int 0]) (by decide +kernel) (show 1 + 10 * 7 + 1 ≤ 160 by omega) (show 7 + 59 * 7 + 4 ≤ 1987 by omega) d_Spectrum_init_58 (fun H J => ?_)
        obtain ⟨σd, hσd⟩ : ∃ s9, s9 = va_up σ3 90 (.inr (ciP, [.null, .null, .int 0, .int 0])) := ⟨_, rfl⟩
        rw [← hσd] at J
        have σdk : σd 90 = (.inr (ciP, [.null, .null, .int 0, .int 0])) := by rw [hσd]; exact va_up_self _ _ _
        have σdo : ∀ q, q ≠ 90 → σd q = σ3 q := fun q hq => by rw [hσd]; exact va_up_ne _ _ hq
        clear hσd
        refine lv_dup hx hb d_Spectrum_init_61 rfl ?_
        refine lv_bipush (v := nI 6) hx hb d_Spectrum_init_62 (by decide) ?_
        refine xj_W fun hle => ?_
        have hH9 := xJ_size had J (by omega) (by omega)
        refine xj_callg had hA hH9 (xj_runI (rm := { frames := 1, cells := 9, slots := 7 + 7 * 6 + 6, locals := 64 }) (n := 1) (As := [.int (nI 6)]) (rest := [.ref (ad 90), .ref (ad 18)]) X J hH9 hao (c_Polynomial_init (i := 90) (most := 6) had rfl (by decide) σdk) (xg k_799d7536b9) (List.mem_cons_of_mem _ k_460b8e0a49) (List.mem_cons_of_mem _ k_ae17292725) (List.mem_cons_of_mem _ k_a8ac99ee00) rfl rfl rfl (by decide +kernel) (by decide) rfl hl.1 rfl (Nat.le_of_ble_eq_true rfl) d_Spectrum_init_64 ⟨(show 1 + 10 * 7 + 1 + 9 ≤ 160 by omega), (show 7 + 59 * 7 + 4 + (7 + 7 * 6 + 6) ≤ 1987 by omega)⟩) J (fun σdp H locs hp J => ?_)
        obtain ⟨Fd, sd, gd, pd, zd⟩ := hp
        have lo := fun q (hq : q < 18) => ((gd q (by omega)).trans (σdo q (by omega))).trans (lo q hq)
        have e19 := ((gd 19 (by omega)).trans (σdo 19 (by omega))).trans e19
        have bu := bkU_keep bu (by decide) (fun q h1 h2 => ((gd q (by omega)).trans (σdo q (by omega))))
        have e18 := ((gd 18 (by omega)).trans (σdo 18 (by omega))).trans e18
        refine xj_putF (ty := .object "SpectrumDesk$Polynomial") X J fin_E t_E t_E_ok n_E 18 (by omega) e18 rfl 1 (by decide) (List.mem_cons_of_mem _ k_c500482549) rfl rfl hnm rfl (by decide +kernel) rfl rfl (Nat.le_of_ble_eq_true rfl) d_Spectrum_init_67 (fun H locs J => ?_)
        have J : xJ D classes (xgA z 19 ad) _ ad s.heap (va_up σdp 18 (.inr (ciE, [.ref (ad 19), .ref (ad 90), .null, .null, .null, .null, .null, .null, .null, .null, .int 0, .int 0, .int 0, .long 0]))) H locs := J
        obtain ⟨σdq, hσdq⟩ : ∃ s9, s9 = va_up σdp 18 (.inr (ciE, [.ref (ad 19), .ref (ad 90), .null, .null, .null, .null, .null, .null, .null, .null, .int 0, .int 0, .int 0, .long 0])) := ⟨_, rfl⟩
        rw [← hσdq] at J
        have σdqk : σdq 18 = (.inr (ciE, [.ref (ad 19), .ref (ad 90), .null, .null, .null, .null, .null, .null, .null, .null, .int 0, .int 0, .int 0, .long 0])) := by rw [hσdq]; exact va_up_self _ _ _
        have σdqo : ∀ q, q ≠ 18 → σdq q = σdp q := fun q hq => by rw [hσdq]; exact va_up_ne _ _ hq
        clear hσdq
        have lo := fun q (hq : q < 18) => (σdqo q (by omega)).trans (lo q hq)
        have e19 := (σdqo 19 (by omega)).trans e19
        have bu := bkU_keep bu (by decide) (fun q h1 h2 => (σdqo q (by omega)))
        have pd := pl_same pd (fun q h1 h2 => (σdqo q (by omega)))
        have e18 := σdqk
        refine lv_aload_n hx hb d_Spectrum_init_70 rfl (lv_at hl 1 rfl) ?_
        refine xj_new X J had hA (by omega) (by omega) fin_P t_P t_P_ok (List.mem_cons_of_mem _ k_4ccf1b3ee6) (List.mem_cons_of_mem _ k_360d028f84) (List.mem_cons_of_mem _ k_7331dc5fb5) (ci := ciP) rfl (fs := [.null, .null, .int 0, .int 0]) (by decide +kernel) (show 1 + 10 * 7 + 1 + 9 + 1 ≤ 160 by omega) (show 7 + 59 * 7 + 4 + (7 + 7 * 6 + 6) + 4 ≤ 1987 by omega) d_Spectrum_init_71 (fun H J => ?_)
        obtain ⟨σe, hσe⟩ : ∃ s9, s9 = va_up σdq 100 (.inr (ciP, [.null, .null, .int 0, .int 0])) := ⟨_, rfl⟩
        rw [← hσe] at J
        have σek : σe 100 = (.inr (ciP, [.null, .null, .int 0, .int 0])) := by rw [hσe]; exact va_up_self _ _ _
        have σeo : ∀ q, q ≠ 100 → σe q = σdq q := fun q hq => by rw [hσe]; exact va_up_ne _ _ hq
        clear hσe
        refine lv_dup hx hb d_Spectrum_init_74 rfl ?_
        refine lv_bipush (v := nI 12) hx hb d_Spectrum_init_75 (by decide) ?_
        refine xj_W fun hle => ?_
        have hH9 := xJ_size had J (by omega) (by omega)
        refine xj_callg had hA hH9 (xj_runI (rm := { frames := 1, cells := 9, slots := 7 + 7 * 12 + 12, locals := 64 }) (n := 1) (As := [.int (nI 12)]) (rest := [.ref (ad 100), .ref (ad 18)]) X J hH9 hao (c_Polynomial_init (i := 100) (most := 12) had rfl (by decide) σek) (xg k_799d7536b9) (List.mem_cons_of_mem _ k_460b8e0a49) (List.mem_cons_of_mem _ k_ae17292725) (List.mem_cons_of_mem _ k_a8ac99ee00) rfl rfl rfl (by decide +kernel) (by decide) rfl hl.1 rfl (Nat.le_of_ble_eq_true rfl) d_Spectrum_init_77 ⟨(show 1 + 10 * 7 + 1 + 9 + 1 + 9 ≤ 160 by omega), (show 7 + 59 * 7 + 4 + (7 + 7 * 6 + 6) + 4 + (7 + 7 * 12 + 12) ≤ 1987 by omega)⟩) J (fun σep H locs hp J => ?_)
        obtain ⟨Fe, se, ge, pe, ze⟩ := hp
        have lo := fun q (hq : q < 18) => ((ge q (by omega)).trans (σeo q (by omega))).trans (lo q hq)
        have e19 := ((ge 19 (by omega)).trans (σeo 19 (by omega))).trans e19
        have bu := bkU_keep bu (by decide) (fun q h1 h2 => ((ge q (by omega)).trans (σeo q (by omega))))
        have pd := pl_same pd (fun q h1 h2 => ((ge q (by omega)).trans (σeo q (by omega))))
        have e18 := ((ge 18 (by omega)).trans (σeo 18 (by omega))).trans e18
        refine xj_putF (ty := .object "SpectrumDesk$Polynomial") X J fin_E t_E t_E_ok n_E 18 (by omega) e18 rfl 2 (by decide) (List.mem_cons_of_mem _ k_e152497569) rfl rfl hnm rfl (by decide +kernel) rfl rfl (Nat.le_of_ble_eq_true rfl) d_Spectrum_init_80 (fun H locs J => ?_)
        have J : xJ D classes (xgA z 19 ad) _ ad s.heap (va_up σep 18 (.inr (ciE, [.ref (ad 19), .ref (ad 90), .ref (ad 100), .null, .null, .null, .null, .null, .null, .null, .int 0, .int 0, .int 0, .long 0]))) H locs := J
        obtain ⟨σeq, hσeq⟩ : ∃ s9, s9 = va_up σep 18 (.inr (ciE, [.ref (ad 19), .ref (ad 90), .ref (ad 100), .null, .null, .null, .null, .null, .null, .null, .int 0, .int 0, .int 0, .long 0])) := ⟨_, rfl⟩
        rw [← hσeq] at J
        have σeqk : σeq 18 = (.inr (ciE, [.ref (ad 19), .ref (ad 90), .ref (ad 100), .null, .null, .null, .null, .null, .null, .null, .int 0, .int 0, .int 0, .long 0])) := by rw [hσeq]; exact va_up_self _ _ _
        have σeqo : ∀ q, q ≠ 18 → σeq q = σep q := fun q hq => by rw [hσeq]; exact va_up_ne _ _ hq
        clear hσeq
        have lo := fun q (hq : q < 18) => (σeqo q (by omega)).trans (lo q hq)
        have e19 := (σeqo 19 (by omega)).trans e19
        have bu := bkU_keep bu (by decide) (fun q h1 h2 => (σeqo q (by omega)))
        have pd := pl_same pd (fun q h1 h2 => (σeqo q (by omega)))
        have pe := pl_same pe (fun q h1 h2 => (σeqo q (by omega)))
        have e18 := σeqk
        refine lv_aload_n hx hb d_Spectrum_init_83 rfl (lv_at hl 1 rfl) ?_
        refine xj_new X J had hA (by omega) (by omega) fin_P t_P t_P_ok (List.mem_cons_of_mem _ k_4ccf1b3ee6) (List.mem_cons_of_mem _ k_360d028f84) (List.mem_cons_of_mem _ k_7331dc5fb5) (ci := ciP) rfl (fs := [.null, .null, .int 0, .int 0]) (by decide +kernel) (show 1 + 10 * 7 + 1 + 9 + 1 + 9 + 1 ≤ 160 by omega) (show 7 + 59 * 7 + 4 + (7 + 7 * 6 + 6) + 4 + (7 + 7 * 12 + 12) + 4 ≤ 1987 by omega) d_Spectrum_init_84 (fun H J => ?_)
        obtain ⟨σf, hσf⟩ : ∃ s9, s9 = va_up σeq 110 (.inr (ciP, [.null, .null, .int 0, .int 0])) := ⟨_, rfl⟩
        rw [← hσf] at J
        have σfk : σf 110 = (.inr (ciP, [.null, .null, .int 0, .int 0])) := by rw [hσf]; exact va_up_self _ _ _
        have σfo : ∀ q, q ≠ 110 → σf q = σeq q := fun q hq => by rw [hσf]; exact va_up_ne _ _ hq
        clear hσf
        refine lv_dup hx hb d_Spectrum_init_87 rfl ?_
        refine lv_bipush (v := nI 20) hx hb d_Spectrum_init_88 (by decide) ?_
        refine xj_W fun hle => ?_
        have hH9 := xJ_size had J (by omega) (by omega)
        refine xj_callg had hA hH9 (xj_runI (rm := { frames := 1, cells := 9, slots := 7 + 7 * 20 + 20, locals := 64 }) (n := 1) (As := [.int (nI 20)]) (rest := [.ref (ad 110), .ref (ad 18)]) X J hH9 hao (c_Polynomial_init (i := 110) (most := 20) had rfl (by decide) σfk) (xg k_799d7536b9) (List.mem_cons_of_mem _ k_460b8e0a49) (List.mem_cons_of_mem _ k_ae17292725) (List.mem_cons_of_mem _ k_a8ac99ee00) rfl rfl rfl (by decide +kernel) (by decide) rfl hl.1 rfl (Nat.le_of_ble_eq_true rfl) d_Spectrum_init_90 ⟨(show 1 + 10 * 7 + 1 + 9 + 1 + 9 + 1 + 9 ≤ 160 by omega), (show 7 + 59 * 7 + 4 + (7 + 7 * 6 + 6) + 4 + (7 + 7 * 12 + 12) + 4 + (7 + 7 * 20 + 20) ≤ 1987 by omega)⟩) J (fun σfp H locs hp J => ?_)
        obtain ⟨Ff, sf, gf, pf, zf⟩ := hp
        have lo := fun q (hq : q < 18) => ((gf q (by omega)).trans (σfo q (by omega))).trans (lo q hq)
        have e19 := ((gf 19 (by omega)).trans (σfo 19 (by omega))).trans e19
        have bu := bkU_keep bu (by decide) (fun q h1 h2 => ((gf q (by omega)).trans (σfo q (by omega))))
        have pd := pl_same pd (fun q h1 h2 => ((gf q (by omega)).trans (σfo q (by omega))))
        have pe := pl_same pe (fun q h1 h2 => ((gf q (by omega)).trans (σfo q (by omega))))
        have e18 := ((gf 18 (by omega)).trans (σfo 18 (by omega))).trans e18
        refine xj_putF (ty := .object "SpectrumDesk$Polynomial") X J fin_E t_E t_E_ok n_E 18 (by omega) e18 rfl 3 (by decide) (List.mem_cons_of_mem _ k_0a83b20ad5) rfl rfl hnm rfl (by decide +kernel) rfl rfl (Nat.le_of_ble_eq_true rfl) d_Spectrum_init_93 (fun H locs J => ?_)
        have J : xJ D classes (xgA z 19 ad) _ ad s.heap (va_up σfp 18 (.inr (ciE, [.ref (ad 19), .ref (ad 90), .ref (ad 100), .ref (ad 110), .null, .null, .null, .null, .null, .null, .int 0, .int 0, .int 0, .long 0]))) H locs := J
        obtain ⟨σfq, hσfq⟩ : ∃ s9, s9 = va_up σfp 18 (.inr (ciE, [.ref (ad 19), .ref (ad 90), .ref (ad 100), .ref (ad 110), .null, .null, .null, .null, .null, .null, .int 0, .int 0, .int 0, .long 0])) := ⟨_, rfl⟩
        rw [← hσfq] at J
        have σfqk : σfq 18 = (.inr (ciE, [.ref (ad 19), .ref (ad 90), .ref (ad 100), .ref (ad 110), .null, .null, .null, .null, .null, .null, .int 0, .int 0, .int 0, .long 0])) := by rw [hσfq]; exact va_up_self _ _ _
        have σfqo : ∀ q, q ≠ 18 → σfq q = σfp q := fun q hq => by rw [hσfq]; exact va_up_ne _ _ hq
        clear hσfq
        have lo := fun q (hq : q < 18) => (σfqo q (by omega)).trans (lo q hq)
        have e19 := (σfqo 19 (by omega)).trans e19
        have bu := bkU_keep bu (by decide) (fun q h1 h2 => (σfqo q (by omega)))
        have pd := pl_same pd (fun q h1 h2 => (σfqo q (by omega)))
        have pe := pl_same pe (fun q h1 h2 => (σfqo q (by omega)))
        have pf := pl_same pf (fun q h1 h2 => (σfqo q (by omega)))
        have e18 := σfqk
        refine lv_aload_n hx hb d_Spectrum_init_96 rfl (lv_at hl 1 rfl) ?_
        refine xj_new X J had hA (by omega) (by omega) fin_P t_P t_P_ok (List.mem_cons_of_mem _ k_4ccf1b3ee6) (List.mem_cons_of_mem _ k_360d028f84) (List.mem_cons_of_mem _ k_7331dc5fb5) (ci := ciP) rfl (fs := [.null, .null, .int 0, .int 0]) (by decide +kernel) (show 1 + 10 * 7 + 1 + 9 + 1 + 9 + 1 + 9 + 1 ≤ 160 by omega) (show 7 + 59 * 7 + 4 + (7 + 7 * 6 + 6) + 4 + (7 + 7 * 12 + 12) + 4 + (7 + 7 * 20 + 20) + 4 ≤ 1987 by omega) d_Spectrum_init_97 (fun H J => ?_)
        obtain ⟨σg, hσg⟩ : ∃ s9, s9 = va_up σfq 120 (.inr (ciP, [.null, .null, .int 0, .int 0])) := ⟨_, rfl⟩
        rw [← hσg] at J
        have σgk : σg 120 = (.inr (ciP, [.null, .null, .int 0, .int 0])) := by rw [hσg]; exact va_up_self _ _ _
        have σgo : ∀ q, q ≠ 120 → σg q = σfq q := fun q hq => by rw [hσg]; exact va_up_ne _ _ hq
        clear hσg
        refine lv_dup hx hb d_Spectrum_init_100 rfl ?_
        refine lv_bipush (v := nI 20) hx hb d_Spectrum_init_101 (by decide) ?_
        refine xj_W fun hle => ?_
        have hH9 := xJ_size had J (by omega) (by omega)
        refine xj_callg had hA hH9 (xj_runI (rm := { frames := 1, cells := 9, slots := 7 + 7 * 20 + 20, locals := 64 }) (n := 1) (As := [.int (nI 20)]) (rest := [.ref (ad 120), .ref (ad 18)]) X J hH9 hao (c_Polynomial_init (i := 120) (most := 20) had rfl (by decide) σgk) (xg k_799d7536b9) (List.mem_cons_of_mem _ k_460b8e0a49) (List.mem_cons_of_mem _ k_ae17292725) (List.mem_cons_of_mem _ k_a8ac99ee00) rfl rfl rfl (by decide +kernel) (by decide) rfl hl.1 rfl (Nat.le_of_ble_eq_true rfl) d_Spectrum_init_103 ⟨(show 1 + 10 * 7 + 1 + 9 + 1 + 9 + 1 + 9 + 1 + 9 ≤ 160 by omega), (show 7 + 59 * 7 + 4 + (7 + 7 * 6 + 6) + 4 + (7 + 7 * 12 + 12) + 4 + (7 + 7 * 20 + 20) + 4 + (7 + 7 * 20 + 20) ≤ 1987 by omega)⟩) J (fun σgp H locs hp J => ?_)
        obtain ⟨Fg, sg, gg, pg, zg⟩ := hp
        have lo := fun q (hq : q < 18) => ((gg q (by omega)).trans (σgo q (by omega))).trans (lo q hq)
        have e19 := ((gg 19 (by omega)).trans (σgo 19 (by omega))).trans e19
        have bu := bkU_keep bu (by decide) (fun q h1 h2 => ((gg q (by omega)).trans (σgo q (by omega))))
        have pd := pl_same pd (fun q h1 h2 => ((gg q (by omega)).trans (σgo q (by omega))))
        have pe := pl_same pe (fun q h1 h2 => ((gg q (by omega)).trans (σgo q (by omega))))
        have pf := pl_same pf (fun q h1 h2 => ((gg q (by omega)).trans (σgo q (by omega))))
        have e18 := ((gg 18 (by omega)).trans (σgo 18 (by omega))).trans e18
        refine xj_putF (ty := .object "SpectrumDesk$Polynomial") X J fin_E t_E t_E_ok n_E 18 (by omega) e18 rfl 4 (by decide) (List.mem_cons_of_mem _ k_da88c209a6) rfl rfl hnm rfl (by decide +kernel) rfl rfl (Nat.le_of_ble_eq_true rfl) d_Spectrum_init_106 (fun H locs J => ?_)
        have J : xJ D classes (xgA z 19 ad) _ ad s.heap (va_up σgp 18 (.inr (ciE, [.ref (ad 19), .ref (ad 90), .ref (ad 100), .ref (ad 110), .ref (ad 120), .null, .null, .null, .null, .null, .int 0, .int 0, .int 0, .long 0]))) H locs := J
        obtain ⟨σgq, hσgq⟩ : ∃ s9, s9 = va_up σgp 18 (.inr (ciE, [.ref (ad 19), .ref (ad 90), .ref (ad 100), .ref (ad 110), .ref (ad 120), .null, .null, .null, .null, .null, .int 0, .int 0, .int 0, .long 0])) := ⟨_, rfl⟩
        rw [← hσgq] at J
        have σgqk : σgq 18 = (.inr (ciE, [.ref (ad 19), .ref (ad 90), .ref (ad 100), .ref (ad 110), .ref (ad 120), .null, .null, .null, .null, .null, .int 0, .int 0, .int 0, .long 0])) := by rw [hσgq]; exact va_up_self _ _ _
        have σgqo : ∀ q, q ≠ 18 → σgq q = σgp q := fun q hq => by rw [hσgq]; exact va_up_ne _ _ hq
        clear hσgq
        have lo := fun q (hq : q < 18) => (σgqo q (by omega)).trans (lo q hq)
        have e19 := (σgqo 19 (by omega)).trans e19
        have bu := bkU_keep bu (by decide) (fun q h1 h2 => (σgqo q (by omega)))
        have pd := pl_same pd (fun q h1 h2 => (σgqo q (by omega)))
        have pe := pl_same pe (fun q h1 h2 => (σgqo q (by omega)))
        have pf := pl_same pf (fun q h1 h2 => (σgqo q (by omega)))
        have pg := pl_same pg (fun q h1 h2 => (σgqo q (by omega)))
        have e18 := σgqk
        refine lv_aload_n hx hb d_Spectrum_init_109 rfl (lv_at hl 1 rfl) ?_
        refine xj_new X J had hA (by omega) (by omega) fin_P t_P t_P_ok (List.mem_cons_of_mem _ k_4ccf1b3ee6) (List.mem_cons_of_mem _ k_360d028f84) (List.mem_cons_of_mem _ k_7331dc5fb5) (ci := ciP) rfl (fs := [.null, .null, .int 0, .int 0]) (by decide +kernel) (show 1 + 10 * 7 + 1 + 9 + 1 + 9 + 1 + 9 + 1 + 9 + 1 ≤ 160 by omega) (show 7 + 59 * 7 + 4 + (7 + 7 * 6 + 6) + 4 + (7 + 7 * 12 + 12) + 4 + (7 + 7 * 20 + 20) + 4 + (7 + 7 * 20 + 20) + 4 ≤ 1987 by omega) d_Spectrum_init_110 (fun H J => ?_)
        obtain ⟨σh, hσh⟩ : ∃ s9, s9 = va_up σgq 130 (.inr (ciP, [.null, .null, .int 0, .int 0])) := ⟨_, rfl⟩
        rw [← hσh] at J
        have σhk : σh 130 = (.inr (ciP, [.null, .null, .int 0, .int 0])) := by rw [hσh]; exact va_up_self _ _ _
        have σho : ∀ q, q ≠ 130 → σh q = σgq q := fun q hq => by rw [hσh]; exact va_up_ne _ _ hq
        clear hσh
        refine lv_dup hx hb d_Spectrum_init_113 rfl ?_
        refine lv_bipush (v := nI 20) hx hb d_Spectrum_init_114 (by decide) ?_
        refine xj_W fun hle => ?_
        have hH9 := xJ_size had J (by omega) (by omega)
        refine xj_callg had hA hH9 (xj_runI (rm := { frames := 1, cells := 9, slots := 7 + 7 * 20 + 20, locals := 64 }) (n := 1) (As := [.int (nI 20)]) (rest := [.ref (ad 130), .ref (ad 18)]) X J hH9 hao (c_Polynomial_init (i := 130) (most := 20) had rfl (by decide) σhk) (xg k_799d7536b9) (List.mem_cons_of_mem _ k_460b8e0a49) (List.mem_cons_of_mem _ k_ae17292725) (List.mem_cons_of_mem _ k_a8ac99ee00) rfl rfl rfl (by decide +kernel) (by decide) rfl hl.1 rfl (Nat.le_of_ble_eq_true rfl) d_Spectrum_init_116 ⟨(show 1 + 10 * 7 + 1 + 9 + 1 + 9 + 1 + 9 + 1 + 9 + 1 + 9 ≤ 160 by omega), (show 7 + 59 * 7 + 4 + (7 + 7 * 6 + 6) + 4 + (7 + 7 * 12 + 12) + 4 + (7 + 7 * 20 + 20) + 4 + (7 + 7 * 20 + 20) + 4 + (7 + 7 * 20 + 20) ≤ 1987 by omega)⟩) J (fun σhp H locs hp J => ?_)
        obtain ⟨Fh, sh, gh, ph, zh⟩ := hp
        have lo := fun q (hq : q < 18) => ((gh q (by omega)).trans (σho q (by omega))).trans (lo q hq)
        have e19 := ((gh 19 (by omega)).trans (σho 19 (by omega))).trans e19
        have bu := bkU_keep bu (by decide) (fun q h1 h2 => ((gh q (by omega)).trans (σho q (by omega))))
        have pd := pl_same pd (fun q h1 h2 => ((gh q (by omega)).trans (σho q (by omega))))
        have pe := pl_same pe (fun q h1 h2 => ((gh q (by omega)).trans (σho q (by omega))))
        have pf := pl_same pf (fun q h1 h2 => ((gh q (by omega)).trans (σho q (by omega))))
        have pg := pl_same pg (fun q h1 h2 => ((gh q (by omega)).trans (σho q (by omega))))
        have e18 := ((gh 18 (by omega)).trans (σho 18 (by omega))).trans e18
        refine xj_putF (ty := .object "SpectrumDesk$Polynomial") X J fin_E t_E t_E_ok n_E 18 (by omega) e18 rfl 5 (by decide) (List.mem_cons_of_mem _ k_30b9489e92) rfl rfl hnm rfl (by decide +kernel) rfl rfl (Nat.le_of_ble_eq_true rfl) d_Spectrum_init_119 (fun H locs J => ?_)
        have J : xJ D classes (xgA z 19 ad) _ ad s.heap (va_up σhp 18 (.inr (ciE, [.ref (ad 19), .ref (ad 90), .ref (ad 100), .ref (ad 110), .ref (ad 120), .ref (ad 130), .null, .null, .null, .null, .int 0, .int 0, .int 0, .long 0]))) H locs := J
        obtain ⟨σhq, hσhq⟩ : ∃ s9, s9 = va_up σhp 18 (.inr (ciE, [.ref (ad 19), .ref (ad 90), .ref (ad 100), .ref (ad 110), .ref (ad 120), .ref (ad 130), .null, .null, .null, .null, .int 0, .int 0, .int 0, .long 0])) := ⟨_, rfl⟩
        rw [← hσhq] at J
        have σhqk : σhq 18 = (.inr (ciE, [.ref (ad 19), .ref (ad 90), .ref (ad 100), .ref (ad 110), .ref (ad 120), .ref (ad 130), .null, .null, .null, .null, .int 0, .int 0, .int 0, .long 0])) := by rw [hσhq]; exact va_up_self _ _ _
        have σhqo : ∀ q, q ≠ 18 → σhq q = σhp q := fun q hq => by rw [hσhq]; exact va_up_ne _ _ hq
        clear hσhq
        have lo := fun q (hq : q < 18) => (σhqo q (by omega)).trans (lo q hq)
        have e19 := (σhqo 19 (by omega)).trans e19
        have bu := bkU_keep bu (by decide) (fun q h1 h2 => (σhqo q (by omega)))
        have pd := pl_same pd (fun q h1 h2 => (σhqo q (by omega)))
        have pe := pl_same pe (fun q h1 h2 => (σhqo q (by omega)))
        have pf := pl_same pf (fun q h1 h2 => (σhqo q (by omega)))
        have pg := pl_same pg (fun q h1 h2 => (σhqo q (by omega)))
        have ph := pl_same ph (fun q h1 h2 => (σhqo q (by omega)))
        have e18 := σhqk
        refine lv_aload_n hx hb d_Spectrum_init_122 rfl (lv_at hl 1 rfl) ?_
        refine xj_new X J had hA (by omega) (by omega) fin_B t_B t_B_ok (List.mem_cons_of_mem _ k_4347c87725) (List.mem_cons_of_mem _ k_6bf704437e) (List.mem_cons_of_mem _ k_30d1c468c8) (ci := ciB) rfl (fs := [.null, .null]) (by decide +kernel) (show 1 + 10 * 7 + 1 + 9 + 1 + 9 + 1 + 9 + 1 + 9 + 1 + 9 + 1 ≤ 160 by decide) (show 7 + 59 * 7 + 4 + (7 + 7 * 6 + 6) + 4 + (7 + 7 * 12 + 12) + 4 + (7 + 7 * 20 + 20) + 4 + (7 + 7 * 20 + 20) + 4 + (7 + 7 * 20 + 20) + 2 ≤ 1987 by decide) d_Spectrum_init_123 (fun H J => ?_)
        obtain ⟨σB, hσB⟩ : ∃ s9, s9 = va_up σhq 140 (.inr (ciB, [.null, .null])) := ⟨_, rfl⟩
        rw [← hσB] at J
        have σBk : σB 140 = (.inr (ciB, [.null, .null])) := by rw [hσB]; exact va_up_self _ _ _
        have σBo : ∀ q, q ≠ 140 → σB q = σhq q := fun q hq => by rw [hσB]; exact va_up_ne _ _ hq
        clear hσB
        refine lv_dup hx hb d_Spectrum_init_126 rfl ?_
        refine xj_W fun hle => ?_
        have hH9 := xJ_size had J (by omega) (by omega)
        refine xj_callg had hA hH9 (xj_runI (rm := { frames := 1, cells := 14, slots := 84, locals := 64 }) (n := 0) (As := []) (rest := [.ref (ad 140), .ref (ad 18)]) X J hH9 hao (c_Border_init had rfl σBk) (xg k_deb038792f) (List.mem_cons_of_mem _ k_2ed9379159) (List.mem_cons_of_mem _ k_62ea39f6e7) (List.mem_cons_of_mem _ k_d3d54dd4b0) rfl rfl rfl (by decide +kernel) (by decide) rfl hl.1 rfl (Nat.le_of_ble_eq_true rfl) d_Spectrum_init_127 ⟨(show 1 + 10 * 7 + 1 + 9 + 1 + 9 + 1 + 9 + 1 + 9 + 1 + 9 + 1 + 14 ≤ 160 by decide), (show 7 + 59 * 7 + 4 + (7 + 7 * 6 + 6) + 4 + (7 + 7 * 12 + 12) + 4 + (7 + 7 * 20 + 20) + 4 + (7 + 7 * 20 + 20) + 4 + (7 + 7 * 20 + 20) + 2 + 84 ≤ 1987 by decide)⟩) J (fun σBp H locs hp J => ?_)
        obtain ⟨gB, e140, m141, m148⟩ := hp
        have lo := fun q (hq : q < 18) => ((gB q (by omega)).trans (σBo q (by omega))).trans (lo q hq)
        have e19 := ((gB 19 (by omega)).trans (σBo 19 (by omega))).trans e19
        have bu := bkU_keep bu (by decide) (fun q h1 h2 => ((gB q (by omega)).trans (σBo q (by omega))))
        have pd := pl_same pd (fun q h1 h2 => ((gB q (by omega)).trans (σBo q (by omega))))
        have pe := pl_same pe (fun q h1 h2 => ((gB q (by omega)).trans (σBo q (by omega))))
        have pf := pl_same pf (fun q h1 h2 => ((gB q (by omega)).trans (σBo q (by omega))))
        have pg := pl_same pg (fun q h1 h2 => ((gB q (by omega)).trans (σBo q (by omega))))
        have ph := pl_same ph (fun q h1 h2 => ((gB q (by omega)).trans (σBo q (by omega))))
        have e18 := ((gB 18 (by omega)).trans (σBo 18 (by omega))).trans e18
        refine xj_putF (ty := .object "SpectrumDesk$Border") X J fin_E t_E t_E_ok n_E 18 (by omega) e18 rfl 6 (by decide) (List.mem_cons_of_mem _ k_dc79b5a992) rfl rfl hnm rfl (by decide +kernel) rfl rfl (Nat.le_of_ble_eq_true rfl) d_Spectrum_init_130 (fun H locs J => ?_)
        have J : xJ D classes (xgA z 19 ad) _ ad s.heap (va_up σBp 18 (.inr (ciE, [.ref (ad 19), .ref (ad 90), .ref (ad 100), .ref (ad 110), .ref (ad 120), .ref (ad 130), .ref (ad 140), .null, .null, .null, .int 0, .int 0, .int 0, .long 0]))) H locs := J
        obtain ⟨σBq, hσBq⟩ : ∃ s9, s9 = va_up σBp 18 (.inr (ciE, [.ref (ad 19), .ref (ad 90), .ref (ad 100), .ref (ad 110), .ref (ad 120), .ref (ad 130), .ref (ad 140), .null, .null, .null, .int 0, .int 0, .int 0, .long 0])) := ⟨_, rfl⟩
        rw [← hσBq] at J
        have σBqk : σBq 18 = (.inr (ciE, [.ref (ad 19), .ref (ad 90), .ref (ad 100), .ref (ad 110), .ref (ad 120), .ref (ad 130), .ref (ad 140), .null, .null, .null, .int 0, .int 0, .int 0, .long 0])) := by rw [hσBq]; exact va_up_self _ _ _
        have σBqo : ∀ q, q ≠ 18 → σBq q = σBp q := fun q hq => by rw [hσBq]; exact va_up_ne _ _ hq
        clear hσBq
        have lo := fun q (hq : q < 18) => (σBqo q (by omega)).trans (lo q hq)
        have e19 := (σBqo 19 (by omega)).trans e19
        have bu := bkU_keep bu (by decide) (fun q h1 h2 => (σBqo q (by omega)))
        have pd := pl_same pd (fun q h1 h2 => (σBqo q (by omega)))
        have pe := pl_same pe (fun q h1 h2 => (σBqo q (by omega)))
        have pf := pl_same pf (fun q h1 h2 => (σBqo q (by omega)))
        have pg := pl_same pg (fun q h1 h2 => (σBqo q (by omega)))
        have ph := pl_same ph (fun q h1 h2 => (σBqo q (by omega)))
        have e140 := (σBqo 140 (by omega)).trans e140
        have m141 := mat_same m141 (σBqo 141 (by omega)) (fun q h1 h2 => (σBqo q (by omega)))
        have m148 := mat_same m148 (σBqo 148 (by omega)) (fun q h1 h2 => (σBqo q (by omega)))
        have e18 := σBqk
        refine lv_aload_n hx hb d_Spectrum_init_133 rfl (lv_at hl 1 rfl) ?_
        refine xj_new X J had hA (by omega) (by omega) fin_C t_C t_C_ok (List.mem_cons_of_mem _ k_baea43adf3) (List.mem_cons_of_mem _ k_5159f414ab) (List.mem_cons_of_mem _ k_4dfe674813) (ci := ciC) rfl (fs := [.null, .null, .null]) (by decide +kernel) (show 1 + 10 * 7 + 1 + 9 + 1 + 9 + 1 + 9 + 1 + 9 + 1 + 9 + 1 + 14 + 1 ≤ 160 by decide) (show 7 + 59 * 7 + 4 + (7 + 7 * 6 + 6) + 4 + (7 + 7 * 12 + 12) + 4 + (7 + 7 * 20 + 20) + 4 + (7 + 7 * 20 + 20) + 4 + (7 + 7 * 20 + 20) + 2 + 84 + 3 ≤ 1987 by decide) d_Spectrum_init_134 (fun H J => ?_)
        obtain ⟨σC, hσC⟩ : ∃ s9, s9 = va_up σBq 155 (.inr (ciC, [.null, .null, .null])) := ⟨_, rfl⟩
        rw [← hσC] at J
        have σCk : σC 155 = (.inr (ciC, [.null, .null, .null])) := by rw [hσC]; exact va_up_self _ _ _
        have σCo : ∀ q, q ≠ 155 → σC q = σBq q := fun q hq => by rw [hσC]; exact va_up_ne _ _ hq
        clear hσC
        refine lv_dup hx hb d_Spectrum_init_137 rfl ?_
        refine xj_W fun hle => ?_
        have hH9 := xJ_size had J (by omega) (by omega)
        refine xj_callg had hA hH9 (xj_runI (rm := { frames := 2, cells := 21, slots := 787, locals := 128 }) (n := 0) (As := []) (rest := [.ref (ad 155), .ref (ad 18)]) X J hH9 hao (c_Euclid_init had rfl σCk) (xg k_c8d950dd25) (List.mem_cons_of_mem _ k_6ca0843d44) (List.mem_cons_of_mem _ k_cf9f046282) (List.mem_cons_of_mem _ k_29b988b263) rfl rfl rfl (by decide +kernel) (by decide) rfl hl.1 rfl (Nat.le_of_ble_eq_true rfl) d_Spectrum_init_138 ⟨(show 1 + 10 * 7 + 1 + 9 + 1 + 9 + 1 + 9 + 1 + 9 + 1 + 9 + 1 + 14 + 1 + 21 ≤ 160 by decide), (show 7 + 59 * 7 + 4 + (7 + 7 * 6 + 6) + 4 + (7 + 7 * 12 + 12) + 4 + (7 + 7 * 20 + 20) + 4 + (7 + 7 * 20 + 20) + 4 + (7 + 7 * 20 + 20) + 2 + 84 + 3 + 787 ≤ 1987 by decide)⟩) J (fun σCp H locs hp J => ?_)
        obtain ⟨gC, e155, eu⟩ := hp
        have lo := fun q (hq : q < 18) => ((gC q (by omega)).trans (σCo q (by omega))).trans (lo q hq)
        have e19 := ((gC 19 (by omega)).trans (σCo 19 (by omega))).trans e19
        have bu := bkU_keep bu (by decide) (fun q h1 h2 => ((gC q (by omega)).trans (σCo q (by omega))))
        have pd := pl_same pd (fun q h1 h2 => ((gC q (by omega)).trans (σCo q (by omega))))
        have pe := pl_same pe (fun q h1 h2 => ((gC q (by omega)).trans (σCo q (by omega))))
        have pf := pl_same pf (fun q h1 h2 => ((gC q (by omega)).trans (σCo q (by omega))))
        have pg := pl_same pg (fun q h1 h2 => ((gC q (by omega)).trans (σCo q (by omega))))
        have ph := pl_same ph (fun q h1 h2 => ((gC q (by omega)).trans (σCo q (by omega))))
        have e140 := ((gC 140 (by omega)).trans (σCo 140 (by omega))).trans e140
        have m141 := mat_same m141 ((gC 141 (by omega)).trans (σCo 141 (by omega))) (fun q h1 h2 => ((gC q (by omega)).trans (σCo q (by omega))))
        have m148 := mat_same m148 ((gC 148 (by omega)).trans (σCo 148 (by omega))) (fun q h1 h2 => ((gC q (by omega)).trans (σCo q (by omega))))
        have e18 := ((gC 18 (by omega)).trans (σCo 18 (by omega))).trans e18
        refine xj_putF (ty := .object "SpectrumDesk$Euclid") X J fin_E t_E t_E_ok n_E 18 (by omega) e18 rfl 7 (by decide) (List.mem_cons_of_mem _ k_f4f8fc426e) rfl rfl hnm rfl (by decide +kernel) rfl rfl (Nat.le_of_ble_eq_true rfl) d_Spectrum_init_141 (fun H locs J => ?_)
        have J : xJ D classes (xgA z 19 ad) _ ad s.heap (va_up σCp 18 (.inr (ciE, [.ref (ad 19), .ref (ad 90), .ref (ad 100), .ref (ad 110), .ref (ad 120), .ref (ad 130), .ref (ad 140), .ref (ad 155), .null, .null, .int 0, .int 0, .int 0, .long 0]))) H locs := J
        obtain ⟨σCq, hσCq⟩ : ∃ s9, s9 = va_up σCp 18 (.inr (ciE, [.ref (ad 19), .ref (ad 90), .ref (ad 100), .ref (ad 110), .ref (ad 120), .ref (ad 130), .ref (ad 140), .ref (ad 155), .null, .null, .int 0, .int 0, .int 0, .long 0])) := ⟨_, rfl⟩
        rw [← hσCq] at J
        have σCqk : σCq 18 = (.inr (ciE, [.ref (ad 19), .ref (ad 90), .ref (ad 100), .ref (ad 110), .ref (ad 120), .ref (ad 130), .ref (ad 140), .ref (ad 155), .null, .null, .int 0, .int 0, .int 0, .long 0])) := by rw [hσCq]; exact va_up_self _ _ _
        have σCqo : ∀ q, q ≠ 18 → σCq q = σCp q := fun q hq => by rw [hσCq]; exact va_up_ne _ _ hq
        clear hσCq
        have lo := fun q (hq : q < 18) => (σCqo q (by omega)).trans (lo q hq)
        have e19 := (σCqo 19 (by omega)).trans e19
        have bu := bkU_keep bu (by decide) (fun q h1 h2 => (σCqo q (by omega)))
        have pd := pl_same pd (fun q h1 h2 => (σCqo q (by omega)))
        have pe := pl_same pe (fun q h1 h2 => (σCqo q (by omega)))
        have pf := pl_same pf (fun q h1 h2 => (σCqo q (by omega)))
        have pg := pl_same pg (fun q h1 h2 => (σCqo q (by omega)))
        have ph := pl_same ph (fun q h1 h2 => (σCqo q (by omega)))
        have e140 := (σCqo 140 (by omega)).trans e140
        have m141 := mat_same m141 (σCqo 141 (by omega)) (fun q h1 h2 => (σCqo q (by omega)))
        have m148 := mat_same m148 (σCqo 148 (by omega)) (fun q h1 h2 => (σCqo q (by omega)))
        have e155 := (σCqo 155 (by omega)).trans e155
        have eu := euE_same eu (fun q h1 h2 => (σCqo q (by omega)))
        have e18 := σCqk
        refine lv_aload_n hx hb d_Spectrum_init_144 rfl (lv_at hl 1 rfl) ?_
        refine lv_bipush (v := nI 6) hx hb d_Spectrum_init_145 (by decide) ?_
        refine xj_newa (atype := .long) X J had hA (by omega) (by omega) (List.mem_cons_of_mem _ k_9bf18df0e3) 1 rfl (n := 6) (a0 := (6, .inr (.inl (fun _ => 0)))) (fun _ => rfl) (by omega) (by show 6 * 8 ≤ 536870912; omega) (show 1 + 10 * 7 + 1 + 9 + 1 + 9 + 1 + 9 + 1 + 9 + 1 + 9 + 1 + 14 + 1 + 21 + 1 ≤ 160 by decide) (show 7 + 59 * 7 + 4 + (7 + 7 * 6 + 6) + 4 + (7 + 7 * 12 + 12) + 4 + (7 + 7 * 20 + 20) + 4 + (7 + 7 * 20 + 20) + 4 + (7 + 7 * 20 + 20) + 2 + 84 + 3 + 787 + 6 ≤ 1987 by decide) d_Spectrum_init_147 (fun H J => ?_)
        obtain ⟨σx, hσx⟩ : ∃ s9, s9 = va_up σCq 177 (.inl (cJ, 6, .inr (.inl (fun _ => 0)))) := ⟨_, rfl⟩
        rw [← hσx] at J
        have σxk : σx 177 = (.inl (cJ, 6, .inr (.inl (fun _ => 0)))) := by rw [hσx]; exact va_up_self _ _ _
        have σxo : ∀ q, q ≠ 177 → σx q = σCq q := fun q hq => by rw [hσx]; exact va_up_ne _ _ hq
        clear hσx
        have lo := fun q (hq : q < 18) => (σxo q (by omega)).trans (lo q hq)
        have e19 := (σxo 19 (by omega)).trans e19
        have bu := bkU_keep bu (by decide) (fun q h1 h2 => (σxo q (by omega)))
        have pd := pl_same pd (fun q h1 h2 => (σxo q (by omega)))
        have pe := pl_same pe (fun q h1 h2 => (σxo q (by omega)))
        have pf := pl_same pf (fun q h1 h2 => (σxo q (by omega)))
        have pg := pl_same pg (fun q h1 h2 => (σxo q (by omega)))
        have ph := pl_same ph (fun q h1 h2 => (σxo q (by omega)))
        have e140 := (σxo 140 (by omega)).trans e140
        have m141 := mat_same m141 (σxo 141 (by omega)) (fun q h1 h2 => (σxo q (by omega)))
        have m148 := mat_same m148 (σxo 148 (by omega)) (fun q h1 h2 => (σxo q (by omega)))
        have e155 := (σxo 155 (by omega)).trans e155
        have eu := euE_same eu (fun q h1 h2 => (σxo q (by omega)))
        have e18 := (σxo 18 (by omega)).trans e18
        have e177 := σxk
        refine xj_putF (ty := .array .long) X J fin_E t_E t_E_ok n_E 18 (by omega) e18 rfl 8 (by decide) (List.mem_cons_of_mem _ k_0ec4a429b8) rfl rfl hnm rfl (by decide +kernel) rfl rfl (Nat.le_of_ble_eq_true rfl) d_Spectrum_init_149 (fun H locs J => ?_)
        have J : xJ D classes (xgA z 19 ad) _ ad s.heap (va_up σx 18 (.inr (ciE, [.ref (ad 19), .ref (ad 90), .ref (ad 100), .ref (ad 110), .ref (ad 120), .ref (ad 130), .ref (ad 140), .ref (ad 155), .ref (ad 177), .null, .int 0, .int 0, .int 0, .long 0]))) H locs := J
        obtain ⟨σxq, hσxq⟩ : ∃ s9, s9 = va_up σx 18 (.inr (ciE, [.ref (ad 19), .ref (ad 90), .ref (ad 100), .ref (ad 110), .ref (ad 120), .ref (ad 130), .ref (ad 140), .ref (ad 155), .ref (ad 177), .null, .int 0, .int 0, .int 0, .long 0])) := ⟨_, rfl⟩
        rw [← hσxq] at J
        have σxqk : σxq 18 = (.inr (ciE, [.ref (ad 19), .ref (ad 90), .ref (ad 100), .ref (ad 110), .ref (ad 120), .ref (ad 130), .ref (ad 140), .ref (ad 155), .ref (ad 177), .null, .int 0, .int 0, .int 0, .long 0])) := by rw [hσxq]; exact va_up_self _ _ _
        have σxqo : ∀ q, q ≠ 18 → σxq q = σx q := fun q hq => by rw [hσxq]; exact va_up_ne _ _ hq
        clear hσxq
        have lo := fun q (hq : q < 18) => (σxqo q (by omega)).trans (lo q hq)
        have e19 := (σxqo 19 (by omega)).trans e19
        have bu := bkU_keep bu (by decide) (fun q h1 h2 => (σxqo q (by omega)))
        have pd := pl_same pd (fun q h1 h2 => (σxqo q (by omega)))
        have pe := pl_same pe (fun q h1 h2 => (σxqo q (by omega)))
        have pf := pl_same pf (fun q h1 h2 => (σxqo q (by omega)))
        have pg := pl_same pg (fun q h1 h2 => (σxqo q (by omega)))
        have ph := pl_same ph (fun q h1 h2 => (σxqo q (by omega)))
        have e140 := (σxqo 140 (by omega)).trans e140
        have m141 := mat_same m141 (σxqo 141 (by omega)) (fun q h1 h2 => (σxqo q (by omega)))
        have m148 := mat_same m148 (σxqo 148 (by omega)) (fun q h1 h2 => (σxqo q (by omega)))
        have e155 := (σxqo 155 (by omega)).trans e155
        have eu := euE_same eu (fun q h1 h2 => (σxqo q (by omega)))
        have e177 := (σxqo 177 (by omega)).trans e177
        have e18 := σxqk
        refine lv_aload_n hx hb d_Spectrum_init_152 rfl (lv_at hl 1 rfl) ?_
        refine lv_bipush (v := nI 6) hx hb d_Spectrum_init_153 (by decide) ?_
        refine xj_newa (atype := .boolean) X J had hA (by omega) (by omega) (List.mem_cons_of_mem _ k_5a05f5a8d8) 2 rfl (n := 6) (a0 := (6, .inl (fun _ => 0))) (fun _ => rfl) (by omega) (by show 6 * 1 ≤ 536870912; omega) (show 1 + 10 * 7 + 1 + 9 + 1 + 9 + 1 + 9 + 1 + 9 + 1 + 9 + 1 + 14 + 1 + 21 + 1 + 1 ≤ 160 by decide) (show 7 + 59 * 7 + 4 + (7 + 7 * 6 + 6) + 4 + (7 + 7 * 12 + 12) + 4 + (7 + 7 * 20 + 20) + 4 + (7 + 7 * 20 + 20) + 4 + (7 + 7 * 20 + 20) + 2 + 84 + 3 + 787 + 6 + 6 ≤ 1987 by decide) d_Spectrum_init_155 (fun H J => ?_)
        obtain ⟨σy, hσy⟩ : ∃ s9, s9 = va_up σxq 178 (.inl (cZ, 6, .inl (fun _ => 0))) := ⟨_, rfl⟩
        rw [← hσy] at J
        have σyk : σy 178 = (.inl (cZ, 6, .inl (fun _ => 0))) := by rw [hσy]; exact va_up_self _ _ _
        have σyo : ∀ q, q ≠ 178 → σy q = σxq q := fun q hq => by rw [hσy]; exact va_up_ne _ _ hq
        clear hσy
        have lo := fun q (hq : q < 18) => (σyo q (by omega)).trans (lo q hq)
        have e19 := (σyo 19 (by omega)).trans e19
        have bu := bkU_keep bu (by decide) (fun q h1 h2 => (σyo q (by omega)))
        have pd := pl_same pd (fun q h1 h2 => (σyo q (by omega)))
        have pe := pl_same pe (fun q h1 h2 => (σyo q (by omega)))
        have pf := pl_same pf (fun q h1 h2 => (σyo q (by omega)))
        have pg := pl_same pg (fun q h1 h2 => (σyo q (by omega)))
        have ph := pl_same ph (fun q h1 h2 => (σyo q (by omega)))
        have e140 := (σyo 140 (by omega)).trans e140
        have m141 := mat_same m141 (σyo 141 (by omega)) (fun q h1 h2 => (σyo q (by omega)))
        have m148 := mat_same m148 (σyo 148 (by omega)) (fun q h1 h2 => (σyo q (by omega)))
        have e155 := (σyo 155 (by omega)).trans e155
        have eu := euE_same eu (fun q h1 h2 => (σyo q (by omega)))
        have e177 := (σyo 177 (by omega)).trans e177
        have e18 := (σyo 18 (by omega)).trans e18
        have e178 := σyk
        refine xj_putF (ty := .array .boolean) X J fin_E t_E t_E_ok n_E 18 (by omega) e18 rfl 9 (by decide) (List.mem_cons_of_mem _ k_b2d2dedb7a) rfl rfl hnm rfl (by decide +kernel) rfl rfl (Nat.le_of_ble_eq_true rfl) d_Spectrum_init_157 (fun H locs J => ?_)
        have J : xJ D classes (xgA z 19 ad) _ ad s.heap (va_up σy 18 (.inr (ciE, [.ref (ad 19), .ref (ad 90), .ref (ad 100), .ref (ad 110), .ref (ad 120), .ref (ad 130), .ref (ad 140), .ref (ad 155), .ref (ad 177), .ref (ad 178), .int 0, .int 0, .int 0, .long 0]))) H locs := J
        obtain ⟨σyq, hσyq⟩ : ∃ s9, s9 = va_up σy 18 (.inr (ciE, [.ref (ad 19), .ref (ad 90), .ref (ad 100), .ref (ad 110), .ref (ad 120), .ref (ad 130), .ref (ad 140), .ref (ad 155), .ref (ad 177), .ref (ad 178), .int 0, .int 0, .int 0, .long 0])) := ⟨_, rfl⟩
        rw [← hσyq] at J
        have σyqk : σyq 18 = (.inr (ciE, [.ref (ad 19), .ref (ad 90), .ref (ad 100), .ref (ad 110), .ref (ad 120), .ref (ad 130), .ref (ad 140), .ref (ad 155), .ref (ad 177), .ref (ad 178), .int 0, .int 0, .int 0, .long 0])) := by rw [hσyq]; exact va_up_self _ _ _
        have σyqo : ∀ q, q ≠ 18 → σyq q = σy q := fun q hq => by rw [hσyq]; exact va_up_ne _ _ hq
        clear hσyq
        have lo := fun q (hq : q < 18) => (σyqo q (by omega)).trans (lo q hq)
        have e19 := (σyqo 19 (by omega)).trans e19
        have bu := bkU_keep bu (by decide) (fun q h1 h2 => (σyqo q (by omega)))
        have pd := pl_same pd (fun q h1 h2 => (σyqo q (by omega)))
        have pe := pl_same pe (fun q h1 h2 => (σyqo q (by omega)))
        have pf := pl_same pf (fun q h1 h2 => (σyqo q (by omega)))
        have pg := pl_same pg (fun q h1 h2 => (σyqo q (by omega)))
        have ph := pl_same ph (fun q h1 h2 => (σyqo q (by omega)))
        have e140 := (σyqo 140 (by omega)).trans e140
        have m141 := mat_same m141 (σyqo 141 (by omega)) (fun q h1 h2 => (σyqo q (by omega)))
        have m148 := mat_same m148 (σyqo 148 (by omega)) (fun q h1 h2 => (σyqo q (by omega)))
        have e155 := (σyqo 155 (by omega)).trans e155
        have eu := euE_same eu (fun q h1 h2 => (σyqo q (by omega)))
        have e177 := (σyqo 177 (by omega)).trans e177
        have e178 := (σyqo 178 (by omega)).trans e178
        have e18 := σyqk
        exact xj_vret X J hr hlk (by decide) (by decide) ⟨lo, ⟨e19, e140, ⟨_, m141⟩, ⟨_, m148⟩, ⟨_, _, _, _, pf⟩, ⟨_, _, _, _, pg⟩, ⟨_, _, _, _, ph⟩, e155, eu⟩, _, _, _, _, _, _, _, _, _, _, _, _, _, e18, bu, e177, e178, pe, pd⟩ d_Spectrum_init_160
      · exact absurd (by decide) hc
    | succ f ih =>
      intro k σ2 ls H locs hk lo e18 e19 bk hl J
      refine lv_iload_n hx hb d_Spectrum_init_15 rfl (lv_at hl 0 rfl) ?_
      refine lv_bipush (v := nI 6) hx hb d_Spectrum_init_16 (by decide) ?_
      refine lv_icmp_gt hx hb d_Spectrum_init_18 rfl (fun hc => ?_) (fun hc => ?_)
      · exact absurd hc (nI_nlt (by omega) (by decide))
      · refine lv_aload_n hx hb d_Spectrum_init_21 rfl (lv_at hl 1 rfl) ?_
        refine xj_get X J fin_E 18 (by omega) e18 rfl 0 (by decide) (List.mem_cons_of_mem _ k_453373e9e7) rfl rfl d_Spectrum_init_22 ?_
        refine lv_iload_n hx hb d_Spectrum_init_25 rfl (lv_at hl 0 rfl) ?_
        refine xj_new X J had hA (by omega) (by omega) fin_P t_P t_P_ok (List.mem_cons_of_mem _ k_4ccf1b3ee6) (List.mem_cons_of_mem _ k_360d028f84) (List.mem_cons_of_mem _ k_7331dc5fb5) (ci := ciP) rfl (fs := [.null, .null, .int 0, .int 0]) (by decide +kernel) (show 1 + 10 * k + 1 ≤ 160 by omega) (show 7 + 59 * k + 4 ≤ 1987 by omega) d_Spectrum_init_26 (fun H J => ?_)
        obtain ⟨σc, hσc⟩ : ∃ s9, s9 = va_up σ2 (20 + 10 * k) (.inr (ciP, [.null, .null, .int 0, .int 0])) := ⟨_, rfl⟩
        rw [← hσc] at J
        have σck : σc (20 + 10 * k) = (.inr (ciP, [.null, .null, .int 0, .int 0])) := by rw [hσc]; exact va_up_self _ _ _
        have σco : ∀ q, q ≠ (20 + 10 * k) → σc q = σ2 q := fun q hq => by rw [hσc]; exact va_up_ne _ _ hq
        clear hσc
        refine lv_dup hx hb d_Spectrum_init_29 rfl ?_
        refine lv_bipush (v := nI 6) hx hb d_Spectrum_init_30 (by decide) ?_
        refine xj_W fun hle => ?_
        have hH9 := xJ_size had J (by omega) (by omega)
        refine xj_callg had hA hH9 (xj_runI (rm := { frames := 1, cells := 9, slots := 7 + 7 * 6 + 6, locals := 64 }) (n := 1) (As := [.int (nI 6)]) (rest := [.ref (ad (20 + 10 * k)), .int (nI k), .ref (ad 19)]) X J hH9 hao (c_Polynomial_init (i := 20 + 10 * k) (most := 6) had rfl (by decide) σck) (xg k_799d7536b9) (List.mem_cons_of_mem _ k_460b8e0a49) (List.mem_cons_of_mem _ k_ae17292725) (List.mem_cons_of_mem _ k_a8ac99ee00) rfl rfl rfl (by decide +kernel) (by decide) rfl hl.1 rfl (Nat.le_of_ble_eq_true rfl) d_Spectrum_init_32 ⟨(show 1 + 10 * k + 1 + 9 ≤ 160 by omega), (show 7 + 59 * k + 4 + (7 + 7 * 6 + 6) ≤ 1987 by omega)⟩) J (fun σcp H locs hp J => ?_)
        obtain ⟨Fc, sc, gc, pc, zc⟩ := hp
        have r1 : ∀ q, q < 20 + 10 * k → σcp q = σ2 q := fun q hq => (gc q hq).trans (σco q (by omega))
        refine xj_aast X J 19 5 (20 + 10 * k) ciP (by omega) (by omega) ((r1 19 (by omega)).trans e19) (q := (R_P, T_P, 4)) rfl (pl_o pc) rfl (j := k) (by omega) (by decide) d_Spectrum_init_35 (fun H locs J => ?_)
        obtain ⟨σd, hσd⟩ : ∃ s9, s9 = va_up σcp 19 (.inl (cP, 7, .inr (.inr (.inr (.inr (va_up (bl_k ad k) k (some (ad (20 + 10 * k))))))))) := ⟨_, rfl⟩
        rw [← hσd] at J
        have σdk : σd 19 = (.inl (cP, 7, .inr (.inr (.inr (.inr (va_up (bl_k ad k) k (some (ad (20 + 10 * k))))))))) := by rw [hσd]; exact va_up_self _ _ _
        have σdo : ∀ q, q ≠ 19 → σd q = σcp q := fun q hq => by rw [hσd]; exact va_up_ne _ _ hq
        clear hσd
        rw [bl_k_s] at σdk
        refine lv_iinc (k := 0) (v := nI (k + 1)) (lv' := [(1, .int (nI (k + 1))), (0, .ref (ad 18))]) hx hb d_Spectrum_init_36 hl rfl (nI_1 k) (by decide) rfl (fun ls hl => ?_)
        refine lv_goto hx hb d_Spectrum_init_39 rfl ?_
        refine W.widen (k := 1 + 10 * (k + 1)) (n := 7 + 59 * (k + 1)) (by omega) (by omega) ?_
        refine ih (k + 1) σd ls H locs (by omega) (fun q hq => (σdo q (by omega)).trans ((r1 q (by omega)).trans (lo q hq))) ((σdo 18 (by decide)).trans ((r1 18 (by omega)).trans e18)) σdk (fun a ha => ?_) hl (by rw [show 20 + 10 * (k + 1) = 20 + 10 * k + 1 + 9 by omega]; exact J)
        by_cases ea : a = k
        · rw [ea]; exact ⟨Fc, sc, pl_same pc (fun q h1 h2 => σdo q (by omega)), zc⟩
        · exact bkM_keep bk (fun q h1 h2 => (σdo q (by omega)).trans (r1 q (by omega))) a (by omega)
  exact loop 7 0 σb ls _ _ (by omega) (fun q hq => (σbo q (by omega)).trans (σao q (by omega))) σbk q19 (fun a ha => absurd ha (Nat.not_lt_zero _)) hl J
