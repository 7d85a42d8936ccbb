/-! SpectrumDesk$Spectrum.howManySame (written by wip/gen) -/
abbrev b_Spectrum_howManySame : ByteArray := prog_7_method_12_code
abbrev y_Spectrum_howManySame : MethodName := ⟨"SpectrumDesk$Spectrum", "howManySame", "(I)I"⟩
abbrev v_Spectrum_howManySame : List Cond := Cond.code y_Spectrum_howManySame b_Spectrum_howManySame 7 (some .int) :: AW
theorem d_Spectrum_howManySame_0 : decode b_Spectrum_howManySame 0 = .ok (.aload_n 0, 1) := by decide +kernel
theorem d_Spectrum_howManySame_1 : decode b_Spectrum_howManySame 1 = .ok (.getfield 30, 3) := by decide +kernel
theorem d_Spectrum_howManySame_4 : decode b_Spectrum_howManySame 4 = .ok (.getfield 144, 3) := by decide +kernel
theorem d_Spectrum_howManySame_7 : decode b_Spectrum_howManySame 7 = .ok (.ifCond .ne (5), 3) := by decide +kernel
theorem d_Spectrum_howManySame_10 : decode b_Spectrum_howManySame 10 = .ok (.iconst 1, 1) := by decide +kernel
theorem d_Spectrum_howManySame_11 : decode b_Spectrum_howManySame 11 = .ok (.ireturn, 1) := by decide +kernel
theorem d_Spectrum_howManySame_12 : decode b_Spectrum_howManySame 12 = .ok (.aload_n 0, 1) := by decide +kernel
theorem d_Spectrum_howManySame_13 : decode b_Spectrum_howManySame 13 = .ok (.iload_n 1, 1) := by decide +kernel
theorem d_Spectrum_howManySame_14 : decode b_Spectrum_howManySame 14 = .ok (.invokevirtual 133, 3) := by decide +kernel
theorem d_Spectrum_howManySame_17 : decode b_Spectrum_howManySame 17 = .ok (.lstore_n 2, 1) := by decide +kernel
theorem d_Spectrum_howManySame_18 : decode b_Spectrum_howManySame 18 = .ok (.aload_n 0, 1) := by decide +kernel
theorem d_Spectrum_howManySame_19 : decode b_Spectrum_howManySame 19 = .ok (.getfield 40, 3) := by decide +kernel
theorem d_Spectrum_howManySame_22 : decode b_Spectrum_howManySame 22 = .ok (.aload_n 0, 1) := by decide +kernel
theorem d_Spectrum_howManySame_23 : decode b_Spectrum_howManySame 23 = .ok (.getfield 11, 3) := by decide +kernel
theorem d_Spectrum_howManySame_26 : decode b_Spectrum_howManySame 26 = .ok (.aload_n 0, 1) := by decide +kernel
theorem d_Spectrum_howManySame_27 : decode b_Spectrum_howManySame 27 = .ok (.getfield 68, 3) := by decide +kernel
theorem d_Spectrum_howManySame_30 : decode b_Spectrum_howManySame 30 = .ok (.aaload, 1) := by decide +kernel
theorem d_Spectrum_howManySame_31 : decode b_Spectrum_howManySame 31 = .ok (.lload_n 2, 1) := by decide +kernel
theorem d_Spectrum_howManySame_32 : decode b_Spectrum_howManySame 32 = .ok (.invokestatic 147, 3) := by decide +kernel
theorem d_Spectrum_howManySame_35 : decode b_Spectrum_howManySame 35 = .ok (.aload_n 0, 1) := by decide +kernel
theorem d_Spectrum_howManySame_36 : decode b_Spectrum_howManySame 36 = .ok (.getfield 43, 3) := by decide +kernel
theorem d_Spectrum_howManySame_39 : decode b_Spectrum_howManySame 39 = .ok (.aload_n 0, 1) := by decide +kernel
theorem d_Spectrum_howManySame_40 : decode b_Spectrum_howManySame 40 = .ok (.getfield 30, 3) := by decide +kernel
theorem d_Spectrum_howManySame_43 : decode b_Spectrum_howManySame 43 = .ok (.lload_n 2, 1) := by decide +kernel
theorem d_Spectrum_howManySame_44 : decode b_Spectrum_howManySame 44 = .ok (.invokestatic 147, 3) := by decide +kernel
theorem d_Spectrum_howManySame_47 : decode b_Spectrum_howManySame 47 = .ok (.iconst 0, 1) := by decide +kernel
theorem d_Spectrum_howManySame_48 : decode b_Spectrum_howManySame 48 = .ok (.istore 4, 2) := by decide +kernel
theorem d_Spectrum_howManySame_50 : decode b_Spectrum_howManySame 50 = .ok (.iload 4, 2) := by decide +kernel
theorem d_Spectrum_howManySame_52 : decode b_Spectrum_howManySame 52 = .ok (.bipush (42), 2) := by decide +kernel
theorem d_Spectrum_howManySame_54 : decode b_Spectrum_howManySame 54 = .ok (.if_icmp .gt (112), 3) := by decide +kernel
theorem d_Spectrum_howManySame_57 : decode b_Spectrum_howManySame 57 = .ok (.aload_n 0, 1) := by decide +kernel
theorem d_Spectrum_howManySame_58 : decode b_Spectrum_howManySame 58 = .ok (.aload_n 0, 1) := by decide +kernel
theorem d_Spectrum_howManySame_59 : decode b_Spectrum_howManySame 59 = .ok (.getfield 43, 3) := by decide +kernel
theorem d_Spectrum_howManySame_62 : decode b_Spectrum_howManySame 62 = .ok (.invokevirtual 151, 3) := by decide +kernel
theorem d_Spectrum_howManySame_65 : decode b_Spectrum_howManySame 65 = .ok (.aload_n 0, 1) := by decide +kernel
theorem d_Spectrum_howManySame_66 : decode b_Spectrum_howManySame 66 = .ok (.getfield 43, 3) := by decide +kernel
theorem d_Spectrum_howManySame_69 : decode b_Spectrum_howManySame 69 = .ok (.invokevirtual 125, 3) := by decide +kernel
theorem d_Spectrum_howManySame_72 : decode b_Spectrum_howManySame 72 = .ok (.isub, 1) := by decide +kernel
theorem d_Spectrum_howManySame_73 : decode b_Spectrum_howManySame 73 = .ok (.istore 5, 2) := by decide +kernel
theorem d_Spectrum_howManySame_75 : decode b_Spectrum_howManySame 75 = .ok (.iload 5, 2) := by decide +kernel
theorem d_Spectrum_howManySame_77 : decode b_Spectrum_howManySame 77 = .ok (.ifCond .ne (5), 3) := by decide +kernel
theorem d_Spectrum_howManySame_80 : decode b_Spectrum_howManySame 80 = .ok (.iconst 1, 1) := by decide +kernel
theorem d_Spectrum_howManySame_81 : decode b_Spectrum_howManySame 81 = .ok (.ireturn, 1) := by decide +kernel
theorem d_Spectrum_howManySame_82 : decode b_Spectrum_howManySame 82 = .ok (.aload_n 0, 1) := by decide +kernel
theorem d_Spectrum_howManySame_83 : decode b_Spectrum_howManySame 83 = .ok (.aload_n 0, 1) := by decide +kernel
theorem d_Spectrum_howManySame_84 : decode b_Spectrum_howManySame 84 = .ok (.getfield 40, 3) := by decide +kernel
theorem d_Spectrum_howManySame_87 : decode b_Spectrum_howManySame 87 = .ok (.invokevirtual 151, 3) := by decide +kernel
theorem d_Spectrum_howManySame_90 : decode b_Spectrum_howManySame 90 = .ok (.aload_n 0, 1) := by decide +kernel
theorem d_Spectrum_howManySame_91 : decode b_Spectrum_howManySame 91 = .ok (.getfield 40, 3) := by decide +kernel
theorem d_Spectrum_howManySame_94 : decode b_Spectrum_howManySame 94 = .ok (.invokevirtual 125, 3) := by decide +kernel
theorem d_Spectrum_howManySame_97 : decode b_Spectrum_howManySame 97 = .ok (.isub, 1) := by decide +kernel
theorem d_Spectrum_howManySame_98 : decode b_Spectrum_howManySame 98 = .ok (.istore 6, 2) := by decide +kernel
theorem d_Spectrum_howManySame_100 : decode b_Spectrum_howManySame 100 = .ok (.iload 6, 2) := by decide +kernel
theorem d_Spectrum_howManySame_102 : decode b_Spectrum_howManySame 102 = .ok (.iload 5, 2) := by decide +kernel
theorem d_Spectrum_howManySame_104 : decode b_Spectrum_howManySame 104 = .ok (.isub, 1) := by decide +kernel
theorem d_Spectrum_howManySame_105 : decode b_Spectrum_howManySame 105 = .ok (.iconst 1, 1) := by decide +kernel
theorem d_Spectrum_howManySame_106 : decode b_Spectrum_howManySame 106 = .ok (.if_icmp .ne (6), 3) := by decide +kernel
theorem d_Spectrum_howManySame_109 : decode b_Spectrum_howManySame 109 = .ok (.iload 6, 2) := by decide +kernel
theorem d_Spectrum_howManySame_111 : decode b_Spectrum_howManySame 111 = .ok (.ireturn, 1) := by decide +kernel
theorem d_Spectrum_howManySame_112 : decode b_Spectrum_howManySame 112 = .ok (.aload_n 0, 1) := by decide +kernel
theorem d_Spectrum_howManySame_113 : decode b_Spectrum_howManySame 113 = .ok (.getfield 40, 3) := by decide +kernel
theorem d_Spectrum_howManySame_116 : decode b_Spectrum_howManySame 116 = .ok (.ldc2_w 128, 3) := by decide +kernel
theorem d_Spectrum_howManySame_119 : decode b_Spectrum_howManySame 119 = .ok (.invokevirtual 94, 3) := by decide +kernel
theorem d_Spectrum_howManySame_122 : decode b_Spectrum_howManySame 122 = .ok (.aload_n 0, 1) := by decide +kernel
theorem d_Spectrum_howManySame_123 : decode b_Spectrum_howManySame 123 = .ok (.getfield 43, 3) := by decide +kernel
theorem d_Spectrum_howManySame_126 : decode b_Spectrum_howManySame 126 = .ok (.ldc2_w 128, 3) := by decide +kernel
theorem d_Spectrum_howManySame_129 : decode b_Spectrum_howManySame 129 = .ok (.invokevirtual 94, 3) := by decide +kernel
theorem d_Spectrum_howManySame_132 : decode b_Spectrum_howManySame 132 = .ok (.iload_n 1, 1) := by decide +kernel
theorem d_Spectrum_howManySame_133 : decode b_Spectrum_howManySame 133 = .ok (.aload_n 0, 1) := by decide +kernel
theorem d_Spectrum_howManySame_134 : decode b_Spectrum_howManySame 134 = .ok (.aload_n 0, 1) := by decide +kernel
theorem d_Spectrum_howManySame_135 : decode b_Spectrum_howManySame 135 = .ok (.getfield 40, 3) := by decide +kernel
theorem d_Spectrum_howManySame_138 : decode b_Spectrum_howManySame 138 = .ok (.invokevirtual 151, 3) := by decide +kernel
theorem d_Spectrum_howManySame_141 : decode b_Spectrum_howManySame 141 = .ok (.if_icmp .lt (19), 3) := by decide +kernel
theorem d_Spectrum_howManySame_144 : decode b_Spectrum_howManySame 144 = .ok (.aload_n 0, 1) := by decide +kernel
theorem d_Spectrum_howManySame_145 : decode b_Spectrum_howManySame 145 = .ok (.getfield 40, 3) := by decide +kernel
theorem d_Spectrum_howManySame_148 : decode b_Spectrum_howManySame 148 = .ok (.lconst 1, 1) := by decide +kernel
theorem d_Spectrum_howManySame_149 : decode b_Spectrum_howManySame 149 = .ok (.invokevirtual 119, 3) := by decide +kernel
theorem d_Spectrum_howManySame_152 : decode b_Spectrum_howManySame 152 = .ok (.aload_n 0, 1) := by decide +kernel
theorem d_Spectrum_howManySame_153 : decode b_Spectrum_howManySame 153 = .ok (.getfield 43, 3) := by decide +kernel
theorem d_Spectrum_howManySame_156 : decode b_Spectrum_howManySame 156 = .ok (.lconst 1, 1) := by decide +kernel
theorem d_Spectrum_howManySame_157 : decode b_Spectrum_howManySame 157 = .ok (.invokevirtual 119, 3) := by decide +kernel
theorem d_Spectrum_howManySame_160 : decode b_Spectrum_howManySame 160 = .ok (.iinc 4 (1), 3) := by decide +kernel
theorem d_Spectrum_howManySame_163 : decode b_Spectrum_howManySame 163 = .ok (.goto (-113), 3) := by decide +kernel
theorem d_Spectrum_howManySame_166 : decode b_Spectrum_howManySame 166 = .ok (.iconst 1, 1) := by decide +kernel
theorem d_Spectrum_howManySame_167 : decode b_Spectrum_howManySame 167 = .ok (.ireturn, 1) := by decide +kernel
theorem k_da88c209a6 : (Jvm.Cond.fieldLink "SpectrumDesk$Spectrum" (40 : Nat) "SpectrumDesk$Spectrum" "inner" "LSpectrumDesk$Polynomial;") ∈ AW := aw_1 (List.mem_of_getElem? (i := 138) (by decide +kernel)) (by decide +kernel)
theorem k_78a66d3869 : (Jvm.Cond.methodLink "SpectrumDesk$Spectrum" (147 : Nat) ({ cls := "SpectrumDesk$Spectrum", name := "enterCell", desc := "(LSpectrumDesk$Polynomial;LSpectrumDesk$Polynomial;J)V" } : Jvm.MethodName)) ∈ AW := aw_4 (List.mem_of_getElem? (i := 154) (by decide +kernel)) (by decide +kernel)
theorem k_03123e3cf0 : (Jvm.Cond.static ({ cls := "SpectrumDesk$Spectrum", name := "enterCell", desc := "(LSpectrumDesk$Polynomial;LSpectrumDesk$Polynomial;J)V" } : Jvm.MethodName)) ∈ AW := aw_4 (List.mem_of_getElem? (i := 155) (by decide +kernel)) (by decide +kernel)
theorem k_30b9489e92 : (Jvm.Cond.fieldLink "SpectrumDesk$Spectrum" (43 : Nat) "SpectrumDesk$Spectrum" "innerRepeated" "LSpectrumDesk$Polynomial;") ∈ AW := aw_1 (List.mem_of_getElem? (i := 139) (by decide +kernel)) (by decide +kernel)
theorem k_c1c20bc063 : (Jvm.Cond.methodLink "SpectrumDesk$Spectrum" (151 : Nat) ({ cls := "SpectrumDesk$Spectrum", name := "rootsBelowOne", desc := "(LSpectrumDesk$Polynomial;)I" } : Jvm.MethodName)) ∈ AW := aw_4 (List.mem_of_getElem? (i := 157) (by decide +kernel)) (by decide +kernel)
theorem k_b1660fc9a4 : (Jvm.Cond.instanceMethod ({ cls := "SpectrumDesk$Spectrum", name := "rootsBelowOne", desc := "(LSpectrumDesk$Polynomial;)I" } : Jvm.MethodName)) ∈ AW := aw_4 (List.mem_of_getElem? (i := 159) (by decide +kernel)) (by decide +kernel)
theorem k_bc347ca26b : (Jvm.Cond.selects "SpectrumDesk$Spectrum" ({ cls := "SpectrumDesk$Spectrum", name := "rootsBelowOne", desc := "(LSpectrumDesk$Polynomial;)I" } : Jvm.MethodName) ({ cls := "SpectrumDesk$Spectrum", name := "rootsBelowOne", desc := "(LSpectrumDesk$Polynomial;)I" } : Jvm.MethodName)) ∈ AW := aw_p (by decide +kernel) (by decide +kernel)
theorem k_6e95f760ae : (Jvm.Cond.code ({ cls := "SpectrumDesk$Spectrum", name := "howManySame", desc := "(I)I" } : Jvm.MethodName) prog_7_method_12_code (7 : Nat) (Option.some Jvm.ClassFile.FieldType.int)) ∈ AW := aw_4 (List.mem_of_getElem? (i := 153) (by decide +kernel)) (by decide +kernel)
set_option maxHeartbeats 4000000 in
set_option maxRecDepth 100000 in
theorem c_Spectrum_howManySame_0 {l : Launch} {D : va_G} {cI cJ cZ cC cG cP : ClassId} {N : Nat} {ad : Nat → Nat} {σ : Nat → va_E} {rk nn bo : Int32} {tr : Int64} (hN : N = 193) (hE : σ 18 = .inr (ciE, eF ad rk nn bo tr)) {i0 : Int32} {lr most : Nat} {Fr : Nat → Nat → Int32} {sr : Nat → Int32} (hR : pl ad cI cG σ 90 most 0 lr Fr sr) :
    Met l y_Spectrum_howManySame v_Spectrum_howManySame (xrm 6) (va_Pc [.ref (ad 18), .int i0] (xS D classes (xT cI cJ cZ cC cG cP) N ad σ)) (va_Qi (fun r σ2 => r = nI 1 ∧ σ2 = σ) (xS D classes (xT cI cJ cZ cC cG cP) N ad) (xA N ad)) 0 0 (xA N ad) := by
  refine xr_met rfl (Nat.le_of_ble_eq_true rfl) ?_
  intro p e s m args below meth c ls hx hb X hr hlk hl I
  have hl : lv_has ls 7 [(0, .ref (ad 18)), (1, .int i0)] := hl
  refine lv_aload_n hx hb d_Spectrum_howManySame_0 rfl (lv_at hl 0 rfl) ?_
  refine xr_get X I fin_E 18 (by omega) hE rfl 1 (by decide) (List.mem_cons_of_mem _ k_c500482549) rfl rfl d_Spectrum_howManySame_1 ?_
  refine xr_get X I fin_P 90 (by omega) (pl_o hR) rfl 2 (by decide) (List.mem_cons_of_mem _ k_a6dce73675) rfl rfl d_Spectrum_howManySame_4 ?_
  refine lv_if_ne hx hb d_Spectrum_howManySame_7 rfl (fun hc => ?_) (fun hc => ?_)
  · exact absurd rfl hc
  · refine lv_iconst (v := nI 1) hx hb d_Spectrum_howManySame_10 (by decide) ?_
    exact xr_iret X I hr hlk ⟨rfl, rfl⟩ d_Spectrum_howManySame_11
set_option maxHeartbeats 4000000 in
set_option maxRecDepth 100000 in
theorem c_Spectrum_howManySame {l : Launch} {D : va_G} {cI cJ cZ cC cG cP : ClassId} {N : Nat} {ad : Nat → Nat} {σ : Nat → va_E} {bo : Nat} {rk : Int32} {n lf : Nat} {tr : Int64} (hN : N = 193) (hE : σ 18 = .inr (ciE, eF ad rk (nI n) (nI bo) tr)) {pf : Nat → Int} {Ff : Nat → Nat → Int32} {sf : Nat → Int32} {Cl : Nat → Int64} {Kn : Nat → Int32} {V : Nat → Int} (hC : σ 177 = .inl (cJ, 6, .inr (.inl Cl))) (hK : σ 178 = .inl (cZ, 6, .inl Kn)) (hf : pl ad cI cG σ 100 12 n lf Ff sf) (hp9 : prb ad cI cG σ) (hn : n ≤ 6) (hl2 : 2 ≤ lf) (hl12 : lf ≤ 12) (his : pl_is Ff n lf pf) (hsz : pl_sz n lf pf) (hbo : bo ≤ 6000000) (hsz2 : ∀ x : Int, -((bo : Int) * 1073741824) ≤ x → x ≤ (bo : Int) * 1073741824 + 1 → pl_sz n lf (low x n pf n)) (hfc : fcH (fun x => lessI (low x n pf n) n) n ((bo : Int) * 1073741824) V) (hme : memo n V Cl Kn) (hVr : ∀ i, i < n → -((bo : Int) * 1073741824) ≤ V i ∧ V i ≤ (bo : Int) * 1073741824) {i9 dr : Nat} {pn pr : Nat → Int} {Fn Fr : Nat → Nat → Int32} {sn sr : Nat → Int32} (hi9 : i9 < n) (hBl : σ 19 = .inl (cP, 7, .inr (.inr (.inr (.inr (bl_g ad)))))) (hNn : pl ad cI cG σ (20 + 10 * n) 6 n 6 Fn sn) (hisn : pl_is Fn n 6 pn) (hszn : pl_sz n 6 pn) (hR : pl ad cI cG σ 90 6 dr 6 Fr sr) (hisr : pl_is Fr dr 6 pr) (hszr : pl_sz dr 6 pr) (hdr : dr ≤ 6) (hI1 : pr2 ad cI cG σ 120) (hI2 : pr2 ad cI cG σ 130) (hd0 : 0 < dr) (hz9 : hmZ n dr (nI i9) 43 (low (V i9) n (mulp 1073741824 n pn n) n) (low (V i9) dr (mulp 1073741824 dr pr dr) dr)) :
    Met l y_Spectrum_howManySame v_Spectrum_howManySame (xrm 6) (va_Pc [.ref (ad 18), .int (nI i9)] (xS D classes (xT cI cJ cZ cC cG cP) N ad σ)) (va_Qi (fun r σ2 => r = hmS n dr (nI i9) 43 (low (V i9) n (mulp 1073741824 n pn n) n) (low (V i9) dr (mulp 1073741824 dr pr dr) dr) ∧ ∃ (Cl' : Nat → Int64) (Kn' : Nat → Int32), (∀ q, (q < 110 ∨ 140 ≤ q) → q ≠ 177 → q ≠ 178 → σ2 q = σ q) ∧ σ2 177 = .inl (cJ, 6, .inr (.inl Cl')) ∧ σ2 178 = .inl (cZ, 6, .inl Kn') ∧ prb ad cI cG σ2 ∧ pr2 ad cI cG σ2 120 ∧ pr2 ad cI cG σ2 130 ∧ memo n V Cl' Kn') (xS D classes (xT cI cJ cZ cC cG cP) N ad) (xA N ad)) 0 0 (xA N ad) := by
  refine xr_met rfl (Nat.le_of_ble_eq_true rfl) ?_
  intro p e s m args below meth c ls hx hb X hr hlk hl I
  have hl : lv_has ls 7 [(0, .ref (ad 18)), (1, .int (nI i9))] := hl
  have hE0 := hE
  have hC0 := hC
  have hK0 := hK
  have hf0 := hf
  have hp0 := hp9
  have hm0 := hme
  have fr0 : (∀ q, (q < 110 ∨ 120 ≤ q) → q ≠ 177 → q ≠ 178 → σ q = σ q) := fun _ _ _ _ => rfl
  refine lv_aload_n hx hb d_Spectrum_howManySame_0 rfl (lv_at hl 0 rfl) ?_
  refine xr_get X I fin_E 18 (by omega) hE0 rfl 1 (by decide) (List.mem_cons_of_mem _ k_c500482549) rfl rfl d_Spectrum_howManySame_1 ?_
  refine xr_get X I fin_P 90 (by omega) (pl_o hR) rfl 2 (by decide) (List.mem_cons_of_mem _ k_a6dce73675) rfl rfl d_Spectrum_howManySame_4 ?_
  refine lv_if_ne hx hb d_Spectrum_howManySame_7 rfl (fun hc => ?_) (fun hc => ?_)
  · obtain ⟨v1, v2⟩ := hVr i9 hi9
    refine lv_aload_n hx hb d_Spectrum_howManySame_12 rfl (lv_at hl 0 rfl) ?_
    refine lv_iload_n hx hb d_Spectrum_howManySame_13 rfl (lv_at hl 1 rfl) ?_
    refine xr_calll (xr_runV (kc := 5) (kr := 6) (n := 1) (As := [.int (nI i9)]) (rest := []) X I (by omega) hE0 rfl (c_Spectrum_finestCell (V := V) (pf := pf) (i9 := i9) hN hE0 hC0 hK0 hf0 hp0 hn hl2 hl12 his hsz hbo hsz2 hfc hm0 hi9) (xg k_15467f5cf6) (List.mem_cons_of_mem _ k_68700135ef) (List.mem_cons_of_mem _ k_fa0ad0c072) (List.mem_cons_of_mem _ k_38a2eed932) (List.mem_cons_of_mem _ k_c663d572ae) (by decide +kernel) (by decide) rfl hl.1 rfl (Nat.le_of_ble_eq_true rfl) d_Spectrum_howManySame_14) I (fun x σ1 H locs hp I => ?_)
    obtain ⟨ex, Cl1, Kn1, fra, hC1, hK1, hp1, hm1⟩ := hp
    have fr1 : (∀ q, (q < 110 ∨ 120 ≤ q) → q ≠ 177 → q ≠ 178 → σ1 q = σ q) := fun q h1 h2 h3 => (fra q h1 h2 h3).trans (fr0 q h1 h2 h3)
    clear fra
    have hE1 : σ1 18 = .inr (ciE, eF ad rk (nI n) (nI bo) tr) := (fr1 18 (by omega) (by decide) (by decide)).trans hE
    have hf1 := pl_same hf (fun q h1 h2 => fr1 q (by omega) (by omega) (by omega))
    have xTi : x.toInt = V i9 := by rw [ex]; exact q_oT (by omega) (by omega)
    obtain ⟨d1, l1, F1_, s1_, hI1⟩ := hI1
    obtain ⟨d2, l2, F2_, s2_, hI2⟩ := hI2
    have hI1a := pl_same hI1 (fun q h1 h2 => fr1 q (by omega) (by omega) (by omega))
    have hI2a := pl_same hI2 (fun q h1 h2 => fr1 q (by omega) (by omega) (by omega))
    have hNa := pl_same hNn (fun q h1 h2 => fr1 q (by omega) (by omega) (by omega))
    have hRa := pl_same hR (fun q h1 h2 => fr1 q (by omega) (by omega) (by omega))
    have hBa := (fr1 19 (by omega) (by decide) (by decide)).trans hBl
    refine lv_lstore_n (lv' := [(2, .long x), (0, .ref (ad 18)), (1, .int (nI i9))]) hx hb d_Spectrum_howManySame_17 rfl hl (by decide) rfl (fun ls hl => ?_)
    refine lv_aload_n hx hb d_Spectrum_howManySame_18 rfl (lv_at hl 1 rfl) ?_
    refine xr_get X I fin_E 18 (by omega) hE1 rfl 4 (by decide) (List.mem_cons_of_mem _ k_da88c209a6) rfl rfl d_Spectrum_howManySame_19 ?_
    refine lv_aload_n hx hb d_Spectrum_howManySame_22 rfl (lv_at hl 1 rfl) ?_
    refine xr_get X I fin_E 18 (by omega) hE1 rfl 0 (by decide) (List.mem_cons_of_mem _ k_453373e9e7) rfl rfl d_Spectrum_howManySame_23 ?_
    refine lv_aload_n hx hb d_Spectrum_howManySame_26 rfl (lv_at hl 1 rfl) ?_
    refine xr_get X I fin_E 18 (by omega) hE1 rfl 11 (by decide) (List.mem_cons_of_mem _ k_d4fb48ecc0) rfl rfl d_Spectrum_howManySame_27 ?_
    refine xr_aald X I 19 5 (by omega) hBa rfl rfl (by omega) (by decide) (bl_at (by omega)) d_Spectrum_howManySame_30 ?_
    refine lv_lload_n hx hb d_Spectrum_howManySame_31 rfl (lv_at hl 0 rfl) ?_
    refine xr_callv (xr_runS (kc := 4) (kr := 6) (n := 3) (As := [.ref (ad 120), .ref (ad (20 + 10 * n)), .long x]) (rest := []) X I (c_Spectrum_enterCell (i := 120) (j := 20 + 10 * n) (v := x) (by omega) (by omega) (by omega) hI1a hNa hn hisn hszn) (xg k_294dbb847f) (List.mem_cons_of_mem _ k_78a66d3869) (List.mem_cons_of_mem _ k_03123e3cf0) (List.mem_cons_of_mem _ k_c663d572ae) (by decide +kernel) (by decide) rfl hl.1 rfl (Nat.le_of_ble_eq_true rfl) d_Spectrum_howManySame_32) I (fun σ2 H locs hp I => ?_)
    obtain ⟨Fq, sq, fb, hq, hqi⟩ := hp
    rw [xTi] at hqi
    have hE2 : σ2 18 = .inr (ciE, eF ad rk (nI n) (nI bo) tr) := (fb 18 (by omega)).trans hE1
    refine lv_aload_n hx hb d_Spectrum_howManySame_35 rfl (lv_at hl 1 rfl) ?_
    refine xr_get X I fin_E 18 (by omega) hE2 rfl 5 (by decide) (List.mem_cons_of_mem _ k_30b9489e92) rfl rfl d_Spectrum_howManySame_36 ?_
    refine lv_aload_n hx hb d_Spectrum_howManySame_39 rfl (lv_at hl 1 rfl) ?_
    refine xr_get X I fin_E 18 (by omega) hE2 rfl 1 (by decide) (List.mem_cons_of_mem _ k_c500482549) rfl rfl d_Spectrum_howManySame_40 ?_
    refine lv_lload_n hx hb d_Spectrum_howManySame_43 rfl (lv_at hl 0 rfl) ?_
    refine xr_callv (xr_runS (kc := 4) (kr := 6) (n := 3) (As := [.ref (ad 130), .ref (ad 90), .long x]) (rest := []) X I (c_Spectrum_enterCell (i := 130) (j := 90) (v := x) (by omega) (by omega) (by omega) (pl_fr_else hI2a fb (by omega)) (pl_fr_else hRa fb (by omega)) hdr hisr hszr) (xg k_294dbb847f) (List.mem_cons_of_mem _ k_78a66d3869) (List.mem_cons_of_mem _ k_03123e3cf0) (List.mem_cons_of_mem _ k_c663d572ae) (by decide +kernel) (by decide) rfl hl.1 rfl (Nat.le_of_ble_eq_true rfl) d_Spectrum_howManySame_44) I (fun σ3 H locs hp I => ?_)
    obtain ⟨Fr3, sr3, fc, hr3, hri⟩ := hp
    rw [xTi] at hri
    have fr3 : (∀ q, (q < 110 ∨ 140 ≤ q) → q ≠ 177 → q ≠ 178 → σ3 q = σ q) := fun q h1 h2 h3 => (fc q (by omega)).trans ((fb q (by omega)).trans (fr1 q (by omega) h2 h3))
    have hC3 := (fc 177 (by omega)).trans ((fb 177 (by omega)).trans hC1)
    have hK3 := (fc 178 (by omega)).trans ((fb 178 (by omega)).trans hK1)
    have hq3 := pl_fr_else hq fc (by omega)
    have hp3 : prb ad cI cG σ3 := by obtain ⟨a, b, c, dd, h⟩ := hp1; exact ⟨a, b, c, dd, pl_fr_else (pl_fr_else h fb (by omega)) fc (by omega)⟩
    clear hq fb fc hI1a hI2a hNa hRa hBa
    refine lv_iconst (v := nI 0) hx hb d_Spectrum_howManySame_47 (by decide) ?_
    refine lv_istore (lv' := [(4, .int (nI 0)), (2, .long x), (0, .ref (ad 18)), (1, .int (nI i9))]) hx hb d_Spectrum_howManySame_48 hl (by decide) rfl (fun ls hl => ?_)
    have loop : ∀ (f : Nat) (sp : Nat) (qq rr : Nat → Int) (σ4 : Nat → va_E) (F4 G4 : Nat → Nat → Int32) (s4 t4 : Nat → Int32) (ls : Array Slot) (H : Heap) (locs : List Loc), sp + f = 43 → (∀ q, (q < 110 ∨ 140 ≤ q) → q ≠ 177 → q ≠ 178 → σ4 q = σ q) → σ4 177 = .inl (cJ, 6, .inr (.inl Cl1)) → σ4 178 = .inl (cZ, 6, .inl Kn1) → prb ad cI cG σ4 → pl ad cI cG σ4 120 20 n 20 F4 s4 → pl_is F4 n 20 qq → pl ad cI cG σ4 130 20 dr 20 G4 t4 → pl_is G4 dr 20 rr → hmS n dr (nI i9) f qq rr = hmS n dr (nI i9) 43 (low (V i9) n (mulp 1073741824 n pn n) n) (low (V i9) dr (mulp 1073741824 dr pr dr) dr) → hmZ n dr (nI i9) f qq rr → lv_has ls 7 [(4, .int (nI sp)), (2, .long x), (0, .ref (ad 18)), (1, .int (nI i9))] → xI D classes N ad s.heap (σ4) H locs → W p l e (xrm 6) s m args below meth c H locs 0 0 (MQ below (va_Qi (fun r σ2 => r = hmS n dr (nI i9) 43 (low (V i9) n (mulp 1073741824 n pn n) n) (low (V i9) dr (mulp 1073741824 dr pr dr) dr) ∧ ∃ (Cl' : Nat → Int64) (Kn' : Nat → Int32), (∀ q, (q < 110 ∨ 140 ≤ q) → q ≠ 177 → q ≠ 178 → σ2 q = σ q) ∧ σ2 177 = .inl (cJ, 6, .inr (.inl Cl')) ∧ σ2 178 = .inl (cZ, 6, .inl Kn') ∧ prb ad cI cG σ2 ∧ pr2 ad cI cG σ2 120 ∧ pr2 ad cI cG σ2 130 ∧ memo n V Cl' Kn') (xS D classes (xT cI cJ cZ cC cG cP) N ad) (xA N ad)) args s 0 0 (xA N ad)) (F0 m 50 ls []) := by
      intro f
      induction f with
      | zero =>
        intro sp qq rr σ4 F4 G4 s4 t4 ls H locs hk fr4 hC4 hK4 hp4 g1 g2 g3 g4 g5 g6 hl I
        obtain rfl : sp = 43 := by omega
        refine lv_iload hx hb d_Spectrum_howManySame_50 (lv_at hl 0 rfl) ?_
        refine lv_bipush (v := nI 42) hx hb d_Spectrum_howManySame_52 (by decide) ?_
        refine lv_icmp_gt hx hb d_Spectrum_howManySame_54 rfl (fun hc => ?_) (fun hc => ?_)
        · refine lv_iconst (v := nI 1) hx hb d_Spectrum_howManySame_166 (by decide) ?_
          exact xr_iret X I hr hlk ⟨by rw [← g5, hmS], ⟨Cl1, Kn1, fr4, hC4, hK4, hp4, ⟨_, _, _, _, g1⟩, ⟨_, _, _, _, g3⟩, hm1⟩⟩ d_Spectrum_howManySame_167
        · exact absurd (by decide) hc
      | succ f ih =>
        intro sp qq rr σ4 F4 G4 s4 t4 ls H locs hk fr4 hC4 hK4 hp4 g1 g2 g3 g4 g5 g6 hl I
        have hE4 : σ4 18 = .inr (ciE, eF ad rk (nI n) (nI bo) tr) := (fr4 18 (by omega) (by decide) (by decide)).trans hE
        rw [hmZ] at g6
        obtain ⟨⟨w1, w2, w3, w4, w5, w6⟩, g6⟩ := g6
        refine lv_iload hx hb d_Spectrum_howManySame_50 (lv_at hl 0 rfl) ?_
        refine lv_bipush (v := nI 42) hx hb d_Spectrum_howManySame_52 (by decide) ?_
        refine lv_icmp_gt hx hb d_Spectrum_howManySame_54 rfl (fun hc => ?_) (fun hc => ?_)
        · exact absurd hc (nI_nlt (by omega) (by decide))
        · refine lv_aload_n hx hb d_Spectrum_howManySame_57 rfl (lv_at hl 2 rfl) ?_
          refine lv_aload_n hx hb d_Spectrum_howManySame_58 rfl (lv_at hl 2 rfl) ?_
          refine xr_get X I fin_E 18 (by omega) hE4 rfl 5 (by decide) (List.mem_cons_of_mem _ k_30b9489e92) rfl rfl d_Spectrum_howManySame_59 ?_
          refine xr_calli (xr_runV (kc := 4) (kr := 6) (n := 1) (As := [.ref (ad 130)]) (rest := []) X I (by omega) hE4 rfl (c_Spectrum_rootsBelowOne (j := 130) (dj := dr) (p0 := rr) hN hE4 (by omega) (by omega) g3 hp4 hdr g4 w3 w4) (xg k_ecd90115f9) (List.mem_cons_of_mem _ k_c1c20bc063) (List.mem_cons_of_mem _ k_b1660fc9a4) (List.mem_cons_of_mem _ k_bc347ca26b) (List.mem_cons_of_mem _ k_c663d572ae) (by decide +kernel) (by decide) rfl hl.1 rfl (Nat.le_of_ble_eq_true rfl) d_Spectrum_howManySame_62) I (fun r1 σ5 H locs hp I => ?_)
          obtain ⟨er1, fd5, hp5⟩ := hp
          subst er1
          have fr5 : (∀ q, (q < 110 ∨ 140 ≤ q) → q ≠ 177 → q ≠ 178 → σ5 q = σ q) := fun q h1 h2 h3 => (fd5 q (by omega)).trans (fr4 q h1 h2 h3)
          have hC5 := (fd5 177 (by omega)).trans hC4
          have hK5 := (fd5 178 (by omega)).trans hK4
          have hE5 : σ5 18 = .inr (ciE, eF ad rk (nI n) (nI bo) tr) := (fr5 18 (by omega) (by decide) (by decide)).trans hE
          have a1 := pl_fr_else g1 fd5 (by omega)
          have a3 := pl_fr_else g3 fd5 (by omega)
          refine lv_aload_n hx hb d_Spectrum_howManySame_65 rfl (lv_at hl 2 rfl) ?_
          refine xr_get X I fin_E 18 (by omega) hE5 rfl 5 (by decide) (List.mem_cons_of_mem _ k_30b9489e92) rfl rfl d_Spectrum_howManySame_66 ?_
          refine xr_calli (xr_runV (kc := 2) (kr := 6) (n := 0) (As := []) (rest := [.int (lessI (low 1 dr rr dr) dr)]) X I (by omega) (pl_o a3) rfl (c_Polynomial_rootsBelow (i := 130) (by omega) a3 hdr (by decide) (by decide) (by decide) g4 w3) (xg k_78be9b3f0a) (List.mem_cons_of_mem _ k_48413bf910) (List.mem_cons_of_mem _ k_29b5639176) (List.mem_cons_of_mem _ k_d43b154fc4) (List.mem_cons_of_mem _ k_a8ac99ee00) (by decide +kernel) (by decide) rfl hl.1 rfl (Nat.le_of_ble_eq_true rfl) d_Spectrum_howManySame_69) I (fun r2 σ9 H locs hp I => ?_)
          obtain ⟨rfl, h9⟩ := hp; rw [h9] at I; clear h9
          refine lv_isub hx hb d_Spectrum_howManySame_72 ?_
          refine xr_topi (y := hmR dr rr) rfl ?_
          refine lv_istore (lv' := [(5, .int (hmR dr rr)), (4, .int (nI sp)), (2, .long x), (0, .ref (ad 18)), (1, .int (nI i9))]) hx hb d_Spectrum_howManySame_73 hl (by decide) rfl (fun ls hl => ?_)
          refine lv_iload hx hb d_Spectrum_howManySame_75 (lv_at hl 0 rfl) ?_
          refine lv_if_ne hx hb d_Spectrum_howManySame_77 rfl (fun hd => ?_) (fun hd => ?_)
          · refine lv_aload_n hx hb d_Spectrum_howManySame_82 rfl (lv_at hl 3 rfl) ?_
            refine lv_aload_n hx hb d_Spectrum_howManySame_83 rfl (lv_at hl 3 rfl) ?_
            refine xr_get X I fin_E 18 (by omega) hE5 rfl 4 (by decide) (List.mem_cons_of_mem _ k_da88c209a6) rfl rfl d_Spectrum_howManySame_84 ?_
            refine xr_calli (xr_runV (kc := 4) (kr := 6) (n := 1) (As := [.ref (ad 120)]) (rest := []) X I (by omega) hE5 rfl (c_Spectrum_rootsBelowOne (j := 120) (dj := n) (p0 := qq) hN hE5 (by omega) (by omega) a1 hp5 hn g2 w1 w2) (xg k_ecd90115f9) (List.mem_cons_of_mem _ k_c1c20bc063) (List.mem_cons_of_mem _ k_b1660fc9a4) (List.mem_cons_of_mem _ k_bc347ca26b) (List.mem_cons_of_mem _ k_c663d572ae) (by decide +kernel) (by decide) rfl hl.1 rfl (Nat.le_of_ble_eq_true rfl) d_Spectrum_howManySame_87) I (fun r3 σ6 H locs hp I => ?_)
            obtain ⟨er3, fd6, hp6⟩ := hp
            subst er3
            have fr6 : (∀ q, (q < 110 ∨ 140 ≤ q) → q ≠ 177 → q ≠ 178 → σ6 q = σ q) := fun q h1 h2 h3 => (fd6 q (by omega)).trans (fr5 q h1 h2 h3)
            have hC6 := (fd6 177 (by omega)).trans hC5
            have hK6 := (fd6 178 (by omega)).trans hK5
            have hE6 : σ6 18 = .inr (ciE, eF ad rk (nI n) (nI bo) tr) := (fr6 18 (by omega) (by decide) (by decide)).trans hE
            have b1 := pl_fr_else a1 fd6 (by omega)
            have b3 := pl_fr_else a3 fd6 (by omega)
            refine lv_aload_n hx hb d_Spectrum_howManySame_90 rfl (lv_at hl 3 rfl) ?_
            refine xr_get X I fin_E 18 (by omega) hE6 rfl 4 (by decide) (List.mem_cons_of_mem _ k_da88c209a6) rfl rfl d_Spectrum_howManySame_91 ?_
            refine xr_calli (xr_runV (kc := 2) (kr := 6) (n := 0) (As := []) (rest := [.int (lessI (low 1 n qq n) n)]) X I (by omega) (pl_o b1) rfl (c_Polynomial_rootsBelow (i := 120) (by omega) b1 hn (by decide) (by decide) (by decide) g2 w1) (xg k_78be9b3f0a) (List.mem_cons_of_mem _ k_48413bf910) (List.mem_cons_of_mem _ k_29b5639176) (List.mem_cons_of_mem _ k_d43b154fc4) (List.mem_cons_of_mem _ k_a8ac99ee00) (by decide +kernel) (by decide) rfl hl.1 rfl (Nat.le_of_ble_eq_true rfl) d_Spectrum_howManySame_94) I (fun r4 σ9 H locs hp I => ?_)
            obtain ⟨rfl, h9⟩ := hp; rw [h9] at I; clear h9
            refine lv_isub hx hb d_Spectrum_howManySame_97 ?_
            refine xr_topi (y := hmR n qq) rfl ?_
            refine lv_istore (lv' := [(6, .int (hmR n qq)), (5, .int (hmR dr rr)), (4, .int (nI sp)), (2, .long x), (0, .ref (ad 18)), (1, .int (nI i9))]) hx hb d_Spectrum_howManySame_98 hl (by decide) rfl (fun ls hl => ?_)
            refine lv_iload hx hb d_Spectrum_howManySame_100 (lv_at hl 0 rfl) ?_
            refine lv_iload hx hb d_Spectrum_howManySame_102 (lv_at hl 1 rfl) ?_
            refine lv_isub hx hb d_Spectrum_howManySame_104 ?_
            refine lv_iconst (v := nI 1) hx hb d_Spectrum_howManySame_105 (by decide) ?_
            refine lv_icmp_ne hx hb d_Spectrum_howManySame_106 rfl (fun he => ?_) (fun he => ?_)
            · rw [hmS, if_neg hd, if_neg he] at g5
              refine lv_aload_n hx hb d_Spectrum_howManySame_112 rfl (lv_at hl 4 rfl) ?_
              refine xr_get X I fin_E 18 (by omega) hE6 rfl 4 (by decide) (List.mem_cons_of_mem _ k_da88c209a6) rfl rfl d_Spectrum_howManySame_113 ?_
              refine lv_ldc2 (v := 2) hx hb X.1.2.2.2.1 (X.1.2.2.2.2 _ (List.mem_cons_of_mem _ k_6f38d1c9dd)) d_Spectrum_howManySame_116 ?_
              obtain hp6p := hp6
              refine xr_callv (xr_runV (kc := 2) (kr := 6) (n := 1) (As := [.long 2]) (rest := []) X I (by omega) (pl_o b1) rfl (c_Polynomial_multiplyRoots (i := 120) (v := (2 : Int64)) (by omega) b1 hn (by decide) (by decide) (by decide) g2) (xg k_68ed1cfc4a) (List.mem_cons_of_mem _ k_8e1bf97fa6) (List.mem_cons_of_mem _ k_9f9fb940be) (List.mem_cons_of_mem _ k_91b385045a) (List.mem_cons_of_mem _ k_a8ac99ee00) (by decide +kernel) (by decide) rfl hl.1 rfl (Nat.le_of_ble_eq_true rfl) d_Spectrum_howManySame_119) I (fun σ7 H locs hp I => ?_)
              obtain ⟨F7, s7, fd7, c1, c2⟩ := hp
              rw [show (2 : Int64).toInt = 2 by decide] at c2
              have fr7 : (∀ q, (q < 110 ∨ 140 ≤ q) → q ≠ 177 → q ≠ 178 → σ7 q = σ q) := fun q h1 h2 h3 => (fd7 q (by omega)).trans (fr6 q h1 h2 h3)
              have hE7 : σ7 18 = .inr (ciE, eF ad rk (nI n) (nI bo) tr) := (fr7 18 (by omega) (by decide) (by decide)).trans hE
              have c3 := pl_fr_else b3 (pl_fr_10 fd7) (by omega)
              refine lv_aload_n hx hb d_Spectrum_howManySame_122 rfl (lv_at hl 4 rfl) ?_
              refine xr_get X I fin_E 18 (by omega) hE7 rfl 5 (by decide) (List.mem_cons_of_mem _ k_30b9489e92) rfl rfl d_Spectrum_howManySame_123 ?_
              refine lv_ldc2 (v := 2) hx hb X.1.2.2.2.1 (X.1.2.2.2.2 _ (List.mem_cons_of_mem _ k_6f38d1c9dd)) d_Spectrum_howManySame_126 ?_
              refine xr_callv (xr_runV (kc := 2) (kr := 6) (n := 1) (As := [.long 2]) (rest := []) X I (by omega) (pl_o c3) rfl (c_Polynomial_multiplyRoots (i := 130) (v := (2 : Int64)) (by omega) c3 hdr (by decide) (by decide) (by decide) g4) (xg k_68ed1cfc4a) (List.mem_cons_of_mem _ k_8e1bf97fa6) (List.mem_cons_of_mem _ k_9f9fb940be) (List.mem_cons_of_mem _ k_91b385045a) (List.mem_cons_of_mem _ k_a8ac99ee00) (by decide +kernel) (by decide) rfl hl.1 rfl (Nat.le_of_ble_eq_true rfl) d_Spectrum_howManySame_129) I (fun σ8 H locs hp I => ?_)
              obtain ⟨F8, s8, fd8, e3, e4⟩ := hp
              rw [show (2 : Int64).toInt = 2 by decide] at e4
              have fr8 : (∀ q, (q < 110 ∨ 140 ≤ q) → q ≠ 177 → q ≠ 178 → σ8 q = σ q) := fun q h1 h2 h3 => (fd8 q (by omega)).trans (fr7 q h1 h2 h3)
              have hE8 : σ8 18 = .inr (ciE, eF ad rk (nI n) (nI bo) tr) := (fr8 18 (by omega) (by decide) (by decide)).trans hE
              have e1 := pl_fr_else c1 (pl_fr_10 fd8) (by omega)
              have hC8 := (fd8 177 (by omega)).trans ((fd7 177 (by omega)).trans hC6)
              have hK8 := (fd8 178 (by omega)).trans ((fd7 178 (by omega)).trans hK6)
              have hp8 : prb ad cI cG σ8 := by obtain ⟨a, b, c, dd, h⟩ := hp6; exact ⟨a, b, c, dd, pl_fr_else (pl_fr_else h (pl_fr_10 fd7) (by omega)) (pl_fr_10 fd8) (by omega)⟩
              refine lv_iload_n hx hb d_Spectrum_howManySame_132 rfl (lv_at hl 5 rfl) ?_
              refine lv_aload_n hx hb d_Spectrum_howManySame_133 rfl (lv_at hl 4 rfl) ?_
              refine lv_aload_n hx hb d_Spectrum_howManySame_134 rfl (lv_at hl 4 rfl) ?_
              refine xr_get X I fin_E 18 (by omega) hE8 rfl 4 (by decide) (List.mem_cons_of_mem _ k_da88c209a6) rfl rfl d_Spectrum_howManySame_135 ?_
              refine xr_calli (xr_runV (kc := 4) (kr := 6) (n := 1) (As := [.ref (ad 120)]) (rest := [.int (nI i9)]) X I (by omega) hE8 rfl (c_Spectrum_rootsBelowOne (j := 120) (dj := n) (p0 := mulp 2 n qq n) hN hE8 (by omega) (by omega) e1 hp8 hn c2 w5 w6) (xg k_ecd90115f9) (List.mem_cons_of_mem _ k_c1c20bc063) (List.mem_cons_of_mem _ k_b1660fc9a4) (List.mem_cons_of_mem _ k_bc347ca26b) (List.mem_cons_of_mem _ k_c663d572ae) (by decide +kernel) (by decide) rfl hl.1 rfl (Nat.le_of_ble_eq_true rfl) d_Spectrum_howManySame_138) I (fun r5 σ10 H locs hp I => ?_)
              obtain ⟨er5, fd10, hp10⟩ := hp
              subst er5
              have fr10 : (∀ q, (q < 110 ∨ 140 ≤ q) → q ≠ 177 → q ≠ 178 → σ10 q = σ q) := fun q h1 h2 h3 => (fd10 q (by omega)).trans (fr8 q h1 h2 h3)
              have hC10 := (fd10 177 (by omega)).trans hC8
              have hK10 := (fd10 178 (by omega)).trans hK8
              have hE10 : σ10 18 = .inr (ciE, eF ad rk (nI n) (nI bo) tr) := (fr10 18 (by omega) (by decide) (by decide)).trans hE
              have f1 := pl_fr_else e1 fd10 (by omega)
              have f3 := pl_fr_else e3 fd10 (by omega)
              refine lv_icmp_lt hx hb d_Spectrum_howManySame_141 rfl (fun hf9 => ?_) (fun hf9 => ?_)
              · rw [hmN, if_pos hf9] at g5 g6
                refine lv_iinc (k := 2) (v := nI (sp + 1)) (lv' := [(4, .int (nI (sp + 1))), (6, .int (hmR n qq)), (5, .int (hmR dr rr)), (2, .long x), (0, .ref (ad 18)), (1, .int (nI i9))]) hx hb d_Spectrum_howManySame_160 hl rfl (nI_1 sp) (by decide) rfl (fun ls hl => ?_)
                refine lv_goto hx hb d_Spectrum_howManySame_163 rfl ?_
                have hl := lv_sub hl [0, 3, 4, 5] rfl
                have hl : lv_has ls 7 [(4, .int (nI (sp + 1))), (2, .long x), (0, .ref (ad 18)), (1, .int (nI i9))] := hl
                exact ih (sp + 1) _ _ σ10 F7 F8 s7 s8 ls H locs (by omega) fr10 hC10 hK10 hp10 f1 c2 f3 e4 g5 g6 hl I
              · rw [hmN, if_neg hf9] at g5 g6
                refine lv_aload_n hx hb d_Spectrum_howManySame_144 rfl (lv_at hl 4 rfl) ?_
                refine xr_get X I fin_E 18 (by omega) hE10 rfl 4 (by decide) (List.mem_cons_of_mem _ k_da88c209a6) rfl rfl d_Spectrum_howManySame_145 ?_
                refine lv_lconst (v := 1) hx hb d_Spectrum_howManySame_148 (by decide) ?_
                refine xr_callv (xr_runV (kc := 2) (kr := 6) (n := 1) (As := [.long 1]) (rest := []) X I (by omega) (pl_o f1) rfl (c_Polynomial_lowerRoots (i := 120) (v := (1 : Int64)) (by omega) f1 hn (by decide) (by decide) (by decide) c2) (xg k_f8d403c61a) (List.mem_cons_of_mem _ k_5bc7bce489) (List.mem_cons_of_mem _ k_30782e9c94) (List.mem_cons_of_mem _ k_c1884cc592) (List.mem_cons_of_mem _ k_a8ac99ee00) (by decide +kernel) (by decide) rfl hl.1 rfl (Nat.le_of_ble_eq_true rfl) d_Spectrum_howManySame_149) I (fun σ11 H locs hp I => ?_)
                obtain ⟨F11, s11, fd11, k1, k2⟩ := hp
                rw [show (1 : Int64).toInt = 1 by decide] at k2
                have fr11 : (∀ q, (q < 110 ∨ 140 ≤ q) → q ≠ 177 → q ≠ 178 → σ11 q = σ q) := fun q h1 h2 h3 => (fd11 q (by omega)).trans (fr10 q h1 h2 h3)
                have hE11 : σ11 18 = .inr (ciE, eF ad rk (nI n) (nI bo) tr) := (fr11 18 (by omega) (by decide) (by decide)).trans hE
                have k3 := pl_fr_else f3 (pl_fr_10 fd11) (by omega)
                refine lv_aload_n hx hb d_Spectrum_howManySame_152 rfl (lv_at hl 4 rfl) ?_
                refine xr_get X I fin_E 18 (by omega) hE11 rfl 5 (by decide) (List.mem_cons_of_mem _ k_30b9489e92) rfl rfl d_Spectrum_howManySame_153 ?_
                refine lv_lconst (v := 1) hx hb d_Spectrum_howManySame_156 (by decide) ?_
                refine xr_callv (xr_runV (kc := 2) (kr := 6) (n := 1) (As := [.long 1]) (rest := []) X I (by omega) (pl_o k3) rfl (c_Polynomial_lowerRoots (i := 130) (v := (1 : Int64)) (by omega) k3 hdr (by decide) (by decide) (by decide) e4) (xg k_f8d403c61a) (List.mem_cons_of_mem _ k_5bc7bce489) (List.mem_cons_of_mem _ k_30782e9c94) (List.mem_cons_of_mem _ k_c1884cc592) (List.mem_cons_of_mem _ k_a8ac99ee00) (by decide +kernel) (by decide) rfl hl.1 rfl (Nat.le_of_ble_eq_true rfl) d_Spectrum_howManySame_157) I (fun σ12 H locs hp I => ?_)
                obtain ⟨F12, s12, fd12, l3, l4⟩ := hp
                rw [show (1 : Int64).toInt = 1 by decide] at l4
                have fr12 : (∀ q, (q < 110 ∨ 140 ≤ q) → q ≠ 177 → q ≠ 178 → σ12 q = σ q) := fun q h1 h2 h3 => (fd12 q (by omega)).trans (fr11 q h1 h2 h3)
                have l1 := pl_fr_else k1 (pl_fr_10 fd12) (by omega)
                have hC12 := (fd12 177 (by omega)).trans ((fd11 177 (by omega)).trans hC10)
                have hK12 := (fd12 178 (by omega)).trans ((fd11 178 (by omega)).trans hK10)
                have hp12 : prb ad cI cG σ12 := by obtain ⟨a, b, c, dd, h⟩ := hp10; exact ⟨a, b, c, dd, pl_fr_else (pl_fr_else h (pl_fr_10 fd11) (by omega)) (pl_fr_10 fd12) (by omega)⟩
                refine lv_iinc (k := 2) (v := nI (sp + 1)) (lv' := [(4, .int (nI (sp + 1))), (6, .int (hmR n qq)), (5, .int (hmR dr rr)), (2, .long x), (0, .ref (ad 18)), (1, .int (nI i9))]) hx hb d_Spectrum_howManySame_160 hl rfl (nI_1 sp) (by decide) rfl (fun ls hl => ?_)
                refine lv_goto hx hb d_Spectrum_howManySame_163 rfl ?_
                have hl := lv_sub hl [0, 3, 4, 5] rfl
                have hl : lv_has ls 7 [(4, .int (nI (sp + 1))), (2, .long x), (0, .ref (ad 18)), (1, .int (nI i9))] := hl
                exact ih (sp + 1) _ _ σ12 F11 F12 s11 s12 ls H locs (by omega) fr12 hC12 hK12 hp12 l1 k2 l3 l4 g5 g6 hl I
            · refine lv_iload hx hb d_Spectrum_howManySame_109 (lv_at hl 0 rfl) ?_
              exact xr_iret X I hr hlk ⟨by rw [← g5, hmS, if_neg hd, if_pos he], ⟨Cl1, Kn1, fr6, hC6, hK6, hp6, ⟨_, _, _, _, b1⟩, ⟨_, _, _, _, b3⟩, hm1⟩⟩ d_Spectrum_howManySame_111
          · refine lv_iconst (v := nI 1) hx hb d_Spectrum_howManySame_80 (by decide) ?_
            exact xr_iret X I hr hlk ⟨by rw [← g5, hmS, if_pos hd], ⟨Cl1, Kn1, fr5, hC5, hK5, hp5, ⟨_, _, _, _, a1⟩, ⟨_, _, _, _, a3⟩, hm1⟩⟩ d_Spectrum_howManySame_81
    exact loop 43 0 _ _ σ3 Fq Fr3 sq sr3 ls H locs (by omega) fr3 hC3 hK3 hp3 hq3 hqi hr3 hri rfl hz9 hl I
  · exact absurd ((nI_eq (b := 0) (by omega) (by decide)).mp hc) (by omega)
