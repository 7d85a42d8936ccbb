/-! the reference: spreadOf, spread, column by column (written by wip/gen) -/

set_option maxHeartbeats 4000000 in
set_option maxRecDepth 100000 in
theorem c_SpectrumDeskModel_spreadOf2 {l : Launch} {D : va_G} {cI cJ cZ cC cG cP : ClassId} {ad : Nat → Nat} {σ σb : Nat → va_E} {th : Int32} {n : Nat} {A9 : Nat → Int32} {rw : Nat} {Dt : Nat → Int32} {ps : Nat} {Pr : Nat → Int32} (hS : mS ad cI cZ σb th n A9 rw Dt ps Pr σ) {i j : Nat} (hi : i < 6) (hj : j < 6) (hrw : rw ≤ 100) (hD : dO2 Dt rw i) (hD' : dO2 Dt rw j) :
    Met l y_SpectrumDeskModel_spreadOf v_SpectrumDeskModel_spreadOf (xrm 0) (va_Pc [.ref (ad 183), .int (nI i), .int (nI j)] (xS D classes (xT cI cJ cZ cC cG cP) 193 ad σ)) (va_Ql (fun r σ2 => r.toInt = spO Dt i j rw ∧ σ2 = σ) (xS D classes (xT cI cJ cZ cC cG cP) 193 ad) (xA 193 ad)) 0 0 (xA 193 ad) := by
  obtain ⟨s0, G, Dg, P, L, M, Z, le, eq, rfl, h187, h188, h189, h190, h191, hfb, hB⟩ := hS
  refine xr_met rfl (Nat.le_of_ble_eq_true rfl) ?_
  intro p e s m args below meth c ls hx hb X hr hlk hl I
  have hl : lv_has ls 7 [(0, .ref (ad 183)), (1, .int (nI i)), (2, .int (nI j))] := hl
  refine lv_lconst (v := 0) hx hb d_SpectrumDeskModel_spreadOf_0 (by decide) ?_
  refine lv_lstore_n (lv' := [(3, .long 0), (0, .ref (ad 183)), (1, .int (nI i)), (2, .int (nI j))]) hx hb d_SpectrumDeskModel_spreadOf_1 rfl hl (by decide) rfl (fun ls hl => ?_)
  refine lv_iconst (v := nI 0) hx hb d_SpectrumDeskModel_spreadOf_2 (by decide) ?_
  refine lv_istore (lv' := [(5, .int (nI 0)), (3, .long 0), (0, .ref (ad 183)), (1, .int (nI i)), (2, .int (nI j))]) hx hb d_SpectrumDeskModel_spreadOf_3 hl (by decide) rfl (fun ls hl => ?_)
  have outer : ∀ (k : Nat) (r9 : Nat) (sm9 : Int64) (ls : Array Slot) (H : Heap) (locs : List Loc), r9 + k = rw → sm9.toInt = spO Dt i j r9 → lv_has ls 7 [(5, .int (nI r9)), (3, .long sm9), (0, .ref (ad 183)), (1, .int (nI i)), (2, .int (nI j))] → xI D classes 193 ad s.heap (rw3 s0 ciM cI cZ (mfs ad th (nI n) (nI rw) (nI ps) le eq) P L M) H locs → W p l e (xrm 0) s m args below meth c H locs 0 0 (MQ below (va_Ql (fun r σ2 => r.toInt = spO Dt i j rw ∧ σ2 = rw3 s0 ciM cI cZ (mfs ad th (nI n) (nI rw) (nI ps) le eq) P L M) (xS D classes (xT cI cJ cZ cC cG cP) 193 ad) (xA 193 ad)) args s 0 0 (xA 193 ad)) (F0 m 5 ls []) := by
    intro k
    induction k with
    | zero =>
      intro r9 sm9 ls H locs hk hs hl I
      obtain rfl : r9 = rw := by omega
      refine lv_iload hx hb d_SpectrumDeskModel_spreadOf_5 (lv_at hl 0 rfl) ?_
      refine lv_aload_n hx hb d_SpectrumDeskModel_spreadOf_7 rfl (lv_at hl 2 rfl) ?_
      refine xr_get X I fin_M 183 (by decide) (r183 ..) rfl 8 (by decide) (List.mem_cons_of_mem _ k_cd82b0b714) rfl rfl d_SpectrumDeskModel_spreadOf_8 ?_
      refine lv_icmp_ge hx hb d_SpectrumDeskModel_spreadOf_11 rfl (fun hc => ?_) (fun hc => ?_)
      · refine lv_lload_n hx hb d_SpectrumDeskModel_spreadOf_92 rfl (lv_at hl 1 rfl) ?_
        exact xr_lret X I hr hlk ⟨hs, rfl⟩ d_SpectrumDeskModel_spreadOf_93
      · exact absurd (nI_le (Nat.le_refl _) (by omega)) hc
    | succ k ih =>
      intro r9 sm9 ls H locs hk hs hl I
      refine lv_iload hx hb d_SpectrumDeskModel_spreadOf_5 (lv_at hl 0 rfl) ?_
      refine lv_aload_n hx hb d_SpectrumDeskModel_spreadOf_7 rfl (lv_at hl 2 rfl) ?_
      refine xr_get X I fin_M 183 (by decide) (r183 ..) rfl 8 (by decide) (List.mem_cons_of_mem _ k_cd82b0b714) rfl rfl d_SpectrumDeskModel_spreadOf_8 ?_
      refine lv_icmp_ge hx hb d_SpectrumDeskModel_spreadOf_11 rfl (fun hc => ?_) (fun hc => ?_)
      · exact absurd hc (nI_ge (by omega) (by omega))
      · refine lv_iconst (v := nI 0) hx hb d_SpectrumDeskModel_spreadOf_14 (by decide) ?_
        refine lv_istore (lv' := [(6, .int (nI 0)), (5, .int (nI r9)), (3, .long sm9), (0, .ref (ad 183)), (1, .int (nI i)), (2, .int (nI j))]) hx hb d_SpectrumDeskModel_spreadOf_15 hl (by decide) rfl (fun ls hl => ?_)
        have inner : ∀ (k2 : Nat) (t9 : Nat) (sm9 : Int64) (ls : Array Slot) (H : Heap) (locs : List Loc), t9 + k2 = r9 → sm9.toInt = spO Dt i j r9 + spI Dt i j r9 t9 → lv_has ls 7 [(6, .int (nI t9)), (5, .int (nI r9)), (3, .long sm9), (0, .ref (ad 183)), (1, .int (nI i)), (2, .int (nI j))] → xI D classes 193 ad s.heap (rw3 s0 ciM cI cZ (mfs ad th (nI n) (nI rw) (nI ps) le eq) P L M) H locs → W p l e (xrm 0) s m args below meth c H locs 0 0 (MQ below (va_Ql (fun r σ2 => r.toInt = spO Dt i j rw ∧ σ2 = rw3 s0 ciM cI cZ (mfs ad th (nI n) (nI rw) (nI ps) le eq) P L M) (xS D classes (xT cI cJ cZ cC cG cP) 193 ad) (xA 193 ad)) args s 0 0 (xA 193 ad)) (F0 m 17 ls []) := by
          intro k2
          induction k2 with
          | zero =>
            intro t9 sm9 ls H locs hk2 hs2 hl I
            obtain rfl : t9 = r9 := by omega
            refine lv_iload hx hb d_SpectrumDeskModel_spreadOf_17 (lv_at hl 0 rfl) ?_
            refine lv_iload hx hb d_SpectrumDeskModel_spreadOf_19 (lv_at hl 1 rfl) ?_
            refine lv_icmp_ge hx hb d_SpectrumDeskModel_spreadOf_21 rfl (fun hd => ?_) (fun hd => ?_)
            · refine lv_iinc (k := 1) (v := nI (t9 + 1)) (lv' := [(5, .int (nI (t9 + 1))), (6, .int (nI t9)), (3, .long sm9), (0, .ref (ad 183)), (1, .int (nI i)), (2, .int (nI j))]) hx hb d_SpectrumDeskModel_spreadOf_86 hl rfl (nI_1 t9) (by decide) rfl (fun ls hl => ?_)
              refine lv_goto hx hb d_SpectrumDeskModel_spreadOf_89 rfl ?_
              have hl := lv_sub hl [0, 2, 3, 4, 5] rfl
              have hl : lv_has ls 7 [(5, .int (nI (t9 + 1))), (3, .long sm9), (0, .ref (ad 183)), (1, .int (nI i)), (2, .int (nI j))] := hl
              exact ih (t9 + 1) sm9 ls H locs (by omega) (by rw [hs2]; rfl) hl I
            · exact absurd (nI_le (Nat.le_refl _) (by omega)) hd
          | succ k2 jh =>
            intro t9 sm9 ls H locs hk2 hs2 hl I
            refine lv_iload hx hb d_SpectrumDeskModel_spreadOf_17 (lv_at hl 0 rfl) ?_
            refine lv_iload hx hb d_SpectrumDeskModel_spreadOf_19 (lv_at hl 1 rfl) ?_
            refine lv_icmp_ge hx hb d_SpectrumDeskModel_spreadOf_21 rfl (fun hd => ?_) (fun hd => ?_)
            · exact absurd hd (nI_ge (by omega) (by omega))
            · refine lv_lload_n hx hb d_SpectrumDeskModel_spreadOf_24 rfl (lv_at hl 2 rfl) ?_
              refine lv_aload_n hx hb d_SpectrumDeskModel_spreadOf_25 rfl (lv_at hl 3 rfl) ?_
              refine xr_get X I fin_M 183 (by decide) (r183 ..) rfl 7 (by decide) (List.mem_cons_of_mem _ k_5ae17e30db) rfl rfl d_SpectrumDeskModel_spreadOf_26 ?_
              refine lv_bipush (v := nI 6) hx hb d_SpectrumDeskModel_spreadOf_29 (by decide) ?_
              refine lv_iload hx hb d_SpectrumDeskModel_spreadOf_31 (lv_at hl 1 rfl) ?_
              refine lv_imul hx hb d_SpectrumDeskModel_spreadOf_33 (xr_topi (y := nI (6 * r9)) (pk_mul 6 r9) ?_)
              refine lv_iload_n hx hb d_SpectrumDeskModel_spreadOf_34 rfl (lv_at hl 4 rfl) ?_
              refine lv_iadd hx hb d_SpectrumDeskModel_spreadOf_35 (xr_topi (y := nI ((6 * r9) + i)) (nI_add (6 * r9) i) ?_)
              refine xr_iald X I 189 0 (by decide) ((r_o (by decide)).trans h189) rfl (by omega) (by decide) d_SpectrumDeskModel_spreadOf_36 ?_
              refine lv_aload_n hx hb d_SpectrumDeskModel_spreadOf_37 rfl (lv_at hl 3 rfl) ?_
              refine xr_get X I fin_M 183 (by decide) (r183 ..) rfl 7 (by decide) (List.mem_cons_of_mem _ k_5ae17e30db) rfl rfl d_SpectrumDeskModel_spreadOf_38 ?_
              refine lv_bipush (v := nI 6) hx hb d_SpectrumDeskModel_spreadOf_41 (by decide) ?_
              refine lv_iload hx hb d_SpectrumDeskModel_spreadOf_43 (lv_at hl 0 rfl) ?_
              refine lv_imul hx hb d_SpectrumDeskModel_spreadOf_45 (xr_topi (y := nI (6 * t9)) (pk_mul 6 t9) ?_)
              refine lv_iload_n hx hb d_SpectrumDeskModel_spreadOf_46 rfl (lv_at hl 4 rfl) ?_
              refine lv_iadd hx hb d_SpectrumDeskModel_spreadOf_47 (xr_topi (y := nI ((6 * t9) + i)) (nI_add (6 * t9) i) ?_)
              refine xr_iald X I 189 0 (by decide) ((r_o (by decide)).trans h189) rfl (by omega) (by decide) d_SpectrumDeskModel_spreadOf_48 ?_
              refine lv_isub hx hb d_SpectrumDeskModel_spreadOf_49 ?_
              refine lv_i2l hx hb d_SpectrumDeskModel_spreadOf_50 rfl ?_
              refine lv_aload_n hx hb d_SpectrumDeskModel_spreadOf_51 rfl (lv_at hl 3 rfl) ?_
              refine xr_get X I fin_M 183 (by decide) (r183 ..) rfl 7 (by decide) (List.mem_cons_of_mem _ k_5ae17e30db) rfl rfl d_SpectrumDeskModel_spreadOf_52 ?_
              refine lv_bipush (v := nI 6) hx hb d_SpectrumDeskModel_spreadOf_55 (by decide) ?_
              refine lv_iload hx hb d_SpectrumDeskModel_spreadOf_57 (lv_at hl 1 rfl) ?_
              refine lv_imul hx hb d_SpectrumDeskModel_spreadOf_59 (xr_topi (y := nI (6 * r9)) (pk_mul 6 r9) ?_)
              refine lv_iload_n hx hb d_SpectrumDeskModel_spreadOf_60 rfl (lv_at hl 5 rfl) ?_
              refine lv_iadd hx hb d_SpectrumDeskModel_spreadOf_61 (xr_topi (y := nI ((6 * r9) + j)) (nI_add (6 * r9) j) ?_)
              refine xr_iald X I 189 0 (by decide) ((r_o (by decide)).trans h189) rfl (by omega) (by decide) d_SpectrumDeskModel_spreadOf_62 ?_
              refine lv_aload_n hx hb d_SpectrumDeskModel_spreadOf_63 rfl (lv_at hl 3 rfl) ?_
              refine xr_get X I fin_M 183 (by decide) (r183 ..) rfl 7 (by decide) (List.mem_cons_of_mem _ k_5ae17e30db) rfl rfl d_SpectrumDeskModel_spreadOf_64 ?_
              refine lv_bipush (v := nI 6) hx hb d_SpectrumDeskModel_spreadOf_67 (by decide) ?_
              refine lv_iload hx hb d_SpectrumDeskModel_spreadOf_69 (lv_at hl 0 rfl) ?_
              refine lv_imul hx hb d_SpectrumDeskModel_spreadOf_71 (xr_topi (y := nI (6 * t9)) (pk_mul 6 t9) ?_)
              refine lv_iload_n hx hb d_SpectrumDeskModel_spreadOf_72 rfl (lv_at hl 5 rfl) ?_
              refine lv_iadd hx hb d_SpectrumDeskModel_spreadOf_73 (xr_topi (y := nI ((6 * t9) + j)) (nI_add (6 * t9) j) ?_)
              refine xr_iald X I 189 0 (by decide) ((r_o (by decide)).trans h189) rfl (by omega) (by decide) d_SpectrumDeskModel_spreadOf_74 ?_
              refine lv_isub hx hb d_SpectrumDeskModel_spreadOf_75 ?_
              refine lv_i2l hx hb d_SpectrumDeskModel_spreadOf_76 rfl ?_
              refine lv_lmul hx hb d_SpectrumDeskModel_spreadOf_77 ?_
              refine lv_ladd hx hb d_SpectrumDeskModel_spreadOf_78 ?_
              refine lv_topl (fun s2 es => ?_)
              have b1 := spO_bd2 hD hD' hrw r9 (by omega)
              have b2 := spI_bd2 hD hD' (show r9 < rw by omega) t9 (by omega)
              have hs3 : s2.toInt = spO Dt i j r9 + spI Dt i j r9 (t9 + 1) := by
                rw [es, q_prod2 (hD _ (by omega)) (hD _ (by omega)) (hD' _ (by omega)) (hD' _ (by omega)) (by rw [hs2]; exact bd_le (by omega) (bd_add b1 b2)), hs2, spI]
                omega
              refine lv_lstore_n (lv' := [(3, .long s2), (6, .int (nI t9)), (5, .int (nI r9)), (0, .ref (ad 183)), (1, .int (nI i)), (2, .int (nI j))]) hx hb d_SpectrumDeskModel_spreadOf_79 rfl hl (by decide) rfl (fun ls hl => ?_)
              refine lv_iinc (k := 1) (v := nI (t9 + 1)) (lv' := [(6, .int (nI (t9 + 1))), (3, .long s2), (5, .int (nI r9)), (0, .ref (ad 183)), (1, .int (nI i)), (2, .int (nI j))]) hx hb d_SpectrumDeskModel_spreadOf_80 hl rfl (nI_1 t9) (by decide) rfl (fun ls hl => ?_)
              refine lv_goto hx hb d_SpectrumDeskModel_spreadOf_83 rfl ?_
              have hl := lv_sub hl [0, 2, 1, 3, 4, 5] rfl
              have hl : lv_has ls 7 [(6, .int (nI (t9 + 1))), (5, .int (nI r9)), (3, .long s2), (0, .ref (ad 183)), (1, .int (nI i)), (2, .int (nI j))] := hl
              exact jh (t9 + 1) s2 ls H locs (by omega) hs3 hl I
        exact inner r9 0 sm9 ls _ _ (by omega) (by rw [hs]; simp [spI]) hl I
  exact outer rw 0 0 ls _ _ (by omega) rfl hl I
set_option maxHeartbeats 4000000 in
set_option maxRecDepth 100000 in
theorem c_SpectrumDeskModel_spread2 {l : Launch} {D : va_G} {cI cJ cZ cC cG cP : ClassId} {ad : Nat → Nat} {σ σb : Nat → va_E} {th : Int32} {n : Nat} {A9 : Nat → Int32} {rw : Nat} {Dt : Nat → Int32} {ps : Nat} {Pr : Nat → Int32} (hS : mS ad cI cZ σb th n A9 rw Dt ps Pr σ) (h3 : n ≤ 6) (hrw : rw ≤ 100) (hD : ∀ k, k < n → dO2 Dt rw k) :
    Met l y_SpectrumDeskModel_spread v_SpectrumDeskModel_spread (xrm 1) (va_Pc [.ref (ad 183)] (xS D classes (xT cI cJ cZ cC cG cP) 193 ad σ)) (va_Qi (fun r σ2 => ((∀ i j, i < n → j < n → isS (Int64.ofInt (spO Dt i j rw))) ∧ r = nI 0 ∧ mS ad cI cZ σb (nI 0) n (spA A9 (fun i j => (Int64.ofInt (spO Dt i j rw)).toInt32) n n 0) rw Dt ps Pr σ2) ∨ ((∃ i j, i < n ∧ j < n ∧ ¬ isS (Int64.ofInt (spO Dt i j rw))) ∧ r = -2 ∧ mS ad cI cZ σb (nI 0) n A9 rw Dt ps Pr σ2)) (xS D classes (xT cI cJ cZ cC cG cP) 193 ad) (xA 193 ad)) 0 0 (xA 193 ad) := by
  obtain ⟨s0, G, Dg, P, L, M, Z, le, eq, rfl, h187, h188, h189, h190, h191, hfb, hB⟩ := hS
  refine xr_met rfl (Nat.le_of_ble_eq_true rfl) ?_
  intro p e s m args below meth c ls hx hb X hr hlk hl I
  have hl : lv_has ls 4 [(0, .ref (ad 183))] := hl
  refine lv_aload_n hx hb d_SpectrumDeskModel_spread_0 rfl (lv_at hl 0 rfl) ?_
  refine lv_iconst (v := nI 0) hx hb d_SpectrumDeskModel_spread_1 (by decide) ?_
  refine xr_put (ty := .int) X I fin_M t_M t_M_ok n_M 183 (by decide) (r183 ..) rfl 4 (by decide) (List.mem_cons_of_mem _ k_90bbbe5d04) rfl rfl (by decide +kernel) rfl rfl (Nat.le_of_ble_eq_true rfl) d_SpectrumDeskModel_spread_2 (fun H locs I => ?_)
  rw [rw3_F] at I
  have I : xI D classes 193 ad s.heap (rw3 s0 ciM cI cZ (mfs ad (nI 0) (nI n) (nI rw) (nI ps) le eq) P L M) H locs := I
  refine lv_iconst (v := nI 1) hx hb d_SpectrumDeskModel_spread_5 (by decide) ?_
  refine lv_istore_n (lv' := [(1, .int (nI 1)), (0, .ref (ad 183))]) hx hb d_SpectrumDeskModel_spread_6 rfl hl (by decide) rfl (fun ls hl => ?_)
  refine lv_iconst (v := nI 0) hx hb d_SpectrumDeskModel_spread_7 (by decide) ?_
  refine lv_istore_n (lv' := [(2, .int (nI 0)), (1, .int (nI 1)), (0, .ref (ad 183))]) hx hb d_SpectrumDeskModel_spread_8 rfl hl (by decide) rfl (fun ls hl => ?_)
  have second : ∀ (hall : ∀ i j, i < n → j < n → isS (Int64.ofInt (spO Dt i j rw))) (k : Nat) (i : Nat) (ls : Array Slot) (H : Heap) (locs : List Loc), i + k = n → lv_has ls 4 [(2, .int (nI i)), (1, .int (nI 1)), (0, .ref (ad 183))] → xI D classes 193 ad s.heap (rw3 (va_up s0 188 (.inl (cI, 36, .inl (spA A9 (fun i j => (Int64.ofInt (spO Dt i j rw)).toInt32) n i 0)))) ciM cI cZ (mfs ad (nI 0) (nI n) (nI rw) (nI ps) le eq) P L M) H locs → W p l e (xrm 1) s m args below meth c H locs 0 0 (MQ below (va_Qi (fun r σ2 => ((∀ i j, i < n → j < n → isS (Int64.ofInt (spO Dt i j rw))) ∧ r = nI 0 ∧ mS ad cI cZ σb (nI 0) n (spA A9 (fun i j => (Int64.ofInt (spO Dt i j rw)).toInt32) n n 0) rw Dt ps Pr σ2) ∨ ((∃ i j, i < n ∧ j < n ∧ ¬ isS (Int64.ofInt (spO Dt i j rw))) ∧ r = -2 ∧ mS ad cI cZ σb (nI 0) n A9 rw Dt ps Pr σ2)) (xS D classes (xT cI cJ cZ cC cG cP) 193 ad) (xA 193 ad)) args s 0 0 (xA 193 ad)) (F0 m 63 ls []) := by
    intro hall k
    induction k with
    | zero =>
      intro i ls H locs hk hl I
      obtain rfl : i = n := by omega
      refine lv_iload_n hx hb d_SpectrumDeskModel_spread_63 rfl (lv_at hl 0 rfl) ?_
      refine lv_aload_n hx hb d_SpectrumDeskModel_spread_64 rfl (lv_at hl 2 rfl) ?_
      refine xr_get X I fin_M 183 (by decide) (r183 ..) rfl 5 (by decide) (List.mem_cons_of_mem _ k_b1a46e2c09) rfl rfl d_SpectrumDeskModel_spread_65 ?_
      refine lv_icmp_ge hx hb d_SpectrumDeskModel_spread_68 rfl (fun hc => ?_) (fun hc => ?_)
      · refine lv_iload_n hx hb d_SpectrumDeskModel_spread_115 rfl (lv_at hl 1 rfl) ?_
        refine lv_if_eq hx hb d_SpectrumDeskModel_spread_116 rfl (fun hq => ?_) (fun hq => ?_)
        · exact absurd hq (by decide)
        · refine lv_iconst (v := nI 0) hx hb d_SpectrumDeskModel_spread_119 (by decide) ?_
          refine lv_goto hx hb d_SpectrumDeskModel_spread_120 rfl ?_
          exact xr_iret X I hr hlk (Or.inl ⟨hall, rfl, ⟨va_up s0 188 (.inl (cI, 36, .inl (spA A9 (fun i j => (Int64.ofInt (spO Dt i j rw)).toInt32) i i 0))), G, Dg, P, L, M, Z, le, eq, rfl, ((va_up_ne _ _ (by decide)).trans h187), (va_up_self _ _ _), ((va_up_ne _ _ (by decide)).trans h189), ((va_up_ne _ _ (by decide)).trans h190), ((va_up_ne _ _ (by decide)).trans h191), (fun q hq => (va_up_ne _ _ (by omega)).trans (hfb q hq)), hB⟩⟩) d_SpectrumDeskModel_spread_125
      · exact absurd (nI_le (Nat.le_refl _) (by omega)) hc
    | succ k ih =>
      intro i ls H locs hk hl I
      refine lv_iload_n hx hb d_SpectrumDeskModel_spread_63 rfl (lv_at hl 0 rfl) ?_
      refine lv_aload_n hx hb d_SpectrumDeskModel_spread_64 rfl (lv_at hl 2 rfl) ?_
      refine xr_get X I fin_M 183 (by decide) (r183 ..) rfl 5 (by decide) (List.mem_cons_of_mem _ k_b1a46e2c09) rfl rfl d_SpectrumDeskModel_spread_65 ?_
      refine lv_icmp_ge hx hb d_SpectrumDeskModel_spread_68 rfl (fun hc => ?_) (fun hc => ?_)
      · exact absurd hc (nI_ge (by omega) (by omega))
      · refine lv_iload_n hx hb d_SpectrumDeskModel_spread_71 rfl (lv_at hl 1 rfl) ?_
        refine lv_if_eq hx hb d_SpectrumDeskModel_spread_72 rfl (fun hq => ?_) (fun hq => ?_)
        · exact absurd hq (by decide)
        · refine lv_iconst (v := nI 0) hx hb d_SpectrumDeskModel_spread_75 (by decide) ?_
          refine lv_istore_n (lv' := [(3, .int (nI 0)), (2, .int (nI i)), (1, .int (nI 1)), (0, .ref (ad 183))]) hx hb d_SpectrumDeskModel_spread_76 rfl hl (by decide) rfl (fun ls hl => ?_)
          have inner : ∀ (k2 : Nat) (e9 : Nat) (ls : Array Slot) (H : Heap) (locs : List Loc), e9 + k2 = n → lv_has ls 4 [(3, .int (nI e9)), (2, .int (nI i)), (1, .int (nI 1)), (0, .ref (ad 183))] → xI D classes 193 ad s.heap (rw3 (va_up s0 188 (.inl (cI, 36, .inl (spA A9 (fun i j => (Int64.ofInt (spO Dt i j rw)).toInt32) n i e9)))) ciM cI cZ (mfs ad (nI 0) (nI n) (nI rw) (nI ps) le eq) P L M) H locs → W p l e (xrm 1) s m args below meth c H locs 0 0 (MQ below (va_Qi (fun r σ2 => ((∀ i j, i < n → j < n → isS (Int64.ofInt (spO Dt i j rw))) ∧ r = nI 0 ∧ mS ad cI cZ σb (nI 0) n (spA A9 (fun i j => (Int64.ofInt (spO Dt i j rw)).toInt32) n n 0) rw Dt ps Pr σ2) ∨ ((∃ i j, i < n ∧ j < n ∧ ¬ isS (Int64.ofInt (spO Dt i j rw))) ∧ r = -2 ∧ mS ad cI cZ σb (nI 0) n A9 rw Dt ps Pr σ2)) (xS D classes (xT cI cJ cZ cC cG cP) 193 ad) (xA 193 ad)) args s 0 0 (xA 193 ad)) (F0 m 77 ls []) := by
            intro k2
            induction k2 with
            | zero =>
              intro e9 ls H locs hk2 hl I
              obtain rfl : e9 = n := by omega
              refine lv_iload_n hx hb d_SpectrumDeskModel_spread_77 rfl (lv_at hl 0 rfl) ?_
              refine lv_aload_n hx hb d_SpectrumDeskModel_spread_78 rfl (lv_at hl 3 rfl) ?_
              refine xr_get X I fin_M 183 (by decide) (r183 ..) rfl 5 (by decide) (List.mem_cons_of_mem _ k_b1a46e2c09) rfl rfl d_SpectrumDeskModel_spread_79 ?_
              refine lv_icmp_ge hx hb d_SpectrumDeskModel_spread_82 rfl (fun hd => ?_) (fun hd => ?_)
              · refine lv_iinc (k := 1) (v := nI (i + 1)) (lv' := [(2, .int (nI (i + 1))), (3, .int (nI e9)), (1, .int (nI 1)), (0, .ref (ad 183))]) hx hb d_SpectrumDeskModel_spread_109 hl rfl (nI_1 i) (by decide) rfl (fun ls hl => ?_)
                refine lv_goto hx hb d_SpectrumDeskModel_spread_112 rfl ?_
                have hl := lv_sub hl [0, 2, 3] rfl
                have hl : lv_has ls 4 [(2, .int (nI (i + 1))), (1, .int (nI 1)), (0, .ref (ad 183))] := hl
                rw [spA_e] at I
                exact ih (i + 1) ls H locs (by omega) hl I
              · exact absurd (nI_le (Nat.le_refl _) (by omega)) hd
            | succ k2 jh =>
              intro e9 ls H locs hk2 hl I
              refine lv_iload_n hx hb d_SpectrumDeskModel_spread_77 rfl (lv_at hl 0 rfl) ?_
              refine lv_aload_n hx hb d_SpectrumDeskModel_spread_78 rfl (lv_at hl 3 rfl) ?_
              refine xr_get X I fin_M 183 (by decide) (r183 ..) rfl 5 (by decide) (List.mem_cons_of_mem _ k_b1a46e2c09) rfl rfl d_SpectrumDeskModel_spread_79 ?_
              refine lv_icmp_ge hx hb d_SpectrumDeskModel_spread_82 rfl (fun hd => ?_) (fun hd => ?_)
              · exact absurd hd (nI_ge (by omega) (by omega))
              · refine lv_aload_n hx hb d_SpectrumDeskModel_spread_85 rfl (lv_at hl 3 rfl) ?_
                refine xr_get X I fin_M 183 (by decide) (r183 ..) rfl 6 (by decide) (List.mem_cons_of_mem _ k_78efd7a03a) rfl rfl d_SpectrumDeskModel_spread_86 ?_
                refine lv_bipush (v := nI 6) hx hb d_SpectrumDeskModel_spread_89 (by decide) ?_
                refine lv_iload_n hx hb d_SpectrumDeskModel_spread_91 rfl (lv_at hl 1 rfl) ?_
                refine lv_imul hx hb d_SpectrumDeskModel_spread_92 (xr_topi (y := nI (6 * i)) (pk_mul 6 i) ?_)
                refine lv_iload_n hx hb d_SpectrumDeskModel_spread_93 rfl (lv_at hl 0 rfl) ?_
                refine lv_iadd hx hb d_SpectrumDeskModel_spread_94 (xr_topi (y := nI ((6 * i) + e9)) (nI_add (6 * i) e9) ?_)
                refine lv_aload_n hx hb d_SpectrumDeskModel_spread_95 rfl (lv_at hl 3 rfl) ?_
                refine lv_iload_n hx hb d_SpectrumDeskModel_spread_96 rfl (lv_at hl 1 rfl) ?_
                refine lv_iload_n hx hb d_SpectrumDeskModel_spread_97 rfl (lv_at hl 0 rfl) ?_
                refine xr_calll (xr_runV (kc := 0) (kr := 1) (n := 2) (As := [.int (nI i), .int (nI e9)]) (rest := [.int (nI ((6 * i) + e9)), .ref (ad 188)]) X I (by decide) (r183 ..) rfl (c_SpectrumDeskModel_spreadOf2 (σb := σb) (i := i) (j := e9) ⟨va_up s0 188 (.inl (cI, 36, .inl (spA A9 (fun i j => (Int64.ofInt (spO Dt i j rw)).toInt32) n i e9))), _, _, _, _, _, _, _, _, rfl, ((va_up_ne _ _ (by decide)).trans h187), (va_up_self _ _ _), ((va_up_ne _ _ (by decide)).trans h189), ((va_up_ne _ _ (by decide)).trans h190), ((va_up_ne _ _ (by decide)).trans h191), (fun q hq => (va_up_ne _ _ (by omega)).trans (hfb q hq)), hB⟩ (by omega) (by omega) hrw (hD _ (by omega)) (hD _ (by omega))) (xg k_b741278a65) (List.mem_cons_of_mem _ k_273b82bc62) (List.mem_cons_of_mem _ k_9a2c73a50d) (List.mem_cons_of_mem _ k_db457d6b5e) (List.mem_cons_of_mem _ k_30fa15c9ac) (by decide +kernel) (by decide) rfl hl.1 rfl (Nat.le_of_ble_eq_true rfl) d_SpectrumDeskModel_spread_98) I (fun x1 σ9 H locs hp I => ?_)
                obtain ⟨e9x1, rfl⟩ := hp
                obtain rfl : x1 = Int64.ofInt (spO Dt i e9 rw) := q_ofInt e9x1
                refine lv_l2i hx hb d_SpectrumDeskModel_spread_101 rfl ?_
                refine xr_iast X I 188 0 (by decide) ((r_o (by decide)).trans (va_up_self _ _ _)) rfl (by omega) (by decide) d_SpectrumDeskModel_spread_102 (fun H locs I => ?_)
                rw [rw3_o (by decide)] at I
                rw [va_up_up, spA_s h3 (by omega)] at I
                refine lv_iinc (k := 0) (v := nI (e9 + 1)) (lv' := [(3, .int (nI (e9 + 1))), (2, .int (nI i)), (1, .int (nI 1)), (0, .ref (ad 183))]) hx hb d_SpectrumDeskModel_spread_103 hl rfl (nI_1 e9) (by decide) rfl (fun ls hl => ?_)
                refine lv_goto hx hb d_SpectrumDeskModel_spread_106 rfl ?_
                exact jh (e9 + 1) ls H locs (by omega) hl I
          exact inner n 0 ls _ _ (by omega) hl I
  have first : ∀ (k : Nat) (i fl : Nat) (ls : Array Slot) (H : Heap) (locs : List Loc), i + k = n → (fl = 1 ∧ (∀ a b, a < n → b < n → a < i ∨ a = i ∧ b < 0 → isS (Int64.ofInt (spO Dt a b rw))) ∨ fl = 0 ∧ ∃ a b, a < n ∧ b < n ∧ ¬ isS (Int64.ofInt (spO Dt a b rw))) → lv_has ls 4 [(2, .int (nI i)), (1, .int (nI fl)), (0, .ref (ad 183))] → xI D classes 193 ad s.heap (rw3 s0 ciM cI cZ (mfs ad (nI 0) (nI n) (nI rw) (nI ps) le eq) P L M) H locs → W p l e (xrm 1) s m args below meth c H locs 0 0 (MQ below (va_Qi (fun r σ2 => ((∀ i j, i < n → j < n → isS (Int64.ofInt (spO Dt i j rw))) ∧ r = nI 0 ∧ mS ad cI cZ σb (nI 0) n (spA A9 (fun i j => (Int64.ofInt (spO Dt i j rw)).toInt32) n n 0) rw Dt ps Pr σ2) ∨ ((∃ i j, i < n ∧ j < n ∧ ¬ isS (Int64.ofInt (spO Dt i j rw))) ∧ r = -2 ∧ mS ad cI cZ σb (nI 0) n A9 rw Dt ps Pr σ2)) (xS D classes (xT cI cJ cZ cC cG cP) 193 ad) (xA 193 ad)) args s 0 0 (xA 193 ad)) (F0 m 9 ls []) := by
    intro k
    induction k with
    | zero =>
      intro i fl ls H locs hk hfl hl I
      obtain rfl : i = n := by omega
      refine lv_iload_n hx hb d_SpectrumDeskModel_spread_9 rfl (lv_at hl 0 rfl) ?_
      refine lv_aload_n hx hb d_SpectrumDeskModel_spread_10 rfl (lv_at hl 2 rfl) ?_
      refine xr_get X I fin_M 183 (by decide) (r183 ..) rfl 5 (by decide) (List.mem_cons_of_mem _ k_b1a46e2c09) rfl rfl d_SpectrumDeskModel_spread_11 ?_
      refine lv_icmp_ge hx hb d_SpectrumDeskModel_spread_14 rfl (fun hc => ?_) (fun hc => ?_)
      · rcases hfl with ⟨rfl, hall⟩ | ⟨rfl, hex⟩
        · refine lv_iconst (v := nI 0) hx hb d_SpectrumDeskModel_spread_61 (by decide) ?_
          refine lv_istore_n (lv' := [(2, .int (nI 0)), (1, .int (nI 1)), (0, .ref (ad 183))]) hx hb d_SpectrumDeskModel_spread_62 rfl hl (by decide) rfl (fun ls hl => ?_)
          exact second (fun x y hx9 hy9 => hall x y hx9 hy9 (Or.inl hx9)) i 0 ls H locs (by omega) hl (by rw [spA_0, va_up_same h188]; exact I)
        · refine lv_iconst (v := nI 0) hx hb d_SpectrumDeskModel_spread_61 (by decide) ?_
          refine lv_istore_n (lv' := [(2, .int (nI 0)), (1, .int (nI 0)), (0, .ref (ad 183))]) hx hb d_SpectrumDeskModel_spread_62 rfl hl (by decide) rfl (fun ls hl => ?_)
          refine lv_iload_n hx hb d_SpectrumDeskModel_spread_63 rfl (lv_at hl 0 rfl) ?_
          refine lv_aload_n hx hb d_SpectrumDeskModel_spread_64 rfl (lv_at hl 2 rfl) ?_
          refine xr_get X I fin_M 183 (by decide) (r183 ..) rfl 5 (by decide) (List.mem_cons_of_mem _ k_b1a46e2c09) rfl rfl d_SpectrumDeskModel_spread_65 ?_
          refine lv_icmp_ge hx hb d_SpectrumDeskModel_spread_68 rfl (fun hh => ?_) (fun hh => ?_)
          · refine lv_iload_n hx hb d_SpectrumDeskModel_spread_115 rfl (lv_at hl 1 rfl) ?_
            refine lv_if_eq hx hb d_SpectrumDeskModel_spread_116 rfl (fun hq => ?_) (fun hq => ?_)
            · refine lv_bipush (v := (-2)) hx hb d_SpectrumDeskModel_spread_123 (by decide) ?_
              exact xr_iret X I hr hlk (Or.inr ⟨hex, rfl, ⟨s0, G, Dg, P, L, M, Z, le, eq, rfl, h187, h188, h189, h190, h191, hfb, hB⟩⟩) d_SpectrumDeskModel_spread_125
            · exact absurd rfl hq
          · refine lv_iload_n hx hb d_SpectrumDeskModel_spread_71 rfl (lv_at hl 1 rfl) ?_
            refine lv_if_eq hx hb d_SpectrumDeskModel_spread_72 rfl (fun hg => ?_) (fun hg => ?_)
            · refine lv_iload_n hx hb d_SpectrumDeskModel_spread_115 rfl (lv_at hl 1 rfl) ?_
              refine lv_if_eq hx hb d_SpectrumDeskModel_spread_116 rfl (fun hq => ?_) (fun hq => ?_)
              · refine lv_bipush (v := (-2)) hx hb d_SpectrumDeskModel_spread_123 (by decide) ?_
                exact xr_iret X I hr hlk (Or.inr ⟨hex, rfl, ⟨s0, G, Dg, P, L, M, Z, le, eq, rfl, h187, h188, h189, h190, h191, hfb, hB⟩⟩) d_SpectrumDeskModel_spread_125
              · exact absurd rfl hq
            · exact absurd rfl hg
      · exact absurd (nI_le (Nat.le_refl _) (by omega)) hc
    | succ k ih =>
      intro i fl ls H locs hk hfl hl I
      refine lv_iload_n hx hb d_SpectrumDeskModel_spread_9 rfl (lv_at hl 0 rfl) ?_
      refine lv_aload_n hx hb d_SpectrumDeskModel_spread_10 rfl (lv_at hl 2 rfl) ?_
      refine xr_get X I fin_M 183 (by decide) (r183 ..) rfl 5 (by decide) (List.mem_cons_of_mem _ k_b1a46e2c09) rfl rfl d_SpectrumDeskModel_spread_11 ?_
      refine lv_icmp_ge hx hb d_SpectrumDeskModel_spread_14 rfl (fun hc => ?_) (fun hc => ?_)
      · exact absurd hc (nI_ge (by omega) (by omega))
      · refine lv_iconst (v := nI 0) hx hb d_SpectrumDeskModel_spread_17 (by decide) ?_
        refine lv_istore_n (lv' := [(3, .int (nI 0)), (2, .int (nI i)), (1, .int (nI fl)), (0, .ref (ad 183))]) hx hb d_SpectrumDeskModel_spread_18 rfl hl (by decide) rfl (fun ls hl => ?_)
        have inner : ∀ (k2 : Nat) (e9 fl : Nat) (ls : Array Slot) (H : Heap) (locs : List Loc), e9 + k2 = n → (fl = 1 ∧ (∀ a b, a < n → b < n → a < i ∨ a = i ∧ b < e9 → isS (Int64.ofInt (spO Dt a b rw))) ∨ fl = 0 ∧ ∃ a b, a < n ∧ b < n ∧ ¬ isS (Int64.ofInt (spO Dt a b rw))) → lv_has ls 4 [(3, .int (nI e9)), (2, .int (nI i)), (1, .int (nI fl)), (0, .ref (ad 183))] → xI D classes 193 ad s.heap (rw3 s0 ciM cI cZ (mfs ad (nI 0) (nI n) (nI rw) (nI ps) le eq) P L M) H locs → W p l e (xrm 1) s m args below meth c H locs 0 0 (MQ below (va_Qi (fun r σ2 => ((∀ i j, i < n → j < n → isS (Int64.ofInt (spO Dt i j rw))) ∧ r = nI 0 ∧ mS ad cI cZ σb (nI 0) n (spA A9 (fun i j => (Int64.ofInt (spO Dt i j rw)).toInt32) n n 0) rw Dt ps Pr σ2) ∨ ((∃ i j, i < n ∧ j < n ∧ ¬ isS (Int64.ofInt (spO Dt i j rw))) ∧ r = -2 ∧ mS ad cI cZ σb (nI 0) n A9 rw Dt ps Pr σ2)) (xS D classes (xT cI cJ cZ cC cG cP) 193 ad) (xA 193 ad)) args s 0 0 (xA 193 ad)) (F0 m 19 ls []) := by
          intro k2
          induction k2 with
          | zero =>
            intro e9 fl ls H locs hk2 hfl2 hl I
            obtain rfl : e9 = n := by omega
            refine lv_iload_n hx hb d_SpectrumDeskModel_spread_19 rfl (lv_at hl 0 rfl) ?_
            refine lv_aload_n hx hb d_SpectrumDeskModel_spread_20 rfl (lv_at hl 3 rfl) ?_
            refine xr_get X I fin_M 183 (by decide) (r183 ..) rfl 5 (by decide) (List.mem_cons_of_mem _ k_b1a46e2c09) rfl rfl d_SpectrumDeskModel_spread_21 ?_
            refine lv_icmp_ge hx hb d_SpectrumDeskModel_spread_24 rfl (fun hd => ?_) (fun hd => ?_)
            · refine lv_iinc (k := 1) (v := nI (i + 1)) (lv' := [(2, .int (nI (i + 1))), (3, .int (nI e9)), (1, .int (nI fl)), (0, .ref (ad 183))]) hx hb d_SpectrumDeskModel_spread_55 hl rfl (nI_1 i) (by decide) rfl (fun ls hl => ?_)
              refine lv_goto hx hb d_SpectrumDeskModel_spread_58 rfl ?_
              have hl := lv_sub hl [0, 2, 3] rfl
              have hl : lv_has ls 4 [(2, .int (nI (i + 1))), (1, .int (nI fl)), (0, .ref (ad 183))] := hl
              exact ih (i + 1) fl ls H locs (by omega) (hfl2.elim (fun h => Or.inl ⟨h.1, fun a b ha hb hab => h.2 a b ha hb (by omega)⟩) Or.inr) hl I
            · exact absurd (nI_le (Nat.le_refl _) (by omega)) hd
          | succ k2 jh =>
            intro e9 fl ls H locs hk2 hfl2 hl I
            refine lv_iload_n hx hb d_SpectrumDeskModel_spread_19 rfl (lv_at hl 0 rfl) ?_
            refine lv_aload_n hx hb d_SpectrumDeskModel_spread_20 rfl (lv_at hl 3 rfl) ?_
            refine xr_get X I fin_M 183 (by decide) (r183 ..) rfl 5 (by decide) (List.mem_cons_of_mem _ k_b1a46e2c09) rfl rfl d_SpectrumDeskModel_spread_21 ?_
            refine lv_icmp_ge hx hb d_SpectrumDeskModel_spread_24 rfl (fun hd => ?_) (fun hd => ?_)
            · exact absurd hd (nI_ge (by omega) (by omega))
            · rcases hfl2 with ⟨rfl, hall⟩ | ⟨rfl, hex⟩
              · refine lv_iload_n hx hb d_SpectrumDeskModel_spread_27 rfl (lv_at hl 2 rfl) ?_
                refine lv_if_eq hx hb d_SpectrumDeskModel_spread_28 rfl (fun hq => ?_) (fun hq => ?_)
                · exact absurd hq (by decide)
                · refine lv_aload_n hx hb d_SpectrumDeskModel_spread_31 rfl (lv_at hl 3 rfl) ?_
                  refine lv_iload_n hx hb d_SpectrumDeskModel_spread_32 rfl (lv_at hl 1 rfl) ?_
                  refine lv_iload_n hx hb d_SpectrumDeskModel_spread_33 rfl (lv_at hl 0 rfl) ?_
                  refine xr_calll (xr_runV (kc := 0) (kr := 1) (n := 2) (As := [.int (nI i), .int (nI e9)]) (rest := []) X I (by decide) (r183 ..) rfl (c_SpectrumDeskModel_spreadOf2 (σb := σb) (i := i) (j := e9) ⟨s0, _, _, _, _, _, _, _, _, rfl, h187, h188, h189, h190, h191, hfb, hB⟩ (by omega) (by omega) hrw (hD _ (by omega)) (hD _ (by omega))) (xg k_b741278a65) (List.mem_cons_of_mem _ k_273b82bc62) (List.mem_cons_of_mem _ k_9a2c73a50d) (List.mem_cons_of_mem _ k_db457d6b5e) (List.mem_cons_of_mem _ k_30fa15c9ac) (by decide +kernel) (by decide) rfl hl.1 rfl (Nat.le_of_ble_eq_true rfl) d_SpectrumDeskModel_spread_34) I (fun x1 σ9 H locs hp I => ?_)
                  obtain ⟨e9x1, rfl⟩ := hp
                  obtain rfl : x1 = Int64.ofInt (spO Dt i e9 rw) := q_ofInt e9x1
                  by_cases hS9 : isS (Int64.ofInt (spO Dt i e9 rw))
                  · refine xr_calli (xr_runS (kc := 0) (kr := 1) (n := 1) (As := [.long (Int64.ofInt (spO Dt i e9 rw))]) (rest := []) X I (c_SpectrumDeskModel_isSmall_t hS9) (xg k_3f4b5a72d5) (List.mem_cons_of_mem _ k_2bf2c6597f) (List.mem_cons_of_mem _ k_95dfa36566) (List.mem_cons_of_mem _ k_30fa15c9ac) (by decide +kernel) (by decide) rfl hl.1 rfl (Nat.le_of_ble_eq_true rfl) d_SpectrumDeskModel_spread_37) I (fun r1 σ9 H locs hp I => ?_)
                    obtain ⟨rfl, h9⟩ := hp; rw [h9] at I; clear h9
                    refine lv_if_eq hx hb d_SpectrumDeskModel_spread_40 rfl (fun hq => ?_) (fun hq => ?_)
                    · exact absurd hq (by decide)
                    · refine lv_iconst (v := nI 1) hx hb d_SpectrumDeskModel_spread_43 (by decide) ?_
                      refine lv_goto hx hb d_SpectrumDeskModel_spread_44 rfl ?_
                      refine lv_istore_n (lv' := [(1, .int (nI 1)), (3, .int (nI e9)), (2, .int (nI i)), (0, .ref (ad 183))]) hx hb d_SpectrumDeskModel_spread_48 rfl hl (by decide) rfl (fun ls hl => ?_)
                      refine lv_iinc (k := 1) (v := nI (e9 + 1)) (lv' := [(3, .int (nI (e9 + 1))), (1, .int (nI 1)), (2, .int (nI i)), (0, .ref (ad 183))]) hx hb d_SpectrumDeskModel_spread_49 hl rfl (nI_1 e9) (by decide) rfl (fun ls hl => ?_)
                      refine lv_goto hx hb d_SpectrumDeskModel_spread_52 rfl ?_
                      have hl := lv_sub hl [0, 2, 1, 3] rfl
                      have hl : lv_has ls 4 [(3, .int (nI (e9 + 1))), (2, .int (nI i)), (1, .int (nI 1)), (0, .ref (ad 183))] := hl
                      exact jh (e9 + 1) 1 ls H locs (by omega) (Or.inl ⟨rfl, fun a b ha hb hab => if hx : a = i ∧ b = e9 then (by rw [hx.1, hx.2]; exact hS9) else hall a b ha hb (by omega)⟩) hl I
                  · refine xr_calli (xr_runS (kc := 0) (kr := 1) (n := 1) (As := [.long (Int64.ofInt (spO Dt i e9 rw))]) (rest := []) X I (c_SpectrumDeskModel_isSmall_f hS9) (xg k_3f4b5a72d5) (List.mem_cons_of_mem _ k_2bf2c6597f) (List.mem_cons_of_mem _ k_95dfa36566) (List.mem_cons_of_mem _ k_30fa15c9ac) (by decide +kernel) (by decide) rfl hl.1 rfl (Nat.le_of_ble_eq_true rfl) d_SpectrumDeskModel_spread_37) I (fun r1 σ9 H locs hp I => ?_)
                    obtain ⟨rfl, h9⟩ := hp; rw [h9] at I; clear h9
                    refine lv_if_eq hx hb d_SpectrumDeskModel_spread_40 rfl (fun hq => ?_) (fun hq => ?_)
                    · refine lv_iconst (v := nI 0) hx hb d_SpectrumDeskModel_spread_47 (by decide) ?_
                      refine lv_istore_n (lv' := [(1, .int (nI 0)), (3, .int (nI e9)), (2, .int (nI i)), (0, .ref (ad 183))]) hx hb d_SpectrumDeskModel_spread_48 rfl hl (by decide) rfl (fun ls hl => ?_)
                      refine lv_iinc (k := 1) (v := nI (e9 + 1)) (lv' := [(3, .int (nI (e9 + 1))), (1, .int (nI 0)), (2, .int (nI i)), (0, .ref (ad 183))]) hx hb d_SpectrumDeskModel_spread_49 hl rfl (nI_1 e9) (by decide) rfl (fun ls hl => ?_)
                      refine lv_goto hx hb d_SpectrumDeskModel_spread_52 rfl ?_
                      have hl := lv_sub hl [0, 2, 1, 3] rfl
                      have hl : lv_has ls 4 [(3, .int (nI (e9 + 1))), (2, .int (nI i)), (1, .int (nI 0)), (0, .ref (ad 183))] := hl
                      exact jh (e9 + 1) 0 ls H locs (by omega) (Or.inr ⟨rfl, i, e9, by omega, by omega, hS9⟩) hl I
                    · exact absurd rfl hq
              · refine lv_iload_n hx hb d_SpectrumDeskModel_spread_27 rfl (lv_at hl 2 rfl) ?_
                refine lv_if_eq hx hb d_SpectrumDeskModel_spread_28 rfl (fun hq => ?_) (fun hq => ?_)
                · refine lv_iconst (v := nI 0) hx hb d_SpectrumDeskModel_spread_47 (by decide) ?_
                  refine lv_istore_n (lv' := [(1, .int (nI 0)), (3, .int (nI e9)), (2, .int (nI i)), (0, .ref (ad 183))]) hx hb d_SpectrumDeskModel_spread_48 rfl hl (by decide) rfl (fun ls hl => ?_)
                  refine lv_iinc (k := 1) (v := nI (e9 + 1)) (lv' := [(3, .int (nI (e9 + 1))), (1, .int (nI 0)), (2, .int (nI i)), (0, .ref (ad 183))]) hx hb d_SpectrumDeskModel_spread_49 hl rfl (nI_1 e9) (by decide) rfl (fun ls hl => ?_)
                  refine lv_goto hx hb d_SpectrumDeskModel_spread_52 rfl ?_
                  have hl := lv_sub hl [0, 2, 1, 3] rfl
                  have hl : lv_has ls 4 [(3, .int (nI (e9 + 1))), (2, .int (nI i)), (1, .int (nI 0)), (0, .ref (ad 183))] := hl
                  exact jh (e9 + 1) 0 ls H locs (by omega) (Or.inr ⟨rfl, hex⟩) hl I
                · exact absurd rfl hq
        exact inner n 0 fl ls _ _ (by omega) hfl hl I
  exact first n 0 1 ls _ _ (by omega) (Or.inl ⟨rfl, fun a b _ _ h => by omega⟩) hl I
