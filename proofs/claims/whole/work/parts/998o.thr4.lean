/-! SpectrumDesk: the calls that throw (written by wip/gen) -/
theorem k_6186c30745 : (Jvm.Cond.classLink "SpectrumDesk" (47 : Nat) "java/lang/IllegalArgumentException") ∈ AW := aw_4 (List.mem_of_getElem? (i := 77) (by decide +kernel)) (by decide +kernel)
theorem k_a020b26738 : (Jvm.Cond.instantiable "java/lang/IllegalArgumentException" (6 : Nat)) ∈ AW := aw_2 (List.mem_of_getElem? (i := 82) (by decide +kernel)) (by decide +kernel)
theorem k_0e0f763531 : (Jvm.Cond.initialized "java/lang/IllegalArgumentException") ∈ AW := aw_1 (List.mem_of_getElem? (i := 14) (by decide +kernel)) (by decide +kernel)
theorem k_1c1cf432c5 : (Jvm.Cond.classLink "SpectrumDesk" (67 : Nat) "java/lang/IndexOutOfBoundsException") ∈ AW := aw_4 (List.mem_of_getElem? (i := 98) (by decide +kernel)) (by decide +kernel)
theorem k_ce61a77b3f : (Jvm.Cond.instantiable "java/lang/IndexOutOfBoundsException" (6 : Nat)) ∈ AW := aw_4 (List.mem_of_getElem? (i := 99) (by decide +kernel)) (by decide +kernel)
theorem k_6319df72ea : (Jvm.Cond.initialized "java/lang/IndexOutOfBoundsException") ∈ AW := aw_1 (List.mem_of_getElem? (i := 15) (by decide +kernel)) (by decide +kernel)
set_option maxHeartbeats 4000000 in
set_option maxRecDepth 100000 in
theorem t_SpectrumDesk_make {l : Launch} {D : va_G} {cI cJ cZ cC cG cP : ClassId} {N : Nat} {ad : Nat → Nat} {σ : Nat → va_E} (hfl : l.flags = Jvm.pinnedFlags ++ [Jvm.noTraceFlag]) {v : Int32} (hv : v < nI 1 ∨ nI 6 < v) :
    MetT l y_SpectrumDesk_make v_SpectrumDesk_make xt_rm (va_Pc [.ref (ad 0), .int v] (fun U => xS D classes (xT cI cJ cZ cC cG cP) N ad σ U ∧ xtOK (xA N ad) U)) xt_A (xS D classes (xT cI cJ cZ cC cG cP) N ad σ) := by
  refine xt_met rfl (Nat.le_of_ble_eq_true rfl) ?_
  intro p e s m args below meth c ls hx hb X hlk hno hT hl I
  have hl : lv_has ls 3 [(0, .ref (ad 0)), (1, .int v)] := hl
  refine lv_iload_n hx hb d_SpectrumDesk_make_0 rfl (lv_at hl 1 rfl) ?_
  refine lv_iconst (v := nI 1) hx hb d_SpectrumDesk_make_1 (by decide) ?_
  refine lv_icmp_lt hx hb d_SpectrumDesk_make_2 rfl (fun hc => ?_) (fun hc => ?_)
  · exact xt_throw hfl X I hT hno hlk (C := xt_A) (names := xt_up) (ic := 51) (icl := 47) (k := 49) (tx := "a matrix has 1 to 6 rows") (by decide +kernel) (by decide +kernel) (by decide) (List.mem_cons_of_mem _ k_6186c30745) (List.mem_cons_of_mem _ k_a020b26738) (List.mem_cons_of_mem _ k_0e0f763531) xt_inA (fun w hw => List.mem_cons_of_mem _ hw) hl.1 d_SpectrumDesk_make_11 d_SpectrumDesk_make_14 d_SpectrumDesk_make_15 d_SpectrumDesk_make_17 d_SpectrumDesk_make_20 ⟨by decide, by decide, by decide, by decide⟩
  · refine lv_iload_n hx hb d_SpectrumDesk_make_5 rfl (lv_at hl 1 rfl) ?_
    refine lv_bipush (v := nI 6) hx hb d_SpectrumDesk_make_6 (by decide) ?_
    refine lv_icmp_le hx hb d_SpectrumDesk_make_8 rfl (fun hd => ?_) (fun hd => ?_)
    · exact absurd hv (fun h => h.elim hc (fun h2 => Int32.not_le.mpr h2 hd))
    · exact xt_throw hfl X I hT hno hlk (C := xt_A) (names := xt_up) (ic := 51) (icl := 47) (k := 49) (tx := "a matrix has 1 to 6 rows") (by decide +kernel) (by decide +kernel) (by decide) (List.mem_cons_of_mem _ k_6186c30745) (List.mem_cons_of_mem _ k_a020b26738) (List.mem_cons_of_mem _ k_0e0f763531) xt_inA (fun w hw => List.mem_cons_of_mem _ hw) hl.1 d_SpectrumDesk_make_11 d_SpectrumDesk_make_14 d_SpectrumDesk_make_15 d_SpectrumDesk_make_17 d_SpectrumDesk_make_20 ⟨by decide, by decide, by decide, by decide⟩
set_option maxHeartbeats 4000000 in
set_option maxRecDepth 100000 in
theorem t_SpectrumDesk_put_1 {l : Launch} {D : va_G} {cI cJ cZ cC cG cP : ClassId} {N : Nat} {ad : Nat → Nat} {σ : Nat → va_E} (hfl : l.flags = Jvm.pinnedFlags ++ [Jvm.noTraceFlag]) {n : Nat} {st : Int32} (hN : N = 193) (hS0 : σ 0 = .inr (ciS, [.ref (ad 1), .ref (ad 8), .ref (ad 9), .ref (ad 18), .ref (ad 179), .int (nI n), .int st])) {i j v : Int32} (hi : (i < 0 ∨ nI n ≤ i)) :
    MetT l y_SpectrumDesk_put v_SpectrumDesk_put xt_rm (va_Pc [.ref (ad 0), .int i, .int j, .int v] (fun U => xS D classes (xT cI cJ cZ cC cG cP) N ad σ U ∧ xtOK (xA N ad) U)) xt_I (xS D classes (xT cI cJ cZ cC cG cP) N ad σ) := by
  refine xt_met rfl (Nat.le_of_ble_eq_true rfl) ?_
  intro p e s m args below meth c ls hx hb X hlk hno hT hl I
  have hl : lv_has ls 4 [(0, .ref (ad 0)), (1, .int i), (2, .int j), (3, .int v)] := hl
  refine lv_aload_n hx hb d_SpectrumDesk_put_0 rfl (lv_at hl 0 rfl) ?_
  refine lv_iload_n hx hb d_SpectrumDesk_put_1 rfl (lv_at hl 1 rfl) ?_
  refine xt_calli0 (xt_runV (kc := 0) (n := 1) (As := [.int i]) (rest := []) X I (by omega) hS0 rfl (c_SpectrumDesk_isIndex_p0 (i := i) hN hS0 hi) (xg k_c079286d93) (List.mem_cons_of_mem _ k_6f9ce34938) (List.mem_cons_of_mem _ k_61ce0833a3) (List.mem_cons_of_mem _ k_91970b1809) (List.mem_cons_of_mem _ k_6836736ab7) (by decide +kernel) (by decide) rfl hl.1 rfl (Nat.le_of_ble_eq_true rfl) d_SpectrumDesk_put_2) (fun r1 σ9 hp => ?_)
  obtain ⟨rfl, -⟩ := hp
  refine lv_if_eq hx hb d_SpectrumDesk_put_5 rfl (fun hc => ?_) (fun hc => ?_)
  · exact xt_throw hfl X I hT hno hlk (C := xt_I) (names := xt_up) (ic := 71) (icl := 67) (k := 69) (tx := "no such row or column") (by decide +kernel) (by decide +kernel) (by decide) (List.mem_cons_of_mem _ k_1c1cf432c5) (List.mem_cons_of_mem _ k_ce61a77b3f) (List.mem_cons_of_mem _ k_6319df72ea) xt_inI (fun w hw => List.mem_cons_of_mem _ hw) hl.1 d_SpectrumDesk_put_16 d_SpectrumDesk_put_19 d_SpectrumDesk_put_20 d_SpectrumDesk_put_22 d_SpectrumDesk_put_25 ⟨by decide, by decide, by decide, by decide⟩
  · exact absurd rfl hc
set_option maxHeartbeats 4000000 in
set_option maxRecDepth 100000 in
theorem t_SpectrumDesk_put_2 {l : Launch} {D : va_G} {cI cJ cZ cC cG cP : ClassId} {N : Nat} {ad : Nat → Nat} {σ : Nat → va_E} (hfl : l.flags = Jvm.pinnedFlags ++ [Jvm.noTraceFlag]) {n : Nat} {st : Int32} (hN : N = 193) (hS0 : σ 0 = .inr (ciS, [.ref (ad 1), .ref (ad 8), .ref (ad 9), .ref (ad 18), .ref (ad 179), .int (nI n), .int st])) {i : Nat} {j v : Int32} (hn : n ≤ 6) (hi : i < n) (hj : (j < 0 ∨ nI n ≤ j)) :
    MetT l y_SpectrumDesk_put v_SpectrumDesk_put xt_rm (va_Pc [.ref (ad 0), .int (nI i), .int j, .int v] (fun U => xS D classes (xT cI cJ cZ cC cG cP) N ad σ U ∧ xtOK (xA N ad) U)) xt_I (xS D classes (xT cI cJ cZ cC cG cP) N ad σ) := by
  refine xt_met rfl (Nat.le_of_ble_eq_true rfl) ?_
  intro p e s m args below meth c ls hx hb X hlk hno hT hl I
  have hl : lv_has ls 4 [(0, .ref (ad 0)), (1, .int (nI i)), (2, .int j), (3, .int v)] := hl
  refine lv_aload_n hx hb d_SpectrumDesk_put_0 rfl (lv_at hl 0 rfl) ?_
  refine lv_iload_n hx hb d_SpectrumDesk_put_1 rfl (lv_at hl 1 rfl) ?_
  refine xt_calli0 (xt_runV (kc := 0) (n := 1) (As := [.int (nI i)]) (rest := []) X I (by omega) hS0 rfl (c_SpectrumDesk_isIndex_p1 (i := i) hN hS0 hi hn) (xg k_c079286d93) (List.mem_cons_of_mem _ k_6f9ce34938) (List.mem_cons_of_mem _ k_61ce0833a3) (List.mem_cons_of_mem _ k_91970b1809) (List.mem_cons_of_mem _ k_6836736ab7) (by decide +kernel) (by decide) rfl hl.1 rfl (Nat.le_of_ble_eq_true rfl) d_SpectrumDesk_put_2) (fun r1 σ9 hp => ?_)
  obtain ⟨rfl, -⟩ := hp
  refine lv_if_eq hx hb d_SpectrumDesk_put_5 rfl (fun hc => ?_) (fun hc => ?_)
  · exact absurd hc (by decide)
  · refine lv_aload_n hx hb d_SpectrumDesk_put_8 rfl (lv_at hl 0 rfl) ?_
    refine lv_iload_n hx hb d_SpectrumDesk_put_9 rfl (lv_at hl 2 rfl) ?_
    refine xt_calli0 (xt_runV (kc := 0) (n := 1) (As := [.int j]) (rest := []) X I (by omega) hS0 rfl (c_SpectrumDesk_isIndex_p0 (i := j) hN hS0 hj) (xg k_c079286d93) (List.mem_cons_of_mem _ k_6f9ce34938) (List.mem_cons_of_mem _ k_61ce0833a3) (List.mem_cons_of_mem _ k_91970b1809) (List.mem_cons_of_mem _ k_6836736ab7) (by decide +kernel) (by decide) rfl hl.1 rfl (Nat.le_of_ble_eq_true rfl) d_SpectrumDesk_put_10) (fun r1 σ9 hp => ?_)
    obtain ⟨rfl, -⟩ := hp
    refine lv_if_ne hx hb d_SpectrumDesk_put_13 rfl (fun hd => ?_) (fun hd => ?_)
    · exact absurd rfl hd
    · exact xt_throw hfl X I hT hno hlk (C := xt_I) (names := xt_up) (ic := 71) (icl := 67) (k := 69) (tx := "no such row or column") (by decide +kernel) (by decide +kernel) (by decide) (List.mem_cons_of_mem _ k_1c1cf432c5) (List.mem_cons_of_mem _ k_ce61a77b3f) (List.mem_cons_of_mem _ k_6319df72ea) xt_inI (fun w hw => List.mem_cons_of_mem _ hw) hl.1 d_SpectrumDesk_put_16 d_SpectrumDesk_put_19 d_SpectrumDesk_put_20 d_SpectrumDesk_put_22 d_SpectrumDesk_put_25 ⟨by decide, by decide, by decide, by decide⟩
set_option maxHeartbeats 4000000 in
set_option maxRecDepth 100000 in
theorem t_SpectrumDesk_put_3 {l : Launch} {D : va_G} {cI cJ cZ cC cG cP : ClassId} {N : Nat} {ad : Nat → Nat} {σ : Nat → va_E} (hfl : l.flags = Jvm.pinnedFlags ++ [Jvm.noTraceFlag]) {n : Nat} {st : Int32} (hN : N = 193) (hS0 : σ 0 = .inr (ciS, [.ref (ad 1), .ref (ad 8), .ref (ad 9), .ref (ad 18), .ref (ad 179), .int (nI n), .int st])) {i j : Nat} {v : Int32} (hn : n ≤ 6) (hi : i < n) (hj : j < n) (hv : v.toInt > 1000000 ∨ v.toInt < -1000000) :
    MetT l y_SpectrumDesk_put v_SpectrumDesk_put xt_rm (va_Pc [.ref (ad 0), .int (nI i), .int (nI j), .int v] (fun U => xS D classes (xT cI cJ cZ cC cG cP) N ad σ U ∧ xtOK (xA N ad) U)) xt_A (xS D classes (xT cI cJ cZ cC cG cP) N ad σ) := by
  refine xt_met rfl (Nat.le_of_ble_eq_true rfl) ?_
  intro p e s m args below meth c ls hx hb X hlk hno hT hl I
  have hl : lv_has ls 4 [(0, .ref (ad 0)), (1, .int (nI i)), (2, .int (nI j)), (3, .int v)] := hl
  refine lv_aload_n hx hb d_SpectrumDesk_put_0 rfl (lv_at hl 0 rfl) ?_
  refine lv_iload_n hx hb d_SpectrumDesk_put_1 rfl (lv_at hl 1 rfl) ?_
  refine xt_calli0 (xt_runV (kc := 0) (n := 1) (As := [.int (nI i)]) (rest := []) X I (by omega) hS0 rfl (c_SpectrumDesk_isIndex_p1 (i := i) hN hS0 hi hn) (xg k_c079286d93) (List.mem_cons_of_mem _ k_6f9ce34938) (List.mem_cons_of_mem _ k_61ce0833a3) (List.mem_cons_of_mem _ k_91970b1809) (List.mem_cons_of_mem _ k_6836736ab7) (by decide +kernel) (by decide) rfl hl.1 rfl (Nat.le_of_ble_eq_true rfl) d_SpectrumDesk_put_2) (fun r1 σ9 hp => ?_)
  obtain ⟨rfl, -⟩ := hp
  refine lv_if_eq hx hb d_SpectrumDesk_put_5 rfl (fun hc => ?_) (fun hc => ?_)
  · exact absurd hc (by decide)
  · refine lv_aload_n hx hb d_SpectrumDesk_put_8 rfl (lv_at hl 0 rfl) ?_
    refine lv_iload_n hx hb d_SpectrumDesk_put_9 rfl (lv_at hl 2 rfl) ?_
    refine xt_calli0 (xt_runV (kc := 0) (n := 1) (As := [.int (nI j)]) (rest := []) X I (by omega) hS0 rfl (c_SpectrumDesk_isIndex_p1 (i := j) hN hS0 hj hn) (xg k_c079286d93) (List.mem_cons_of_mem _ k_6f9ce34938) (List.mem_cons_of_mem _ k_61ce0833a3) (List.mem_cons_of_mem _ k_91970b1809) (List.mem_cons_of_mem _ k_6836736ab7) (by decide +kernel) (by decide) rfl hl.1 rfl (Nat.le_of_ble_eq_true rfl) d_SpectrumDesk_put_10) (fun r1 σ9 hp => ?_)
    obtain ⟨rfl, -⟩ := hp
    refine lv_if_ne hx hb d_SpectrumDesk_put_13 rfl (fun hd => ?_) (fun hd => ?_)
    · refine lv_iload_n hx hb d_SpectrumDesk_put_26 rfl (lv_at hl 3 rfl) ?_
      refine lv_i2l hx hb d_SpectrumDesk_put_27 rfl ?_
      refine lv_ldc2 (v := 1000000) hx hb X.1.2.2.2.1 (X.1.2.2.2.2 _ (List.mem_cons_of_mem _ k_95d26a71b1)) d_SpectrumDesk_put_28 ?_
      refine xt_calli0 (xt_runS (kc := 0) (n := 2) (As := [.long ((v).toInt64), .long 1000000]) (rest := []) X I (c_SpectrumDesk_isTooLarge_p (v := v.toInt64) (b := 1000000) (by decide)) (xg k_8af4840bff) (List.mem_cons_of_mem _ k_6d288a6279) (List.mem_cons_of_mem _ k_e5a468ce78) (List.mem_cons_of_mem _ k_6836736ab7) (by decide +kernel) (by decide) rfl hl.1 rfl (Nat.le_of_ble_eq_true rfl) d_SpectrumDesk_put_31) (fun r2 σ9 hp => ?_)
      obtain ⟨er, -⟩ := hp
      rw [show (1000000 : Int64).toInt = 1000000 by decide, q_i2l, if_pos hv] at er
      subst er
      refine lv_if_eq hx hb d_SpectrumDesk_put_34 rfl (fun he => ?_) (fun he => ?_)
      · exact absurd he (by decide)
      · exact xt_throw hfl X I hT hno hlk (C := xt_A) (names := xt_up) (ic := 51) (icl := 47) (k := 78) (tx := "the number is too large") (by decide +kernel) (by decide +kernel) (by decide) (List.mem_cons_of_mem _ k_6186c30745) (List.mem_cons_of_mem _ k_a020b26738) (List.mem_cons_of_mem _ k_0e0f763531) xt_inA (fun w hw => List.mem_cons_of_mem _ hw) hl.1 d_SpectrumDesk_put_37 d_SpectrumDesk_put_40 d_SpectrumDesk_put_41 d_SpectrumDesk_put_43 d_SpectrumDesk_put_46 ⟨by decide, by decide, by decide, by decide⟩
    · exact absurd hd (by decide)
set_option maxHeartbeats 4000000 in
set_option maxRecDepth 100000 in
theorem t_SpectrumDesk_at_1 {l : Launch} {D : va_G} {cI cJ cZ cC cG cP : ClassId} {N : Nat} {ad : Nat → Nat} {σ : Nat → va_E} (hfl : l.flags = Jvm.pinnedFlags ++ [Jvm.noTraceFlag]) {n : Nat} {st : Int32} (hN : N = 193) (hS0 : σ 0 = .inr (ciS, [.ref (ad 1), .ref (ad 8), .ref (ad 9), .ref (ad 18), .ref (ad 179), .int (nI n), .int st])) {i j : Int32} (hi : (i < 0 ∨ nI n ≤ i)) :
    MetT l y_SpectrumDesk_at v_SpectrumDesk_at xt_rm (va_Pc [.ref (ad 0), .int i, .int j] (fun U => xS D classes (xT cI cJ cZ cC cG cP) N ad σ U ∧ xtOK (xA N ad) U)) xt_I (xS D classes (xT cI cJ cZ cC cG cP) N ad σ) := by
  refine xt_met rfl (Nat.le_of_ble_eq_true rfl) ?_
  intro p e s m args below meth c ls hx hb X hlk hno hT hl I
  have hl : lv_has ls 3 [(0, .ref (ad 0)), (1, .int i), (2, .int j)] := hl
  refine lv_aload_n hx hb d_SpectrumDesk_at_0 rfl (lv_at hl 0 rfl) ?_
  refine lv_iload_n hx hb d_SpectrumDesk_at_1 rfl (lv_at hl 1 rfl) ?_
  refine xt_calli0 (xt_runV (kc := 0) (n := 1) (As := [.int i]) (rest := []) X I (by omega) hS0 rfl (c_SpectrumDesk_isIndex_p0 (i := i) hN hS0 hi) (xg k_c079286d93) (List.mem_cons_of_mem _ k_6f9ce34938) (List.mem_cons_of_mem _ k_61ce0833a3) (List.mem_cons_of_mem _ k_91970b1809) (List.mem_cons_of_mem _ k_6836736ab7) (by decide +kernel) (by decide) rfl hl.1 rfl (Nat.le_of_ble_eq_true rfl) d_SpectrumDesk_at_2) (fun r1 σ9 hp => ?_)
  obtain ⟨rfl, -⟩ := hp
  refine lv_if_eq hx hb d_SpectrumDesk_at_5 rfl (fun hc => ?_) (fun hc => ?_)
  · exact xt_throw hfl X I hT hno hlk (C := xt_I) (names := xt_up) (ic := 71) (icl := 67) (k := 69) (tx := "no such row or column") (by decide +kernel) (by decide +kernel) (by decide) (List.mem_cons_of_mem _ k_1c1cf432c5) (List.mem_cons_of_mem _ k_ce61a77b3f) (List.mem_cons_of_mem _ k_6319df72ea) xt_inI (fun w hw => List.mem_cons_of_mem _ hw) hl.1 d_SpectrumDesk_at_16 d_SpectrumDesk_at_19 d_SpectrumDesk_at_20 d_SpectrumDesk_at_22 d_SpectrumDesk_at_25 ⟨by decide, by decide, by decide, by decide⟩
  · exact absurd rfl hc
set_option maxHeartbeats 4000000 in
set_option maxRecDepth 100000 in
theorem t_SpectrumDesk_at_2 {l : Launch} {D : va_G} {cI cJ cZ cC cG cP : ClassId} {N : Nat} {ad : Nat → Nat} {σ : Nat → va_E} (hfl : l.flags = Jvm.pinnedFlags ++ [Jvm.noTraceFlag]) {n : Nat} {st : Int32} (hN : N = 193) (hS0 : σ 0 = .inr (ciS, [.ref (ad 1), .ref (ad 8), .ref (ad 9), .ref (ad 18), .ref (ad 179), .int (nI n), .int st])) {i : Nat} {j : Int32} (hn : n ≤ 6) (hi : i < n) (hj : (j < 0 ∨ nI n ≤ j)) :
    MetT l y_SpectrumDesk_at v_SpectrumDesk_at xt_rm (va_Pc [.ref (ad 0), .int (nI i), .int j] (fun U => xS D classes (xT cI cJ cZ cC cG cP) N ad σ U ∧ xtOK (xA N ad) U)) xt_I (xS D classes (xT cI cJ cZ cC cG cP) N ad σ) := by
  refine xt_met rfl (Nat.le_of_ble_eq_true rfl) ?_
  intro p e s m args below meth c ls hx hb X hlk hno hT hl I
  have hl : lv_has ls 3 [(0, .ref (ad 0)), (1, .int (nI i)), (2, .int j)] := hl
  refine lv_aload_n hx hb d_SpectrumDesk_at_0 rfl (lv_at hl 0 rfl) ?_
  refine lv_iload_n hx hb d_SpectrumDesk_at_1 rfl (lv_at hl 1 rfl) ?_
  refine xt_calli0 (xt_runV (kc := 0) (n := 1) (As := [.int (nI i)]) (rest := []) X I (by omega) hS0 rfl (c_SpectrumDesk_isIndex_p1 (i := i) hN hS0 hi hn) (xg k_c079286d93) (List.mem_cons_of_mem _ k_6f9ce34938) (List.mem_cons_of_mem _ k_61ce0833a3) (List.mem_cons_of_mem _ k_91970b1809) (List.mem_cons_of_mem _ k_6836736ab7) (by decide +kernel) (by decide) rfl hl.1 rfl (Nat.le_of_ble_eq_true rfl) d_SpectrumDesk_at_2) (fun r1 σ9 hp => ?_)
  obtain ⟨rfl, -⟩ := hp
  refine lv_if_eq hx hb d_SpectrumDesk_at_5 rfl (fun hc => ?_) (fun hc => ?_)
  · exact absurd hc (by decide)
  · refine lv_aload_n hx hb d_SpectrumDesk_at_8 rfl (lv_at hl 0 rfl) ?_
    refine lv_iload_n hx hb d_SpectrumDesk_at_9 rfl (lv_at hl 2 rfl) ?_
    refine xt_calli0 (xt_runV (kc := 0) (n := 1) (As := [.int j]) (rest := []) X I (by omega) hS0 rfl (c_SpectrumDesk_isIndex_p0 (i := j) hN hS0 hj) (xg k_c079286d93) (List.mem_cons_of_mem _ k_6f9ce34938) (List.mem_cons_of_mem _ k_61ce0833a3) (List.mem_cons_of_mem _ k_91970b1809) (List.mem_cons_of_mem _ k_6836736ab7) (by decide +kernel) (by decide) rfl hl.1 rfl (Nat.le_of_ble_eq_true rfl) d_SpectrumDesk_at_10) (fun r1 σ9 hp => ?_)
    obtain ⟨rfl, -⟩ := hp
    refine lv_if_ne hx hb d_SpectrumDesk_at_13 rfl (fun hd => ?_) (fun hd => ?_)
    · exact absurd rfl hd
    · exact xt_throw hfl X I hT hno hlk (C := xt_I) (names := xt_up) (ic := 71) (icl := 67) (k := 69) (tx := "no such row or column") (by decide +kernel) (by decide +kernel) (by decide) (List.mem_cons_of_mem _ k_1c1cf432c5) (List.mem_cons_of_mem _ k_ce61a77b3f) (List.mem_cons_of_mem _ k_6319df72ea) xt_inI (fun w hw => List.mem_cons_of_mem _ hw) hl.1 d_SpectrumDesk_at_16 d_SpectrumDesk_at_19 d_SpectrumDesk_at_20 d_SpectrumDesk_at_22 d_SpectrumDesk_at_25 ⟨by decide, by decide, by decide, by decide⟩
set_option maxHeartbeats 4000000 in
set_option maxRecDepth 100000 in
theorem t_SpectrumDesk_cell {l : Launch} {D : va_G} {cI cJ cZ cC cG cP : ClassId} {N : Nat} {ad : Nat → Nat} {σ : Nat → va_E} (hfl : l.flags = Jvm.pinnedFlags ++ [Jvm.noTraceFlag]) {n : Nat} {st : Int32} (hN : N = 193) (hS0 : σ 0 = .inr (ciS, [.ref (ad 1), .ref (ad 8), .ref (ad 9), .ref (ad 18), .ref (ad 179), .int (nI n), .int st])) {i w9 : Int32} (hi : (i < 0 ∨ nI n ≤ i)) :
    MetT l y_SpectrumDesk_cell v_SpectrumDesk_cell xt_rm (va_Pc [.ref (ad 0), .int i, .int w9] (fun U => xS D classes (xT cI cJ cZ cC cG cP) N ad σ U ∧ xtOK (xA N ad) U)) xt_I (xS D classes (xT cI cJ cZ cC cG cP) N ad σ) := by
  refine xt_met rfl (Nat.le_of_ble_eq_true rfl) ?_
  intro p e s m args below meth c ls hx hb X hlk hno hT hl I
  have hl : lv_has ls 3 [(0, .ref (ad 0)), (1, .int i), (2, .int w9)] := hl
  refine lv_aload_n hx hb d_SpectrumDesk_cell_0 rfl (lv_at hl 0 rfl) ?_
  refine lv_iload_n hx hb d_SpectrumDesk_cell_1 rfl (lv_at hl 1 rfl) ?_
  refine xt_calli0 (xt_runV (kc := 0) (n := 1) (As := [.int i]) (rest := []) X I (by omega) hS0 rfl (c_SpectrumDesk_isIndex_p0 (i := i) hN hS0 hi) (xg k_c079286d93) (List.mem_cons_of_mem _ k_6f9ce34938) (List.mem_cons_of_mem _ k_61ce0833a3) (List.mem_cons_of_mem _ k_91970b1809) (List.mem_cons_of_mem _ k_6836736ab7) (by decide +kernel) (by decide) rfl hl.1 rfl (Nat.le_of_ble_eq_true rfl) d_SpectrumDesk_cell_2) (fun r1 σ9 hp => ?_)
  obtain ⟨rfl, -⟩ := hp
  refine lv_if_ne hx hb d_SpectrumDesk_cell_5 rfl (fun hc => ?_) (fun hc => ?_)
  · exact absurd rfl hc
  · exact xt_throw hfl X I hT hno hlk (C := xt_I) (names := xt_up) (ic := 71) (icl := 67) (k := 136) (tx := "no such eigenvalue") (by decide +kernel) (by decide +kernel) (by decide) (List.mem_cons_of_mem _ k_1c1cf432c5) (List.mem_cons_of_mem _ k_ce61a77b3f) (List.mem_cons_of_mem _ k_6319df72ea) xt_inI (fun w hw => List.mem_cons_of_mem _ hw) hl.1 d_SpectrumDesk_cell_8 d_SpectrumDesk_cell_11 d_SpectrumDesk_cell_12 d_SpectrumDesk_cell_14 d_SpectrumDesk_cell_17 ⟨by decide, by decide, by decide, by decide⟩
set_option maxHeartbeats 4000000 in
set_option maxRecDepth 100000 in
theorem t_SpectrumDesk_cell_2 {l : Launch} {D : va_G} {cI cJ cZ cC cG cP : ClassId} {N : Nat} {ad : Nat → Nat} {σ : Nat → va_E} (hfl : l.flags = Jvm.pinnedFlags ++ [Jvm.noTraceFlag]) {n : Nat} {st : Int32} (hN : N = 193) (hS0 : σ 0 = .inr (ciS, [.ref (ad 1), .ref (ad 8), .ref (ad 9), .ref (ad 18), .ref (ad 179), .int (nI n), .int st])) {i : Nat} {w9 : Int32} (hn : n ≤ 6) (hi : i < n) (hw : w9 < 0 ∨ nI 30 < w9) :
    MetT l y_SpectrumDesk_cell v_SpectrumDesk_cell xt_rm (va_Pc [.ref (ad 0), .int (nI i), .int w9] (fun U => xS D classes (xT cI cJ cZ cC cG cP) N ad σ U ∧ xtOK (xA N ad) U)) xt_A (xS D classes (xT cI cJ cZ cC cG cP) N ad σ) := by
  refine xt_met rfl (Nat.le_of_ble_eq_true rfl) ?_
  intro p e s m args below meth c ls hx hb X hlk hno hT hl I
  have hl : lv_has ls 3 [(0, .ref (ad 0)), (1, .int (nI i)), (2, .int w9)] := hl
  refine lv_aload_n hx hb d_SpectrumDesk_cell_0 rfl (lv_at hl 0 rfl) ?_
  refine lv_iload_n hx hb d_SpectrumDesk_cell_1 rfl (lv_at hl 1 rfl) ?_
  refine xt_calli0 (xt_runV (kc := 0) (n := 1) (As := [.int (nI i)]) (rest := []) X I (by omega) hS0 rfl (c_SpectrumDesk_isIndex_p1 (i := i) hN hS0 hi hn) (xg k_c079286d93) (List.mem_cons_of_mem _ k_6f9ce34938) (List.mem_cons_of_mem _ k_61ce0833a3) (List.mem_cons_of_mem _ k_91970b1809) (List.mem_cons_of_mem _ k_6836736ab7) (by decide +kernel) (by decide) rfl hl.1 rfl (Nat.le_of_ble_eq_true rfl) d_SpectrumDesk_cell_2) (fun r1 σ9 hp => ?_)
  obtain ⟨rfl, -⟩ := hp
  refine lv_if_ne hx hb d_SpectrumDesk_cell_5 rfl (fun hc => ?_) (fun hc => ?_)
  · refine lv_iload_n hx hb d_SpectrumDesk_cell_18 rfl (lv_at hl 2 rfl) ?_
    refine lv_if_lt hx hb d_SpectrumDesk_cell_19 rfl (fun hd => ?_) (fun hd => ?_)
    · exact xt_throw hfl X I hT hno hlk (C := xt_A) (names := xt_up) (ic := 51) (icl := 47) (k := 138) (tx := "no such grid") (by decide +kernel) (by decide +kernel) (by decide) (List.mem_cons_of_mem _ k_6186c30745) (List.mem_cons_of_mem _ k_a020b26738) (List.mem_cons_of_mem _ k_0e0f763531) xt_inA (fun w hw => List.mem_cons_of_mem _ hw) hl.1 d_SpectrumDesk_cell_28 d_SpectrumDesk_cell_31 d_SpectrumDesk_cell_32 d_SpectrumDesk_cell_34 d_SpectrumDesk_cell_37 ⟨by decide, by decide, by decide, by decide⟩
    · refine lv_iload_n hx hb d_SpectrumDesk_cell_22 rfl (lv_at hl 2 rfl) ?_
      refine lv_bipush (v := nI 30) hx hb d_SpectrumDesk_cell_23 (by decide) ?_
      refine lv_icmp_le hx hb d_SpectrumDesk_cell_25 rfl (fun he => ?_) (fun he => ?_)
      · exact absurd hw (fun h => h.elim hd (fun h2 => Int32.not_le.mpr h2 he))
      · exact xt_throw hfl X I hT hno hlk (C := xt_A) (names := xt_up) (ic := 51) (icl := 47) (k := 138) (tx := "no such grid") (by decide +kernel) (by decide +kernel) (by decide) (List.mem_cons_of_mem _ k_6186c30745) (List.mem_cons_of_mem _ k_a020b26738) (List.mem_cons_of_mem _ k_0e0f763531) xt_inA (fun w hw => List.mem_cons_of_mem _ hw) hl.1 d_SpectrumDesk_cell_28 d_SpectrumDesk_cell_31 d_SpectrumDesk_cell_32 d_SpectrumDesk_cell_34 d_SpectrumDesk_cell_37 ⟨by decide, by decide, by decide, by decide⟩
  · exact absurd hc (by decide)
set_option maxHeartbeats 4000000 in
set_option maxRecDepth 100000 in
theorem t_SpectrumDesk_multiplicity {l : Launch} {D : va_G} {cI cJ cZ cC cG cP : ClassId} {N : Nat} {ad : Nat → Nat} {σ : Nat → va_E} (hfl : l.flags = Jvm.pinnedFlags ++ [Jvm.noTraceFlag]) {n : Nat} {st : Int32} (hN : N = 193) (hS0 : σ 0 = .inr (ciS, [.ref (ad 1), .ref (ad 8), .ref (ad 9), .ref (ad 18), .ref (ad 179), .int (nI n), .int st])) {i : Int32} (hi : (i < 0 ∨ nI n ≤ i)) :
    MetT l y_SpectrumDesk_multiplicity v_SpectrumDesk_multiplicity xt_rm (va_Pc [.ref (ad 0), .int i] (fun U => xS D classes (xT cI cJ cZ cC cG cP) N ad σ U ∧ xtOK (xA N ad) U)) xt_I (xS D classes (xT cI cJ cZ cC cG cP) N ad σ) := by
  refine xt_met rfl (Nat.le_of_ble_eq_true rfl) ?_
  intro p e s m args below meth c ls hx hb X hlk hno hT hl I
  have hl : lv_has ls 3 [(0, .ref (ad 0)), (1, .int i)] := hl
  refine lv_aload_n hx hb d_SpectrumDesk_multiplicity_0 rfl (lv_at hl 0 rfl) ?_
  refine lv_iload_n hx hb d_SpectrumDesk_multiplicity_1 rfl (lv_at hl 1 rfl) ?_
  refine xt_calli0 (xt_runV (kc := 0) (n := 1) (As := [.int i]) (rest := []) X I (by omega) hS0 rfl (c_SpectrumDesk_isIndex_p0 (i := i) hN hS0 hi) (xg k_c079286d93) (List.mem_cons_of_mem _ k_6f9ce34938) (List.mem_cons_of_mem _ k_61ce0833a3) (List.mem_cons_of_mem _ k_91970b1809) (List.mem_cons_of_mem _ k_6836736ab7) (by decide +kernel) (by decide) rfl hl.1 rfl (Nat.le_of_ble_eq_true rfl) d_SpectrumDesk_multiplicity_2) (fun r1 σ9 hp => ?_)
  obtain ⟨rfl, -⟩ := hp
  refine lv_if_ne hx hb d_SpectrumDesk_multiplicity_5 rfl (fun hc => ?_) (fun hc => ?_)
  · exact absurd rfl hc
  · exact xt_throw hfl X I hT hno hlk (C := xt_I) (names := xt_up) (ic := 71) (icl := 67) (k := 136) (tx := "no such eigenvalue") (by decide +kernel) (by decide +kernel) (by decide) (List.mem_cons_of_mem _ k_1c1cf432c5) (List.mem_cons_of_mem _ k_ce61a77b3f) (List.mem_cons_of_mem _ k_6319df72ea) xt_inI (fun w hw => List.mem_cons_of_mem _ hw) hl.1 d_SpectrumDesk_multiplicity_8 d_SpectrumDesk_multiplicity_11 d_SpectrumDesk_multiplicity_12 d_SpectrumDesk_multiplicity_14 d_SpectrumDesk_multiplicity_17 ⟨by decide, by decide, by decide, by decide⟩
set_option maxHeartbeats 4000000 in
set_option maxRecDepth 100000 in
theorem t_SpectrumDesk_whole {l : Launch} {D : va_G} {cI cJ cZ cC cG cP : ClassId} {N : Nat} {ad : Nat → Nat} {σ : Nat → va_E} (hfl : l.flags = Jvm.pinnedFlags ++ [Jvm.noTraceFlag]) {n : Nat} {st : Int32} (hN : N = 193) (hS0 : σ 0 = .inr (ciS, [.ref (ad 1), .ref (ad 8), .ref (ad 9), .ref (ad 18), .ref (ad 179), .int (nI n), .int st])) {i : Int32} (hi : (i < 0 ∨ nI n ≤ i)) :
    MetT l y_SpectrumDesk_whole v_SpectrumDesk_whole xt_rm (va_Pc [.ref (ad 0), .int i] (fun U => xS D classes (xT cI cJ cZ cC cG cP) N ad σ U ∧ xtOK (xA N ad) U)) xt_I (xS D classes (xT cI cJ cZ cC cG cP) N ad σ) := by
  refine xt_met rfl (Nat.le_of_ble_eq_true rfl) ?_
  intro p e s m args below meth c ls hx hb X hlk hno hT hl I
  have hl : lv_has ls 2 [(0, .ref (ad 0)), (1, .int i)] := hl
  refine lv_aload_n hx hb d_SpectrumDesk_whole_0 rfl (lv_at hl 0 rfl) ?_
  refine lv_iload_n hx hb d_SpectrumDesk_whole_1 rfl (lv_at hl 1 rfl) ?_
  refine xt_calli0 (xt_runV (kc := 0) (n := 1) (As := [.int i]) (rest := []) X I (by omega) hS0 rfl (c_SpectrumDesk_isIndex_p0 (i := i) hN hS0 hi) (xg k_c079286d93) (List.mem_cons_of_mem _ k_6f9ce34938) (List.mem_cons_of_mem _ k_61ce0833a3) (List.mem_cons_of_mem _ k_91970b1809) (List.mem_cons_of_mem _ k_6836736ab7) (by decide +kernel) (by decide) rfl hl.1 rfl (Nat.le_of_ble_eq_true rfl) d_SpectrumDesk_whole_2) (fun r1 σ9 hp => ?_)
  obtain ⟨rfl, -⟩ := hp
  refine lv_if_ne hx hb d_SpectrumDesk_whole_5 rfl (fun hc => ?_) (fun hc => ?_)
  · exact absurd rfl hc
  · exact xt_throw hfl X I hT hno hlk (C := xt_I) (names := xt_up) (ic := 71) (icl := 67) (k := 136) (tx := "no such eigenvalue") (by decide +kernel) (by decide +kernel) (by decide) (List.mem_cons_of_mem _ k_1c1cf432c5) (List.mem_cons_of_mem _ k_ce61a77b3f) (List.mem_cons_of_mem _ k_6319df72ea) xt_inI (fun w hw => List.mem_cons_of_mem _ hw) hl.1 d_SpectrumDesk_whole_8 d_SpectrumDesk_whole_11 d_SpectrumDesk_whole_12 d_SpectrumDesk_whole_14 d_SpectrumDesk_whole_17 ⟨by decide, by decide, by decide, by decide⟩
set_option maxHeartbeats 4000000 in
set_option maxRecDepth 100000 in
theorem t_SpectrumDesk_count {l : Launch} {D : va_G} {cI cJ cZ cC cG cP : ClassId} {N : Nat} {ad : Nat → Nat} {σ : Nat → va_E} (hfl : l.flags = Jvm.pinnedFlags ++ [Jvm.noTraceFlag]) {n : Nat} {st : Int32} (hN : N = 193) (hS0 : σ 0 = .inr (ciS, [.ref (ad 1), .ref (ad 8), .ref (ad 9), .ref (ad 18), .ref (ad 179), .int (nI n), .int st])) {k9 wy : Int32} {tp bt : Int64} (hbad : k9 < nI 1 ∨ nI n < k9 ∨ wy < 0 ∨ nI 2 < wy ∨ ¬ 0 < bt) :
    MetT l y_SpectrumDesk_count v_SpectrumDesk_count xt_rm (va_Pc [.ref (ad 0), .int k9, .long tp, .long bt, .int wy] (fun U => xS D classes (xT cI cJ cZ cC cG cP) N ad σ U ∧ xtOK (xA N ad) U)) xt_A (xS D classes (xT cI cJ cZ cC cG cP) N ad σ) := by
  refine xt_met rfl (Nat.le_of_ble_eq_true rfl) ?_
  intro p e s m args below meth c ls hx hb X hlk hno hT hl I
  have hl : lv_has ls 8 [(0, .ref (ad 0)), (1, .int k9), (2, .long tp), (4, .long bt), (6, .int wy)] := hl
  refine lv_iload_n hx hb d_SpectrumDesk_count_0 rfl (lv_at hl 1 rfl) ?_
  refine lv_iconst (v := nI 1) hx hb d_SpectrumDesk_count_1 (by decide) ?_
  refine lv_icmp_lt hx hb d_SpectrumDesk_count_2 rfl (fun hc => ?_) (fun hc => ?_)
  · exact xt_throw hfl X I hT hno hlk (C := xt_A) (names := xt_up) (ic := 51) (icl := 47) (k := 116) (tx := "no such first rows and columns") (by decide +kernel) (by decide +kernel) (by decide) (List.mem_cons_of_mem _ k_6186c30745) (List.mem_cons_of_mem _ k_a020b26738) (List.mem_cons_of_mem _ k_0e0f763531) xt_inA (fun w hw => List.mem_cons_of_mem _ hw) hl.1 d_SpectrumDesk_count_13 d_SpectrumDesk_count_16 d_SpectrumDesk_count_17 d_SpectrumDesk_count_19 d_SpectrumDesk_count_22 ⟨by decide, by decide, by decide, by decide⟩
  · refine lv_iload_n hx hb d_SpectrumDesk_count_5 rfl (lv_at hl 1 rfl) ?_
    refine lv_aload_n hx hb d_SpectrumDesk_count_6 rfl (lv_at hl 0 rfl) ?_
    refine xr_get X I fin_S 0 (by omega) hS0 rfl 5 (by decide) (List.mem_cons_of_mem _ k_7fc62aa415) rfl rfl d_SpectrumDesk_count_7 ?_
    refine lv_icmp_le hx hb d_SpectrumDesk_count_10 rfl (fun hd => ?_) (fun hd => ?_)
    · refine lv_iload hx hb d_SpectrumDesk_count_23 (lv_at hl 4 rfl) ?_
      refine lv_if_lt hx hb d_SpectrumDesk_count_25 rfl (fun he => ?_) (fun he => ?_)
      · exact xt_throw hfl X I hT hno hlk (C := xt_A) (names := xt_up) (ic := 51) (icl := 47) (k := 118) (tx := "no such way to count") (by decide +kernel) (by decide +kernel) (by decide) (List.mem_cons_of_mem _ k_6186c30745) (List.mem_cons_of_mem _ k_a020b26738) (List.mem_cons_of_mem _ k_0e0f763531) xt_inA (fun w hw => List.mem_cons_of_mem _ hw) hl.1 d_SpectrumDesk_count_34 d_SpectrumDesk_count_37 d_SpectrumDesk_count_38 d_SpectrumDesk_count_40 d_SpectrumDesk_count_43 ⟨by decide, by decide, by decide, by decide⟩
      · refine lv_iload hx hb d_SpectrumDesk_count_28 (lv_at hl 4 rfl) ?_
        refine lv_iconst (v := nI 2) hx hb d_SpectrumDesk_count_30 (by decide) ?_
        refine lv_icmp_le hx hb d_SpectrumDesk_count_31 rfl (fun hf => ?_) (fun hf => ?_)
        · refine lv_lload hx hb d_SpectrumDesk_count_44 (lv_at hl 3 rfl) ?_
          refine lv_lconst (v := 0) hx hb d_SpectrumDesk_count_46 (by decide) ?_
          refine W.lcmp hx hb d_SpectrumDesk_count_47 ?_
          refine lv_if_gt hx hb d_SpectrumDesk_count_48 rfl (fun hg => ?_) (fun hg => ?_)
          · exact absurd hbad (fun h => h.elim hc (fun h => h.elim (fun h2 => Int32.not_le.mpr h2 hd) (fun h => h.elim he (fun h => h.elim (fun h2 => Int32.not_le.mpr h2 hf) (fun h2 => h2 ((lg_cmp_gt _ _).mp hg))))))
          · exact xt_throw hfl X I hT hno hlk (C := xt_A) (names := xt_up) (ic := 51) (icl := 47) (k := 120) (tx := "the bottom of a fraction is above 0") (by decide +kernel) (by decide +kernel) (by decide) (List.mem_cons_of_mem _ k_6186c30745) (List.mem_cons_of_mem _ k_a020b26738) (List.mem_cons_of_mem _ k_0e0f763531) xt_inA (fun w hw => List.mem_cons_of_mem _ hw) hl.1 d_SpectrumDesk_count_51 d_SpectrumDesk_count_54 d_SpectrumDesk_count_55 d_SpectrumDesk_count_57 d_SpectrumDesk_count_60 ⟨by decide, by decide, by decide, by decide⟩
        · exact xt_throw hfl X I hT hno hlk (C := xt_A) (names := xt_up) (ic := 51) (icl := 47) (k := 118) (tx := "no such way to count") (by decide +kernel) (by decide +kernel) (by decide) (List.mem_cons_of_mem _ k_6186c30745) (List.mem_cons_of_mem _ k_a020b26738) (List.mem_cons_of_mem _ k_0e0f763531) xt_inA (fun w hw => List.mem_cons_of_mem _ hw) hl.1 d_SpectrumDesk_count_34 d_SpectrumDesk_count_37 d_SpectrumDesk_count_38 d_SpectrumDesk_count_40 d_SpectrumDesk_count_43 ⟨by decide, by decide, by decide, by decide⟩
    · exact xt_throw hfl X I hT hno hlk (C := xt_A) (names := xt_up) (ic := 51) (icl := 47) (k := 116) (tx := "no such first rows and columns") (by decide +kernel) (by decide +kernel) (by decide) (List.mem_cons_of_mem _ k_6186c30745) (List.mem_cons_of_mem _ k_a020b26738) (List.mem_cons_of_mem _ k_0e0f763531) xt_inA (fun w hw => List.mem_cons_of_mem _ hw) hl.1 d_SpectrumDesk_count_13 d_SpectrumDesk_count_16 d_SpectrumDesk_count_17 d_SpectrumDesk_count_19 d_SpectrumDesk_count_22 ⟨by decide, by decide, by decide, by decide⟩
