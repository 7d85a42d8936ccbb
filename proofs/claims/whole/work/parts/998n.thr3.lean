/-! SpectrumDesk: isIndex, isTooLarge write nothing (written by wip/gen) -/

set_option maxHeartbeats 4000000 in
set_option maxRecDepth 100000 in
theorem c_SpectrumDesk_isIndex_p1 {l : Launch} {D : va_G} {cI cJ cZ cC cG cP : ClassId} {N : Nat} {ad : Nat → Nat} {σ : Nat → va_E} {n : Nat} {st : Int32} (hN : N = 193) (hS0 : σ 0 = .inr (ciS, [.ref (ad 1), .ref (ad 8), .ref (ad 9), .ref (ad 18), .ref (ad 179), .int (nI n), .int st])) {i : Nat} (hi : i < n) (hn : n ≤ 6) :
    Met l y_SpectrumDesk_isIndex v_SpectrumDesk_isIndex (xrm 0) (va_Pc [.ref (ad 0), .int (nI i)] (xS D classes (xT cI cJ cZ cC cG cP) N ad σ)) (va_Qi (fun r σ2 => r = nI 1 ∧ σ2 = σ) (xS D classes (xT cI cJ cZ cC cG cP) N ad) xt_none) 0 0 xt_none := by
  refine xr_met rfl (Nat.le_of_ble_eq_true rfl) ?_
  intro p e s m args below meth c ls hx hb X hr hlk hl I
  have hl : lv_has ls 2 [(0, .ref (ad 0)), (1, .int (nI i))] := hl
  refine lv_iload_n hx hb d_SpectrumDesk_isIndex_0 rfl (lv_at hl 1 rfl) ?_
  refine lv_if_lt hx hb d_SpectrumDesk_isIndex_1 rfl (fun hc => ?_) (fun hc => ?_)
  · exact absurd hc (nI_pos (by omega))
  · refine lv_iload_n hx hb d_SpectrumDesk_isIndex_4 rfl (lv_at hl 1 rfl) ?_
    refine lv_aload_n hx hb d_SpectrumDesk_isIndex_5 rfl (lv_at hl 0 rfl) ?_
    refine xr_get X I fin_S 0 (by omega) hS0 rfl 5 (by decide) (List.mem_cons_of_mem _ k_7fc62aa415) rfl rfl d_SpectrumDesk_isIndex_6 ?_
    refine lv_icmp_ge hx hb d_SpectrumDesk_isIndex_9 rfl (fun hc => ?_) (fun hc => ?_)
    · exact absurd hc (nI_ge hi (by omega))
    · refine lv_iconst (v := nI 1) hx hb d_SpectrumDesk_isIndex_12 (by decide) ?_
      refine lv_goto hx hb d_SpectrumDesk_isIndex_13 rfl ?_
      exact xr_zret0 X I hr hlk (by decide +kernel) ⟨rfl, rfl⟩ d_SpectrumDesk_isIndex_17
set_option maxHeartbeats 4000000 in
set_option maxRecDepth 100000 in
theorem c_SpectrumDesk_isIndex_p0 {l : Launch} {D : va_G} {cI cJ cZ cC cG cP : ClassId} {N : Nat} {ad : Nat → Nat} {σ : Nat → va_E} {n : Nat} {st : Int32} (hN : N = 193) (hS0 : σ 0 = .inr (ciS, [.ref (ad 1), .ref (ad 8), .ref (ad 9), .ref (ad 18), .ref (ad 179), .int (nI n), .int st])) {i : Int32} (hi : i < 0 ∨ nI n ≤ i) :
    Met l y_SpectrumDesk_isIndex v_SpectrumDesk_isIndex (xrm 0) (va_Pc [.ref (ad 0), .int i] (xS D classes (xT cI cJ cZ cC cG cP) N ad σ)) (va_Qi (fun r σ2 => r = nI 0 ∧ σ2 = σ) (xS D classes (xT cI cJ cZ cC cG cP) N ad) xt_none) 0 0 xt_none := by
  refine xr_met rfl (Nat.le_of_ble_eq_true rfl) ?_
  intro p e s m args below meth c ls hx hb X hr hlk hl I
  have hl : lv_has ls 2 [(0, .ref (ad 0)), (1, .int i)] := hl
  refine lv_iload_n hx hb d_SpectrumDesk_isIndex_0 rfl (lv_at hl 1 rfl) ?_
  refine lv_if_lt hx hb d_SpectrumDesk_isIndex_1 rfl (fun hc => ?_) (fun hc => ?_)
  · refine lv_iconst (v := nI 0) hx hb d_SpectrumDesk_isIndex_16 (by decide) ?_
    exact xr_zret0 X I hr hlk (by decide +kernel) ⟨rfl, rfl⟩ d_SpectrumDesk_isIndex_17
  · refine lv_iload_n hx hb d_SpectrumDesk_isIndex_4 rfl (lv_at hl 1 rfl) ?_
    refine lv_aload_n hx hb d_SpectrumDesk_isIndex_5 rfl (lv_at hl 0 rfl) ?_
    refine xr_get X I fin_S 0 (by omega) hS0 rfl 5 (by decide) (List.mem_cons_of_mem _ k_7fc62aa415) rfl rfl d_SpectrumDesk_isIndex_6 ?_
    refine lv_icmp_ge hx hb d_SpectrumDesk_isIndex_9 rfl (fun hd => ?_) (fun hd => ?_)
    · refine lv_iconst (v := nI 0) hx hb d_SpectrumDesk_isIndex_16 (by decide) ?_
      exact xr_zret0 X I hr hlk (by decide +kernel) ⟨rfl, rfl⟩ d_SpectrumDesk_isIndex_17
    · exact absurd hi (fun h => h.elim hc hd)
set_option maxHeartbeats 4000000 in
set_option maxRecDepth 100000 in
theorem c_SpectrumDesk_isTooLarge_p {l : Launch} {D : va_G} {cI cJ cZ cC cG cP : ClassId} {N : Nat} {ad : Nat → Nat} {σ : Nat → va_E} {v b : Int64} (hb9 : 0 ≤ b.toInt) :
    Met l y_SpectrumDesk_isTooLarge v_SpectrumDesk_isTooLarge (xrm 0) (va_Pc [.long v, .long b] (xS D classes (xT cI cJ cZ cC cG cP) N ad σ)) (va_Qi (fun r σ2 => r = (if v.toInt > b.toInt ∨ v.toInt < -b.toInt then nI 1 else nI 0) ∧ σ2 = σ) (xS D classes (xT cI cJ cZ cC cG cP) N ad) xt_none) 0 0 xt_none := by
  refine xr_met rfl (Nat.le_of_ble_eq_true rfl) ?_
  intro p e s m args below meth c ls hx hb X hr hlk hl I
  have hl : lv_has ls 4 [(0, .long v), (2, .long b)] := hl
  have hnb : (-b).toInt = -b.toInt := q_lneg (by omega)
  refine lv_lload_n hx hb d_SpectrumDesk_isTooLarge_0 rfl (lv_at hl 0 rfl) ?_
  refine lv_lload_n hx hb d_SpectrumDesk_isTooLarge_1 rfl (lv_at hl 1 rfl) ?_
  refine W.lcmp hx hb d_SpectrumDesk_isTooLarge_2 ?_
  refine lv_if_gt hx hb d_SpectrumDesk_isTooLarge_3 rfl (fun hc => ?_) (fun hc => ?_)
  · refine lv_iconst (v := nI 1) hx hb d_SpectrumDesk_isTooLarge_13 (by decide) ?_
    refine lv_goto hx hb d_SpectrumDesk_isTooLarge_14 rfl ?_
    exact xr_zret0 X I hr hlk (by decide +kernel) ⟨by rw [if_pos (Or.inl (Int64.lt_iff_toInt_lt.mp ((lg_cmp_gt _ _).mp hc)))], rfl⟩ d_SpectrumDesk_isTooLarge_18
  · refine lv_lload_n hx hb d_SpectrumDesk_isTooLarge_6 rfl (lv_at hl 0 rfl) ?_
    refine lv_lload_n hx hb d_SpectrumDesk_isTooLarge_7 rfl (lv_at hl 1 rfl) ?_
    refine lv_lneg hx hb d_SpectrumDesk_isTooLarge_8 ?_
    refine W.lcmp hx hb d_SpectrumDesk_isTooLarge_9 ?_
    refine lv_if_ge hx hb d_SpectrumDesk_isTooLarge_10 rfl (fun hd => ?_) (fun hd => ?_)
    · refine lv_iconst (v := nI 0) hx hb d_SpectrumDesk_isTooLarge_17 (by decide) ?_
      exact xr_zret0 X I hr hlk (by decide +kernel) ⟨by rw [if_neg (fun h => h.elim (fun h => hc ((lg_cmp_gt _ _).mpr (Int64.lt_iff_toInt_lt.mpr h))) (fun h => by have k := Int64.le_iff_toInt_le.mp ((lg_cmp_ge _ _).mp hd); rw [hnb] at k; omega))], rfl⟩ d_SpectrumDesk_isTooLarge_18
    · refine lv_iconst (v := nI 1) hx hb d_SpectrumDesk_isTooLarge_13 (by decide) ?_
      refine lv_goto hx hb d_SpectrumDesk_isTooLarge_14 rfl ?_
      exact xr_zret0 X I hr hlk (by decide +kernel) ⟨by rw [if_pos (Or.inr (by rcases Int.lt_or_le v.toInt (-b.toInt) with h | h; exact h; exact absurd ((lg_cmp_ge _ _).mpr (Int64.le_iff_toInt_le.mpr (by rw [hnb]; exact h))) hd))], rfl⟩ d_SpectrumDesk_isTooLarge_18
