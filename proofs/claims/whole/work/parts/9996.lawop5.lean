/-! the law, call by call (written by wip/gen) -/
theorem k_3be4be1dc8 : (Jvm.Cond.methodLink "SpectrumDeskLaw" (80 : Nat) ({ cls := "SpectrumDesk", name := "characteristic", desc := "(I)I" } : Jvm.MethodName)) ∈ AW := aw_2 (List.mem_of_getElem? (i := 12) (by decide +kernel)) (by decide +kernel)
theorem k_50d8369c0a : (Jvm.Cond.instanceMethod ({ cls := "SpectrumDesk", name := "characteristic", desc := "(I)I" } : Jvm.MethodName)) ∈ AW := aw_2 (List.mem_of_getElem? (i := 13) (by decide +kernel)) (by decide +kernel)
theorem k_5cba21eaba : (Jvm.Cond.selects "SpectrumDesk" ({ cls := "SpectrumDesk", name := "characteristic", desc := "(I)I" } : Jvm.MethodName) ({ cls := "SpectrumDesk", name := "characteristic", desc := "(I)I" } : Jvm.MethodName)) ∈ AW := aw_2 (List.mem_of_getElem? (i := 14) (by decide +kernel)) (by decide +kernel)
theorem k_711bce72fb : (Jvm.Cond.methodLink "SpectrumDeskLaw" (83 : Nat) ({ cls := "SpectrumDeskModel", name := "characteristic", desc := "(I)I" } : Jvm.MethodName)) ∈ AW := aw_5 (List.mem_of_getElem? (i := 28) (by decide +kernel)) (by decide +kernel)
theorem k_76ffe7e42b : (Jvm.Cond.instanceMethod ({ cls := "SpectrumDeskModel", name := "characteristic", desc := "(I)I" } : Jvm.MethodName)) ∈ AW := aw_5 (List.mem_of_getElem? (i := 29) (by decide +kernel)) (by decide +kernel)
theorem k_dce00bfb8a : (Jvm.Cond.selects "SpectrumDeskModel" ({ cls := "SpectrumDeskModel", name := "characteristic", desc := "(I)I" } : Jvm.MethodName) ({ cls := "SpectrumDeskModel", name := "characteristic", desc := "(I)I" } : Jvm.MethodName)) ∈ AW := aw_5 (List.mem_of_getElem? (i := 30) (by decide +kernel)) (by decide +kernel)
set_option maxHeartbeats 4000000 in
set_option maxRecDepth 100000 in
theorem lop_characteristic {p : Program} {l : Launch} {e : Env} {s : State} {m : MethodId} {args : Array Value} {below : List Frame} {meth : Method} {c : Code} {Q : State → Prop} {H : Heap} {cells slots : Nat} {ls : Array Slot} {D : va_G} {cI cJ cZ cC cG cP : ClassId} {ad : Nat → Nat} {σ : Nat → va_E} {b L i : Nat} {xs : Nat → Int32} (hx : p.tables.exec = Jvm.exec) (hb : c.code = b_law) (X : xX p c b_law 8 s args (wl :: AW) "SpectrumDeskLaw" m D classes (xT cI cJ cZ cC cG cP) ) (hz : ∀ k, s.heap.size ≤ ad k) (hT : xtOK (xA 193 ad) s) (hfl : l.flags = Jvm.pinnedFlags ++ [Jvm.noTraceFlag]) (hX : va_X b L xs s s.heap) (hbl : b < s.heap.size) (hL : L ≤ 3584) (hi : i + 7 ≤ L) (hR : cells + 1 ≤ room_1.cells ∧ slots + 6 ≤ room_1.slots) (hMT : MATH) (hl : lv_has ls 8 [(0, .ref b), (1, .ref (ad 0)), (2, .ref (ad 183)), (3, .ref (ad 192)), (4, .int (nI i))]) (hI : LI ad cI cJ cZ cC cG cP σ) (I : xI D classes 193 ad s.heap σ H [])
    (kk : ∀ (ls : Array Slot) (σ : Nat → va_E) (H : Heap), lv_has ls 8 [(0, .ref b), (1, .ref (ad 0)), (2, .ref (ad 183)), (3, .ref (ad 192)), (4, .int (nI i))] → LI ad cI cJ cZ cC cG cP σ → xI D classes 193 ad s.heap σ H [] → W p l e room_1 s m args below meth c H [] (cells + 1) (slots + 6) Q (F0 m 867 ls [])) :
    W p l e room_1 s m args below meth c H [] cells slots Q (F0 m 434 ls []) := by
  obtain ⟨n, st, A, rw, S, P, ln, Tx, A9, Dt, Pr, th, fo, h1n, hn6, hCK, hm, ho, hLR⟩ := hI
  obtain ⟨fs9, hfs⟩ := mS_o hm
  have hR0 : cells ≤ room_1.cells ∧ slots ≤ room_1.slots := ⟨by omega, by omega⟩
  obtain ⟨q1, q2, q3, q4, q5⟩ := id hCK
  obtain ⟨r1_, r2_, r3_, r4_, r5_, r6_, r7_, r8_, r9_⟩ := id hLR
  obtain ⟨mV, mC, mK, mD, fu, mfu, mR⟩ := hMT n A A9 h1n hn6 r1_ r2_ r3_
  obtain ⟨V, hgd, hst⟩ := hCK.V mV
  obtain ⟨mc, mm, mw, ma⟩ := mR V hgd
  by_cases hv1 : xs (i + 1) < 0 ∨ nI n < xs (i + 1)
  · refine lv_aload_n hx hb d_law_434 rfl (lv_at hl 1 rfl) ?_
    refine lv_aload_n hx hb d_law_435 rfl (lv_at hl 0 rfl) ?_
    refine lv_iload hx hb d_law_436 (lv_at hl 4 rfl) ?_
    refine lv_iconst (v := nI 1) hx hb d_law_438 (by decide) ?_
    refine lv_iadd hx hb d_law_439 (xr_topi (y := nI (i + 1)) (nI_add i 1) ?_)
    refine xq_sld X I hz hX hbl (i := i + 1) (by omega) (by omega) d_law_440 ?_
    refine xq_calli hz (xq_runV (kc := 0) (n := 1) (As := [.int (xs (i + 1))]) (rest := []) X I (by decide) q1 rfl (c_SpectrumDesk_characteristic_bad rfl q1 hv1) (xg k_19de140e33) (List.mem_cons_of_mem _ k_3be4be1dc8) (List.mem_cons_of_mem _ k_50d8369c0a) (List.mem_cons_of_mem _ k_5cba21eaba) (List.mem_cons_of_mem _ k_6836736ab7) (by decide +kernel) (by decide) rfl hl.1 rfl (Nat.le_of_ble_eq_true rfl) d_law_441 hR0) I (fun r1 σ1 H hp I => ?_)
    obtain ⟨rfl, h9⟩ := hp; rw [h9] at I; clear h9
    refine lv_aload_n hx hb d_law_444 rfl (lv_at hl 2 rfl) ?_
    refine lv_aload_n hx hb d_law_445 rfl (lv_at hl 0 rfl) ?_
    refine lv_iload hx hb d_law_446 (lv_at hl 4 rfl) ?_
    refine lv_iconst (v := nI 1) hx hb d_law_448 (by decide) ?_
    refine lv_iadd hx hb d_law_449 (xr_topi (y := nI (i + 1)) (nI_add i 1) ?_)
    refine xq_sld X I hz hX hbl (i := i + 1) (by omega) (by omega) d_law_450 ?_
    refine xq_calli hz (xq_runV (kc := 0) (n := 1) (As := [.int (xs (i + 1))]) (rest := [.int (-1)]) X I (by decide) hfs rfl (c_SpectrumDeskModel_characteristic_bad hm hv1) (xg k_d1beb13a82) (List.mem_cons_of_mem _ k_711bce72fb) (List.mem_cons_of_mem _ k_76ffe7e42b) (List.mem_cons_of_mem _ k_dce00bfb8a) (List.mem_cons_of_mem _ k_30fa15c9ac) (by decide +kernel) (by decide) rfl hl.1 rfl (Nat.le_of_ble_eq_true rfl) d_law_451 hR0) I (fun r2 σ2 H hp I => ?_)
    obtain ⟨rfl, hm2⟩ := hp
    refine lv_icmp_eq hx hb d_law_454 rfl (fun hc => ?_) (fun hc => ?_)
    · exact W.widen (by omega) (by omega) (kk ls _ _ hl ⟨n, st, A, rw, S, P, ln, Tx, A9, Dt, Pr, (nI 0), fo, h1n, hn6, hCK.same hn6 (fun q hq => mS_out hm2 q (Or.inl hq)), mS_in hm2 (fun _ _ _ => rfl), (mS_out hm2 192 (Or.inr (by decide))).trans ho, hLR⟩ I)
    · exact absurd rfl hc
  · obtain ⟨a9, ha9, -, hla⟩ := nI_btw 0 n (by omega) hv1
    obtain ⟨mk1, mk2⟩ := mK a9 hla
    refine lv_aload_n hx hb d_law_434 rfl (lv_at hl 1 rfl) ?_
    refine lv_aload_n hx hb d_law_435 rfl (lv_at hl 0 rfl) ?_
    refine lv_iload hx hb d_law_436 (lv_at hl 4 rfl) ?_
    refine lv_iconst (v := nI 1) hx hb d_law_438 (by decide) ?_
    refine lv_iadd hx hb d_law_439 (xr_topi (y := nI (i + 1)) (nI_add i 1) ?_)
    refine xq_sld X I hz hX hbl (i := i + 1) (by omega) (by omega) d_law_440 ?_
    refine xr_topi (y := nI a9) ha9 ?_
    refine xq_calli hz (xq_runV (kc := 8) (n := 1) (As := [.int (nI a9)]) (rest := []) X I (by decide) q1 rfl (c_SpectrumDesk_characteristic_ok rfl q1 h1n hn6 q2 r1_ hgd q4 hst q3 hla mk2) (xg k_19de140e33) (List.mem_cons_of_mem _ k_3be4be1dc8) (List.mem_cons_of_mem _ k_50d8369c0a) (List.mem_cons_of_mem _ k_5cba21eaba) (List.mem_cons_of_mem _ k_6836736ab7) (by decide +kernel) (by decide) rfl hl.1 rfl (Nat.le_of_ble_eq_true rfl) d_law_441 hR0) I (fun r1 σ1 H hp I => ?_)
    obtain ⟨rk, k8, T', σ8, hu, k1, dl1, e1, dk1, t1, t2⟩ := hp
    have k2 : ∀ q, q ≠ 0 → q < 18 ∨ 183 ≤ q → σ1 q = σ q := fun q a b => (k1 q (by omega)).trans (hu.1 q a (by omega))
    have hm1 : mS ad cI cZ σ1 th n A9 rw Dt ln Pr σ1 := mS_in hm (fun q _ _ => k2 q (by omega) (by omega))
    obtain ⟨fs7, hfs1⟩ := mS_o hm1
    have ck1 : CK ad cI cJ cZ cC cG cP σ1 n (nI 0) A rw S P ((if pB (iA A) n a9 < 0 then 1 else 0) + k8) T' := ⟨(k1 0 (by omega)).trans hu.2.1, mat_same q2 (k2 1 (by decide) (by omega)) (fun q _ _ => k2 q (by omega) (by omega)), dk1, spZ_all hu.2.2.1 (fun q _ _ => k1 q (by omega)), Or.inl ⟨rfl, V, rk, hgd, spV_all hu.2.2.2 hn6 (fun q _ _ => k1 q (by omega))⟩⟩
    refine lv_aload_n hx hb d_law_444 rfl (lv_at hl 2 rfl) ?_
    refine lv_aload_n hx hb d_law_445 rfl (lv_at hl 0 rfl) ?_
    refine lv_iload hx hb d_law_446 (lv_at hl 4 rfl) ?_
    refine lv_iconst (v := nI 1) hx hb d_law_448 (by decide) ?_
    refine lv_iadd hx hb d_law_449 (xr_topi (y := nI (i + 1)) (nI_add i 1) ?_)
    refine xq_sld X I hz hX hbl (i := i + 1) (by omega) (by omega) d_law_450 ?_
    refine xr_topi (y := nI a9) ha9 ?_
    refine xq_calli hz (xq_runV (kc := 5) (n := 1) (As := [.int (nI a9)]) (rest := [.int r1]) X I (by decide) hfs1 rfl (c_SpectrumDeskModel_characteristic_ok (pp := cF A9 n) hm1 rfl hn6 r2_ hla) (xg k_d1beb13a82) (List.mem_cons_of_mem _ k_711bce72fb) (List.mem_cons_of_mem _ k_76ffe7e42b) (List.mem_cons_of_mem _ k_dce00bfb8a) (List.mem_cons_of_mem _ k_30fa15c9ac) (by decide +kernel) (by decide) rfl hl.1 rfl (Nat.le_of_ble_eq_true rfl) d_law_451 hR0) I (fun r2 σ2 H hp I => ?_)
    obtain ⟨n9, Q', dl2, u1, u2, e2, hm2⟩ := hp
    rw [mk1] at dl2 u1 u2 e2 hm2
    obtain rfl : k8 = n9 := dl_one dl1 dl2
    refine lv_icmp_eq hx hb d_law_454 rfl (fun hc => ?_) (fun hc => ?_)
    · have lr1 : LR n A A9 rw S P Dt ((if pB (iA A) n a9 < 0 then 1 else 0) + k8) T' Q' := by
        have h51 := dl_le dl1 mk2
        refine ⟨r1_, r2_, r3_, r4_, r5_, r6_, r7_, by split <;> omega, fun k hk => ?_⟩
        by_cases hs9 : pB (iA A) n a9 < 0
        · rw [if_pos hs9] at hk
          rcases Nat.eq_zero_or_pos k with e | e
          · rw [e, t1 hs9, u1 hs9]
          · have h1 := t2 (k - 1) (by omega)
            have h2 := u2 (k - 1) (by omega)
            rw [if_pos hs9, show 1 + (k - 1) = k by omega] at h1 h2
            rw [h1, h2]
        · rw [if_neg hs9] at hk
          have h1 := t2 k (by omega)
          have h2 := u2 k (by omega)
          rw [if_neg hs9, Nat.zero_add] at h1 h2
          rw [h1, h2]
      exact W.widen (by omega) (by omega) (kk ls _ _ hl ⟨n, (nI 0), A, rw, S, P, _, T', A9, Dt, Q', (nI 0), fo, h1n, hn6, ck1.same hn6 (fun q hq => mS_out hm2 q (Or.inl hq)), mS_in hm2 (fun _ _ _ => rfl), (mS_out hm2 192 (Or.inr (by decide))).trans ((k2 192 (by decide) (by omega)).trans ho), lr1⟩ I)
    · exact absurd (e1.trans e2.symm) hc
