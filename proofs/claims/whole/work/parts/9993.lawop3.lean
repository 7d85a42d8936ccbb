/-! the law, call by call (written by wip/gen) -/
theorem k_751c842a00 : (Jvm.Cond.methodLink "SpectrumDeskLaw" (67 : Nat) ({ cls := "SpectrumDesk", name := "data", desc := "(IIIIII)I" } : Jvm.MethodName)) ∈ AW := aw_1 (List.mem_of_getElem? (i := 227) (by decide +kernel)) (by decide +kernel)
theorem k_e482cfd3bf : (Jvm.Cond.instanceMethod ({ cls := "SpectrumDesk", name := "data", desc := "(IIIIII)I" } : Jvm.MethodName)) ∈ AW := aw_1 (List.mem_of_getElem? (i := 228) (by decide +kernel)) (by decide +kernel)
theorem k_0b8def001d : (Jvm.Cond.selects "SpectrumDesk" ({ cls := "SpectrumDesk", name := "data", desc := "(IIIIII)I" } : Jvm.MethodName) ({ cls := "SpectrumDesk", name := "data", desc := "(IIIIII)I" } : Jvm.MethodName)) ∈ AW := aw_1 (List.mem_of_getElem? (i := 229) (by decide +kernel)) (by decide +kernel)
theorem k_ec2317dfbc : (Jvm.Cond.methodLink "SpectrumDeskLaw" (71 : Nat) ({ cls := "SpectrumDeskModel", name := "data", desc := "(IIIIII)I" } : Jvm.MethodName)) ∈ AW := aw_5 (List.mem_of_getElem? (i := 12) (by decide +kernel)) (by decide +kernel)
theorem k_d1ae810bf3 : (Jvm.Cond.instanceMethod ({ cls := "SpectrumDeskModel", name := "data", desc := "(IIIIII)I" } : Jvm.MethodName)) ∈ AW := aw_5 (List.mem_of_getElem? (i := 13) (by decide +kernel)) (by decide +kernel)
theorem k_81e10c18b2 : (Jvm.Cond.selects "SpectrumDeskModel" ({ cls := "SpectrumDeskModel", name := "data", desc := "(IIIIII)I" } : Jvm.MethodName) ({ cls := "SpectrumDeskModel", name := "data", desc := "(IIIIII)I" } : Jvm.MethodName)) ∈ AW := aw_5 (List.mem_of_getElem? (i := 14) (by decide +kernel)) (by decide +kernel)
theorem k_85b619aee5 : (Jvm.Cond.methodLink "SpectrumDeskLaw" (72 : Nat) ({ cls := "SpectrumDesk", name := "spread", desc := "()I" } : Jvm.MethodName)) ∈ AW := aw_1 (List.mem_of_getElem? (i := 239) (by decide +kernel)) (by decide +kernel)
theorem k_e3e168344f : (Jvm.Cond.instanceMethod ({ cls := "SpectrumDesk", name := "spread", desc := "()I" } : Jvm.MethodName)) ∈ AW := aw_2 (List.mem_of_getElem? (i := 0) (by decide +kernel)) (by decide +kernel)
theorem k_79398f75d8 : (Jvm.Cond.selects "SpectrumDesk" ({ cls := "SpectrumDesk", name := "spread", desc := "()I" } : Jvm.MethodName) ({ cls := "SpectrumDesk", name := "spread", desc := "()I" } : Jvm.MethodName)) ∈ AW := aw_2 (List.mem_of_getElem? (i := 1) (by decide +kernel)) (by decide +kernel)
theorem k_41d44188a1 : (Jvm.Cond.methodLink "SpectrumDeskLaw" (75 : Nat) ({ cls := "SpectrumDeskModel", name := "spread", desc := "()I" } : Jvm.MethodName)) ∈ AW := aw_5 (List.mem_of_getElem? (i := 16) (by decide +kernel)) (by decide +kernel)
theorem k_34388ba1d1 : (Jvm.Cond.instanceMethod ({ cls := "SpectrumDeskModel", name := "spread", desc := "()I" } : Jvm.MethodName)) ∈ AW := aw_5 (List.mem_of_getElem? (i := 17) (by decide +kernel)) (by decide +kernel)
theorem k_f1b3075100 : (Jvm.Cond.selects "SpectrumDeskModel" ({ cls := "SpectrumDeskModel", name := "spread", desc := "()I" } : Jvm.MethodName) ({ cls := "SpectrumDeskModel", name := "spread", desc := "()I" } : Jvm.MethodName)) ∈ AW := aw_5 (List.mem_of_getElem? (i := 18) (by decide +kernel)) (by decide +kernel)
set_option maxHeartbeats 4000000 in
set_option maxRecDepth 100000 in
theorem lop_data {p : Program} {l : Launch} {e : Env} {s : State} {m : MethodId} {args : Array Value} {below : List Frame} {meth : Method} {c : Code} {Q : State → Prop} {H : Heap} {cells slots : Nat} {ls : Array Slot} {D : va_G} {cI cJ cZ cC cG cP : ClassId} {ad : Nat → Nat} {σ : Nat → va_E} {b L i : Nat} {xs : Nat → Int32} (hx : p.tables.exec = Jvm.exec) (hb : c.code = b_law) (X : xX p c b_law 8 s args (wl :: AW) "SpectrumDeskLaw" m D classes (xT cI cJ cZ cC cG cP) ) (hz : ∀ k, s.heap.size ≤ ad k) (hT : xtOK (xA 193 ad) s) (hfl : l.flags = Jvm.pinnedFlags ++ [Jvm.noTraceFlag]) (hX : va_X b L xs s s.heap) (hbl : b < s.heap.size) (hL : L ≤ 3584) (hi : i + 7 ≤ L) (hR : cells + 1 ≤ room_1.cells ∧ slots + 6 ≤ room_1.slots)  (hl : lv_has ls 8 [(0, .ref b), (1, .ref (ad 0)), (2, .ref (ad 183)), (3, .ref (ad 192)), (4, .int (nI i))]) (hI : LI ad cI cJ cZ cC cG cP σ) (I : xI D classes 193 ad s.heap σ H [])
    (kk : ∀ (ls : Array Slot) (σ : Nat → va_E) (H : Heap), lv_has ls 8 [(0, .ref b), (1, .ref (ad 0)), (2, .ref (ad 183)), (3, .ref (ad 192)), (4, .int (nI i))] → LI ad cI cJ cZ cC cG cP σ → xI D classes 193 ad s.heap σ H [] → W p l e room_1 s m args below meth c H [] (cells + 1) (slots + 6) Q (F0 m 867 ls [])) :
    W p l e room_1 s m args below meth c H [] cells slots Q (F0 m 309 ls []) := by
  obtain ⟨n, st, A, rw, S, P, ln, Tx, A9, Dt, Pr, th, fo, h1n, hn6, hCK, hm, ho, hLR⟩ := hI
  obtain ⟨fs9, hfs⟩ := mS_o hm
  have hR0 : cells ≤ room_1.cells ∧ slots ≤ room_1.slots := ⟨by omega, by omega⟩
  obtain ⟨q1, q2, ⟨⟨g8, d1⟩, d2, d3, d4, d5, d6, ⟨g81, d7⟩, g82, d8⟩, q4, q5⟩ := id hCK
  obtain ⟨r1_, r2_, r3_, r4_, r5_, r6_, r7_, r8_, r9_⟩ := id hLR
  refine lv_aload_n hx hb d_law_309 rfl (lv_at hl 1 rfl) ?_
  refine lv_aload_n hx hb d_law_310 rfl (lv_at hl 0 rfl) ?_
  refine lv_iload hx hb d_law_311 (lv_at hl 4 rfl) ?_
  refine lv_iconst (v := nI 1) hx hb d_law_313 (by decide) ?_
  refine lv_iadd hx hb d_law_314 (xr_topi (y := nI (i + 1)) (nI_add i 1) ?_)
  refine xq_sld X I hz hX hbl (i := i + 1) (by omega) (by omega) d_law_315 ?_
  refine lv_aload_n hx hb d_law_316 rfl (lv_at hl 0 rfl) ?_
  refine lv_iload hx hb d_law_317 (lv_at hl 4 rfl) ?_
  refine lv_iconst (v := nI 2) hx hb d_law_319 (by decide) ?_
  refine lv_iadd hx hb d_law_320 (xr_topi (y := nI (i + 2)) (nI_add i 2) ?_)
  refine xq_sld X I hz hX hbl (i := i + 2) (by omega) (by omega) d_law_321 ?_
  refine lv_aload_n hx hb d_law_322 rfl (lv_at hl 0 rfl) ?_
  refine lv_iload hx hb d_law_323 (lv_at hl 4 rfl) ?_
  refine lv_iconst (v := nI 3) hx hb d_law_325 (by decide) ?_
  refine lv_iadd hx hb d_law_326 (xr_topi (y := nI (i + 3)) (nI_add i 3) ?_)
  refine xq_sld X I hz hX hbl (i := i + 3) (by omega) (by omega) d_law_327 ?_
  refine lv_aload_n hx hb d_law_328 rfl (lv_at hl 0 rfl) ?_
  refine lv_iload hx hb d_law_329 (lv_at hl 4 rfl) ?_
  refine lv_iconst (v := nI 4) hx hb d_law_331 (by decide) ?_
  refine lv_iadd hx hb d_law_332 (xr_topi (y := nI (i + 4)) (nI_add i 4) ?_)
  refine xq_sld X I hz hX hbl (i := i + 4) (by omega) (by omega) d_law_333 ?_
  refine lv_aload_n hx hb d_law_334 rfl (lv_at hl 0 rfl) ?_
  refine lv_iload hx hb d_law_335 (lv_at hl 4 rfl) ?_
  refine lv_iconst (v := nI 5) hx hb d_law_337 (by decide) ?_
  refine lv_iadd hx hb d_law_338 (xr_topi (y := nI (i + 5)) (nI_add i 5) ?_)
  refine xq_sld X I hz hX hbl (i := i + 5) (by omega) (by omega) d_law_339 ?_
  refine lv_aload_n hx hb d_law_340 rfl (lv_at hl 0 rfl) ?_
  refine lv_iload hx hb d_law_341 (lv_at hl 4 rfl) ?_
  refine lv_bipush (v := nI 6) hx hb d_law_343 (by decide) ?_
  refine lv_iadd hx hb d_law_345 (xr_topi (y := nI (i + 6)) (nI_add i 6) ?_)
  refine xq_sld X I hz hX hbl (i := i + 6) (by omega) (by omega) d_law_346 ?_
  refine xq_calli hz (xq_runV (kc := 1) (n := 6) (As := [.int (xs (i + 1)), .int (xs (i + 2)), .int (xs (i + 3)), .int (xs (i + 4)), .int (xs (i + 5)), .int (xs (i + 6))]) (rest := []) X I (by decide) q1 rfl (c_SpectrumDesk_data (a1 := xs (i + 1)) (a2 := xs (i + 2)) (a3 := xs (i + 3)) (a4 := xs (i + 4)) (a5 := xs (i + 5)) (a6 := xs (i + 6)) rfl q1 hn6 r4_ d1 d2 d3 d4) (xg k_ad06be707b) (List.mem_cons_of_mem _ k_751c842a00) (List.mem_cons_of_mem _ k_e482cfd3bf) (List.mem_cons_of_mem _ k_0b8def001d) (List.mem_cons_of_mem _ k_6836736ab7) (by decide +kernel) (by decide) rfl hl.1 rfl (Nat.le_of_ble_eq_true rfl) d_law_347 hR0) I (fun r1 σ1 H hp I => ?_)
  rcases hp with ⟨hf, rfl, g', S', P', g1, g2, g3, g4, g5, g6, g7⟩ | ⟨hf, rfl, g', g1, g2⟩
  · have hm1 : mS ad cI cZ σ1 th n A9 rw Dt ln Pr σ1 := mS_in hm (fun q a9 b9 => g1 q (by omega))
    obtain ⟨fs7, hfs1⟩ := mS_o hm1
    refine lv_aload_n hx hb d_law_350 rfl (lv_at hl 2 rfl) ?_
    refine lv_aload_n hx hb d_law_351 rfl (lv_at hl 0 rfl) ?_
    refine lv_iload hx hb d_law_352 (lv_at hl 4 rfl) ?_
    refine lv_iconst (v := nI 1) hx hb d_law_354 (by decide) ?_
    refine lv_iadd hx hb d_law_355 (xr_topi (y := nI (i + 1)) (nI_add i 1) ?_)
    refine xq_sld X I hz hX hbl (i := i + 1) (by omega) (by omega) d_law_356 ?_
    refine lv_aload_n hx hb d_law_357 rfl (lv_at hl 0 rfl) ?_
    refine lv_iload hx hb d_law_358 (lv_at hl 4 rfl) ?_
    refine lv_iconst (v := nI 2) hx hb d_law_360 (by decide) ?_
    refine lv_iadd hx hb d_law_361 (xr_topi (y := nI (i + 2)) (nI_add i 2) ?_)
    refine xq_sld X I hz hX hbl (i := i + 2) (by omega) (by omega) d_law_362 ?_
    refine lv_aload_n hx hb d_law_363 rfl (lv_at hl 0 rfl) ?_
    refine lv_iload hx hb d_law_364 (lv_at hl 4 rfl) ?_
    refine lv_iconst (v := nI 3) hx hb d_law_366 (by decide) ?_
    refine lv_iadd hx hb d_law_367 (xr_topi (y := nI (i + 3)) (nI_add i 3) ?_)
    refine xq_sld X I hz hX hbl (i := i + 3) (by omega) (by omega) d_law_368 ?_
    refine lv_aload_n hx hb d_law_369 rfl (lv_at hl 0 rfl) ?_
    refine lv_iload hx hb d_law_370 (lv_at hl 4 rfl) ?_
    refine lv_iconst (v := nI 4) hx hb d_law_372 (by decide) ?_
    refine lv_iadd hx hb d_law_373 (xr_topi (y := nI (i + 4)) (nI_add i 4) ?_)
    refine xq_sld X I hz hX hbl (i := i + 4) (by omega) (by omega) d_law_374 ?_
    refine lv_aload_n hx hb d_law_375 rfl (lv_at hl 0 rfl) ?_
    refine lv_iload hx hb d_law_376 (lv_at hl 4 rfl) ?_
    refine lv_iconst (v := nI 5) hx hb d_law_378 (by decide) ?_
    refine lv_iadd hx hb d_law_379 (xr_topi (y := nI (i + 5)) (nI_add i 5) ?_)
    refine xq_sld X I hz hX hbl (i := i + 5) (by omega) (by omega) d_law_380 ?_
    refine lv_aload_n hx hb d_law_381 rfl (lv_at hl 0 rfl) ?_
    refine lv_iload hx hb d_law_382 (lv_at hl 4 rfl) ?_
    refine lv_bipush (v := nI 6) hx hb d_law_384 (by decide) ?_
    refine lv_iadd hx hb d_law_386 (xr_topi (y := nI (i + 6)) (nI_add i 6) ?_)
    refine xq_sld X I hz hX hbl (i := i + 6) (by omega) (by omega) d_law_387 ?_
    refine xq_calli hz (xq_runV (kc := 0) (n := 6) (As := [.int (xs (i + 1)), .int (xs (i + 2)), .int (xs (i + 3)), .int (xs (i + 4)), .int (xs (i + 5)), .int (xs (i + 6))]) (rest := [.int (nI (rw + 1))]) X I (by decide) hfs1 rfl (c_SpectrumDeskModel_data (a1 := xs (i + 1)) (a2 := xs (i + 2)) (a3 := xs (i + 3)) (a4 := xs (i + 4)) (a5 := xs (i + 5)) (a6 := xs (i + 6)) hm1 hn6 r4_) (xg k_6a5d3af771) (List.mem_cons_of_mem _ k_ec2317dfbc) (List.mem_cons_of_mem _ k_d1ae810bf3) (List.mem_cons_of_mem _ k_81e10c18b2) (List.mem_cons_of_mem _ k_30fa15c9ac) (by decide +kernel) (by decide) rfl hl.1 rfl (Nat.le_of_ble_eq_true rfl) d_law_388 hR0) I (fun r2 σ2 H hp I => ?_)
    obtain ⟨D', u1, ⟨hf2, u2, rfl, hm2⟩ | ⟨hf2, rfl, hm2⟩⟩ := hp
    · refine lv_icmp_eq hx hb d_law_391 rfl (fun hc => ?_) (fun hc => ?_)
      · have ck1 : CK ad cI cJ cZ cC cG cP σ1 n st A (rw + 1) S' P' ln Tx := by
          have ck0 : CK ad cI cJ cZ cC cG cP σ1 n st A rw S P ln Tx ∨ True := Or.inr trivial
          refine ⟨(g1 0 (by omega)).trans q1, mat_same q2 (g1 1 (by omega)) (fun q a9 b9 => g1 q (by omega)), ⟨⟨g', g2⟩, g3, g4, g5, (g1 179 (by omega)).trans d5, (g1 180 (by omega)).trans d6, ⟨g81, (g1 181 (by omega)).trans d7⟩, g82, (g1 182 (by omega)).trans d8⟩, spZ_all q4 (fun q a9 b9 => g1 q (by omega)), ?_⟩
          rcases q5 with ⟨e1, V, rk, e2, e3⟩ | ⟨e1, e2⟩
          · exact Or.inl ⟨e1, V, rk, e2, spV_all e3 hn6 (fun q a9 b9 => g1 q (by omega))⟩
          · exact Or.inr ⟨e1, spN_all e2 (fun q a9 b9 => g1 q (by omega))⟩
        exact W.widen (by omega) (by omega) (kk ls _ _ hl ⟨n, st, A, (rw + 1), S', P', ln, Tx, A9, D', Pr, (nI 0), fo, h1n, hn6, ck1.same hn6 (fun q hq => (mS_out hm2 q (Or.inl hq))), mS_in hm2 (fun _ _ _ => rfl), (mS_out hm2 192 (Or.inr (by decide))).trans ((g1 192 (by omega)).trans ho), (LR_data hLR hn6 hf.1 hf.2 u1 u2 g6 g7)⟩ I)
      · exact absurd rfl hc
    · exact absurd (dt_fine.mp hf) hf2
  · have hm1 : mS ad cI cZ σ1 th n A9 rw Dt ln Pr σ1 := mS_in hm (fun q a9 b9 => g1 q (by omega))
    obtain ⟨fs7, hfs1⟩ := mS_o hm1
    refine lv_aload_n hx hb d_law_350 rfl (lv_at hl 2 rfl) ?_
    refine lv_aload_n hx hb d_law_351 rfl (lv_at hl 0 rfl) ?_
    refine lv_iload hx hb d_law_352 (lv_at hl 4 rfl) ?_
    refine lv_iconst (v := nI 1) hx hb d_law_354 (by decide) ?_
    refine lv_iadd hx hb d_law_355 (xr_topi (y := nI (i + 1)) (nI_add i 1) ?_)
    refine xq_sld X I hz hX hbl (i := i + 1) (by omega) (by omega) d_law_356 ?_
    refine lv_aload_n hx hb d_law_357 rfl (lv_at hl 0 rfl) ?_
    refine lv_iload hx hb d_law_358 (lv_at hl 4 rfl) ?_
    refine lv_iconst (v := nI 2) hx hb d_law_360 (by decide) ?_
    refine lv_iadd hx hb d_law_361 (xr_topi (y := nI (i + 2)) (nI_add i 2) ?_)
    refine xq_sld X I hz hX hbl (i := i + 2) (by omega) (by omega) d_law_362 ?_
    refine lv_aload_n hx hb d_law_363 rfl (lv_at hl 0 rfl) ?_
    refine lv_iload hx hb d_law_364 (lv_at hl 4 rfl) ?_
    refine lv_iconst (v := nI 3) hx hb d_law_366 (by decide) ?_
    refine lv_iadd hx hb d_law_367 (xr_topi (y := nI (i + 3)) (nI_add i 3) ?_)
    refine xq_sld X I hz hX hbl (i := i + 3) (by omega) (by omega) d_law_368 ?_
    refine lv_aload_n hx hb d_law_369 rfl (lv_at hl 0 rfl) ?_
    refine lv_iload hx hb d_law_370 (lv_at hl 4 rfl) ?_
    refine lv_iconst (v := nI 4) hx hb d_law_372 (by decide) ?_
    refine lv_iadd hx hb d_law_373 (xr_topi (y := nI (i + 4)) (nI_add i 4) ?_)
    refine xq_sld X I hz hX hbl (i := i + 4) (by omega) (by omega) d_law_374 ?_
    refine lv_aload_n hx hb d_law_375 rfl (lv_at hl 0 rfl) ?_
    refine lv_iload hx hb d_law_376 (lv_at hl 4 rfl) ?_
    refine lv_iconst (v := nI 5) hx hb d_law_378 (by decide) ?_
    refine lv_iadd hx hb d_law_379 (xr_topi (y := nI (i + 5)) (nI_add i 5) ?_)
    refine xq_sld X I hz hX hbl (i := i + 5) (by omega) (by omega) d_law_380 ?_
    refine lv_aload_n hx hb d_law_381 rfl (lv_at hl 0 rfl) ?_
    refine lv_iload hx hb d_law_382 (lv_at hl 4 rfl) ?_
    refine lv_bipush (v := nI 6) hx hb d_law_384 (by decide) ?_
    refine lv_iadd hx hb d_law_386 (xr_topi (y := nI (i + 6)) (nI_add i 6) ?_)
    refine xq_sld X I hz hX hbl (i := i + 6) (by omega) (by omega) d_law_387 ?_
    refine xq_calli hz (xq_runV (kc := 0) (n := 6) (As := [.int (xs (i + 1)), .int (xs (i + 2)), .int (xs (i + 3)), .int (xs (i + 4)), .int (xs (i + 5)), .int (xs (i + 6))]) (rest := [.int (-1)]) X I (by decide) hfs1 rfl (c_SpectrumDeskModel_data (a1 := xs (i + 1)) (a2 := xs (i + 2)) (a3 := xs (i + 3)) (a4 := xs (i + 4)) (a5 := xs (i + 5)) (a6 := xs (i + 6)) hm1 hn6 r4_) (xg k_6a5d3af771) (List.mem_cons_of_mem _ k_ec2317dfbc) (List.mem_cons_of_mem _ k_d1ae810bf3) (List.mem_cons_of_mem _ k_81e10c18b2) (List.mem_cons_of_mem _ k_30fa15c9ac) (by decide +kernel) (by decide) rfl hl.1 rfl (Nat.le_of_ble_eq_true rfl) d_law_388 hR0) I (fun r2 σ2 H hp I => ?_)
    obtain ⟨D', u1, ⟨hf2, u2, rfl, hm2⟩ | ⟨hf2, rfl, hm2⟩⟩ := hp
    · exact absurd (dt_fine.mpr hf2) hf
    · refine lv_icmp_eq hx hb d_law_391 rfl (fun hc => ?_) (fun hc => ?_)
      · have ck1 : CK ad cI cJ cZ cC cG cP σ1 n st A rw S P ln Tx := by
          refine ⟨(g1 0 (by omega)).trans q1, mat_same q2 (g1 1 (by omega)) (fun q a9 b9 => g1 q (by omega)), ⟨⟨g', g2⟩, (g1 9 (by omega)).trans d2, (g1 10 (by omega)).trans d3, mat_same d4 (g1 11 (by omega)) (fun q a9 b9 => g1 q (by omega)), (g1 179 (by omega)).trans d5, (g1 180 (by omega)).trans d6, ⟨g81, (g1 181 (by omega)).trans d7⟩, g82, (g1 182 (by omega)).trans d8⟩, spZ_all q4 (fun q a9 b9 => g1 q (by omega)), ?_⟩
          rcases q5 with ⟨e1, V, rk, e2, e3⟩ | ⟨e1, e2⟩
          · exact Or.inl ⟨e1, V, rk, e2, spV_all e3 hn6 (fun q a9 b9 => g1 q (by omega))⟩
          · exact Or.inr ⟨e1, spN_all e2 (fun q a9 b9 => g1 q (by omega))⟩
        exact W.widen (by omega) (by omega) (kk ls _ _ hl ⟨n, st, A, rw, S, P, ln, Tx, A9, D', Pr, (nI 0), fo, h1n, hn6, ck1.same hn6 (fun q hq => (mS_out hm2 q (Or.inl hq))), mS_in hm2 (fun _ _ _ => rfl), (mS_out hm2 192 (Or.inr (by decide))).trans ((g1 192 (by omega)).trans ho), (LR_Dt hLR u1 hn6)⟩ I)
      · exact absurd rfl hc
set_option maxHeartbeats 4000000 in
set_option maxRecDepth 100000 in
theorem lop_spread {p : Program} {l : Launch} {e : Env} {s : State} {m : MethodId} {args : Array Value} {below : List Frame} {meth : Method} {c : Code} {Q : State → Prop} {H : Heap} {cells slots : Nat} {ls : Array Slot} {D : va_G} {cI cJ cZ cC cG cP : ClassId} {ad : Nat → Nat} {σ : Nat → va_E} {b L i : Nat} {xs : Nat → Int32} (hx : p.tables.exec = Jvm.exec) (hb : c.code = b_law) (X : xX p c b_law 8 s args (wl :: AW) "SpectrumDeskLaw" m D classes (xT cI cJ cZ cC cG cP) ) (hz : ∀ k, s.heap.size ≤ ad k) (hT : xtOK (xA 193 ad) s) (hfl : l.flags = Jvm.pinnedFlags ++ [Jvm.noTraceFlag]) (hX : va_X b L xs s s.heap) (hbl : b < s.heap.size) (hL : L ≤ 3584) (hi : i + 7 ≤ L) (hR : cells + 1 ≤ room_1.cells ∧ slots + 6 ≤ room_1.slots)  (hl : lv_has ls 8 [(0, .ref b), (1, .ref (ad 0)), (2, .ref (ad 183)), (3, .ref (ad 192)), (4, .int (nI i))]) (hI : LI ad cI cJ cZ cC cG cP σ) (I : xI D classes 193 ad s.heap σ H [])
    (kk : ∀ (ls : Array Slot) (σ : Nat → va_E) (H : Heap), lv_has ls 8 [(0, .ref b), (1, .ref (ad 0)), (2, .ref (ad 183)), (3, .ref (ad 192)), (4, .int (nI i))] → LI ad cI cJ cZ cC cG cP σ → xI D classes 193 ad s.heap σ H [] → W p l e room_1 s m args below meth c H [] (cells + 1) (slots + 6) Q (F0 m 867 ls [])) :
    W p l e room_1 s m args below meth c H [] cells slots Q (F0 m 396 ls []) := by
  obtain ⟨n, st, A, rw, S, P, ln, Tx, A9, Dt, Pr, th, fo, h1n, hn6, hCK, hm, ho, hLR⟩ := hI
  obtain ⟨fs9, hfs⟩ := mS_o hm
  have hR0 : cells ≤ room_1.cells ∧ slots ≤ room_1.slots := ⟨by omega, by omega⟩
  obtain ⟨q1, q2, ⟨⟨g8, d1⟩, d2, d3, d4, d5⟩, q4, q5⟩ := id hCK
  obtain ⟨r1_, r2_, r3_, r4_, r5_, r6_, r7_, r8_, r9_⟩ := id hLR
  have hD : ∀ k, k < n → dO2 Dt rw k := fun k hk r hr => r5_ r k hr hk
  refine lv_aload_n hx hb d_law_396 rfl (lv_at hl 1 rfl) ?_
  refine xq_calli hz (xq_runV (kc := 1) (n := 0) (As := []) (rest := []) X I (by decide) q1 rfl (c_SpectrumDesk_spread rfl q1 hn6 q2 d2 d3 d4) (xg k_b0010607e3) (List.mem_cons_of_mem _ k_85b619aee5) (List.mem_cons_of_mem _ k_e3e168344f) (List.mem_cons_of_mem _ k_79398f75d8) (List.mem_cons_of_mem _ k_6836736ab7) (by decide +kernel) (by decide) rfl hl.1 rfl (Nat.le_of_ble_eq_true rfl) d_law_397 hR0) I (fun r1 σ1 H hp I => ?_)
  rcases hp with ⟨hf, rfl, A', g1, g2, g3, g4⟩ | ⟨hf, rfl, h9⟩
  · have hm1 : mS ad cI cZ σ1 th n A9 rw Dt ln Pr σ1 := mS_in hm (fun q a9 b9 => g1 q (by omega) (by omega))
    obtain ⟨fs7, hfs1⟩ := mS_o hm1
    refine lv_aload_n hx hb d_law_400 rfl (lv_at hl 2 rfl) ?_
    refine xq_calli hz (xq_runV (kc := 1) (n := 0) (As := []) (rest := [.int (nI 0)]) X I (by decide) hfs1 rfl (c_SpectrumDeskModel_spread2 hm1 hn6 r4_ hD) (xg k_87e24790dc) (List.mem_cons_of_mem _ k_41d44188a1) (List.mem_cons_of_mem _ k_34388ba1d1) (List.mem_cons_of_mem _ k_f1b3075100) (List.mem_cons_of_mem _ k_30fa15c9ac) (by decide +kernel) (by decide) rfl hl.1 rfl (Nat.le_of_ble_eq_true rfl) d_law_401 hR0) I (fun r2 σ2 H hp I => ?_)
    rcases hp with ⟨hf2, rfl, hm2⟩ | ⟨⟨i9, j9, hi9, hj9, hf2⟩, rfl, hm2⟩
    · refine lv_icmp_eq hx hb d_law_404 rfl (fun hc => ?_) (fun hc => ?_)
      · have ck1 : CK ad cI cJ cZ cC cG cP σ1 n (nI 1) A' rw S P ln Tx := ⟨g2, g3, dkR_same (⟨⟨g8, d1⟩, d2, d3, d4, d5⟩ : dkR ad cI cC cG σ rw S P ln Tx) (fun q hq => g1 q (by omega) (by omega)), spZ_all q4 (fun q a9 b9 => g1 q (by omega) (by omega)), Or.inr ⟨rfl, spN_all (hCK.N hn6) (fun q a9 b9 => g1 q (by omega) (by omega))⟩⟩
        exact W.widen (by omega) (by omega) (kk ls _ _ hl ⟨n, (nI 1), A', rw, S, P, ln, Tx, _, Dt, Pr, (nI 0), fo, h1n, hn6, ck1.same hn6 (fun q hq => (mS_out hm2 q (Or.inl hq))), mS_in hm2 (fun _ _ _ => rfl), (mS_out hm2 192 (Or.inr (by decide))).trans ((g1 192 (by decide) (by omega)).trans ho), (LR_spread hLR hn6 hf g4)⟩ I)
      · exact absurd rfl hc
    · exact absurd (isS_sp hLR hf hi9 hj9) hf2
  · rw [h9] at I; clear h9
    refine lv_aload_n hx hb d_law_400 rfl (lv_at hl 2 rfl) ?_
    refine xq_calli hz (xq_runV (kc := 1) (n := 0) (As := []) (rest := [.int (-2)]) X I (by decide) hfs rfl (c_SpectrumDeskModel_spread2 hm hn6 r4_ hD) (xg k_87e24790dc) (List.mem_cons_of_mem _ k_41d44188a1) (List.mem_cons_of_mem _ k_34388ba1d1) (List.mem_cons_of_mem _ k_f1b3075100) (List.mem_cons_of_mem _ k_30fa15c9ac) (by decide +kernel) (by decide) rfl hl.1 rfl (Nat.le_of_ble_eq_true rfl) d_law_401 hR0) I (fun r2 σ2 H hp I => ?_)
    rcases hp with ⟨hf2, rfl, hm2⟩ | ⟨-, rfl, hm2⟩
    · exact absurd (sp_isS hLR hf2) hf
    · refine lv_icmp_eq hx hb d_law_404 rfl (fun hc => ?_) (fun hc => ?_)
      · exact W.widen (by omega) (by omega) (kk ls _ _ hl ⟨n, st, A, rw, S, P, ln, Tx, A9, Dt, Pr, (nI 0), fo, h1n, hn6, hCK.same hn6 (fun q hq => mS_out hm2 q (Or.inl hq)), mS_in hm2 (fun _ _ _ => rfl), (mS_out hm2 192 (Or.inr (by decide))).trans ho, hLR⟩ I)
      · exact absurd rfl hc
