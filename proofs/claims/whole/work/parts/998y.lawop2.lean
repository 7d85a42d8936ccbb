/-! the law, call by call (written by wip/gen) -/
theorem k_070b1f68dc : (Jvm.Cond.methodLink "SpectrumDeskLaw" (59 : Nat) ({ cls := "SpectrumDeskLaw", name := "at", desc := "(LSpectrumDesk;II[J)I" } : Jvm.MethodName)) ∈ AW := aw_4 (List.mem_of_getElem? (i := 112) (by decide +kernel)) (by decide +kernel)
theorem k_8446fcc03c : (Jvm.Cond.static ({ cls := "SpectrumDeskLaw", name := "at", desc := "(LSpectrumDesk;II[J)I" } : Jvm.MethodName)) ∈ AW := aw_4 (List.mem_of_getElem? (i := 113) (by decide +kernel)) (by decide +kernel)
theorem k_859292d855 : (Jvm.Cond.methodLink "SpectrumDeskLaw" (62 : Nat) ({ cls := "SpectrumDeskModel", name := "at", desc := "(II)I" } : Jvm.MethodName)) ∈ AW := aw_5 (List.mem_of_getElem? (i := 4) (by decide +kernel)) (by decide +kernel)
theorem k_f602543dad : (Jvm.Cond.instanceMethod ({ cls := "SpectrumDeskModel", name := "at", desc := "(II)I" } : Jvm.MethodName)) ∈ AW := aw_5 (List.mem_of_getElem? (i := 5) (by decide +kernel)) (by decide +kernel)
theorem k_558caf8e1e : (Jvm.Cond.selects "SpectrumDeskModel" ({ cls := "SpectrumDeskModel", name := "at", desc := "(II)I" } : Jvm.MethodName) ({ cls := "SpectrumDeskModel", name := "at", desc := "(II)I" } : Jvm.MethodName)) ∈ AW := aw_5 (List.mem_of_getElem? (i := 6) (by decide +kernel)) (by decide +kernel)
theorem k_14d1db5242 : (Jvm.Cond.methodLink "SpectrumDeskLaw" (76 : Nat) ({ cls := "SpectrumDesk", name := "shift", desc := "(I)I" } : Jvm.MethodName)) ∈ AW := aw_2 (List.mem_of_getElem? (i := 8) (by decide +kernel)) (by decide +kernel)
theorem k_d17b139101 : (Jvm.Cond.instanceMethod ({ cls := "SpectrumDesk", name := "shift", desc := "(I)I" } : Jvm.MethodName)) ∈ AW := aw_2 (List.mem_of_getElem? (i := 9) (by decide +kernel)) (by decide +kernel)
theorem k_33db807049 : (Jvm.Cond.selects "SpectrumDesk" ({ cls := "SpectrumDesk", name := "shift", desc := "(I)I" } : Jvm.MethodName) ({ cls := "SpectrumDesk", name := "shift", desc := "(I)I" } : Jvm.MethodName)) ∈ AW := aw_2 (List.mem_of_getElem? (i := 10) (by decide +kernel)) (by decide +kernel)
theorem k_dcc6a106a3 : (Jvm.Cond.methodLink "SpectrumDeskLaw" (79 : Nat) ({ cls := "SpectrumDeskModel", name := "shift", desc := "(I)I" } : Jvm.MethodName)) ∈ AW := aw_5 (List.mem_of_getElem? (i := 24) (by decide +kernel)) (by decide +kernel)
theorem k_4e4eae5cbc : (Jvm.Cond.instanceMethod ({ cls := "SpectrumDeskModel", name := "shift", desc := "(I)I" } : Jvm.MethodName)) ∈ AW := aw_5 (List.mem_of_getElem? (i := 25) (by decide +kernel)) (by decide +kernel)
theorem k_ab9743df98 : (Jvm.Cond.selects "SpectrumDeskModel" ({ cls := "SpectrumDeskModel", name := "shift", desc := "(I)I" } : Jvm.MethodName) ({ cls := "SpectrumDeskModel", name := "shift", desc := "(I)I" } : Jvm.MethodName)) ∈ AW := aw_5 (List.mem_of_getElem? (i := 26) (by decide +kernel)) (by decide +kernel)
theorem k_1a472f94e9 : (Jvm.Cond.methodLink "SpectrumDeskLaw" (84 : Nat) ({ cls := "SpectrumDesk", name := "character", desc := "(I)I" } : Jvm.MethodName)) ∈ AW := aw_3 (List.mem_of_getElem? (i := 195) (by decide +kernel)) (by decide +kernel)
theorem k_3ed97aee73 : (Jvm.Cond.instanceMethod ({ cls := "SpectrumDesk", name := "character", desc := "(I)I" } : Jvm.MethodName)) ∈ AW := aw_3 (List.mem_of_getElem? (i := 196) (by decide +kernel)) (by decide +kernel)
theorem k_5f3a92f86d : (Jvm.Cond.selects "SpectrumDesk" ({ cls := "SpectrumDesk", name := "character", desc := "(I)I" } : Jvm.MethodName) ({ cls := "SpectrumDesk", name := "character", desc := "(I)I" } : Jvm.MethodName)) ∈ AW := aw_3 (List.mem_of_getElem? (i := 197) (by decide +kernel)) (by decide +kernel)
theorem k_03a195b13a : (Jvm.Cond.methodLink "SpectrumDeskLaw" (87 : Nat) ({ cls := "SpectrumDeskModel", name := "character", desc := "(I)I" } : Jvm.MethodName)) ∈ AW := aw_5 (List.mem_of_getElem? (i := 93) (by decide +kernel)) (by decide +kernel)
theorem k_bab122c1be : (Jvm.Cond.instanceMethod ({ cls := "SpectrumDeskModel", name := "character", desc := "(I)I" } : Jvm.MethodName)) ∈ AW := aw_5 (List.mem_of_getElem? (i := 94) (by decide +kernel)) (by decide +kernel)
theorem k_f2d0b3925f : (Jvm.Cond.selects "SpectrumDeskModel" ({ cls := "SpectrumDeskModel", name := "character", desc := "(I)I" } : Jvm.MethodName) ({ cls := "SpectrumDeskModel", name := "character", desc := "(I)I" } : Jvm.MethodName)) ∈ AW := aw_5 (List.mem_of_getElem? (i := 95) (by decide +kernel)) (by decide +kernel)
set_option maxHeartbeats 4000000 in
set_option maxRecDepth 100000 in
theorem lop_at {p : Program} {l : Launch} {e : Env} {s : State} {m : MethodId} {args : Array Value} {below : List Frame} {meth : Method} {c : Code} {Q : State → Prop} {H : Heap} {cells slots : Nat} {ls : Array Slot} {D : va_G} {cI cJ cZ cC cG cP : ClassId} {ad : Nat → Nat} {σ : Nat → va_E} {b L i : Nat} {xs : Nat → Int32} (hx : p.tables.exec = Jvm.exec) (hb : c.code = b_law) (X : xX p c b_law 8 s args (wl :: AW) "SpectrumDeskLaw" m D classes (xT cI cJ cZ cC cG cP) ) (hz : ∀ k, s.heap.size ≤ ad k) (hT : xtOK (xA 193 ad) s) (hfl : l.flags = Jvm.pinnedFlags ++ [Jvm.noTraceFlag]) (hX : va_X b L xs s s.heap) (hbl : b < s.heap.size) (hL : L ≤ 3584) (hi : i + 7 ≤ L) (hR : cells + 1 ≤ room_1.cells ∧ slots + 6 ≤ room_1.slots)  (hl : lv_has ls 8 [(0, .ref b), (1, .ref (ad 0)), (2, .ref (ad 183)), (3, .ref (ad 192)), (4, .int (nI i))]) (hI : LI ad cI cJ cZ cC cG cP σ) (I : xI D classes 193 ad s.heap σ H [])
    (kk : ∀ (ls : Array Slot) (σ : Nat → va_E) (H : Heap), lv_has ls 8 [(0, .ref b), (1, .ref (ad 0)), (2, .ref (ad 183)), (3, .ref (ad 192)), (4, .int (nI i))] → LI ad cI cJ cZ cC cG cP σ → xI D classes 193 ad s.heap σ H [] → W p l e room_1 s m args below meth c H [] (cells + 1) (slots + 6) Q (F0 m 867 ls [])) :
    W p l e room_1 s m args below meth c H [] cells slots Q (F0 m 216 ls []) := by
  obtain ⟨n, st, A, rw, S, P, ln, Tx, A9, Dt, Pr, th, fo, h1n, hn6, hCK, hm, ho, hLR⟩ := hI
  obtain ⟨fs9, hfs⟩ := mS_o hm
  have hR0 : cells ≤ room_1.cells ∧ slots ≤ room_1.slots := ⟨by omega, by omega⟩
  obtain ⟨q1, q2, q3, q4, q5⟩ := id hCK
  obtain ⟨r1_, r2_, r3_, r_⟩ := id hLR
  by_cases hv1 : (xs (i + 1) < 0 ∨ nI n ≤ xs (i + 1))
  · refine lv_aload_n hx hb d_law_216 rfl (lv_at hl 1 rfl) ?_
    refine lv_aload_n hx hb d_law_217 rfl (lv_at hl 0 rfl) ?_
    refine lv_iload hx hb d_law_218 (lv_at hl 4 rfl) ?_
    refine lv_iconst (v := nI 1) hx hb d_law_220 (by decide) ?_
    refine lv_iadd hx hb d_law_221 (xr_topi (y := nI (i + 1)) (nI_add i 1) ?_)
    refine xq_sld X I hz hX hbl (i := i + 1) (by omega) (by omega) d_law_222 ?_
    refine lv_aload_n hx hb d_law_223 rfl (lv_at hl 0 rfl) ?_
    refine lv_iload hx hb d_law_224 (lv_at hl 4 rfl) ?_
    refine lv_iconst (v := nI 2) hx hb d_law_226 (by decide) ?_
    refine lv_iadd hx hb d_law_227 (xr_topi (y := nI (i + 2)) (nI_add i 2) ?_)
    refine xq_sld X I hz hX hbl (i := i + 2) (by omega) (by omega) d_law_228 ?_
    refine lv_aload_n hx hb d_law_229 rfl (lv_at hl 3 rfl) ?_
    refine xq_callw hz (xq_runW (n := 4) (As := [.ref (ad 0), .int (xs (i + 1)), .int (xs (i + 2)), .ref (ad 192)]) (rest := []) X I hT (c_SpectrumDeskLaw_at_bad1 hfl rfl q1 hv1) rfl rfl (xg k_SpectrumDeskLaw_at) (List.mem_cons_of_mem _ k_070b1f68dc) (List.mem_cons_of_mem _ k_8446fcc03c) (List.mem_cons_of_mem _ k_fd7a21d612) (by decide +kernel) (by decide) rfl hl.1 rfl (Nat.le_of_ble_eq_true rfl) d_law_230 hR) I (fun r1 σ1 H hp I => ?_)
    obtain ⟨rfl, h9⟩ := hp; rw [h9] at I; clear h9
    refine lv_istore (lv' := [(5, .int (nI 1)), (0, .ref b), (1, .ref (ad 0)), (2, .ref (ad 183)), (3, .ref (ad 192)), (4, .int (nI i))]) hx hb d_law_233 hl (by decide) rfl (fun ls hl => ?_)
    refine lv_aload_n hx hb d_law_235 rfl (lv_at hl 3 rfl) ?_
    refine lv_aload_n hx hb d_law_236 rfl (lv_at hl 1 rfl) ?_
    refine lv_iload hx hb d_law_237 (lv_at hl 5 rfl) ?_
    refine lv_iconst (v := nI 1) hx hb d_law_239 (by decide) ?_
    refine lv_iadd hx hb d_law_240 (xr_topi (y := nI (i + 1)) (nI_add i 1) ?_)
    refine xq_sld X I hz hX hbl (i := i + 1) (by omega) (by omega) d_law_241 ?_
    refine lv_aload_n hx hb d_law_242 rfl (lv_at hl 1 rfl) ?_
    refine lv_iload hx hb d_law_243 (lv_at hl 5 rfl) ?_
    refine lv_iconst (v := nI 2) hx hb d_law_245 (by decide) ?_
    refine lv_iadd hx hb d_law_246 (xr_topi (y := nI (i + 2)) (nI_add i 2) ?_)
    refine xq_sld X I hz hX hbl (i := i + 2) (by omega) (by omega) d_law_247 ?_
    refine xq_calli hz (xq_runV (kc := 1) (n := 2) (As := [.int (xs (i + 1)), .int (xs (i + 2))]) (rest := []) X I (by decide) hfs rfl (c_SpectrumDeskModel_at_bad hm (fun h => hv1.elim h.1 (fun h2 => Int32.not_le.mpr h.2.1 h2))) (xg k_9a1762490f) (List.mem_cons_of_mem _ k_859292d855) (List.mem_cons_of_mem _ k_f602543dad) (List.mem_cons_of_mem _ k_558caf8e1e) (List.mem_cons_of_mem _ k_30fa15c9ac) (by decide +kernel) (by decide) rfl hl.1 rfl (Nat.le_of_ble_eq_true rfl) d_law_248 hR) I (fun r2 σ2 H hp I => ?_)
    obtain ⟨-, hm2⟩ := hp
    refine lv_istore (lv' := [(6, .int r2), (5, .int (nI 1)), (0, .ref b), (1, .ref (ad 0)), (2, .ref (ad 183)), (3, .ref (ad 192)), (4, .int (nI i))]) hx hb d_law_251 hl (by decide) rfl (fun ls hl => ?_)
    obtain ⟨fs8, hfs2⟩ := mS_o hm2
    refine lv_aload_n hx hb d_law_253 rfl (lv_at hl 4 rfl) ?_
    refine xq_calli hz (xq_runV (kc := 0) (n := 0) (As := []) (rest := []) X I (by decide) hfs2 rfl (c_SpectrumDeskModel_thrown hm2) (xg k_0428eee463) (List.mem_cons_of_mem _ k_43c58839ad) (List.mem_cons_of_mem _ k_bcd6d121c1) (List.mem_cons_of_mem _ k_e8fa1ab47a) (List.mem_cons_of_mem _ k_30fa15c9ac) (by decide +kernel) (by decide) rfl hl.1 rfl (Nat.le_of_ble_eq_true rfl) d_law_254 hR) I (fun r3 σ3 H hp I => ?_)
    obtain ⟨rfl, hm3⟩ := hp
    refine lv_iload hx hb d_law_257 (lv_at hl 1 rfl) ?_
    refine lv_icmp_eq hx hb d_law_259 rfl (fun hc => ?_) (fun hc => ?_)
    · refine lv_iload hx hb d_law_264 (lv_at hl 1 rfl) ?_
      refine lv_if_ne hx hb d_law_266 rfl (fun hd => ?_) (fun hd => ?_)
      · refine lv_goto hx hb d_law_281 rfl ?_
        have hl := lv_sub hl [2, 3, 4, 5, 6] rfl
        have hl : lv_has ls 8 [(0, .ref b), (1, .ref (ad 0)), (2, .ref (ad 183)), (3, .ref (ad 192)), (4, .int (nI i))] := hl
        exact kk ls _ _ hl ⟨n, st, A, rw, S, P, ln, Tx, A9, Dt, Pr, (nI 1), fo, h1n, hn6, hCK.same hn6 (fun q hq => mS_out hm3 q (Or.inl hq)), mS_in hm3 (fun _ _ _ => rfl), (mS_out hm3 192 (Or.inr (by decide))).trans ho, hLR⟩ I
      · exact absurd hd (by decide)
    · exact absurd rfl hc
  · obtain ⟨a9, ha9, hla⟩ := nI_ix (by omega) hv1
    by_cases hv2 : (xs (i + 2) < 0 ∨ nI n ≤ xs (i + 2))
    · refine lv_aload_n hx hb d_law_216 rfl (lv_at hl 1 rfl) ?_
      refine lv_aload_n hx hb d_law_217 rfl (lv_at hl 0 rfl) ?_
      refine lv_iload hx hb d_law_218 (lv_at hl 4 rfl) ?_
      refine lv_iconst (v := nI 1) hx hb d_law_220 (by decide) ?_
      refine lv_iadd hx hb d_law_221 (xr_topi (y := nI (i + 1)) (nI_add i 1) ?_)
      refine xq_sld X I hz hX hbl (i := i + 1) (by omega) (by omega) d_law_222 ?_
      refine xr_topi (y := nI a9) ha9 ?_
      refine lv_aload_n hx hb d_law_223 rfl (lv_at hl 0 rfl) ?_
      refine lv_iload hx hb d_law_224 (lv_at hl 4 rfl) ?_
      refine lv_iconst (v := nI 2) hx hb d_law_226 (by decide) ?_
      refine lv_iadd hx hb d_law_227 (xr_topi (y := nI (i + 2)) (nI_add i 2) ?_)
      refine xq_sld X I hz hX hbl (i := i + 2) (by omega) (by omega) d_law_228 ?_
      refine lv_aload_n hx hb d_law_229 rfl (lv_at hl 3 rfl) ?_
      refine xq_callw hz (xq_runW (n := 4) (As := [.ref (ad 0), .int (nI a9), .int (xs (i + 2)), .ref (ad 192)]) (rest := []) X I hT (c_SpectrumDeskLaw_at_bad2 hfl rfl q1 hn6 hla hv2) rfl rfl (xg k_SpectrumDeskLaw_at) (List.mem_cons_of_mem _ k_070b1f68dc) (List.mem_cons_of_mem _ k_8446fcc03c) (List.mem_cons_of_mem _ k_fd7a21d612) (by decide +kernel) (by decide) rfl hl.1 rfl (Nat.le_of_ble_eq_true rfl) d_law_230 hR) I (fun r1 σ1 H hp I => ?_)
      obtain ⟨rfl, h9⟩ := hp; rw [h9] at I; clear h9
      refine lv_istore (lv' := [(5, .int (nI 1)), (0, .ref b), (1, .ref (ad 0)), (2, .ref (ad 183)), (3, .ref (ad 192)), (4, .int (nI i))]) hx hb d_law_233 hl (by decide) rfl (fun ls hl => ?_)
      refine lv_aload_n hx hb d_law_235 rfl (lv_at hl 3 rfl) ?_
      refine lv_aload_n hx hb d_law_236 rfl (lv_at hl 1 rfl) ?_
      refine lv_iload hx hb d_law_237 (lv_at hl 5 rfl) ?_
      refine lv_iconst (v := nI 1) hx hb d_law_239 (by decide) ?_
      refine lv_iadd hx hb d_law_240 (xr_topi (y := nI (i + 1)) (nI_add i 1) ?_)
      refine xq_sld X I hz hX hbl (i := i + 1) (by omega) (by omega) d_law_241 ?_
      refine lv_aload_n hx hb d_law_242 rfl (lv_at hl 1 rfl) ?_
      refine lv_iload hx hb d_law_243 (lv_at hl 5 rfl) ?_
      refine lv_iconst (v := nI 2) hx hb d_law_245 (by decide) ?_
      refine lv_iadd hx hb d_law_246 (xr_topi (y := nI (i + 2)) (nI_add i 2) ?_)
      refine xq_sld X I hz hX hbl (i := i + 2) (by omega) (by omega) d_law_247 ?_
      refine xq_calli hz (xq_runV (kc := 1) (n := 2) (As := [.int (xs (i + 1)), .int (xs (i + 2))]) (rest := []) X I (by decide) hfs rfl (c_SpectrumDeskModel_at_bad hm (fun h => hv2.elim h.2.2.1 (fun h2 => Int32.not_le.mpr h.2.2.2 h2))) (xg k_9a1762490f) (List.mem_cons_of_mem _ k_859292d855) (List.mem_cons_of_mem _ k_f602543dad) (List.mem_cons_of_mem _ k_558caf8e1e) (List.mem_cons_of_mem _ k_30fa15c9ac) (by decide +kernel) (by decide) rfl hl.1 rfl (Nat.le_of_ble_eq_true rfl) d_law_248 hR) I (fun r2 σ2 H hp I => ?_)
      obtain ⟨-, hm2⟩ := hp
      refine lv_istore (lv' := [(6, .int r2), (5, .int (nI 1)), (0, .ref b), (1, .ref (ad 0)), (2, .ref (ad 183)), (3, .ref (ad 192)), (4, .int (nI i))]) hx hb d_law_251 hl (by decide) rfl (fun ls hl => ?_)
      obtain ⟨fs8, hfs2⟩ := mS_o hm2
      refine lv_aload_n hx hb d_law_253 rfl (lv_at hl 4 rfl) ?_
      refine xq_calli hz (xq_runV (kc := 0) (n := 0) (As := []) (rest := []) X I (by decide) hfs2 rfl (c_SpectrumDeskModel_thrown hm2) (xg k_0428eee463) (List.mem_cons_of_mem _ k_43c58839ad) (List.mem_cons_of_mem _ k_bcd6d121c1) (List.mem_cons_of_mem _ k_e8fa1ab47a) (List.mem_cons_of_mem _ k_30fa15c9ac) (by decide +kernel) (by decide) rfl hl.1 rfl (Nat.le_of_ble_eq_true rfl) d_law_254 hR) I (fun r3 σ3 H hp I => ?_)
      obtain ⟨rfl, hm3⟩ := hp
      refine lv_iload hx hb d_law_257 (lv_at hl 1 rfl) ?_
      refine lv_icmp_eq hx hb d_law_259 rfl (fun hc => ?_) (fun hc => ?_)
      · refine lv_iload hx hb d_law_264 (lv_at hl 1 rfl) ?_
        refine lv_if_ne hx hb d_law_266 rfl (fun hd => ?_) (fun hd => ?_)
        · refine lv_goto hx hb d_law_281 rfl ?_
          have hl := lv_sub hl [2, 3, 4, 5, 6] rfl
          have hl : lv_has ls 8 [(0, .ref b), (1, .ref (ad 0)), (2, .ref (ad 183)), (3, .ref (ad 192)), (4, .int (nI i))] := hl
          exact kk ls _ _ hl ⟨n, st, A, rw, S, P, ln, Tx, A9, Dt, Pr, (nI 1), fo, h1n, hn6, hCK.same hn6 (fun q hq => mS_out hm3 q (Or.inl hq)), mS_in hm3 (fun _ _ _ => rfl), (mS_out hm3 192 (Or.inr (by decide))).trans ho, hLR⟩ I
        · exact absurd hd (by decide)
      · exact absurd rfl hc
    · obtain ⟨b9, hb9, hlb⟩ := nI_ix (by omega) hv2
      refine lv_aload_n hx hb d_law_216 rfl (lv_at hl 1 rfl) ?_
      refine lv_aload_n hx hb d_law_217 rfl (lv_at hl 0 rfl) ?_
      refine lv_iload hx hb d_law_218 (lv_at hl 4 rfl) ?_
      refine lv_iconst (v := nI 1) hx hb d_law_220 (by decide) ?_
      refine lv_iadd hx hb d_law_221 (xr_topi (y := nI (i + 1)) (nI_add i 1) ?_)
      refine xq_sld X I hz hX hbl (i := i + 1) (by omega) (by omega) d_law_222 ?_
      refine xr_topi (y := nI a9) ha9 ?_
      refine lv_aload_n hx hb d_law_223 rfl (lv_at hl 0 rfl) ?_
      refine lv_iload hx hb d_law_224 (lv_at hl 4 rfl) ?_
      refine lv_iconst (v := nI 2) hx hb d_law_226 (by decide) ?_
      refine lv_iadd hx hb d_law_227 (xr_topi (y := nI (i + 2)) (nI_add i 2) ?_)
      refine xq_sld X I hz hX hbl (i := i + 2) (by omega) (by omega) d_law_228 ?_
      refine xr_topi (y := nI b9) hb9 ?_
      refine lv_aload_n hx hb d_law_229 rfl (lv_at hl 3 rfl) ?_
      refine xq_callw hz (xq_runW (n := 4) (As := [.ref (ad 0), .int (nI a9), .int (nI b9), .ref (ad 192)]) (rest := []) X I hT (c_SpectrumDeskLaw_at_ok rfl q1 hn6 q2 hla hlb ho) rfl rfl (xg k_SpectrumDeskLaw_at) (List.mem_cons_of_mem _ k_070b1f68dc) (List.mem_cons_of_mem _ k_8446fcc03c) (List.mem_cons_of_mem _ k_fd7a21d612) (by decide +kernel) (by decide) rfl hl.1 rfl (Nat.le_of_ble_eq_true rfl) d_law_230 hR) I (fun r1 σ1 H hp I => ?_)
      obtain ⟨rfl, h9⟩ := hp
      have k1 : ∀ q, q ≠ 192 → σ1 q = σ q := fun q hq => by rw [h9]; exact va_up_ne _ _ hq
      have o1 : σ1 192 = .inl (cJ, 1, .inr (.inl (vp_updL fo 0 (A a9 b9).toInt64))) := by rw [h9]; exact va_up_self _ _ _
      clear h9
      have hm1 : mS ad cI cZ σ1 th n A9 rw Dt ln Pr σ1 := mS_in hm (fun q _ _ => k1 q (by omega))
      obtain ⟨fs7, hfs1⟩ := mS_o hm1
      refine lv_istore (lv' := [(5, .int (nI 0)), (0, .ref b), (1, .ref (ad 0)), (2, .ref (ad 183)), (3, .ref (ad 192)), (4, .int (nI i))]) hx hb d_law_233 hl (by decide) rfl (fun ls hl => ?_)
      refine lv_aload_n hx hb d_law_235 rfl (lv_at hl 3 rfl) ?_
      refine lv_aload_n hx hb d_law_236 rfl (lv_at hl 1 rfl) ?_
      refine lv_iload hx hb d_law_237 (lv_at hl 5 rfl) ?_
      refine lv_iconst (v := nI 1) hx hb d_law_239 (by decide) ?_
      refine lv_iadd hx hb d_law_240 (xr_topi (y := nI (i + 1)) (nI_add i 1) ?_)
      refine xq_sld X I hz hX hbl (i := i + 1) (by omega) (by omega) d_law_241 ?_
      refine xr_topi (y := nI a9) ha9 ?_
      refine lv_aload_n hx hb d_law_242 rfl (lv_at hl 1 rfl) ?_
      refine lv_iload hx hb d_law_243 (lv_at hl 5 rfl) ?_
      refine lv_iconst (v := nI 2) hx hb d_law_245 (by decide) ?_
      refine lv_iadd hx hb d_law_246 (xr_topi (y := nI (i + 2)) (nI_add i 2) ?_)
      refine xq_sld X I hz hX hbl (i := i + 2) (by omega) (by omega) d_law_247 ?_
      refine xr_topi (y := nI b9) hb9 ?_
      refine xq_calli hz (xq_runV (kc := 1) (n := 2) (As := [.int (nI a9), .int (nI b9)]) (rest := []) X I (by decide) hfs1 rfl (c_SpectrumDeskModel_at_ok hm1 hla hlb hn6) (xg k_9a1762490f) (List.mem_cons_of_mem _ k_859292d855) (List.mem_cons_of_mem _ k_f602543dad) (List.mem_cons_of_mem _ k_558caf8e1e) (List.mem_cons_of_mem _ k_30fa15c9ac) (by decide +kernel) (by decide) rfl hl.1 rfl (Nat.le_of_ble_eq_true rfl) d_law_248 hR) I (fun r2 σ2 H hp I => ?_)
      obtain ⟨e2, hm2⟩ := hp
      refine lv_istore (lv' := [(6, .int r2), (5, .int (nI 0)), (0, .ref b), (1, .ref (ad 0)), (2, .ref (ad 183)), (3, .ref (ad 192)), (4, .int (nI i))]) hx hb d_law_251 hl (by decide) rfl (fun ls hl => ?_)
      obtain ⟨fs8, hfs2⟩ := mS_o hm2
      refine lv_aload_n hx hb d_law_253 rfl (lv_at hl 4 rfl) ?_
      refine xq_calli hz (xq_runV (kc := 0) (n := 0) (As := []) (rest := []) X I (by decide) hfs2 rfl (c_SpectrumDeskModel_thrown hm2) (xg k_0428eee463) (List.mem_cons_of_mem _ k_43c58839ad) (List.mem_cons_of_mem _ k_bcd6d121c1) (List.mem_cons_of_mem _ k_e8fa1ab47a) (List.mem_cons_of_mem _ k_30fa15c9ac) (by decide +kernel) (by decide) rfl hl.1 rfl (Nat.le_of_ble_eq_true rfl) d_law_254 hR) I (fun r3 σ3 H hp I => ?_)
      obtain ⟨rfl, hm3⟩ := hp
      refine lv_iload hx hb d_law_257 (lv_at hl 1 rfl) ?_
      refine lv_icmp_eq hx hb d_law_259 rfl (fun hc => ?_) (fun hc => ?_)
      · refine lv_iload hx hb d_law_264 (lv_at hl 1 rfl) ?_
        refine lv_if_ne hx hb d_law_266 rfl (fun hd => ?_) (fun hd => ?_)
        · exact absurd rfl hd
        · refine lv_aload_n hx hb d_law_269 rfl (lv_at hl 5 rfl) ?_
          refine lv_iconst (v := nI 0) hx hb d_law_270 (by decide) ?_
          refine xr_lald X I 192 1 (by decide) ((mS_out hm3 192 (Or.inr (by decide))).trans o1) rfl (by decide) (by decide) d_law_271 ?_
          refine xr_topl (y := (A a9 b9).toInt64) rfl ?_
          refine lv_iload hx hb d_law_272 (lv_at hl 0 rfl) ?_
          refine lv_i2l hx hb d_law_274 rfl ?_
          refine W.lcmp hx hb d_law_275 ?_
          refine lv_if_eq hx hb d_law_276 rfl (fun he => ?_) (fun he => ?_)
          · refine lv_goto hx hb d_law_281 rfl ?_
            have hl := lv_sub hl [2, 3, 4, 5, 6] rfl
            have hl : lv_has ls 8 [(0, .ref b), (1, .ref (ad 0)), (2, .ref (ad 183)), (3, .ref (ad 192)), (4, .int (nI i))] := hl
            exact kk ls _ _ hl ⟨n, st, A, rw, S, P, ln, Tx, A9, Dt, Pr, (nI 0), _, h1n, hn6, (hCK.same hn6 (fun q hq => (mS_out hm3 q (Or.inl hq)).trans (k1 q (by omega)))), mS_in hm3 (fun _ _ _ => rfl), ((mS_out hm3 192 (Or.inr (by decide))).trans o1), hLR⟩ I
          · exact absurd ((lg_cmp_eq _ _).mpr (by rw [e2, (r3_ a9 b9 hla hlb).1])) he
      · exact absurd rfl hc
set_option maxHeartbeats 4000000 in
set_option maxRecDepth 100000 in
theorem lop_shift {p : Program} {l : Launch} {e : Env} {s : State} {m : MethodId} {args : Array Value} {below : List Frame} {meth : Method} {c : Code} {Q : State → Prop} {H : Heap} {cells slots : Nat} {ls : Array Slot} {D : va_G} {cI cJ cZ cC cG cP : ClassId} {ad : Nat → Nat} {σ : Nat → va_E} {b L i : Nat} {xs : Nat → Int32} (hx : p.tables.exec = Jvm.exec) (hb : c.code = b_law) (X : xX p c b_law 8 s args (wl :: AW) "SpectrumDeskLaw" m D classes (xT cI cJ cZ cC cG cP) ) (hz : ∀ k, s.heap.size ≤ ad k) (hT : xtOK (xA 193 ad) s) (hfl : l.flags = Jvm.pinnedFlags ++ [Jvm.noTraceFlag]) (hX : va_X b L xs s s.heap) (hbl : b < s.heap.size) (hL : L ≤ 3584) (hi : i + 7 ≤ L) (hR : cells + 1 ≤ room_1.cells ∧ slots + 6 ≤ room_1.slots)  (hl : lv_has ls 8 [(0, .ref b), (1, .ref (ad 0)), (2, .ref (ad 183)), (3, .ref (ad 192)), (4, .int (nI i))]) (hI : LI ad cI cJ cZ cC cG cP σ) (I : xI D classes 193 ad s.heap σ H [])
    (kk : ∀ (ls : Array Slot) (σ : Nat → va_E) (H : Heap), lv_has ls 8 [(0, .ref b), (1, .ref (ad 0)), (2, .ref (ad 183)), (3, .ref (ad 192)), (4, .int (nI i))] → LI ad cI cJ cZ cC cG cP σ → xI D classes 193 ad s.heap σ H [] → W p l e room_1 s m args below meth c H [] (cells + 1) (slots + 6) Q (F0 m 867 ls [])) :
    W p l e room_1 s m args below meth c H [] cells slots Q (F0 m 409 ls []) := by
  obtain ⟨n, st, A, rw, S, P, ln, Tx, A9, Dt, Pr, th, fo, h1n, hn6, hCK, hm, ho, hLR⟩ := hI
  obtain ⟨fs9, hfs⟩ := mS_o hm
  have hR0 : cells ≤ room_1.cells ∧ slots ≤ room_1.slots := ⟨by omega, by omega⟩
  obtain ⟨q1, q2, q3, q4, q5⟩ := id hCK
  refine lv_aload_n hx hb d_law_409 rfl (lv_at hl 1 rfl) ?_
  refine lv_aload_n hx hb d_law_410 rfl (lv_at hl 0 rfl) ?_
  refine lv_iload hx hb d_law_411 (lv_at hl 4 rfl) ?_
  refine lv_iconst (v := nI 1) hx hb d_law_413 (by decide) ?_
  refine lv_iadd hx hb d_law_414 (xr_topi (y := nI (i + 1)) (nI_add i 1) ?_)
  refine xq_sld X I hz hX hbl (i := i + 1) (by omega) (by omega) d_law_415 ?_
  refine xq_calli hz (xq_runV (kc := 1) (n := 1) (As := [.int (xs (i + 1))]) (rest := []) X I (by decide) q1 rfl (c_SpectrumDesk_shift (v := xs (i + 1)) rfl q1 hn6 q2) (xg k_aef2d4b5f1) (List.mem_cons_of_mem _ k_14d1db5242) (List.mem_cons_of_mem _ k_d17b139101) (List.mem_cons_of_mem _ k_33db807049) (List.mem_cons_of_mem _ k_6836736ab7) (by decide +kernel) (by decide) rfl hl.1 rfl (Nat.le_of_ble_eq_true rfl) d_law_416 hR0) I (fun r1 σ1 H hp I => ?_)
  rcases hp with ⟨hf, rfl, A', g1, g2, g3, g4⟩ | ⟨hf, rfl, h9⟩
  · have hm1 : mS ad cI cZ σ1 th n A9 rw Dt ln Pr σ1 := mS_in hm (fun q a9 b9 => g1 q (by omega) (by omega))
    obtain ⟨fs7, hfs1⟩ := mS_o hm1
    refine lv_aload_n hx hb d_law_419 rfl (lv_at hl 2 rfl) ?_
    refine lv_aload_n hx hb d_law_420 rfl (lv_at hl 0 rfl) ?_
    refine lv_iload hx hb d_law_421 (lv_at hl 4 rfl) ?_
    refine lv_iconst (v := nI 1) hx hb d_law_423 (by decide) ?_
    refine lv_iadd hx hb d_law_424 (xr_topi (y := nI (i + 1)) (nI_add i 1) ?_)
    refine xq_sld X I hz hX hbl (i := i + 1) (by omega) (by omega) d_law_425 ?_
    refine xq_calli hz (xq_runV (kc := 1) (n := 1) (As := [.int (xs (i + 1))]) (rest := [.int (nI 0)]) X I (by decide) hfs1 rfl (c_SpectrumDeskModel_shift (v := xs (i + 1)) hm1 hn6) (xg k_45de0e4c61) (List.mem_cons_of_mem _ k_dcc6a106a3) (List.mem_cons_of_mem _ k_4e4eae5cbc) (List.mem_cons_of_mem _ k_ab9743df98) (List.mem_cons_of_mem _ k_30fa15c9ac) (by decide +kernel) (by decide) rfl hl.1 rfl (Nat.le_of_ble_eq_true rfl) d_law_426 hR0) I (fun r2 σ2 H hp I => ?_)
    rcases hp with ⟨hf2, rfl, hm2⟩ | ⟨⟨j9, hj9, hf2⟩, rfl, hm2⟩
    · refine lv_icmp_eq hx hb d_law_429 rfl (fun hc => ?_) (fun hc => ?_)
      · have ck1 : CK ad cI cJ cZ cC cG cP σ1 n (nI 1) A' rw S P ln Tx := ⟨g2, g3, dkR_same q3 (fun q hq => g1 q (by omega) (by omega)), spZ_all q4 (fun q a9 b9 => g1 q (by omega) (by omega)), Or.inr ⟨rfl, spN_all (hCK.N hn6) (fun q a9 b9 => g1 q (by omega) (by omega))⟩⟩
        exact W.widen (by omega) (by omega) (kk ls _ _ hl ⟨n, (nI 1), A', rw, S, P, ln, Tx, _, Dt, Pr, (nI 0), fo, h1n, hn6, ck1.same hn6 (fun q hq => (mS_out hm2 q (Or.inl hq))), mS_in hm2 (fun _ _ _ => rfl), (mS_out hm2 192 (Or.inr (by decide))).trans ((g1 192 (by decide) (by omega)).trans ho), (LR_shift hLR hn6 hf g4)⟩ I)
      · exact absurd rfl hc
    · exact absurd (isS_sh hLR hf hj9) hf2
  · rw [h9] at I; clear h9
    refine lv_aload_n hx hb d_law_419 rfl (lv_at hl 2 rfl) ?_
    refine lv_aload_n hx hb d_law_420 rfl (lv_at hl 0 rfl) ?_
    refine lv_iload hx hb d_law_421 (lv_at hl 4 rfl) ?_
    refine lv_iconst (v := nI 1) hx hb d_law_423 (by decide) ?_
    refine lv_iadd hx hb d_law_424 (xr_topi (y := nI (i + 1)) (nI_add i 1) ?_)
    refine xq_sld X I hz hX hbl (i := i + 1) (by omega) (by omega) d_law_425 ?_
    refine xq_calli hz (xq_runV (kc := 1) (n := 1) (As := [.int (xs (i + 1))]) (rest := [.int (-2)]) X I (by decide) hfs rfl (c_SpectrumDeskModel_shift (v := xs (i + 1)) hm hn6) (xg k_45de0e4c61) (List.mem_cons_of_mem _ k_dcc6a106a3) (List.mem_cons_of_mem _ k_4e4eae5cbc) (List.mem_cons_of_mem _ k_ab9743df98) (List.mem_cons_of_mem _ k_30fa15c9ac) (by decide +kernel) (by decide) rfl hl.1 rfl (Nat.le_of_ble_eq_true rfl) d_law_426 hR0) I (fun r2 σ2 H hp I => ?_)
    rcases hp with ⟨hf2, rfl, hm2⟩ | ⟨-, rfl, hm2⟩
    · exact absurd (fun j hj => sh_isS hLR hj (hf2 j hj)) hf
    · refine lv_icmp_eq hx hb d_law_429 rfl (fun hc => ?_) (fun hc => ?_)
      · exact W.widen (by omega) (by omega) (kk ls _ _ hl ⟨n, st, A, rw, S, P, ln, Tx, A9, Dt, Pr, (nI 0), fo, h1n, hn6, hCK.same hn6 (fun q hq => mS_out hm2 q (Or.inl hq)), mS_in hm2 (fun _ _ _ => rfl), (mS_out hm2 192 (Or.inr (by decide))).trans ho, hLR⟩ I)
      · exact absurd rfl hc
set_option maxHeartbeats 4000000 in
set_option maxRecDepth 100000 in
theorem lop_character {p : Program} {l : Launch} {e : Env} {s : State} {m : MethodId} {args : Array Value} {below : List Frame} {meth : Method} {c : Code} {Q : State → Prop} {H : Heap} {cells slots : Nat} {ls : Array Slot} {D : va_G} {cI cJ cZ cC cG cP : ClassId} {ad : Nat → Nat} {σ : Nat → va_E} {b L i : Nat} {xs : Nat → Int32} (hx : p.tables.exec = Jvm.exec) (hb : c.code = b_law) (X : xX p c b_law 8 s args (wl :: AW) "SpectrumDeskLaw" m D classes (xT cI cJ cZ cC cG cP) ) (hz : ∀ k, s.heap.size ≤ ad k) (hT : xtOK (xA 193 ad) s) (hfl : l.flags = Jvm.pinnedFlags ++ [Jvm.noTraceFlag]) (hX : va_X b L xs s s.heap) (hbl : b < s.heap.size) (hL : L ≤ 3584) (hi : i + 7 ≤ L) (hR : cells + 1 ≤ room_1.cells ∧ slots + 6 ≤ room_1.slots)  (hl : lv_has ls 8 [(0, .ref b), (1, .ref (ad 0)), (2, .ref (ad 183)), (3, .ref (ad 192)), (4, .int (nI i))]) (hI : LI ad cI cJ cZ cC cG cP σ) (I : xI D classes 193 ad s.heap σ H [])
    (kk : ∀ (ls : Array Slot) (σ : Nat → va_E) (H : Heap), lv_has ls 8 [(0, .ref b), (1, .ref (ad 0)), (2, .ref (ad 183)), (3, .ref (ad 192)), (4, .int (nI i))] → LI ad cI cJ cZ cC cG cP σ → xI D classes 193 ad s.heap σ H [] → W p l e room_1 s m args below meth c H [] (cells + 1) (slots + 6) Q (F0 m 867 ls [])) :
    W p l e room_1 s m args below meth c H [] cells slots Q (F0 m 459 ls []) := by
  obtain ⟨n, st, A, rw, S, P, ln, Tx, A9, Dt, Pr, th, fo, h1n, hn6, hCK, hm, ho, hLR⟩ := hI
  obtain ⟨fs9, hfs⟩ := mS_o hm
  have hR0 : cells ≤ room_1.cells ∧ slots ≤ room_1.slots := ⟨by omega, by omega⟩
  obtain ⟨q1, q2, ⟨d1, d2, d3, d4, d5, d6, d7⟩, q4, q5⟩ := id hCK
  obtain ⟨r1_, r2_, r3_, r4_, r5_, r6_, r7_, r8_, r9_⟩ := id hLR
  refine lv_aload_n hx hb d_law_459 rfl (lv_at hl 1 rfl) ?_
  refine lv_aload_n hx hb d_law_460 rfl (lv_at hl 0 rfl) ?_
  refine lv_iload hx hb d_law_461 (lv_at hl 4 rfl) ?_
  refine lv_iconst (v := nI 1) hx hb d_law_463 (by decide) ?_
  refine lv_iadd hx hb d_law_464 (xr_topi (y := nI (i + 1)) (nI_add i 1) ?_)
  refine xq_sld X I hz hX hbl (i := i + 1) (by omega) (by omega) d_law_465 ?_
  refine xq_calli hz (xq_runV (kc := 0) (n := 1) (As := [.int (xs (i + 1))]) (rest := []) X I (by decide) q1 rfl (c_SpectrumDesk_character (v := xs (i + 1)) rfl q1 d5 d6 r8_) (xg k_a36102c112) (List.mem_cons_of_mem _ k_1a472f94e9) (List.mem_cons_of_mem _ k_3ed97aee73) (List.mem_cons_of_mem _ k_5f3a92f86d) (List.mem_cons_of_mem _ k_6836736ab7) (by decide +kernel) (by decide) rfl hl.1 rfl (Nat.le_of_ble_eq_true rfl) d_law_466 hR0) I (fun r1 σ1 H hp I => ?_)
  obtain ⟨e1, e1b, h9⟩ := hp; rw [h9] at I; clear h9
  refine lv_aload_n hx hb d_law_469 rfl (lv_at hl 2 rfl) ?_
  refine lv_aload_n hx hb d_law_470 rfl (lv_at hl 0 rfl) ?_
  refine lv_iload hx hb d_law_471 (lv_at hl 4 rfl) ?_
  refine lv_iconst (v := nI 1) hx hb d_law_473 (by decide) ?_
  refine lv_iadd hx hb d_law_474 (xr_topi (y := nI (i + 1)) (nI_add i 1) ?_)
  refine xq_sld X I hz hX hbl (i := i + 1) (by omega) (by omega) d_law_475 ?_
  refine xq_calli hz (xq_runV (kc := 0) (n := 1) (As := [.int (xs (i + 1))]) (rest := [.int r1]) X I (by decide) hfs rfl (c_SpectrumDeskModel_character (v := xs (i + 1)) hm (by omega)) (xg k_932aa0cc1c) (List.mem_cons_of_mem _ k_03a195b13a) (List.mem_cons_of_mem _ k_bab122c1be) (List.mem_cons_of_mem _ k_f2d0b3925f) (List.mem_cons_of_mem _ k_30fa15c9ac) (by decide +kernel) (by decide) rfl hl.1 rfl (Nat.le_of_ble_eq_true rfl) d_law_476 hR0) I (fun r2 σ2 H hp I => ?_)
  obtain ⟨e2, hm2⟩ := hp
  refine lv_icmp_eq hx hb d_law_479 rfl (fun hc => ?_) (fun hc => ?_)
  · exact W.widen (by omega) (by omega) (kk ls _ _ hl ⟨n, st, A, rw, S, P, ln, Tx, A9, Dt, Pr, (nI 0), fo, h1n, hn6, hCK.same hn6 (fun q hq => mS_out hm2 q (Or.inl hq)), mS_in hm2 (fun _ _ _ => rfl), (mS_out hm2 192 (Or.inr (by decide))).trans ho, hLR⟩ I)
  · exact absurd (ch_same r8_ r9_ e1 e1b e2) hc
