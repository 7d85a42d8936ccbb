/-! the law, call by call (written by wip/gen) -/
theorem k_ece0102c47 : (Jvm.Cond.methodLink "SpectrumDeskLaw" (63 : Nat) ({ cls := "SpectrumDesk", name := "size", desc := "(I)I" } : Jvm.MethodName)) ∈ AW := aw_1 (List.mem_of_getElem? (i := 223) (by decide +kernel)) (by decide +kernel)
theorem k_79fd9a1a25 : (Jvm.Cond.instanceMethod ({ cls := "SpectrumDesk", name := "size", desc := "(I)I" } : Jvm.MethodName)) ∈ AW := aw_1 (List.mem_of_getElem? (i := 224) (by decide +kernel)) (by decide +kernel)
theorem k_66ed2003b1 : (Jvm.Cond.selects "SpectrumDesk" ({ cls := "SpectrumDesk", name := "size", desc := "(I)I" } : Jvm.MethodName) ({ cls := "SpectrumDesk", name := "size", desc := "(I)I" } : Jvm.MethodName)) ∈ AW := aw_1 (List.mem_of_getElem? (i := 225) (by decide +kernel)) (by decide +kernel)
theorem k_6995f3f5d6 : (Jvm.Cond.methodLink "SpectrumDeskLaw" (66 : Nat) ({ cls := "SpectrumDeskModel", name := "size", desc := "(I)I" } : Jvm.MethodName)) ∈ AW := aw_5 (List.mem_of_getElem? (i := 8) (by decide +kernel)) (by decide +kernel)
theorem k_e7619f5308 : (Jvm.Cond.instanceMethod ({ cls := "SpectrumDeskModel", name := "size", desc := "(I)I" } : Jvm.MethodName)) ∈ AW := aw_5 (List.mem_of_getElem? (i := 9) (by decide +kernel)) (by decide +kernel)
theorem k_57b0103e37 : (Jvm.Cond.selects "SpectrumDeskModel" ({ cls := "SpectrumDeskModel", name := "size", desc := "(I)I" } : Jvm.MethodName) ({ cls := "SpectrumDeskModel", name := "size", desc := "(I)I" } : Jvm.MethodName)) ∈ AW := aw_5 (List.mem_of_getElem? (i := 10) (by decide +kernel)) (by decide +kernel)
theorem k_fe7833e33d : (Jvm.Cond.methodLink "SpectrumDeskLaw" (45 : Nat) ({ cls := "SpectrumDeskLaw", name := "make", desc := "(LSpectrumDesk;I)I" } : Jvm.MethodName)) ∈ AW := aw_4 (List.mem_of_getElem? (i := 69) (by decide +kernel)) (by decide +kernel)
theorem k_36b6b910f4 : (Jvm.Cond.static ({ cls := "SpectrumDeskLaw", name := "make", desc := "(LSpectrumDesk;I)I" } : Jvm.MethodName)) ∈ AW := aw_4 (List.mem_of_getElem? (i := 70) (by decide +kernel)) (by decide +kernel)
theorem k_fd7a21d612 : (Jvm.Cond.initialized "SpectrumDeskLaw") ∈ AW := aw_1 (List.mem_of_getElem? (i := 0) (by decide +kernel)) (by decide +kernel)
theorem k_2eae3a3503 : (Jvm.Cond.methodLink "SpectrumDeskLaw" (50 : Nat) ({ cls := "SpectrumDeskModel", name := "make", desc := "(I)V" } : Jvm.MethodName)) ∈ AW := aw_4 (List.mem_of_getElem? (i := 227) (by decide +kernel)) (by decide +kernel)
theorem k_04cb185b8b : (Jvm.Cond.instanceMethod ({ cls := "SpectrumDeskModel", name := "make", desc := "(I)V" } : Jvm.MethodName)) ∈ AW := aw_4 (List.mem_of_getElem? (i := 228) (by decide +kernel)) (by decide +kernel)
theorem k_4aa79df393 : (Jvm.Cond.selects "SpectrumDeskModel" ({ cls := "SpectrumDeskModel", name := "make", desc := "(I)V" } : Jvm.MethodName) ({ cls := "SpectrumDeskModel", name := "make", desc := "(I)V" } : Jvm.MethodName)) ∈ AW := aw_4 (List.mem_of_getElem? (i := 229) (by decide +kernel)) (by decide +kernel)
theorem k_43c58839ad : (Jvm.Cond.methodLink "SpectrumDeskLaw" (51 : Nat) ({ cls := "SpectrumDeskModel", name := "thrown", desc := "()I" } : Jvm.MethodName)) ∈ AW := aw_4 (List.mem_of_getElem? (i := 223) (by decide +kernel)) (by decide +kernel)
theorem k_bcd6d121c1 : (Jvm.Cond.instanceMethod ({ cls := "SpectrumDeskModel", name := "thrown", desc := "()I" } : Jvm.MethodName)) ∈ AW := aw_4 (List.mem_of_getElem? (i := 224) (by decide +kernel)) (by decide +kernel)
theorem k_e8fa1ab47a : (Jvm.Cond.selects "SpectrumDeskModel" ({ cls := "SpectrumDeskModel", name := "thrown", desc := "()I" } : Jvm.MethodName) ({ cls := "SpectrumDeskModel", name := "thrown", desc := "()I" } : Jvm.MethodName)) ∈ AW := aw_4 (List.mem_of_getElem? (i := 225) (by decide +kernel)) (by decide +kernel)
theorem k_d9f08df484 : (Jvm.Cond.methodLink "SpectrumDeskLaw" (55 : Nat) ({ cls := "SpectrumDeskLaw", name := "put", desc := "(LSpectrumDesk;III)I" } : Jvm.MethodName)) ∈ AW := aw_4 (List.mem_of_getElem? (i := 86) (by decide +kernel)) (by decide +kernel)
theorem k_d4e434530a : (Jvm.Cond.static ({ cls := "SpectrumDeskLaw", name := "put", desc := "(LSpectrumDesk;III)I" } : Jvm.MethodName)) ∈ AW := aw_4 (List.mem_of_getElem? (i := 87) (by decide +kernel)) (by decide +kernel)
theorem k_0a2a4a165a : (Jvm.Cond.methodLink "SpectrumDeskLaw" (58 : Nat) ({ cls := "SpectrumDeskModel", name := "put", desc := "(III)V" } : Jvm.MethodName)) ∈ AW := aw_4 (List.mem_of_getElem? (i := 231) (by decide +kernel)) (by decide +kernel)
theorem k_c800d39014 : (Jvm.Cond.instanceMethod ({ cls := "SpectrumDeskModel", name := "put", desc := "(III)V" } : Jvm.MethodName)) ∈ AW := aw_4 (List.mem_of_getElem? (i := 232) (by decide +kernel)) (by decide +kernel)
theorem k_f90176ac17 : (Jvm.Cond.selects "SpectrumDeskModel" ({ cls := "SpectrumDeskModel", name := "put", desc := "(III)V" } : Jvm.MethodName) ({ cls := "SpectrumDeskModel", name := "put", desc := "(III)V" } : Jvm.MethodName)) ∈ AW := aw_4 (List.mem_of_getElem? (i := 233) (by decide +kernel)) (by decide +kernel)
set_option maxHeartbeats 4000000 in
set_option maxRecDepth 100000 in
theorem lop_size {p : Program} {l : Launch} {e : Env} {s : State} {m : MethodId} {args : Array Value} {below : List Frame} {meth : Method} {c : Code} {Q : State → Prop} {H : Heap} {cells slots : Nat} {ls : Array Slot} {D : va_G} {cI cJ cZ cC cG cP : ClassId} {ad : Nat → Nat} {σ : Nat → va_E} {b L i : Nat} {xs : Nat → Int32} (hx : p.tables.exec = Jvm.exec) (hb : c.code = b_law) (X : xX p c b_law 8 s args (wl :: AW) "SpectrumDeskLaw" m D classes (xT cI cJ cZ cC cG cP) ) (hz : ∀ k, s.heap.size ≤ ad k) (hT : xtOK (xA 193 ad) s) (hfl : l.flags = Jvm.pinnedFlags ++ [Jvm.noTraceFlag]) (hX : va_X b L xs s s.heap) (hbl : b < s.heap.size) (hL : L ≤ 3584) (hi : i + 7 ≤ L) (hR : cells + 1 ≤ room_1.cells ∧ slots + 6 ≤ room_1.slots)  (hl : lv_has ls 8 [(0, .ref b), (1, .ref (ad 0)), (2, .ref (ad 183)), (3, .ref (ad 192)), (4, .int (nI i))]) (hI : LI ad cI cJ cZ cC cG cP σ) (I : xI D classes 193 ad s.heap σ H [])
    (kk : ∀ (ls : Array Slot) (σ : Nat → va_E) (H : Heap), lv_has ls 8 [(0, .ref b), (1, .ref (ad 0)), (2, .ref (ad 183)), (3, .ref (ad 192)), (4, .int (nI i))] → LI ad cI cJ cZ cC cG cP σ → xI D classes 193 ad s.heap σ H [] → W p l e room_1 s m args below meth c H [] (cells + 1) (slots + 6) Q (F0 m 867 ls [])) :
    W p l e room_1 s m args below meth c H [] cells slots Q (F0 m 284 ls []) := by
  obtain ⟨n, st, A, rw, S, P, ln, Tx, A9, Dt, Pr, th, fo, h1n, hn6, hCK, hm, ho, hLR⟩ := hI
  obtain ⟨fs9, hfs⟩ := mS_o hm
  have hR0 : cells ≤ room_1.cells ∧ slots ≤ room_1.slots := ⟨by omega, by omega⟩
  refine lv_aload_n hx hb d_law_284 rfl (lv_at hl 1 rfl) ?_
  refine lv_aload_n hx hb d_law_285 rfl (lv_at hl 0 rfl) ?_
  refine lv_iload hx hb d_law_286 (lv_at hl 4 rfl) ?_
  refine lv_iconst (v := nI 1) hx hb d_law_288 (by decide) ?_
  refine lv_iadd hx hb d_law_289 (xr_topi (y := nI (i + 1)) (nI_add i 1) ?_)
  refine xq_sld X I hz hX hbl (i := i + 1) (by omega) (by omega) d_law_290 ?_
  refine xq_calli hz (xq_runV (kc := 0) (n := 1) (As := [.int (xs (i + 1))]) (rest := []) X I (by decide) hCK.1 rfl (c_SpectrumDesk_size (v := xs (i + 1)) rfl hCK.1 hCK.2.2.1.2.1) (xg k_12fee4d66b) (List.mem_cons_of_mem _ k_ece0102c47) (List.mem_cons_of_mem _ k_79fd9a1a25) (List.mem_cons_of_mem _ k_66ed2003b1) (List.mem_cons_of_mem _ k_6836736ab7) (by decide +kernel) (by decide) rfl hl.1 rfl (Nat.le_of_ble_eq_true rfl) d_law_291 hR0) I (fun r1 σ1 H hp I => ?_)
  obtain ⟨e1, h9⟩ := hp; rw [h9] at I; clear h9
  refine lv_aload_n hx hb d_law_294 rfl (lv_at hl 2 rfl) ?_
  refine lv_aload_n hx hb d_law_295 rfl (lv_at hl 0 rfl) ?_
  refine lv_iload hx hb d_law_296 (lv_at hl 4 rfl) ?_
  refine lv_iconst (v := nI 1) hx hb d_law_298 (by decide) ?_
  refine lv_iadd hx hb d_law_299 (xr_topi (y := nI (i + 1)) (nI_add i 1) ?_)
  refine xq_sld X I hz hX hbl (i := i + 1) (by omega) (by omega) d_law_300 ?_
  refine xq_calli hz (xq_runV (kc := 0) (n := 1) (As := [.int (xs (i + 1))]) (rest := [.int r1]) X I (by decide) hfs rfl (c_SpectrumDeskModel_size (v := xs (i + 1)) hm) (xg k_d767834716) (List.mem_cons_of_mem _ k_6995f3f5d6) (List.mem_cons_of_mem _ k_e7619f5308) (List.mem_cons_of_mem _ k_57b0103e37) (List.mem_cons_of_mem _ k_30fa15c9ac) (by decide +kernel) (by decide) rfl hl.1 rfl (Nat.le_of_ble_eq_true rfl) d_law_301 hR0) I (fun r2 σ2 H hp I => ?_)
  obtain ⟨e2, hm2⟩ := hp
  refine lv_icmp_eq hx hb d_law_304 rfl (fun hc => ?_) (fun hc => ?_)
  · exact W.widen (by omega) (by omega) (kk ls _ _ hl ⟨n, st, A, rw, S, P, ln, Tx, A9, Dt, Pr, (nI 0), fo, h1n, hn6, hCK.same hn6 (fun q hq => mS_out hm2 q (Or.inl hq)), mS_in hm2 (fun _ _ _ => rfl), (mS_out hm2 192 (Or.inr (by decide))).trans ho, hLR⟩ I)
  · exact absurd (e1.trans e2.symm) hc
set_option maxHeartbeats 4000000 in
set_option maxRecDepth 100000 in
theorem lop_make {p : Program} {l : Launch} {e : Env} {s : State} {m : MethodId} {args : Array Value} {below : List Frame} {meth : Method} {c : Code} {Q : State → Prop} {H : Heap} {cells slots : Nat} {ls : Array Slot} {D : va_G} {cI cJ cZ cC cG cP : ClassId} {ad : Nat → Nat} {σ : Nat → va_E} {b L i : Nat} {xs : Nat → Int32} (hx : p.tables.exec = Jvm.exec) (hb : c.code = b_law) (X : xX p c b_law 8 s args (wl :: AW) "SpectrumDeskLaw" m D classes (xT cI cJ cZ cC cG cP) ) (hz : ∀ k, s.heap.size ≤ ad k) (hT : xtOK (xA 193 ad) s) (hfl : l.flags = Jvm.pinnedFlags ++ [Jvm.noTraceFlag]) (hX : va_X b L xs s s.heap) (hbl : b < s.heap.size) (hL : L ≤ 3584) (hi : i + 7 ≤ L) (hR : cells + 1 ≤ room_1.cells ∧ slots + 6 ≤ room_1.slots)  (hl : lv_has ls 8 [(0, .ref b), (1, .ref (ad 0)), (2, .ref (ad 183)), (3, .ref (ad 192)), (4, .int (nI i))]) (hI : LI ad cI cJ cZ cC cG cP σ) (I : xI D classes 193 ad s.heap σ H [])
    (kk : ∀ (ls : Array Slot) (σ : Nat → va_E) (H : Heap), lv_has ls 8 [(0, .ref b), (1, .ref (ad 0)), (2, .ref (ad 183)), (3, .ref (ad 192)), (4, .int (nI i))] → LI ad cI cJ cZ cC cG cP σ → xI D classes 193 ad s.heap σ H [] → W p l e room_1 s m args below meth c H [] (cells + 1) (slots + 6) Q (F0 m 867 ls [])) :
    W p l e room_1 s m args below meth c H [] cells slots Q (F0 m 120 ls []) := by
  obtain ⟨n, st, A, rw, S, P, ln, Tx, A9, Dt, Pr, th, fo, h1n, hn6, hCK, hm, ho, hLR⟩ := hI
  obtain ⟨fs9, hfs⟩ := mS_o hm
  have hR0 : cells ≤ room_1.cells ∧ slots ≤ room_1.slots := ⟨by omega, by omega⟩
  obtain ⟨q1, q2, q3, q4, q5⟩ := hCK
  obtain ⟨⟨g8, d1⟩, d2, d3, d4, d5⟩ := q3
  have hLR0 := hLR
  obtain ⟨r1_, r2_, r3_, r4_, r5_, r6_, r7_, r8_, r9_⟩ := hLR0
  by_cases hv : xs (i + 1) < nI 1 ∨ nI 6 < xs (i + 1)
  · refine lv_aload_n hx hb d_law_120 rfl (lv_at hl 1 rfl) ?_
    refine lv_aload_n hx hb d_law_121 rfl (lv_at hl 0 rfl) ?_
    refine lv_iload hx hb d_law_122 (lv_at hl 4 rfl) ?_
    refine lv_iconst (v := nI 1) hx hb d_law_124 (by decide) ?_
    refine lv_iadd hx hb d_law_125 (xr_topi (y := nI (i + 1)) (nI_add i 1) ?_)
    refine xq_sld X I hz hX hbl (i := i + 1) (by omega) (by omega) d_law_126 ?_
    refine xq_callw hz (xq_runW (n := 2) (As := [.ref (ad 0), .int (xs (i + 1))]) (rest := []) X I hT (c_SpectrumDeskLaw_make_bad hfl rfl q1 hv) rfl rfl (xg k_SpectrumDeskLaw_make) (List.mem_cons_of_mem _ k_fe7833e33d) (List.mem_cons_of_mem _ k_36b6b910f4) (List.mem_cons_of_mem _ k_fd7a21d612) (by decide +kernel) (by decide) rfl hl.1 rfl (Nat.le_of_ble_eq_true rfl) d_law_127 hR) I (fun r1 σ1 H hp I => ?_)
    obtain ⟨rfl, h9⟩ := hp; rw [h9] at I; clear h9
    refine lv_istore (lv' := [(5, .int (nI 1)), (0, .ref b), (1, .ref (ad 0)), (2, .ref (ad 183)), (3, .ref (ad 192)), (4, .int (nI i))]) hx hb d_law_130 hl (by decide) rfl (fun ls hl => ?_)
    refine lv_aload_n hx hb d_law_132 rfl (lv_at hl 3 rfl) ?_
    refine lv_aload_n hx hb d_law_133 rfl (lv_at hl 1 rfl) ?_
    refine lv_iload hx hb d_law_134 (lv_at hl 5 rfl) ?_
    refine lv_iconst (v := nI 1) hx hb d_law_136 (by decide) ?_
    refine lv_iadd hx hb d_law_137 (xr_topi (y := nI (i + 1)) (nI_add i 1) ?_)
    refine xq_sld X I hz hX hbl (i := i + 1) (by omega) (by omega) d_law_138 ?_
    refine xq_callv hz (xq_runV (kc := 0) (n := 1) (As := [.int (xs (i + 1))]) (rest := []) X I (by decide) hfs rfl (c_SpectrumDeskModel_make_bad (v := xs (i + 1)) hm hv) (xg k_241edbec56) (List.mem_cons_of_mem _ k_2eae3a3503) (List.mem_cons_of_mem _ k_04cb185b8b) (List.mem_cons_of_mem _ k_4aa79df393) (List.mem_cons_of_mem _ k_30fa15c9ac) (by decide +kernel) (by decide) rfl hl.1 rfl (Nat.le_of_ble_eq_true rfl) d_law_139 hR) I (fun σ2 H hp I => ?_)
    have hm2 := hp
    obtain ⟨fs8, hfs2⟩ := mS_o hm2
    refine lv_aload_n hx hb d_law_142 rfl (lv_at hl 3 rfl) ?_
    refine xq_calli hz (xq_runV (kc := 0) (n := 0) (As := []) (rest := []) X I (by decide) hfs2 rfl (c_SpectrumDeskModel_thrown hm2) (xg k_0428eee463) (List.mem_cons_of_mem _ k_43c58839ad) (List.mem_cons_of_mem _ k_bcd6d121c1) (List.mem_cons_of_mem _ k_e8fa1ab47a) (List.mem_cons_of_mem _ k_30fa15c9ac) (by decide +kernel) (by decide) rfl hl.1 rfl (Nat.le_of_ble_eq_true rfl) d_law_143 hR) I (fun r3 σ3 H hp I => ?_)
    obtain ⟨rfl, hm3⟩ := hp
    refine lv_iload hx hb d_law_146 (lv_at hl 0 rfl) ?_
    refine lv_icmp_eq hx hb d_law_148 rfl (fun hc => ?_) (fun hc => ?_)
    · refine lv_goto hx hb d_law_153 rfl ?_
      have hl := lv_sub hl [1, 2, 3, 4, 5] rfl
      have hl : lv_has ls 8 [(0, .ref b), (1, .ref (ad 0)), (2, .ref (ad 183)), (3, .ref (ad 192)), (4, .int (nI i))] := hl
      exact kk ls _ _ hl ⟨n, st, A, rw, S, P, ln, Tx, A9, Dt, Pr, (nI 1), fo, h1n, hn6, CK.same (⟨q1, q2, ⟨⟨g8, d1⟩, d2, d3, d4, d5⟩, q4, q5⟩ : CK ad cI cJ cZ cC cG cP σ n st A rw S P ln Tx) hn6 (fun q hq => mS_out hm3 q (Or.inl hq)), mS_in hm3 (fun _ _ _ => rfl), (mS_out hm3 192 (Or.inr (by decide))).trans ho, hLR⟩ I
    · exact absurd rfl hc
  · obtain ⟨k9, hk9, hk1, hk6⟩ : ∃ k9, xs (i + 1) = nI k9 ∧ 1 ≤ k9 ∧ k9 ≤ 6 := nI_btw 1 6 (by decide) hv
    refine lv_aload_n hx hb d_law_120 rfl (lv_at hl 1 rfl) ?_
    refine lv_aload_n hx hb d_law_121 rfl (lv_at hl 0 rfl) ?_
    refine lv_iload hx hb d_law_122 (lv_at hl 4 rfl) ?_
    refine lv_iconst (v := nI 1) hx hb d_law_124 (by decide) ?_
    refine lv_iadd hx hb d_law_125 (xr_topi (y := nI (i + 1)) (nI_add i 1) ?_)
    refine xq_sld X I hz hX hbl (i := i + 1) (by omega) (by omega) d_law_126 ?_
    refine xr_topi (y := nI k9) hk9 ?_
    refine xq_callw hz (xq_runW (n := 2) (As := [.ref (ad 0), .int (nI k9)]) (rest := []) X I hT (c_SpectrumDeskLaw_make_ok rfl q1 q2 d2 d3 d4 hk1 hk6) rfl rfl (xg k_SpectrumDeskLaw_make) (List.mem_cons_of_mem _ k_fe7833e33d) (List.mem_cons_of_mem _ k_36b6b910f4) (List.mem_cons_of_mem _ k_fd7a21d612) (by decide +kernel) (by decide) rfl hl.1 rfl (Nat.le_of_ble_eq_true rfl) d_law_127 hR) I (fun r1 σ1 H hp I => ?_)
    obtain ⟨rfl, A', P', S', g1, g2, g3, g4, g5, g6, g7, g8', g9⟩ := hp
    have hm1 : mS ad cI cZ σ1 th n A9 rw Dt ln Pr σ1 := mS_in hm (fun q a9 b9 => g1 q (by omega))
    obtain ⟨fs7, hfs1⟩ := mS_o hm1
    refine lv_istore (lv' := [(5, .int (nI 0)), (0, .ref b), (1, .ref (ad 0)), (2, .ref (ad 183)), (3, .ref (ad 192)), (4, .int (nI i))]) hx hb d_law_130 hl (by decide) rfl (fun ls hl => ?_)
    refine lv_aload_n hx hb d_law_132 rfl (lv_at hl 3 rfl) ?_
    refine lv_aload_n hx hb d_law_133 rfl (lv_at hl 1 rfl) ?_
    refine lv_iload hx hb d_law_134 (lv_at hl 5 rfl) ?_
    refine lv_iconst (v := nI 1) hx hb d_law_136 (by decide) ?_
    refine lv_iadd hx hb d_law_137 (xr_topi (y := nI (i + 1)) (nI_add i 1) ?_)
    refine xq_sld X I hz hX hbl (i := i + 1) (by omega) (by omega) d_law_138 ?_
    refine xr_topi (y := nI k9) hk9 ?_
    refine xq_callv hz (xq_runV (kc := 0) (n := 1) (As := [.int (nI k9)]) (rest := []) X I (by decide) hfs1 rfl (c_SpectrumDeskModel_make_ok hm1 hk1 hk6) (xg k_241edbec56) (List.mem_cons_of_mem _ k_2eae3a3503) (List.mem_cons_of_mem _ k_04cb185b8b) (List.mem_cons_of_mem _ k_4aa79df393) (List.mem_cons_of_mem _ k_30fa15c9ac) (by decide +kernel) (by decide) rfl hl.1 rfl (Nat.le_of_ble_eq_true rfl) d_law_139 hR) I (fun σ2 H hp I => ?_)
    obtain ⟨A8, z8, hm2⟩ := hp
    obtain ⟨fs8, hfs2⟩ := mS_o hm2
    refine lv_aload_n hx hb d_law_142 rfl (lv_at hl 3 rfl) ?_
    refine xq_calli hz (xq_runV (kc := 0) (n := 0) (As := []) (rest := []) X I (by decide) hfs2 rfl (c_SpectrumDeskModel_thrown hm2) (xg k_0428eee463) (List.mem_cons_of_mem _ k_43c58839ad) (List.mem_cons_of_mem _ k_bcd6d121c1) (List.mem_cons_of_mem _ k_e8fa1ab47a) (List.mem_cons_of_mem _ k_30fa15c9ac) (by decide +kernel) (by decide) rfl hl.1 rfl (Nat.le_of_ble_eq_true rfl) d_law_143 hR) I (fun r3 σ3 H hp I => ?_)
    obtain ⟨rfl, hm3⟩ := hp
    refine lv_iload hx hb d_law_146 (lv_at hl 0 rfl) ?_
    refine lv_icmp_eq hx hb d_law_148 rfl (fun hc => ?_) (fun hc => ?_)
    · refine lv_goto hx hb d_law_153 rfl ?_
      have hN1 : spN ad cI cJ cZ cG σ := CK.N (⟨q1, q2, ⟨⟨g8, d1⟩, d2, d3, d4, d5⟩, q4, q5⟩ : CK ad cI cJ cZ cC cG cP σ n st A rw S P ln Tx) hn6
      have ck1 : CK ad cI cJ cZ cC cG cP σ1 k9 (nI 1) A' 0 S' P' ln Tx := ⟨g2, g3, ⟨⟨g8, (g1 8 (by omega)).trans d1⟩, g5, g6, g7, (g1 179 (by omega)).trans d5.1, (g1 180 (by omega)).trans d5.2.1, ⟨_, (g1 181 (by omega)).trans d5.2.2.1.choose_spec⟩, _, (g1 182 (by omega)).trans d5.2.2.2.choose_spec⟩, spZ_all q4 (fun q a9 b9 => g1 q (by omega)), Or.inr ⟨rfl, spN_all hN1 (fun q a9 b9 => g1 q (by omega))⟩⟩
      have lr1 : LR k9 A' A8 0 S' P' Dt ln Tx Pr := by
        refine ⟨fun a b ha hb9 => ?_, fun a b ha hb9 => by rw [z8 _ (by omega)]; exact ⟨by decide, by decide⟩, fun a b ha hb9 => ⟨by rw [z8 _ (by omega), g4 a b (by omega) (by omega), if_pos ha]; rfl, by rw [g4 a b (by omega) (by omega), g4 b a (by omega) (by omega), if_pos ha, if_pos hb9]⟩, by decide, fun r k hr => absurd hr (Nat.not_lt_zero _), fun a ha => g8' a (by omega), fun a b ha hb9 => g9 a b (by omega) (by omega), r8_, r9_⟩
        rw [g4 a b ha hb9]
        split
        · exact ⟨by decide, by decide⟩
        · exact r1_ a b ha hb9
      have hl := lv_sub hl [1, 2, 3, 4, 5] rfl
      have hl : lv_has ls 8 [(0, .ref b), (1, .ref (ad 0)), (2, .ref (ad 183)), (3, .ref (ad 192)), (4, .int (nI i))] := hl
      exact kk ls _ _ hl ⟨k9, (nI 1), A', 0, S', P', ln, Tx, A8, Dt, Pr, (nI 0), fo, hk1, hk6, ck1.same hk6 (fun q hq => (mS_out hm3 q (Or.inl hq))), mS_in hm3 (fun _ _ _ => rfl), (mS_out hm3 192 (Or.inr (by decide))).trans ((g1 192 (by omega)).trans ho), lr1⟩ I
    · exact absurd rfl hc
set_option maxHeartbeats 4000000 in
set_option maxRecDepth 100000 in
theorem lop_put {p : Program} {l : Launch} {e : Env} {s : State} {m : MethodId} {args : Array Value} {below : List Frame} {meth : Method} {c : Code} {Q : State → Prop} {H : Heap} {cells slots : Nat} {ls : Array Slot} {D : va_G} {cI cJ cZ cC cG cP : ClassId} {ad : Nat → Nat} {σ : Nat → va_E} {b L i : Nat} {xs : Nat → Int32} (hx : p.tables.exec = Jvm.exec) (hb : c.code = b_law) (X : xX p c b_law 8 s args (wl :: AW) "SpectrumDeskLaw" m D classes (xT cI cJ cZ cC cG cP) ) (hz : ∀ k, s.heap.size ≤ ad k) (hT : xtOK (xA 193 ad) s) (hfl : l.flags = Jvm.pinnedFlags ++ [Jvm.noTraceFlag]) (hX : va_X b L xs s s.heap) (hbl : b < s.heap.size) (hL : L ≤ 3584) (hi : i + 7 ≤ L) (hR : cells + 1 ≤ room_1.cells ∧ slots + 6 ≤ room_1.slots)  (hl : lv_has ls 8 [(0, .ref b), (1, .ref (ad 0)), (2, .ref (ad 183)), (3, .ref (ad 192)), (4, .int (nI i))]) (hI : LI ad cI cJ cZ cC cG cP σ) (I : xI D classes 193 ad s.heap σ H [])
    (kk : ∀ (ls : Array Slot) (σ : Nat → va_E) (H : Heap), lv_has ls 8 [(0, .ref b), (1, .ref (ad 0)), (2, .ref (ad 183)), (3, .ref (ad 192)), (4, .int (nI i))] → LI ad cI cJ cZ cC cG cP σ → xI D classes 193 ad s.heap σ H [] → W p l e room_1 s m args below meth c H [] (cells + 1) (slots + 6) Q (F0 m 867 ls [])) :
    W p l e room_1 s m args below meth c H [] cells slots Q (F0 m 156 ls []) := by
  obtain ⟨n, st, A, rw, S, P, ln, Tx, A9, Dt, Pr, th, fo, h1n, hn6, hCK, hm, ho, hLR⟩ := hI
  obtain ⟨fs9, hfs⟩ := mS_o hm
  have hR0 : cells ≤ room_1.cells ∧ slots ≤ room_1.slots := ⟨by omega, by omega⟩
  obtain ⟨q1, q2, q3, q4, q5⟩ := id hCK
  obtain ⟨r1_, r2_, r3_, r4_, r5_, r6_, r7_, r8_, r9_⟩ := id hLR
  by_cases hv1 : (xs (i + 1) < 0 ∨ nI n ≤ xs (i + 1))
  · refine lv_aload_n hx hb d_law_156 rfl (lv_at hl 1 rfl) ?_
    refine lv_aload_n hx hb d_law_157 rfl (lv_at hl 0 rfl) ?_
    refine lv_iload hx hb d_law_158 (lv_at hl 4 rfl) ?_
    refine lv_iconst (v := nI 1) hx hb d_law_160 (by decide) ?_
    refine lv_iadd hx hb d_law_161 (xr_topi (y := nI (i + 1)) (nI_add i 1) ?_)
    refine xq_sld X I hz hX hbl (i := i + 1) (by omega) (by omega) d_law_162 ?_
    refine lv_aload_n hx hb d_law_163 rfl (lv_at hl 0 rfl) ?_
    refine lv_iload hx hb d_law_164 (lv_at hl 4 rfl) ?_
    refine lv_iconst (v := nI 2) hx hb d_law_166 (by decide) ?_
    refine lv_iadd hx hb d_law_167 (xr_topi (y := nI (i + 2)) (nI_add i 2) ?_)
    refine xq_sld X I hz hX hbl (i := i + 2) (by omega) (by omega) d_law_168 ?_
    refine lv_aload_n hx hb d_law_169 rfl (lv_at hl 0 rfl) ?_
    refine lv_iload hx hb d_law_170 (lv_at hl 4 rfl) ?_
    refine lv_iconst (v := nI 3) hx hb d_law_172 (by decide) ?_
    refine lv_iadd hx hb d_law_173 (xr_topi (y := nI (i + 3)) (nI_add i 3) ?_)
    refine xq_sld X I hz hX hbl (i := i + 3) (by omega) (by omega) d_law_174 ?_
    refine xq_callw hz (xq_runW (n := 4) (As := [.ref (ad 0), .int (xs (i + 1)), .int (xs (i + 2)), .int (xs (i + 3))]) (rest := []) X I hT (c_SpectrumDeskLaw_put_bad1 hfl rfl q1 hv1) rfl rfl (xg k_SpectrumDeskLaw_put) (List.mem_cons_of_mem _ k_d9f08df484) (List.mem_cons_of_mem _ k_d4e434530a) (List.mem_cons_of_mem _ k_fd7a21d612) (by decide +kernel) (by decide) rfl hl.1 rfl (Nat.le_of_ble_eq_true rfl) d_law_175 hR) I (fun r1 σ1 H hp I => ?_)
    obtain ⟨rfl, h9⟩ := hp; rw [h9] at I; clear h9
    refine lv_istore (lv' := [(5, .int (nI 1)), (0, .ref b), (1, .ref (ad 0)), (2, .ref (ad 183)), (3, .ref (ad 192)), (4, .int (nI i))]) hx hb d_law_178 hl (by decide) rfl (fun ls hl => ?_)
    refine lv_aload_n hx hb d_law_180 rfl (lv_at hl 3 rfl) ?_
    refine lv_aload_n hx hb d_law_181 rfl (lv_at hl 1 rfl) ?_
    refine lv_iload hx hb d_law_182 (lv_at hl 5 rfl) ?_
    refine lv_iconst (v := nI 1) hx hb d_law_184 (by decide) ?_
    refine lv_iadd hx hb d_law_185 (xr_topi (y := nI (i + 1)) (nI_add i 1) ?_)
    refine xq_sld X I hz hX hbl (i := i + 1) (by omega) (by omega) d_law_186 ?_
    refine lv_aload_n hx hb d_law_187 rfl (lv_at hl 1 rfl) ?_
    refine lv_iload hx hb d_law_188 (lv_at hl 5 rfl) ?_
    refine lv_iconst (v := nI 2) hx hb d_law_190 (by decide) ?_
    refine lv_iadd hx hb d_law_191 (xr_topi (y := nI (i + 2)) (nI_add i 2) ?_)
    refine xq_sld X I hz hX hbl (i := i + 2) (by omega) (by omega) d_law_192 ?_
    refine lv_aload_n hx hb d_law_193 rfl (lv_at hl 1 rfl) ?_
    refine lv_iload hx hb d_law_194 (lv_at hl 5 rfl) ?_
    refine lv_iconst (v := nI 3) hx hb d_law_196 (by decide) ?_
    refine lv_iadd hx hb d_law_197 (xr_topi (y := nI (i + 3)) (nI_add i 3) ?_)
    refine xq_sld X I hz hX hbl (i := i + 3) (by omega) (by omega) d_law_198 ?_
    refine xq_callv hz (xq_runV (kc := 1) (n := 3) (As := [.int (xs (i + 1)), .int (xs (i + 2)), .int (xs (i + 3))]) (rest := []) X I (by decide) hfs rfl (c_SpectrumDeskModel_put_bad1 hm (fun h => hv1.elim h.1 (fun h2 => Int32.not_le.mpr h.2.1 h2))) (xg k_f86049a736) (List.mem_cons_of_mem _ k_0a2a4a165a) (List.mem_cons_of_mem _ k_c800d39014) (List.mem_cons_of_mem _ k_f90176ac17) (List.mem_cons_of_mem _ k_30fa15c9ac) (by decide +kernel) (by decide) rfl hl.1 rfl (Nat.le_of_ble_eq_true rfl) d_law_199 hR) I (fun σ2 H hp I => ?_)
    have hm2 := hp
    obtain ⟨fs8, hfs2⟩ := mS_o hm2
    refine lv_aload_n hx hb d_law_202 rfl (lv_at hl 3 rfl) ?_
    refine xq_calli hz (xq_runV (kc := 0) (n := 0) (As := []) (rest := []) X I (by decide) hfs2 rfl (c_SpectrumDeskModel_thrown hm2) (xg k_0428eee463) (List.mem_cons_of_mem _ k_43c58839ad) (List.mem_cons_of_mem _ k_bcd6d121c1) (List.mem_cons_of_mem _ k_e8fa1ab47a) (List.mem_cons_of_mem _ k_30fa15c9ac) (by decide +kernel) (by decide) rfl hl.1 rfl (Nat.le_of_ble_eq_true rfl) d_law_203 hR) I (fun r3 σ3 H hp I => ?_)
    obtain ⟨rfl, hm3⟩ := hp
    refine lv_iload hx hb d_law_206 (lv_at hl 0 rfl) ?_
    refine lv_icmp_eq hx hb d_law_208 rfl (fun hc => ?_) (fun hc => ?_)
    · refine lv_goto hx hb d_law_213 rfl ?_
      have hl := lv_sub hl [1, 2, 3, 4, 5] rfl
      have hl : lv_has ls 8 [(0, .ref b), (1, .ref (ad 0)), (2, .ref (ad 183)), (3, .ref (ad 192)), (4, .int (nI i))] := hl
      exact kk ls _ _ hl ⟨n, st, A, rw, S, P, ln, Tx, A9, Dt, Pr, (nI 1), fo, h1n, hn6, hCK.same hn6 (fun q hq => mS_out hm3 q (Or.inl hq)), mS_in hm3 (fun _ _ _ => rfl), (mS_out hm3 192 (Or.inr (by decide))).trans ho, hLR⟩ I
    · exact absurd rfl hc
  · obtain ⟨a9, ha9, hla⟩ := nI_ix (by omega) hv1
    by_cases hv2 : (xs (i + 2) < 0 ∨ nI n ≤ xs (i + 2))
    · refine lv_aload_n hx hb d_law_156 rfl (lv_at hl 1 rfl) ?_
      refine lv_aload_n hx hb d_law_157 rfl (lv_at hl 0 rfl) ?_
      refine lv_iload hx hb d_law_158 (lv_at hl 4 rfl) ?_
      refine lv_iconst (v := nI 1) hx hb d_law_160 (by decide) ?_
      refine lv_iadd hx hb d_law_161 (xr_topi (y := nI (i + 1)) (nI_add i 1) ?_)
      refine xq_sld X I hz hX hbl (i := i + 1) (by omega) (by omega) d_law_162 ?_
      refine xr_topi (y := nI a9) ha9 ?_
      refine lv_aload_n hx hb d_law_163 rfl (lv_at hl 0 rfl) ?_
      refine lv_iload hx hb d_law_164 (lv_at hl 4 rfl) ?_
      refine lv_iconst (v := nI 2) hx hb d_law_166 (by decide) ?_
      refine lv_iadd hx hb d_law_167 (xr_topi (y := nI (i + 2)) (nI_add i 2) ?_)
      refine xq_sld X I hz hX hbl (i := i + 2) (by omega) (by omega) d_law_168 ?_
      refine lv_aload_n hx hb d_law_169 rfl (lv_at hl 0 rfl) ?_
      refine lv_iload hx hb d_law_170 (lv_at hl 4 rfl) ?_
      refine lv_iconst (v := nI 3) hx hb d_law_172 (by decide) ?_
      refine lv_iadd hx hb d_law_173 (xr_topi (y := nI (i + 3)) (nI_add i 3) ?_)
      refine xq_sld X I hz hX hbl (i := i + 3) (by omega) (by omega) d_law_174 ?_
      refine xq_callw hz (xq_runW (n := 4) (As := [.ref (ad 0), .int (nI a9), .int (xs (i + 2)), .int (xs (i + 3))]) (rest := []) X I hT (c_SpectrumDeskLaw_put_bad2 hfl rfl q1 hn6 hla hv2) rfl rfl (xg k_SpectrumDeskLaw_put) (List.mem_cons_of_mem _ k_d9f08df484) (List.mem_cons_of_mem _ k_d4e434530a) (List.mem_cons_of_mem _ k_fd7a21d612) (by decide +kernel) (by decide) rfl hl.1 rfl (Nat.le_of_ble_eq_true rfl) d_law_175 hR) I (fun r1 σ1 H hp I => ?_)
      obtain ⟨rfl, h9⟩ := hp; rw [h9] at I; clear h9
      refine lv_istore (lv' := [(5, .int (nI 1)), (0, .ref b), (1, .ref (ad 0)), (2, .ref (ad 183)), (3, .ref (ad 192)), (4, .int (nI i))]) hx hb d_law_178 hl (by decide) rfl (fun ls hl => ?_)
      refine lv_aload_n hx hb d_law_180 rfl (lv_at hl 3 rfl) ?_
      refine lv_aload_n hx hb d_law_181 rfl (lv_at hl 1 rfl) ?_
      refine lv_iload hx hb d_law_182 (lv_at hl 5 rfl) ?_
      refine lv_iconst (v := nI 1) hx hb d_law_184 (by decide) ?_
      refine lv_iadd hx hb d_law_185 (xr_topi (y := nI (i + 1)) (nI_add i 1) ?_)
      refine xq_sld X I hz hX hbl (i := i + 1) (by omega) (by omega) d_law_186 ?_
      refine lv_aload_n hx hb d_law_187 rfl (lv_at hl 1 rfl) ?_
      refine lv_iload hx hb d_law_188 (lv_at hl 5 rfl) ?_
      refine lv_iconst (v := nI 2) hx hb d_law_190 (by decide) ?_
      refine lv_iadd hx hb d_law_191 (xr_topi (y := nI (i + 2)) (nI_add i 2) ?_)
      refine xq_sld X I hz hX hbl (i := i + 2) (by omega) (by omega) d_law_192 ?_
      refine lv_aload_n hx hb d_law_193 rfl (lv_at hl 1 rfl) ?_
      refine lv_iload hx hb d_law_194 (lv_at hl 5 rfl) ?_
      refine lv_iconst (v := nI 3) hx hb d_law_196 (by decide) ?_
      refine lv_iadd hx hb d_law_197 (xr_topi (y := nI (i + 3)) (nI_add i 3) ?_)
      refine xq_sld X I hz hX hbl (i := i + 3) (by omega) (by omega) d_law_198 ?_
      refine xq_callv hz (xq_runV (kc := 1) (n := 3) (As := [.int (xs (i + 1)), .int (xs (i + 2)), .int (xs (i + 3))]) (rest := []) X I (by decide) hfs rfl (c_SpectrumDeskModel_put_bad1 hm (fun h => hv2.elim h.2.2.1 (fun h2 => Int32.not_le.mpr h.2.2.2 h2))) (xg k_f86049a736) (List.mem_cons_of_mem _ k_0a2a4a165a) (List.mem_cons_of_mem _ k_c800d39014) (List.mem_cons_of_mem _ k_f90176ac17) (List.mem_cons_of_mem _ k_30fa15c9ac) (by decide +kernel) (by decide) rfl hl.1 rfl (Nat.le_of_ble_eq_true rfl) d_law_199 hR) I (fun σ2 H hp I => ?_)
      have hm2 := hp
      obtain ⟨fs8, hfs2⟩ := mS_o hm2
      refine lv_aload_n hx hb d_law_202 rfl (lv_at hl 3 rfl) ?_
      refine xq_calli hz (xq_runV (kc := 0) (n := 0) (As := []) (rest := []) X I (by decide) hfs2 rfl (c_SpectrumDeskModel_thrown hm2) (xg k_0428eee463) (List.mem_cons_of_mem _ k_43c58839ad) (List.mem_cons_of_mem _ k_bcd6d121c1) (List.mem_cons_of_mem _ k_e8fa1ab47a) (List.mem_cons_of_mem _ k_30fa15c9ac) (by decide +kernel) (by decide) rfl hl.1 rfl (Nat.le_of_ble_eq_true rfl) d_law_203 hR) I (fun r3 σ3 H hp I => ?_)
      obtain ⟨rfl, hm3⟩ := hp
      refine lv_iload hx hb d_law_206 (lv_at hl 0 rfl) ?_
      refine lv_icmp_eq hx hb d_law_208 rfl (fun hc => ?_) (fun hc => ?_)
      · refine lv_goto hx hb d_law_213 rfl ?_
        have hl := lv_sub hl [1, 2, 3, 4, 5] rfl
        have hl : lv_has ls 8 [(0, .ref b), (1, .ref (ad 0)), (2, .ref (ad 183)), (3, .ref (ad 192)), (4, .int (nI i))] := hl
        exact kk ls _ _ hl ⟨n, st, A, rw, S, P, ln, Tx, A9, Dt, Pr, (nI 1), fo, h1n, hn6, hCK.same hn6 (fun q hq => mS_out hm3 q (Or.inl hq)), mS_in hm3 (fun _ _ _ => rfl), (mS_out hm3 192 (Or.inr (by decide))).trans ho, hLR⟩ I
      · exact absurd rfl hc
    · obtain ⟨b9, hb9, hlb⟩ := nI_ix (by omega) hv2
      by_cases hv3 : (xs (i + 3)).toInt > 1000000 ∨ (xs (i + 3)).toInt < -1000000
      · refine lv_aload_n hx hb d_law_156 rfl (lv_at hl 1 rfl) ?_
        refine lv_aload_n hx hb d_law_157 rfl (lv_at hl 0 rfl) ?_
        refine lv_iload hx hb d_law_158 (lv_at hl 4 rfl) ?_
        refine lv_iconst (v := nI 1) hx hb d_law_160 (by decide) ?_
        refine lv_iadd hx hb d_law_161 (xr_topi (y := nI (i + 1)) (nI_add i 1) ?_)
        refine xq_sld X I hz hX hbl (i := i + 1) (by omega) (by omega) d_law_162 ?_
        refine xr_topi (y := nI a9) ha9 ?_
        refine lv_aload_n hx hb d_law_163 rfl (lv_at hl 0 rfl) ?_
        refine lv_iload hx hb d_law_164 (lv_at hl 4 rfl) ?_
        refine lv_iconst (v := nI 2) hx hb d_law_166 (by decide) ?_
        refine lv_iadd hx hb d_law_167 (xr_topi (y := nI (i + 2)) (nI_add i 2) ?_)
        refine xq_sld X I hz hX hbl (i := i + 2) (by omega) (by omega) d_law_168 ?_
        refine xr_topi (y := nI b9) hb9 ?_
        refine lv_aload_n hx hb d_law_169 rfl (lv_at hl 0 rfl) ?_
        refine lv_iload hx hb d_law_170 (lv_at hl 4 rfl) ?_
        refine lv_iconst (v := nI 3) hx hb d_law_172 (by decide) ?_
        refine lv_iadd hx hb d_law_173 (xr_topi (y := nI (i + 3)) (nI_add i 3) ?_)
        refine xq_sld X I hz hX hbl (i := i + 3) (by omega) (by omega) d_law_174 ?_
        refine xq_callw hz (xq_runW (n := 4) (As := [.ref (ad 0), .int (nI a9), .int (nI b9), .int (xs (i + 3))]) (rest := []) X I hT (c_SpectrumDeskLaw_put_bad3 hfl rfl q1 hn6 hla hlb hv3) rfl rfl (xg k_SpectrumDeskLaw_put) (List.mem_cons_of_mem _ k_d9f08df484) (List.mem_cons_of_mem _ k_d4e434530a) (List.mem_cons_of_mem _ k_fd7a21d612) (by decide +kernel) (by decide) rfl hl.1 rfl (Nat.le_of_ble_eq_true rfl) d_law_175 hR) I (fun r1 σ1 H hp I => ?_)
        obtain ⟨rfl, h9⟩ := hp; rw [h9] at I; clear h9
        refine lv_istore (lv' := [(5, .int (nI 2)), (0, .ref b), (1, .ref (ad 0)), (2, .ref (ad 183)), (3, .ref (ad 192)), (4, .int (nI i))]) hx hb d_law_178 hl (by decide) rfl (fun ls hl => ?_)
        refine lv_aload_n hx hb d_law_180 rfl (lv_at hl 3 rfl) ?_
        refine lv_aload_n hx hb d_law_181 rfl (lv_at hl 1 rfl) ?_
        refine lv_iload hx hb d_law_182 (lv_at hl 5 rfl) ?_
        refine lv_iconst (v := nI 1) hx hb d_law_184 (by decide) ?_
        refine lv_iadd hx hb d_law_185 (xr_topi (y := nI (i + 1)) (nI_add i 1) ?_)
        refine xq_sld X I hz hX hbl (i := i + 1) (by omega) (by omega) d_law_186 ?_
        refine xr_topi (y := nI a9) ha9 ?_
        refine lv_aload_n hx hb d_law_187 rfl (lv_at hl 1 rfl) ?_
        refine lv_iload hx hb d_law_188 (lv_at hl 5 rfl) ?_
        refine lv_iconst (v := nI 2) hx hb d_law_190 (by decide) ?_
        refine lv_iadd hx hb d_law_191 (xr_topi (y := nI (i + 2)) (nI_add i 2) ?_)
        refine xq_sld X I hz hX hbl (i := i + 2) (by omega) (by omega) d_law_192 ?_
        refine xr_topi (y := nI b9) hb9 ?_
        refine lv_aload_n hx hb d_law_193 rfl (lv_at hl 1 rfl) ?_
        refine lv_iload hx hb d_law_194 (lv_at hl 5 rfl) ?_
        refine lv_iconst (v := nI 3) hx hb d_law_196 (by decide) ?_
        refine lv_iadd hx hb d_law_197 (xr_topi (y := nI (i + 3)) (nI_add i 3) ?_)
        refine xq_sld X I hz hX hbl (i := i + 3) (by omega) (by omega) d_law_198 ?_
        refine xq_callv hz (xq_runV (kc := 1) (n := 3) (As := [.int (nI a9), .int (nI b9), .int (xs (i + 3))]) (rest := []) X I (by decide) hfs rfl (c_SpectrumDeskModel_put_bad2 hm hla hlb hn6 (isS_not hv3)) (xg k_f86049a736) (List.mem_cons_of_mem _ k_0a2a4a165a) (List.mem_cons_of_mem _ k_c800d39014) (List.mem_cons_of_mem _ k_f90176ac17) (List.mem_cons_of_mem _ k_30fa15c9ac) (by decide +kernel) (by decide) rfl hl.1 rfl (Nat.le_of_ble_eq_true rfl) d_law_199 hR) I (fun σ2 H hp I => ?_)
        have hm2 := hp
        obtain ⟨fs8, hfs2⟩ := mS_o hm2
        refine lv_aload_n hx hb d_law_202 rfl (lv_at hl 3 rfl) ?_
        refine xq_calli hz (xq_runV (kc := 0) (n := 0) (As := []) (rest := []) X I (by decide) hfs2 rfl (c_SpectrumDeskModel_thrown hm2) (xg k_0428eee463) (List.mem_cons_of_mem _ k_43c58839ad) (List.mem_cons_of_mem _ k_bcd6d121c1) (List.mem_cons_of_mem _ k_e8fa1ab47a) (List.mem_cons_of_mem _ k_30fa15c9ac) (by decide +kernel) (by decide) rfl hl.1 rfl (Nat.le_of_ble_eq_true rfl) d_law_203 hR) I (fun r3 σ3 H hp I => ?_)
        obtain ⟨rfl, hm3⟩ := hp
        refine lv_iload hx hb d_law_206 (lv_at hl 0 rfl) ?_
        refine lv_icmp_eq hx hb d_law_208 rfl (fun hc => ?_) (fun hc => ?_)
        · refine lv_goto hx hb d_law_213 rfl ?_
          have hl := lv_sub hl [1, 2, 3, 4, 5] rfl
          have hl : lv_has ls 8 [(0, .ref b), (1, .ref (ad 0)), (2, .ref (ad 183)), (3, .ref (ad 192)), (4, .int (nI i))] := hl
          exact kk ls _ _ hl ⟨n, st, A, rw, S, P, ln, Tx, A9, Dt, Pr, (nI 2), fo, h1n, hn6, hCK.same hn6 (fun q hq => mS_out hm3 q (Or.inl hq)), mS_in hm3 (fun _ _ _ => rfl), (mS_out hm3 192 (Or.inr (by decide))).trans ho, hLR⟩ I
        · exact absurd rfl hc
      · have hv4 : -1000000 ≤ (xs (i + 3)).toInt ∧ (xs (i + 3)).toInt ≤ 1000000 := by omega
        refine lv_aload_n hx hb d_law_156 rfl (lv_at hl 1 rfl) ?_
        refine lv_aload_n hx hb d_law_157 rfl (lv_at hl 0 rfl) ?_
        refine lv_iload hx hb d_law_158 (lv_at hl 4 rfl) ?_
        refine lv_iconst (v := nI 1) hx hb d_law_160 (by decide) ?_
        refine lv_iadd hx hb d_law_161 (xr_topi (y := nI (i + 1)) (nI_add i 1) ?_)
        refine xq_sld X I hz hX hbl (i := i + 1) (by omega) (by omega) d_law_162 ?_
        refine xr_topi (y := nI a9) ha9 ?_
        refine lv_aload_n hx hb d_law_163 rfl (lv_at hl 0 rfl) ?_
        refine lv_iload hx hb d_law_164 (lv_at hl 4 rfl) ?_
        refine lv_iconst (v := nI 2) hx hb d_law_166 (by decide) ?_
        refine lv_iadd hx hb d_law_167 (xr_topi (y := nI (i + 2)) (nI_add i 2) ?_)
        refine xq_sld X I hz hX hbl (i := i + 2) (by omega) (by omega) d_law_168 ?_
        refine xr_topi (y := nI b9) hb9 ?_
        refine lv_aload_n hx hb d_law_169 rfl (lv_at hl 0 rfl) ?_
        refine lv_iload hx hb d_law_170 (lv_at hl 4 rfl) ?_
        refine lv_iconst (v := nI 3) hx hb d_law_172 (by decide) ?_
        refine lv_iadd hx hb d_law_173 (xr_topi (y := nI (i + 3)) (nI_add i 3) ?_)
        refine xq_sld X I hz hX hbl (i := i + 3) (by omega) (by omega) d_law_174 ?_
        refine xq_callw hz (xq_runW (n := 4) (As := [.ref (ad 0), .int (nI a9), .int (nI b9), .int (xs (i + 3))]) (rest := []) X I hT (c_SpectrumDeskLaw_put_ok rfl q1 hn6 q2 hla hlb hv4) rfl rfl (xg k_SpectrumDeskLaw_put) (List.mem_cons_of_mem _ k_d9f08df484) (List.mem_cons_of_mem _ k_d4e434530a) (List.mem_cons_of_mem _ k_fd7a21d612) (by decide +kernel) (by decide) rfl hl.1 rfl (Nat.le_of_ble_eq_true rfl) d_law_175 hR) I (fun r1 σ1 H hp I => ?_)
        obtain ⟨rfl, A', g1, g2, g3, g4⟩ := hp
        have hm1 : mS ad cI cZ σ1 th n A9 rw Dt ln Pr σ1 := mS_in hm (fun q a9 b9 => g1 q (by omega) (by omega))
        obtain ⟨fs7, hfs1⟩ := mS_o hm1
        refine lv_istore (lv' := [(5, .int (nI 0)), (0, .ref b), (1, .ref (ad 0)), (2, .ref (ad 183)), (3, .ref (ad 192)), (4, .int (nI i))]) hx hb d_law_178 hl (by decide) rfl (fun ls hl => ?_)
        refine lv_aload_n hx hb d_law_180 rfl (lv_at hl 3 rfl) ?_
        refine lv_aload_n hx hb d_law_181 rfl (lv_at hl 1 rfl) ?_
        refine lv_iload hx hb d_law_182 (lv_at hl 5 rfl) ?_
        refine lv_iconst (v := nI 1) hx hb d_law_184 (by decide) ?_
        refine lv_iadd hx hb d_law_185 (xr_topi (y := nI (i + 1)) (nI_add i 1) ?_)
        refine xq_sld X I hz hX hbl (i := i + 1) (by omega) (by omega) d_law_186 ?_
        refine xr_topi (y := nI a9) ha9 ?_
        refine lv_aload_n hx hb d_law_187 rfl (lv_at hl 1 rfl) ?_
        refine lv_iload hx hb d_law_188 (lv_at hl 5 rfl) ?_
        refine lv_iconst (v := nI 2) hx hb d_law_190 (by decide) ?_
        refine lv_iadd hx hb d_law_191 (xr_topi (y := nI (i + 2)) (nI_add i 2) ?_)
        refine xq_sld X I hz hX hbl (i := i + 2) (by omega) (by omega) d_law_192 ?_
        refine xr_topi (y := nI b9) hb9 ?_
        refine lv_aload_n hx hb d_law_193 rfl (lv_at hl 1 rfl) ?_
        refine lv_iload hx hb d_law_194 (lv_at hl 5 rfl) ?_
        refine lv_iconst (v := nI 3) hx hb d_law_196 (by decide) ?_
        refine lv_iadd hx hb d_law_197 (xr_topi (y := nI (i + 3)) (nI_add i 3) ?_)
        refine xq_sld X I hz hX hbl (i := i + 3) (by omega) (by omega) d_law_198 ?_
        refine xq_callv hz (xq_runV (kc := 1) (n := 3) (As := [.int (nI a9), .int (nI b9), .int (xs (i + 3))]) (rest := []) X I (by decide) hfs1 rfl (c_SpectrumDeskModel_put_ok hm1 hla hlb hn6 (isS_of hv4)) (xg k_f86049a736) (List.mem_cons_of_mem _ k_0a2a4a165a) (List.mem_cons_of_mem _ k_c800d39014) (List.mem_cons_of_mem _ k_f90176ac17) (List.mem_cons_of_mem _ k_30fa15c9ac) (by decide +kernel) (by decide) rfl hl.1 rfl (Nat.le_of_ble_eq_true rfl) d_law_199 hR) I (fun σ2 H hp I => ?_)
        have hm2 := hp
        obtain ⟨fs8, hfs2⟩ := mS_o hm2
        refine lv_aload_n hx hb d_law_202 rfl (lv_at hl 3 rfl) ?_
        refine xq_calli hz (xq_runV (kc := 0) (n := 0) (As := []) (rest := []) X I (by decide) hfs2 rfl (c_SpectrumDeskModel_thrown hm2) (xg k_0428eee463) (List.mem_cons_of_mem _ k_43c58839ad) (List.mem_cons_of_mem _ k_bcd6d121c1) (List.mem_cons_of_mem _ k_e8fa1ab47a) (List.mem_cons_of_mem _ k_30fa15c9ac) (by decide +kernel) (by decide) rfl hl.1 rfl (Nat.le_of_ble_eq_true rfl) d_law_203 hR) I (fun r3 σ3 H hp I => ?_)
        obtain ⟨rfl, hm3⟩ := hp
        refine lv_iload hx hb d_law_206 (lv_at hl 0 rfl) ?_
        refine lv_icmp_eq hx hb d_law_208 rfl (fun hc => ?_) (fun hc => ?_)
        · refine lv_goto hx hb d_law_213 rfl ?_
          have ck1 : CK ad cI cJ cZ cC cG cP σ1 n (nI 1) A' rw S P ln Tx := ⟨g2, g3, dkR_same q3 (fun q hq => g1 q (by omega) (by omega)), spZ_all q4 (fun q a9 b9 => g1 q (by omega) (by omega)), Or.inr ⟨rfl, spN_all (hCK.N hn6) (fun q a9 b9 => g1 q (by omega) (by omega))⟩⟩
          have lr1 : LR n A' (upd (upd A9 (6 * a9 + b9) (xs (i + 3))) (6 * b9 + a9) (xs (i + 3))) rw S P Dt ln Tx Pr := LR_put hLR (by omega) hla hlb hv4 g4
          have hl := lv_sub hl [1, 2, 3, 4, 5] rfl
          have hl : lv_has ls 8 [(0, .ref b), (1, .ref (ad 0)), (2, .ref (ad 183)), (3, .ref (ad 192)), (4, .int (nI i))] := hl
          exact kk ls _ _ hl ⟨n, (nI 1), A', rw, S, P, ln, Tx, _, Dt, Pr, (nI 0), fo, h1n, hn6, ck1.same hn6 (fun q hq => (mS_out hm3 q (Or.inl hq))), mS_in hm3 (fun _ _ _ => rfl), (mS_out hm3 192 (Or.inr (by decide))).trans ((g1 192 (by decide) (by omega)).trans ho), lr1⟩ I
        · exact absurd rfl hc
