/-! the law, call by call (written by wip/gen) -/
theorem k_e6a031871a : (Jvm.Cond.methodLink "SpectrumDeskLaw" (112 : Nat) ({ cls := "SpectrumDesk", name := "check", desc := "()I" } : Jvm.MethodName)) ∈ AW := aw_4 (List.mem_of_getElem? (i := 53) (by decide +kernel)) (by decide +kernel)
theorem k_9292ae988d : (Jvm.Cond.instanceMethod ({ cls := "SpectrumDesk", name := "check", desc := "()I" } : Jvm.MethodName)) ∈ AW := aw_4 (List.mem_of_getElem? (i := 54) (by decide +kernel)) (by decide +kernel)
theorem k_6790d937ae : (Jvm.Cond.selects "SpectrumDesk" ({ cls := "SpectrumDesk", name := "check", desc := "()I" } : Jvm.MethodName) ({ cls := "SpectrumDesk", name := "check", desc := "()I" } : Jvm.MethodName)) ∈ AW := aw_4 (List.mem_of_getElem? (i := 55) (by decide +kernel)) (by decide +kernel)
theorem k_0843610b1a : (Jvm.Cond.methodLink "SpectrumDeskLaw" (115 : Nat) ({ cls := "SpectrumDeskModel", name := "check", desc := "()I" } : Jvm.MethodName)) ∈ AW := aw_5 (List.mem_of_getElem? (i := 179) (by decide +kernel)) (by decide +kernel)
theorem k_94e97121fa : (Jvm.Cond.instanceMethod ({ cls := "SpectrumDeskModel", name := "check", desc := "()I" } : Jvm.MethodName)) ∈ AW := aw_5 (List.mem_of_getElem? (i := 180) (by decide +kernel)) (by decide +kernel)
theorem k_f572f5442c : (Jvm.Cond.selects "SpectrumDeskModel" ({ cls := "SpectrumDeskModel", name := "check", desc := "()I" } : Jvm.MethodName) ({ cls := "SpectrumDeskModel", name := "check", desc := "()I" } : Jvm.MethodName)) ∈ AW := aw_5 (List.mem_of_getElem? (i := 181) (by decide +kernel)) (by decide +kernel)
theorem k_c44df383ab : (Jvm.Cond.methodLink "SpectrumDeskLaw" (101 : Nat) ({ cls := "SpectrumDesk", name := "distinct", desc := "()I" } : Jvm.MethodName)) ∈ AW := aw_3 (List.mem_of_getElem? (i := 199) (by decide +kernel)) (by decide +kernel)
theorem k_f4ea4d2164 : (Jvm.Cond.instanceMethod ({ cls := "SpectrumDesk", name := "distinct", desc := "()I" } : Jvm.MethodName)) ∈ AW := aw_3 (List.mem_of_getElem? (i := 200) (by decide +kernel)) (by decide +kernel)
theorem k_79d9e91ea5 : (Jvm.Cond.selects "SpectrumDesk" ({ cls := "SpectrumDesk", name := "distinct", desc := "()I" } : Jvm.MethodName) ({ cls := "SpectrumDesk", name := "distinct", desc := "()I" } : Jvm.MethodName)) ∈ AW := aw_3 (List.mem_of_getElem? (i := 201) (by decide +kernel)) (by decide +kernel)
theorem k_5ec889efb4 : (Jvm.Cond.methodLink "SpectrumDeskLaw" (104 : Nat) ({ cls := "SpectrumDeskModel", name := "distinct", desc := "()I" } : Jvm.MethodName)) ∈ AW := aw_5 (List.mem_of_getElem? (i := 167) (by decide +kernel)) (by decide +kernel)
theorem k_fd8fbee0af : (Jvm.Cond.instanceMethod ({ cls := "SpectrumDeskModel", name := "distinct", desc := "()I" } : Jvm.MethodName)) ∈ AW := aw_5 (List.mem_of_getElem? (i := 168) (by decide +kernel)) (by decide +kernel)
theorem k_ddcda7b2f4 : (Jvm.Cond.selects "SpectrumDeskModel" ({ cls := "SpectrumDeskModel", name := "distinct", desc := "()I" } : Jvm.MethodName) ({ cls := "SpectrumDeskModel", name := "distinct", desc := "()I" } : Jvm.MethodName)) ∈ AW := aw_5 (List.mem_of_getElem? (i := 169) (by decide +kernel)) (by decide +kernel)
theorem k_42bbff55d8 : (Jvm.Cond.methodLink "SpectrumDeskLaw" (108 : Nat) ({ cls := "SpectrumDesk", name := "apart", desc := "()I" } : Jvm.MethodName)) ∈ AW := aw_4 (List.mem_of_getElem? (i := 19) (by decide +kernel)) (by decide +kernel)
theorem k_88d90c86a7 : (Jvm.Cond.instanceMethod ({ cls := "SpectrumDesk", name := "apart", desc := "()I" } : Jvm.MethodName)) ∈ AW := aw_4 (List.mem_of_getElem? (i := 20) (by decide +kernel)) (by decide +kernel)
theorem k_e62292adf5 : (Jvm.Cond.selects "SpectrumDesk" ({ cls := "SpectrumDesk", name := "apart", desc := "()I" } : Jvm.MethodName) ({ cls := "SpectrumDesk", name := "apart", desc := "()I" } : Jvm.MethodName)) ∈ AW := aw_4 (List.mem_of_getElem? (i := 21) (by decide +kernel)) (by decide +kernel)
theorem k_a3aa4a2891 : (Jvm.Cond.methodLink "SpectrumDeskLaw" (111 : Nat) ({ cls := "SpectrumDeskModel", name := "apart", desc := "()I" } : Jvm.MethodName)) ∈ AW := aw_5 (List.mem_of_getElem? (i := 175) (by decide +kernel)) (by decide +kernel)
theorem k_acd85949a7 : (Jvm.Cond.instanceMethod ({ cls := "SpectrumDeskModel", name := "apart", desc := "()I" } : Jvm.MethodName)) ∈ AW := aw_5 (List.mem_of_getElem? (i := 176) (by decide +kernel)) (by decide +kernel)
theorem k_24c82b04ec : (Jvm.Cond.selects "SpectrumDeskModel" ({ cls := "SpectrumDeskModel", name := "apart", desc := "()I" } : Jvm.MethodName) ({ cls := "SpectrumDeskModel", name := "apart", desc := "()I" } : Jvm.MethodName)) ∈ AW := aw_5 (List.mem_of_getElem? (i := 177) (by decide +kernel)) (by decide +kernel)
theorem k_eadbfac982 : (Jvm.Cond.methodLink "SpectrumDeskLaw" (97 : Nat) ({ cls := "SpectrumDeskLaw", name := "multiplicity", desc := "(LSpectrumDesk;I[J)I" } : Jvm.MethodName)) ∈ AW := aw_4 (List.mem_of_getElem? (i := 143) (by decide +kernel)) (by decide +kernel)
theorem k_952a3bf8e2 : (Jvm.Cond.static ({ cls := "SpectrumDeskLaw", name := "multiplicity", desc := "(LSpectrumDesk;I[J)I" } : Jvm.MethodName)) ∈ AW := aw_4 (List.mem_of_getElem? (i := 144) (by decide +kernel)) (by decide +kernel)
theorem k_4947df62ac : (Jvm.Cond.methodLink "SpectrumDeskLaw" (100 : Nat) ({ cls := "SpectrumDeskModel", name := "multiplicity", desc := "(I)I" } : Jvm.MethodName)) ∈ AW := aw_5 (List.mem_of_getElem? (i := 127) (by decide +kernel)) (by decide +kernel)
theorem k_ea60882234 : (Jvm.Cond.instanceMethod ({ cls := "SpectrumDeskModel", name := "multiplicity", desc := "(I)I" } : Jvm.MethodName)) ∈ AW := aw_5 (List.mem_of_getElem? (i := 128) (by decide +kernel)) (by decide +kernel)
theorem k_cc3609d85c : (Jvm.Cond.selects "SpectrumDeskModel" ({ cls := "SpectrumDeskModel", name := "multiplicity", desc := "(I)I" } : Jvm.MethodName) ({ cls := "SpectrumDeskModel", name := "multiplicity", desc := "(I)I" } : Jvm.MethodName)) ∈ AW := aw_5 (List.mem_of_getElem? (i := 129) (by decide +kernel)) (by decide +kernel)
theorem k_e71d806439 : (Jvm.Cond.methodLink "SpectrumDeskLaw" (94 : Nat) ({ cls := "SpectrumDeskLaw", name := "cell", desc := "(LSpectrumDesk;II[J)I" } : Jvm.MethodName)) ∈ AW := aw_4 (List.mem_of_getElem? (i := 133) (by decide +kernel)) (by decide +kernel)
theorem k_1a2096a739 : (Jvm.Cond.static ({ cls := "SpectrumDeskLaw", name := "cell", desc := "(LSpectrumDesk;II[J)I" } : Jvm.MethodName)) ∈ AW := aw_4 (List.mem_of_getElem? (i := 134) (by decide +kernel)) (by decide +kernel)
theorem k_4881fbf273 : (Jvm.Cond.methodLink "SpectrumDeskLaw" (96 : Nat) ({ cls := "SpectrumDeskModel", name := "cell", desc := "(II)J" } : Jvm.MethodName)) ∈ AW := aw_5 (List.mem_of_getElem? (i := 109) (by decide +kernel)) (by decide +kernel)
theorem k_c7b06adbc2 : (Jvm.Cond.instanceMethod ({ cls := "SpectrumDeskModel", name := "cell", desc := "(II)J" } : Jvm.MethodName)) ∈ AW := aw_5 (List.mem_of_getElem? (i := 110) (by decide +kernel)) (by decide +kernel)
theorem k_32243aaf69 : (Jvm.Cond.selects "SpectrumDeskModel" ({ cls := "SpectrumDeskModel", name := "cell", desc := "(II)J" } : Jvm.MethodName) ({ cls := "SpectrumDeskModel", name := "cell", desc := "(II)J" } : Jvm.MethodName)) ∈ AW := aw_5 (List.mem_of_getElem? (i := 111) (by decide +kernel)) (by decide +kernel)
theorem k_38962a2be2 : (Jvm.Cond.methodLink "SpectrumDeskLaw" (105 : Nat) ({ cls := "SpectrumDeskLaw", name := "whole", desc := "(LSpectrumDesk;I[J)I" } : Jvm.MethodName)) ∈ AW := aw_4 (List.mem_of_getElem? (i := 161) (by decide +kernel)) (by decide +kernel)
theorem k_bccb0f151e : (Jvm.Cond.static ({ cls := "SpectrumDeskLaw", name := "whole", desc := "(LSpectrumDesk;I[J)I" } : Jvm.MethodName)) ∈ AW := aw_4 (List.mem_of_getElem? (i := 162) (by decide +kernel)) (by decide +kernel)
theorem k_f2eed9ec8c : (Jvm.Cond.methodLink "SpectrumDeskLaw" (107 : Nat) ({ cls := "SpectrumDeskModel", name := "whole", desc := "(I)Z" } : Jvm.MethodName)) ∈ AW := aw_5 (List.mem_of_getElem? (i := 171) (by decide +kernel)) (by decide +kernel)
theorem k_3c1797834a : (Jvm.Cond.instanceMethod ({ cls := "SpectrumDeskModel", name := "whole", desc := "(I)Z" } : Jvm.MethodName)) ∈ AW := aw_5 (List.mem_of_getElem? (i := 172) (by decide +kernel)) (by decide +kernel)
theorem k_8499e11ed9 : (Jvm.Cond.selects "SpectrumDeskModel" ({ cls := "SpectrumDeskModel", name := "whole", desc := "(I)Z" } : Jvm.MethodName) ({ cls := "SpectrumDeskModel", name := "whole", desc := "(I)Z" } : Jvm.MethodName)) ∈ AW := aw_5 (List.mem_of_getElem? (i := 173) (by decide +kernel)) (by decide +kernel)
theorem k_aba93b39a5 : (Jvm.Cond.constantLong "SpectrumDeskLaw" (88 : Nat) (4294967295 : Int64)) ∈ AW := aw_5 (List.mem_of_getElem? (i := 183) (by decide +kernel)) (by decide +kernel)
theorem k_3ff26b9ad7 : (Jvm.Cond.methodLink "SpectrumDeskLaw" (90 : Nat) ({ cls := "SpectrumDeskLaw", name := "count", desc := "(LSpectrumDesk;IJJI[J)I" } : Jvm.MethodName)) ∈ AW := aw_4 (List.mem_of_getElem? (i := 119) (by decide +kernel)) (by decide +kernel)
theorem k_2fe709eb90 : (Jvm.Cond.static ({ cls := "SpectrumDeskLaw", name := "count", desc := "(LSpectrumDesk;IJJI[J)I" } : Jvm.MethodName)) ∈ AW := aw_4 (List.mem_of_getElem? (i := 120) (by decide +kernel)) (by decide +kernel)
theorem k_f371332b6a : (Jvm.Cond.methodLink "SpectrumDeskLaw" (93 : Nat) ({ cls := "SpectrumDeskModel", name := "count", desc := "(IJJI)I" } : Jvm.MethodName)) ∈ AW := aw_5 (List.mem_of_getElem? (i := 97) (by decide +kernel)) (by decide +kernel)
theorem k_43e38c7b74 : (Jvm.Cond.instanceMethod ({ cls := "SpectrumDeskModel", name := "count", desc := "(IJJI)I" } : Jvm.MethodName)) ∈ AW := aw_5 (List.mem_of_getElem? (i := 98) (by decide +kernel)) (by decide +kernel)
theorem k_0e7bab3dcc : (Jvm.Cond.selects "SpectrumDeskModel" ({ cls := "SpectrumDeskModel", name := "count", desc := "(IJJI)I" } : Jvm.MethodName) ({ cls := "SpectrumDeskModel", name := "count", desc := "(IJJI)I" } : Jvm.MethodName)) ∈ AW := aw_5 (List.mem_of_getElem? (i := 99) (by decide +kernel)) (by decide +kernel)
set_option maxHeartbeats 4000000 in
set_option maxRecDepth 100000 in
theorem lop_check {p : Program} {l : Launch} {e : Env} {s : State} {m : MethodId} {args : Array Value} {below : List Frame} {meth : Method} {c : Code} {Q : State → Prop} {H : Heap} {cells slots : Nat} {ls : Array Slot} {D : va_G} {cI cJ cZ cC cG cP : ClassId} {ad : Nat → Nat} {σ : Nat → va_E} {b L i : Nat} {xs : Nat → Int32} (hx : p.tables.exec = Jvm.exec) (hb : c.code = b_law) (X : xX p c b_law 8 s args (wl :: AW) "SpectrumDeskLaw" m D classes (xT cI cJ cZ cC cG cP) ) (hz : ∀ k, s.heap.size ≤ ad k) (hT : xtOK (xA 193 ad) s) (hfl : l.flags = Jvm.pinnedFlags ++ [Jvm.noTraceFlag]) (hX : va_X b L xs s s.heap) (hbl : b < s.heap.size) (hL : L ≤ 3584) (hi : i + 7 ≤ L) (hR : cells + 1 ≤ room_1.cells ∧ slots + 6 ≤ room_1.slots) (hMT : MATH) (hl : lv_has ls 8 [(0, .ref b), (1, .ref (ad 0)), (2, .ref (ad 183)), (3, .ref (ad 192)), (4, .int (nI i))]) (hI : LI ad cI cJ cZ cC cG cP σ) (I : xI D classes 193 ad s.heap σ H [])
    (kk : ∀ (ls : Array Slot) (σ : Nat → va_E) (H : Heap), lv_has ls 8 [(0, .ref b), (1, .ref (ad 0)), (2, .ref (ad 183)), (3, .ref (ad 192)), (4, .int (nI i))] → LI ad cI cJ cZ cC cG cP σ → xI D classes 193 ad s.heap σ H [] → W p l e room_1 s m args below meth c H [] (cells + 1) (slots + 6) Q (F0 m 867 ls [])) :
    W p l e room_1 s m args below meth c H [] cells slots Q (F0 m 854 ls []) := by
  obtain ⟨n, st, A, rw, S, P, ln, Tx, A9, Dt, Pr, th, fo, h1n, hn6, hCK, hm, ho, hLR⟩ := hI
  obtain ⟨fs9, hfs⟩ := mS_o hm
  have hR0 : cells ≤ room_1.cells ∧ slots ≤ room_1.slots := ⟨by omega, by omega⟩
  obtain ⟨q1, q2, q3, q4, q5⟩ := id hCK
  obtain ⟨r1_, r2_, r3_, r4_, r5_, r6_, r7_, r8_, r9_⟩ := id hLR
  obtain ⟨mV, mC, mK, mD, fu, mfu, mR⟩ := hMT n A A9 h1n hn6 r1_ r2_ r3_
  obtain ⟨V, hgd, hst⟩ := hCK.V mV
  obtain ⟨mc, mm, mw, ma⟩ := mR V hgd
  refine lv_aload_n hx hb d_law_854 rfl (lv_at hl 1 rfl) ?_
  refine xq_calli hz (xq_runV (kc := 8) (n := 0) (As := []) (rest := []) X I (by decide) q1 rfl (c_SpectrumDesk_check rfl q1 h1n hn6 q2 r1_ hgd q4 hst) (xg k_c2d377dba2) (List.mem_cons_of_mem _ k_e6a031871a) (List.mem_cons_of_mem _ k_9292ae988d) (List.mem_cons_of_mem _ k_6790d937ae) (List.mem_cons_of_mem _ k_6836736ab7) (by decide +kernel) (by decide) rfl hl.1 rfl (Nat.le_of_ble_eq_true rfl) d_law_855 hR0) I (fun r1 σ1 H hp I => ?_)
  obtain ⟨rfl, rk, hu⟩ := hp
  have hm1 : mS ad cI cZ σ1 th n A9 rw Dt ln Pr σ1 := mS_in hm (fun q _ _ => hu.1 q (by omega) (by omega))
  obtain ⟨fs7, hfs1⟩ := mS_o hm1
  refine lv_aload_n hx hb d_law_858 rfl (lv_at hl 2 rfl) ?_
  refine xq_calli hz (xq_runV (kc := 0) (n := 0) (As := []) (rest := [.int (nI 1)]) X I (by decide) hfs1 rfl (c_SpectrumDeskModel_check hm1) (xg k_f4eb527a84) (List.mem_cons_of_mem _ k_0843610b1a) (List.mem_cons_of_mem _ k_94e97121fa) (List.mem_cons_of_mem _ k_f572f5442c) (List.mem_cons_of_mem _ k_30fa15c9ac) (by decide +kernel) (by decide) rfl hl.1 rfl (Nat.le_of_ble_eq_true rfl) d_law_859 hR0) I (fun r2 σ2 H hp I => ?_)
  obtain ⟨rfl, hm2⟩ := hp
  refine lv_icmp_eq hx hb d_law_862 rfl (fun hc => ?_) (fun hc => ?_)
  · exact W.widen (by omega) (by omega) (kk ls _ _ hl ⟨n, (nI 0), A, rw, S, P, ln, Tx, A9, Dt, Pr, (nI 0), fo, h1n, hn6, (hCK.up hgd hu).same hn6 (fun q hq => mS_out hm2 q (Or.inl hq)), mS_in hm2 (fun _ _ _ => rfl), (mS_out hm2 192 (Or.inr (by decide))).trans ((hu.1 192 (by decide) (by omega)).trans ho), hLR⟩ I)
  · exact absurd rfl hc
set_option maxHeartbeats 4000000 in
set_option maxRecDepth 100000 in
theorem lop_distinct {p : Program} {l : Launch} {e : Env} {s : State} {m : MethodId} {args : Array Value} {below : List Frame} {meth : Method} {c : Code} {Q : State → Prop} {H : Heap} {cells slots : Nat} {ls : Array Slot} {D : va_G} {cI cJ cZ cC cG cP : ClassId} {ad : Nat → Nat} {σ : Nat → va_E} {b L i : Nat} {xs : Nat → Int32} (hx : p.tables.exec = Jvm.exec) (hb : c.code = b_law) (X : xX p c b_law 8 s args (wl :: AW) "SpectrumDeskLaw" m D classes (xT cI cJ cZ cC cG cP) ) (hz : ∀ k, s.heap.size ≤ ad k) (hT : xtOK (xA 193 ad) s) (hfl : l.flags = Jvm.pinnedFlags ++ [Jvm.noTraceFlag]) (hX : va_X b L xs s s.heap) (hbl : b < s.heap.size) (hL : L ≤ 3584) (hi : i + 7 ≤ L) (hR : cells + 1 ≤ room_1.cells ∧ slots + 6 ≤ room_1.slots) (hMT : MATH) (hl : lv_has ls 8 [(0, .ref b), (1, .ref (ad 0)), (2, .ref (ad 183)), (3, .ref (ad 192)), (4, .int (nI i))]) (hI : LI ad cI cJ cZ cC cG cP σ) (I : xI D classes 193 ad s.heap σ H [])
    (kk : ∀ (ls : Array Slot) (σ : Nat → va_E) (H : Heap), lv_has ls 8 [(0, .ref b), (1, .ref (ad 0)), (2, .ref (ad 183)), (3, .ref (ad 192)), (4, .int (nI i))] → LI ad cI cJ cZ cC cG cP σ → xI D classes 193 ad s.heap σ H [] → W p l e room_1 s m args below meth c H [] (cells + 1) (slots + 6) Q (F0 m 867 ls [])) :
    W p l e room_1 s m args below meth c H [] cells slots Q (F0 m 765 ls []) := by
  obtain ⟨n, st, A, rw, S, P, ln, Tx, A9, Dt, Pr, th, fo, h1n, hn6, hCK, hm, ho, hLR⟩ := hI
  obtain ⟨fs9, hfs⟩ := mS_o hm
  have hR0 : cells ≤ room_1.cells ∧ slots ≤ room_1.slots := ⟨by omega, by omega⟩
  obtain ⟨q1, q2, q3, q4, q5⟩ := id hCK
  obtain ⟨r1_, r2_, r3_, r4_, r5_, r6_, r7_, r8_, r9_⟩ := id hLR
  obtain ⟨mV, mC, mK, mD, fu, mfu, mR⟩ := hMT n A A9 h1n hn6 r1_ r2_ r3_
  obtain ⟨V, hgd, hst⟩ := hCK.V mV
  obtain ⟨mc, mm, mw, ma⟩ := mR V hgd
  refine lv_aload_n hx hb d_law_765 rfl (lv_at hl 1 rfl) ?_
  refine xq_calli hz (xq_runV (kc := 8) (n := 0) (As := []) (rest := []) X I (by decide) q1 rfl (c_SpectrumDesk_distinct rfl q1 h1n hn6 q2 r1_ hgd q4 hst) (xg k_72fcff8cca) (List.mem_cons_of_mem _ k_c44df383ab) (List.mem_cons_of_mem _ k_f4ea4d2164) (List.mem_cons_of_mem _ k_79d9e91ea5) (List.mem_cons_of_mem _ k_6836736ab7) (by decide +kernel) (by decide) rfl hl.1 rfl (Nat.le_of_ble_eq_true rfl) d_law_766 hR0) I (fun r1 σ1 H hp I => ?_)
  obtain ⟨e1, rk, hu⟩ := hp
  have hm1 : mS ad cI cZ σ1 th n A9 rw Dt ln Pr σ1 := mS_in hm (fun q _ _ => hu.1 q (by omega) (by omega))
  obtain ⟨fs7, hfs1⟩ := mS_o hm1
  refine lv_aload_n hx hb d_law_769 rfl (lv_at hl 2 rfl) ?_
  refine xq_calli hz (xq_runV (kc := 6) (n := 0) (As := []) (rest := [.int r1]) X I (by decide) hfs1 rfl (c_SpectrumDeskModel_distinct hm1 rfl h1n hn6 r2_) (xg k_4e7a7cf6dd) (List.mem_cons_of_mem _ k_5ec889efb4) (List.mem_cons_of_mem _ k_fd8fbee0af) (List.mem_cons_of_mem _ k_ddcda7b2f4) (List.mem_cons_of_mem _ k_30fa15c9ac) (by decide +kernel) (by decide) rfl hl.1 rfl (Nat.le_of_ble_eq_true rfl) d_law_770 hR0) I (fun r2 σ2 H hp I => ?_)
  obtain ⟨e2, hm2⟩ := hp
  refine lv_icmp_eq hx hb d_law_773 rfl (fun hc => ?_) (fun hc => ?_)
  · exact W.widen (by omega) (by omega) (kk ls _ _ hl ⟨n, (nI 0), A, rw, S, P, ln, Tx, A9, Dt, Pr, (nI 0), fo, h1n, hn6, (hCK.up hgd hu).same hn6 (fun q hq => mS_out hm2 q (Or.inl hq)), mS_in hm2 (fun _ _ _ => rfl), (mS_out hm2 192 (Or.inr (by decide))).trans ((hu.1 192 (by decide) (by omega)).trans ho), hLR⟩ I)
  · exact absurd (by rw [e1, e2, mD]) hc
set_option maxHeartbeats 4000000 in
set_option maxRecDepth 100000 in
theorem lop_apart {p : Program} {l : Launch} {e : Env} {s : State} {m : MethodId} {args : Array Value} {below : List Frame} {meth : Method} {c : Code} {Q : State → Prop} {H : Heap} {cells slots : Nat} {ls : Array Slot} {D : va_G} {cI cJ cZ cC cG cP : ClassId} {ad : Nat → Nat} {σ : Nat → va_E} {b L i : Nat} {xs : Nat → Int32} (hx : p.tables.exec = Jvm.exec) (hb : c.code = b_law) (X : xX p c b_law 8 s args (wl :: AW) "SpectrumDeskLaw" m D classes (xT cI cJ cZ cC cG cP) ) (hz : ∀ k, s.heap.size ≤ ad k) (hT : xtOK (xA 193 ad) s) (hfl : l.flags = Jvm.pinnedFlags ++ [Jvm.noTraceFlag]) (hX : va_X b L xs s s.heap) (hbl : b < s.heap.size) (hL : L ≤ 3584) (hi : i + 7 ≤ L) (hR : cells + 1 ≤ room_1.cells ∧ slots + 6 ≤ room_1.slots) (hMT : MATH) (hl : lv_has ls 8 [(0, .ref b), (1, .ref (ad 0)), (2, .ref (ad 183)), (3, .ref (ad 192)), (4, .int (nI i))]) (hI : LI ad cI cJ cZ cC cG cP σ) (I : xI D classes 193 ad s.heap σ H [])
    (kk : ∀ (ls : Array Slot) (σ : Nat → va_E) (H : Heap), lv_has ls 8 [(0, .ref b), (1, .ref (ad 0)), (2, .ref (ad 183)), (3, .ref (ad 192)), (4, .int (nI i))] → LI ad cI cJ cZ cC cG cP σ → xI D classes 193 ad s.heap σ H [] → W p l e room_1 s m args below meth c H [] (cells + 1) (slots + 6) Q (F0 m 867 ls [])) :
    W p l e room_1 s m args below meth c H [] cells slots Q (F0 m 841 ls []) := by
  obtain ⟨n, st, A, rw, S, P, ln, Tx, A9, Dt, Pr, th, fo, h1n, hn6, hCK, hm, ho, hLR⟩ := hI
  obtain ⟨fs9, hfs⟩ := mS_o hm
  have hR0 : cells ≤ room_1.cells ∧ slots ≤ room_1.slots := ⟨by omega, by omega⟩
  obtain ⟨q1, q2, q3, q4, q5⟩ := id hCK
  obtain ⟨r1_, r2_, r3_, r4_, r5_, r6_, r7_, r8_, r9_⟩ := id hLR
  obtain ⟨mV, mC, mK, mD, fu, mfu, mR⟩ := hMT n A A9 h1n hn6 r1_ r2_ r3_
  obtain ⟨V, hgd, hst⟩ := hCK.V mV
  obtain ⟨mc, mm, mw, ma⟩ := mR V hgd
  refine lv_aload_n hx hb d_law_841 rfl (lv_at hl 1 rfl) ?_
  refine xq_calli hz (xq_runV (kc := 8) (n := 0) (As := []) (rest := []) X I (by decide) q1 rfl (c_SpectrumDesk_apart rfl q1 h1n hn6 q2 r1_ hgd q4 hst) (xg k_1b216cd663) (List.mem_cons_of_mem _ k_42bbff55d8) (List.mem_cons_of_mem _ k_88d90c86a7) (List.mem_cons_of_mem _ k_e62292adf5) (List.mem_cons_of_mem _ k_6836736ab7) (by decide +kernel) (by decide) rfl hl.1 rfl (Nat.le_of_ble_eq_true rfl) d_law_842 hR0) I (fun r1 σ1 H hp I => ?_)
  obtain ⟨e1, rk, hu⟩ := hp
  have hm1 : mS ad cI cZ σ1 th n A9 rw Dt ln Pr σ1 := mS_in hm (fun q _ _ => hu.1 q (by omega) (by omega))
  obtain ⟨fs7, hfs1⟩ := mS_o hm1
  refine lv_aload_n hx hb d_law_845 rfl (lv_at hl 2 rfl) ?_
  refine xq_calli hz (xq_runV (kc := 7) (n := 0) (As := []) (rest := [.int r1]) X I (by decide) hfs1 rfl (c_SpectrumDeskModel_apart (C9 := fun i v => V i / 2 ^ (30 - v)) hm1 rfl h1n hn6 r2_ (fun a v x ha hv hx9 => mc a v x ha hv hx9)) (xg k_f149e5be28) (List.mem_cons_of_mem _ k_a3aa4a2891) (List.mem_cons_of_mem _ k_acd85949a7) (List.mem_cons_of_mem _ k_24c82b04ec) (List.mem_cons_of_mem _ k_30fa15c9ac) (by decide +kernel) (by decide) rfl hl.1 rfl (Nat.le_of_ble_eq_true rfl) d_law_846 hR0) I (fun r2 σ2 H hp I => ?_)
  obtain ⟨e2, hm2⟩ := hp
  refine lv_icmp_eq hx hb d_law_849 rfl (fun hc => ?_) (fun hc => ?_)
  · exact W.widen (by omega) (by omega) (kk ls _ _ hl ⟨n, (nI 0), A, rw, S, P, ln, Tx, A9, Dt, Pr, (nI 0), fo, h1n, hn6, (hCK.up hgd hu).same hn6 (fun q hq => mS_out hm2 q (Or.inl hq)), mS_in hm2 (fun _ _ _ => rfl), (mS_out hm2 192 (Or.inr (by decide))).trans ((hu.1 192 (by decide) (by omega)).trans ho), hLR⟩ I)
  · exact absurd (ma _ _ e1 e2) hc
set_option maxHeartbeats 4000000 in
set_option maxRecDepth 100000 in
theorem lop_multiplicity {p : Program} {l : Launch} {e : Env} {s : State} {m : MethodId} {args : Array Value} {below : List Frame} {meth : Method} {c : Code} {Q : State → Prop} {H : Heap} {cells slots : Nat} {ls : Array Slot} {D : va_G} {cI cJ cZ cC cG cP : ClassId} {ad : Nat → Nat} {σ : Nat → va_E} {b L i : Nat} {xs : Nat → Int32} (hx : p.tables.exec = Jvm.exec) (hb : c.code = b_law) (X : xX p c b_law 8 s args (wl :: AW) "SpectrumDeskLaw" m D classes (xT cI cJ cZ cC cG cP) ) (hz : ∀ k, s.heap.size ≤ ad k) (hT : xtOK (xA 193 ad) s) (hfl : l.flags = Jvm.pinnedFlags ++ [Jvm.noTraceFlag]) (hX : va_X b L xs s s.heap) (hbl : b < s.heap.size) (hL : L ≤ 3584) (hi : i + 7 ≤ L) (hR : cells + 1 ≤ room_1.cells ∧ slots + 6 ≤ room_1.slots) (hMT : MATH) (hl : lv_has ls 8 [(0, .ref b), (1, .ref (ad 0)), (2, .ref (ad 183)), (3, .ref (ad 192)), (4, .int (nI i))]) (hI : LI ad cI cJ cZ cC cG cP σ) (I : xI D classes 193 ad s.heap σ H [])
    (kk : ∀ (ls : Array Slot) (σ : Nat → va_E) (H : Heap), lv_has ls 8 [(0, .ref b), (1, .ref (ad 0)), (2, .ref (ad 183)), (3, .ref (ad 192)), (4, .int (nI i))] → LI ad cI cJ cZ cC cG cP σ → xI D classes 193 ad s.heap σ H [] → W p l e room_1 s m args below meth c H [] (cells + 1) (slots + 6) Q (F0 m 867 ls [])) :
    W p l e room_1 s m args below meth c H [] cells slots Q (F0 m 709 ls []) := by
  obtain ⟨n, st, A, rw, S, P, ln, Tx, A9, Dt, Pr, th, fo, h1n, hn6, hCK, hm, ho, hLR⟩ := hI
  obtain ⟨fs9, hfs⟩ := mS_o hm
  have hR0 : cells ≤ room_1.cells ∧ slots ≤ room_1.slots := ⟨by omega, by omega⟩
  obtain ⟨q1, q2, q3, q4, q5⟩ := id hCK
  obtain ⟨r1_, r2_, r3_, r4_, r5_, r6_, r7_, r8_, r9_⟩ := id hLR
  obtain ⟨mV, mC, mK, mD, fu, mfu, mR⟩ := hMT n A A9 h1n hn6 r1_ r2_ r3_
  obtain ⟨V, hgd, hst⟩ := hCK.V mV
  obtain ⟨mc, mm, mw, ma⟩ := mR V hgd
  by_cases hv1 : (xs (i + 1) < 0 ∨ nI n ≤ xs (i + 1))
  · refine lv_aload_n hx hb d_law_709 rfl (lv_at hl 1 rfl) ?_
    refine lv_aload_n hx hb d_law_710 rfl (lv_at hl 0 rfl) ?_
    refine lv_iload hx hb d_law_711 (lv_at hl 4 rfl) ?_
    refine lv_iconst (v := nI 1) hx hb d_law_713 (by decide) ?_
    refine lv_iadd hx hb d_law_714 (xr_topi (y := nI (i + 1)) (nI_add i 1) ?_)
    refine xq_sld X I hz hX hbl (i := i + 1) (by omega) (by omega) d_law_715 ?_
    refine lv_aload_n hx hb d_law_716 rfl (lv_at hl 3 rfl) ?_
    refine xq_callw hz (xq_runW (n := 3) (As := [.ref (ad 0), .int (xs (i + 1)), .ref (ad 192)]) (rest := []) X I hT (c_SpectrumDeskLaw_multiplicity_bad hfl rfl q1 hv1) rfl rfl (xg k_SpectrumDeskLaw_multiplicity) (List.mem_cons_of_mem _ k_eadbfac982) (List.mem_cons_of_mem _ k_952a3bf8e2) (List.mem_cons_of_mem _ k_fd7a21d612) (by decide +kernel) (by decide) rfl hl.1 rfl (Nat.le_of_ble_eq_true rfl) d_law_717 hR) I (fun r1 σ1 H hp I => ?_)
    obtain ⟨rfl, h9⟩ := hp; rw [h9] at I; clear h9
    refine lv_istore (lv' := [(5, .int (nI 1)), (0, .ref b), (1, .ref (ad 0)), (2, .ref (ad 183)), (3, .ref (ad 192)), (4, .int (nI i))]) hx hb d_law_720 hl (by decide) rfl (fun ls hl => ?_)
    refine lv_aload_n hx hb d_law_722 rfl (lv_at hl 3 rfl) ?_
    refine lv_aload_n hx hb d_law_723 rfl (lv_at hl 1 rfl) ?_
    refine lv_iload hx hb d_law_724 (lv_at hl 5 rfl) ?_
    refine lv_iconst (v := nI 1) hx hb d_law_726 (by decide) ?_
    refine lv_iadd hx hb d_law_727 (xr_topi (y := nI (i + 1)) (nI_add i 1) ?_)
    refine xq_sld X I hz hX hbl (i := i + 1) (by omega) (by omega) d_law_728 ?_
    refine xq_calli hz (xq_runV (kc := 0) (n := 1) (As := [.int (xs (i + 1))]) (rest := []) X I (by decide) hfs rfl (c_SpectrumDeskModel_multiplicity_bad hm hv1) (xg k_9066bc991f) (List.mem_cons_of_mem _ k_4947df62ac) (List.mem_cons_of_mem _ k_ea60882234) (List.mem_cons_of_mem _ k_cc3609d85c) (List.mem_cons_of_mem _ k_30fa15c9ac) (by decide +kernel) (by decide) rfl hl.1 rfl (Nat.le_of_ble_eq_true rfl) d_law_729 hR) I (fun r2 σ2 H hp I => ?_)
    obtain ⟨-, hm2⟩ := hp
    refine lv_istore (lv' := [(6, .int r2), (5, .int (nI 1)), (0, .ref b), (1, .ref (ad 0)), (2, .ref (ad 183)), (3, .ref (ad 192)), (4, .int (nI i))]) hx hb d_law_732 hl (by decide) rfl (fun ls hl => ?_)
    obtain ⟨fs8, hfs2⟩ := mS_o hm2
    refine lv_aload_n hx hb d_law_734 rfl (lv_at hl 4 rfl) ?_
    refine xq_calli hz (xq_runV (kc := 0) (n := 0) (As := []) (rest := []) X I (by decide) hfs2 rfl (c_SpectrumDeskModel_thrown hm2) (xg k_0428eee463) (List.mem_cons_of_mem _ k_43c58839ad) (List.mem_cons_of_mem _ k_bcd6d121c1) (List.mem_cons_of_mem _ k_e8fa1ab47a) (List.mem_cons_of_mem _ k_30fa15c9ac) (by decide +kernel) (by decide) rfl hl.1 rfl (Nat.le_of_ble_eq_true rfl) d_law_735 hR) I (fun r3 σ3 H hp I => ?_)
    obtain ⟨rfl, hm3⟩ := hp
    refine lv_iload hx hb d_law_738 (lv_at hl 1 rfl) ?_
    refine lv_icmp_eq hx hb d_law_740 rfl (fun hc => ?_) (fun hc => ?_)
    · refine lv_iload hx hb d_law_745 (lv_at hl 1 rfl) ?_
      refine lv_if_ne hx hb d_law_747 rfl (fun hd => ?_) (fun hd => ?_)
      · refine lv_goto hx hb d_law_762 rfl ?_
        have hl := lv_sub hl [2, 3, 4, 5, 6] rfl
        have hl : lv_has ls 8 [(0, .ref b), (1, .ref (ad 0)), (2, .ref (ad 183)), (3, .ref (ad 192)), (4, .int (nI i))] := hl
        exact kk ls _ _ hl ⟨n, st, A, rw, S, P, ln, Tx, A9, Dt, Pr, (nI 1), fo, h1n, hn6, hCK.same hn6 (fun q hq => mS_out hm3 q (Or.inl hq)), mS_in hm3 (fun _ _ _ => rfl), (mS_out hm3 192 (Or.inr (by decide))).trans ho, hLR⟩ I
      · exact absurd hd (by decide)
    · exact absurd rfl hc
  · obtain ⟨a9, ha9, hla⟩ := nI_ix (by omega) hv1
    refine lv_aload_n hx hb d_law_709 rfl (lv_at hl 1 rfl) ?_
    refine lv_aload_n hx hb d_law_710 rfl (lv_at hl 0 rfl) ?_
    refine lv_iload hx hb d_law_711 (lv_at hl 4 rfl) ?_
    refine lv_iconst (v := nI 1) hx hb d_law_713 (by decide) ?_
    refine lv_iadd hx hb d_law_714 (xr_topi (y := nI (i + 1)) (nI_add i 1) ?_)
    refine xq_sld X I hz hX hbl (i := i + 1) (by omega) (by omega) d_law_715 ?_
    refine xr_topi (y := nI a9) ha9 ?_
    refine lv_aload_n hx hb d_law_716 rfl (lv_at hl 3 rfl) ?_
    refine xq_callw hz (xq_runW (n := 3) (As := [.ref (ad 0), .int (nI a9), .ref (ad 192)]) (rest := []) X I hT (c_SpectrumDeskLaw_multiplicity_ok rfl q1 h1n hn6 q2 r1_ hgd q4 hst hla ho) rfl rfl (xg k_SpectrumDeskLaw_multiplicity) (List.mem_cons_of_mem _ k_eadbfac982) (List.mem_cons_of_mem _ k_952a3bf8e2) (List.mem_cons_of_mem _ k_fd7a21d612) (by decide +kernel) (by decide) rfl hl.1 rfl (Nat.le_of_ble_eq_true rfl) d_law_717 hR) I (fun r1 σ1 H hp I => ?_)
    obtain ⟨rfl, r9, rk, σ8, e1, hu, h9⟩ := hp
    have k1 : ∀ q, q ≠ 192 → σ1 q = σ8 q := fun q hq => by rw [h9]; exact va_up_ne _ _ hq
    have o1 : σ1 192 = .inl (cJ, 1, .inr (.inl (vp_updL fo 0 (r9.toInt64)))) := by rw [h9]; exact va_up_self _ _ _
    clear h9
    have hm1 : mS ad cI cZ σ1 th n A9 rw Dt ln Pr σ1 := mS_in hm (fun q _ _ => (k1 q (by omega)).trans (hu.1 q (by omega) (by omega)))
    obtain ⟨fs7, hfs1⟩ := mS_o hm1
    have ck1 : CK ad cI cJ cZ cC cG cP σ1 n (nI 0) A rw S P ln Tx := (hCK.up hgd hu).same hn6 (fun q hq => k1 q (by omega))
    refine lv_istore (lv' := [(5, .int (nI 0)), (0, .ref b), (1, .ref (ad 0)), (2, .ref (ad 183)), (3, .ref (ad 192)), (4, .int (nI i))]) hx hb d_law_720 hl (by decide) rfl (fun ls hl => ?_)
    refine lv_aload_n hx hb d_law_722 rfl (lv_at hl 3 rfl) ?_
    refine lv_aload_n hx hb d_law_723 rfl (lv_at hl 1 rfl) ?_
    refine lv_iload hx hb d_law_724 (lv_at hl 5 rfl) ?_
    refine lv_iconst (v := nI 1) hx hb d_law_726 (by decide) ?_
    refine lv_iadd hx hb d_law_727 (xr_topi (y := nI (i + 1)) (nI_add i 1) ?_)
    refine xq_sld X I hz hX hbl (i := i + 1) (by omega) (by omega) d_law_728 ?_
    refine xr_topi (y := nI a9) ha9 ?_
    refine xq_calli hz (xq_runV (kc := 7) (n := 1) (As := [.int (nI a9)]) (rest := []) X I (by decide) hfs1 rfl (c_SpectrumDeskModel_multiplicity_ok (fu := fu) hm1 rfl h1n hn6 r2_ hla mfu (fun x hx9 => (mm a9 x hla hx9).1)) (xg k_9066bc991f) (List.mem_cons_of_mem _ k_4947df62ac) (List.mem_cons_of_mem _ k_ea60882234) (List.mem_cons_of_mem _ k_cc3609d85c) (List.mem_cons_of_mem _ k_30fa15c9ac) (by decide +kernel) (by decide) rfl hl.1 rfl (Nat.le_of_ble_eq_true rfl) d_law_729 hR) I (fun r2 σ2 H hp I => ?_)
    obtain ⟨x9, hx9, e2, hm2⟩ := hp
    refine lv_istore (lv' := [(6, .int r2), (5, .int (nI 0)), (0, .ref b), (1, .ref (ad 0)), (2, .ref (ad 183)), (3, .ref (ad 192)), (4, .int (nI i))]) hx hb d_law_732 hl (by decide) rfl (fun ls hl => ?_)
    obtain ⟨fs8, hfs2⟩ := mS_o hm2
    refine lv_aload_n hx hb d_law_734 rfl (lv_at hl 4 rfl) ?_
    refine xq_calli hz (xq_runV (kc := 0) (n := 0) (As := []) (rest := []) X I (by decide) hfs2 rfl (c_SpectrumDeskModel_thrown hm2) (xg k_0428eee463) (List.mem_cons_of_mem _ k_43c58839ad) (List.mem_cons_of_mem _ k_bcd6d121c1) (List.mem_cons_of_mem _ k_e8fa1ab47a) (List.mem_cons_of_mem _ k_30fa15c9ac) (by decide +kernel) (by decide) rfl hl.1 rfl (Nat.le_of_ble_eq_true rfl) d_law_735 hR) I (fun r3 σ3 H hp I => ?_)
    obtain ⟨rfl, hm3⟩ := hp
    refine lv_iload hx hb d_law_738 (lv_at hl 1 rfl) ?_
    refine lv_icmp_eq hx hb d_law_740 rfl (fun hc => ?_) (fun hc => ?_)
    · refine lv_iload hx hb d_law_745 (lv_at hl 1 rfl) ?_
      refine lv_if_ne hx hb d_law_747 rfl (fun hd => ?_) (fun hd => ?_)
      · exact absurd rfl hd
      · refine lv_aload_n hx hb d_law_750 rfl (lv_at hl 5 rfl) ?_
        refine lv_iconst (v := nI 0) hx hb d_law_751 (by decide) ?_
        refine xr_lald X I 192 1 (by decide) ((mS_out hm3 192 (Or.inr (by decide))).trans o1) rfl (by decide) (by decide) d_law_752 ?_
        refine xr_topl (y := r9.toInt64) rfl ?_
        refine lv_iload hx hb d_law_753 (lv_at hl 0 rfl) ?_
        refine lv_i2l hx hb d_law_755 rfl ?_
        refine W.lcmp hx hb d_law_756 ?_
        refine lv_if_eq hx hb d_law_757 rfl (fun he => ?_) (fun he => ?_)
        · refine lv_goto hx hb d_law_762 rfl ?_
          have hl := lv_sub hl [2, 3, 4, 5, 6] rfl
          have hl : lv_has ls 8 [(0, .ref b), (1, .ref (ad 0)), (2, .ref (ad 183)), (3, .ref (ad 192)), (4, .int (nI i))] := hl
          exact kk ls _ _ hl ⟨n, (nI 0), A, rw, S, P, ln, Tx, A9, Dt, Pr, (nI 0), _, h1n, hn6, (ck1.same hn6 (fun q hq => mS_out hm3 q (Or.inl hq))), mS_in hm3 (fun _ _ _ => rfl), ((mS_out hm3 192 (Or.inr (by decide))).trans o1), hLR⟩ I
        · exact absurd ((lg_cmp_eq _ _).mpr (by rw [e1, e2, (mm a9 x9 hla hx9).2])) he
    · exact absurd rfl hc
set_option maxHeartbeats 4000000 in
set_option maxRecDepth 100000 in
theorem lop_cell {p : Program} {l : Launch} {e : Env} {s : State} {m : MethodId} {args : Array Value} {below : List Frame} {meth : Method} {c : Code} {Q : State → Prop} {H : Heap} {cells slots : Nat} {ls : Array Slot} {D : va_G} {cI cJ cZ cC cG cP : ClassId} {ad : Nat → Nat} {σ : Nat → va_E} {b L i : Nat} {xs : Nat → Int32} (hx : p.tables.exec = Jvm.exec) (hb : c.code = b_law) (X : xX p c b_law 8 s args (wl :: AW) "SpectrumDeskLaw" m D classes (xT cI cJ cZ cC cG cP) ) (hz : ∀ k, s.heap.size ≤ ad k) (hT : xtOK (xA 193 ad) s) (hfl : l.flags = Jvm.pinnedFlags ++ [Jvm.noTraceFlag]) (hX : va_X b L xs s s.heap) (hbl : b < s.heap.size) (hL : L ≤ 3584) (hi : i + 7 ≤ L) (hR : cells + 1 ≤ room_1.cells ∧ slots + 6 ≤ room_1.slots) (hMT : MATH) (hl : lv_has ls 8 [(0, .ref b), (1, .ref (ad 0)), (2, .ref (ad 183)), (3, .ref (ad 192)), (4, .int (nI i))]) (hI : LI ad cI cJ cZ cC cG cP σ) (I : xI D classes 193 ad s.heap σ H [])
    (kk : ∀ (ls : Array Slot) (σ : Nat → va_E) (H : Heap), lv_has ls 8 [(0, .ref b), (1, .ref (ad 0)), (2, .ref (ad 183)), (3, .ref (ad 192)), (4, .int (nI i))] → LI ad cI cJ cZ cC cG cP σ → xI D classes 193 ad s.heap σ H [] → W p l e room_1 s m args below meth c H [] (cells + 1) (slots + 6) Q (F0 m 867 ls [])) :
    W p l e room_1 s m args below meth c H [] cells slots Q (F0 m 642 ls []) := by
  obtain ⟨n, st, A, rw, S, P, ln, Tx, A9, Dt, Pr, th, fo, h1n, hn6, hCK, hm, ho, hLR⟩ := hI
  obtain ⟨fs9, hfs⟩ := mS_o hm
  have hR0 : cells ≤ room_1.cells ∧ slots ≤ room_1.slots := ⟨by omega, by omega⟩
  obtain ⟨q1, q2, q3, q4, q5⟩ := id hCK
  obtain ⟨r1_, r2_, r3_, r4_, r5_, r6_, r7_, r8_, r9_⟩ := id hLR
  obtain ⟨mV, mC, mK, mD, fu, mfu, mR⟩ := hMT n A A9 h1n hn6 r1_ r2_ r3_
  obtain ⟨V, hgd, hst⟩ := hCK.V mV
  obtain ⟨mc, mm, mw, ma⟩ := mR V hgd
  by_cases hv1 : (xs (i + 1) < 0 ∨ nI n ≤ xs (i + 1))
  · refine lv_aload_n hx hb d_law_642 rfl (lv_at hl 1 rfl) ?_
    refine lv_aload_n hx hb d_law_643 rfl (lv_at hl 0 rfl) ?_
    refine lv_iload hx hb d_law_644 (lv_at hl 4 rfl) ?_
    refine lv_iconst (v := nI 1) hx hb d_law_646 (by decide) ?_
    refine lv_iadd hx hb d_law_647 (xr_topi (y := nI (i + 1)) (nI_add i 1) ?_)
    refine xq_sld X I hz hX hbl (i := i + 1) (by omega) (by omega) d_law_648 ?_
    refine lv_aload_n hx hb d_law_649 rfl (lv_at hl 0 rfl) ?_
    refine lv_iload hx hb d_law_650 (lv_at hl 4 rfl) ?_
    refine lv_iconst (v := nI 2) hx hb d_law_652 (by decide) ?_
    refine lv_iadd hx hb d_law_653 (xr_topi (y := nI (i + 2)) (nI_add i 2) ?_)
    refine xq_sld X I hz hX hbl (i := i + 2) (by omega) (by omega) d_law_654 ?_
    refine lv_aload_n hx hb d_law_655 rfl (lv_at hl 3 rfl) ?_
    refine xq_callw hz (xq_runW (n := 4) (As := [.ref (ad 0), .int (xs (i + 1)), .int (xs (i + 2)), .ref (ad 192)]) (rest := []) X I hT (c_SpectrumDeskLaw_cell_bad1 hfl rfl q1 hv1) rfl rfl (xg k_SpectrumDeskLaw_cell) (List.mem_cons_of_mem _ k_e71d806439) (List.mem_cons_of_mem _ k_1a2096a739) (List.mem_cons_of_mem _ k_fd7a21d612) (by decide +kernel) (by decide) rfl hl.1 rfl (Nat.le_of_ble_eq_true rfl) d_law_656 hR) I (fun r1 σ1 H hp I => ?_)
    obtain ⟨rfl, h9⟩ := hp; rw [h9] at I; clear h9
    refine lv_istore (lv' := [(5, .int (nI 1)), (0, .ref b), (1, .ref (ad 0)), (2, .ref (ad 183)), (3, .ref (ad 192)), (4, .int (nI i))]) hx hb d_law_659 hl (by decide) rfl (fun ls hl => ?_)
    refine lv_aload_n hx hb d_law_661 rfl (lv_at hl 3 rfl) ?_
    refine lv_aload_n hx hb d_law_662 rfl (lv_at hl 1 rfl) ?_
    refine lv_iload hx hb d_law_663 (lv_at hl 5 rfl) ?_
    refine lv_iconst (v := nI 1) hx hb d_law_665 (by decide) ?_
    refine lv_iadd hx hb d_law_666 (xr_topi (y := nI (i + 1)) (nI_add i 1) ?_)
    refine xq_sld X I hz hX hbl (i := i + 1) (by omega) (by omega) d_law_667 ?_
    refine lv_aload_n hx hb d_law_668 rfl (lv_at hl 1 rfl) ?_
    refine lv_iload hx hb d_law_669 (lv_at hl 5 rfl) ?_
    refine lv_iconst (v := nI 2) hx hb d_law_671 (by decide) ?_
    refine lv_iadd hx hb d_law_672 (xr_topi (y := nI (i + 2)) (nI_add i 2) ?_)
    refine xq_sld X I hz hX hbl (i := i + 2) (by omega) (by omega) d_law_673 ?_
    refine xq_calll hz (xq_runV (kc := 0) (n := 2) (As := [.int (xs (i + 1)), .int (xs (i + 2))]) (rest := []) X I (by decide) hfs rfl (c_SpectrumDeskModel_cell_bad1 hm hv1) (xg k_e1277267b6) (List.mem_cons_of_mem _ k_4881fbf273) (List.mem_cons_of_mem _ k_c7b06adbc2) (List.mem_cons_of_mem _ k_32243aaf69) (List.mem_cons_of_mem _ k_30fa15c9ac) (by decide +kernel) (by decide) rfl hl.1 rfl (Nat.le_of_ble_eq_true rfl) d_law_674 hR) I (fun r2 σ2 H hp I => ?_)
    obtain ⟨-, hm2⟩ := hp
    refine lv_lstore (lv' := [(6, .long r2), (5, .int (nI 1)), (0, .ref b), (1, .ref (ad 0)), (2, .ref (ad 183)), (3, .ref (ad 192)), (4, .int (nI i))]) hx hb d_law_677 hl (by decide) rfl (fun ls hl => ?_)
    obtain ⟨fs8, hfs2⟩ := mS_o hm2
    refine lv_aload_n hx hb d_law_679 rfl (lv_at hl 4 rfl) ?_
    refine xq_calli hz (xq_runV (kc := 0) (n := 0) (As := []) (rest := []) X I (by decide) hfs2 rfl (c_SpectrumDeskModel_thrown hm2) (xg k_0428eee463) (List.mem_cons_of_mem _ k_43c58839ad) (List.mem_cons_of_mem _ k_bcd6d121c1) (List.mem_cons_of_mem _ k_e8fa1ab47a) (List.mem_cons_of_mem _ k_30fa15c9ac) (by decide +kernel) (by decide) rfl hl.1 rfl (Nat.le_of_ble_eq_true rfl) d_law_680 hR) I (fun r3 σ3 H hp I => ?_)
    obtain ⟨rfl, hm3⟩ := hp
    refine lv_iload hx hb d_law_683 (lv_at hl 1 rfl) ?_
    refine lv_icmp_eq hx hb d_law_685 rfl (fun hc => ?_) (fun hc => ?_)
    · refine lv_iload hx hb d_law_690 (lv_at hl 1 rfl) ?_
      refine lv_if_ne hx hb d_law_692 rfl (fun hd => ?_) (fun hd => ?_)
      · refine lv_goto hx hb d_law_706 rfl ?_
        have hl := lv_sub hl [2, 3, 4, 5, 6] rfl
        have hl : lv_has ls 8 [(0, .ref b), (1, .ref (ad 0)), (2, .ref (ad 183)), (3, .ref (ad 192)), (4, .int (nI i))] := hl
        exact kk ls _ _ hl ⟨n, st, A, rw, S, P, ln, Tx, A9, Dt, Pr, (nI 1), fo, h1n, hn6, hCK.same hn6 (fun q hq => mS_out hm3 q (Or.inl hq)), mS_in hm3 (fun _ _ _ => rfl), (mS_out hm3 192 (Or.inr (by decide))).trans ho, hLR⟩ I
      · exact absurd hd (by decide)
    · exact absurd rfl hc
  · obtain ⟨a9, ha9, hla⟩ := nI_ix (by omega) hv1
    by_cases hv2 : xs (i + 2) < 0 ∨ nI 30 < xs (i + 2)
    · refine lv_aload_n hx hb d_law_642 rfl (lv_at hl 1 rfl) ?_
      refine lv_aload_n hx hb d_law_643 rfl (lv_at hl 0 rfl) ?_
      refine lv_iload hx hb d_law_644 (lv_at hl 4 rfl) ?_
      refine lv_iconst (v := nI 1) hx hb d_law_646 (by decide) ?_
      refine lv_iadd hx hb d_law_647 (xr_topi (y := nI (i + 1)) (nI_add i 1) ?_)
      refine xq_sld X I hz hX hbl (i := i + 1) (by omega) (by omega) d_law_648 ?_
      refine xr_topi (y := nI a9) ha9 ?_
      refine lv_aload_n hx hb d_law_649 rfl (lv_at hl 0 rfl) ?_
      refine lv_iload hx hb d_law_650 (lv_at hl 4 rfl) ?_
      refine lv_iconst (v := nI 2) hx hb d_law_652 (by decide) ?_
      refine lv_iadd hx hb d_law_653 (xr_topi (y := nI (i + 2)) (nI_add i 2) ?_)
      refine xq_sld X I hz hX hbl (i := i + 2) (by omega) (by omega) d_law_654 ?_
      refine lv_aload_n hx hb d_law_655 rfl (lv_at hl 3 rfl) ?_
      refine xq_callw hz (xq_runW (n := 4) (As := [.ref (ad 0), .int (nI a9), .int (xs (i + 2)), .ref (ad 192)]) (rest := []) X I hT (c_SpectrumDeskLaw_cell_bad2 hfl rfl q1 hn6 hla hv2) rfl rfl (xg k_SpectrumDeskLaw_cell) (List.mem_cons_of_mem _ k_e71d806439) (List.mem_cons_of_mem _ k_1a2096a739) (List.mem_cons_of_mem _ k_fd7a21d612) (by decide +kernel) (by decide) rfl hl.1 rfl (Nat.le_of_ble_eq_true rfl) d_law_656 hR) I (fun r1 σ1 H hp I => ?_)
      obtain ⟨rfl, h9⟩ := hp; rw [h9] at I; clear h9
      refine lv_istore (lv' := [(5, .int (nI 2)), (0, .ref b), (1, .ref (ad 0)), (2, .ref (ad 183)), (3, .ref (ad 192)), (4, .int (nI i))]) hx hb d_law_659 hl (by decide) rfl (fun ls hl => ?_)
      refine lv_aload_n hx hb d_law_661 rfl (lv_at hl 3 rfl) ?_
      refine lv_aload_n hx hb d_law_662 rfl (lv_at hl 1 rfl) ?_
      refine lv_iload hx hb d_law_663 (lv_at hl 5 rfl) ?_
      refine lv_iconst (v := nI 1) hx hb d_law_665 (by decide) ?_
      refine lv_iadd hx hb d_law_666 (xr_topi (y := nI (i + 1)) (nI_add i 1) ?_)
      refine xq_sld X I hz hX hbl (i := i + 1) (by omega) (by omega) d_law_667 ?_
      refine lv_aload_n hx hb d_law_668 rfl (lv_at hl 1 rfl) ?_
      refine lv_iload hx hb d_law_669 (lv_at hl 5 rfl) ?_
      refine lv_iconst (v := nI 2) hx hb d_law_671 (by decide) ?_
      refine lv_iadd hx hb d_law_672 (xr_topi (y := nI (i + 2)) (nI_add i 2) ?_)
      refine xq_sld X I hz hX hbl (i := i + 2) (by omega) (by omega) d_law_673 ?_
      refine xq_calll hz (xq_runV (kc := 0) (n := 2) (As := [.int (xs (i + 1)), .int (xs (i + 2))]) (rest := []) X I (by decide) hfs rfl (c_SpectrumDeskModel_cell_bad2 hm ⟨fun h => hv1 (Or.inl h), Int32.not_le.mp fun h => hv1 (Or.inr h)⟩ hv2) (xg k_e1277267b6) (List.mem_cons_of_mem _ k_4881fbf273) (List.mem_cons_of_mem _ k_c7b06adbc2) (List.mem_cons_of_mem _ k_32243aaf69) (List.mem_cons_of_mem _ k_30fa15c9ac) (by decide +kernel) (by decide) rfl hl.1 rfl (Nat.le_of_ble_eq_true rfl) d_law_674 hR) I (fun r2 σ2 H hp I => ?_)
      obtain ⟨-, hm2⟩ := hp
      refine lv_lstore (lv' := [(6, .long r2), (5, .int (nI 2)), (0, .ref b), (1, .ref (ad 0)), (2, .ref (ad 183)), (3, .ref (ad 192)), (4, .int (nI i))]) hx hb d_law_677 hl (by decide) rfl (fun ls hl => ?_)
      obtain ⟨fs8, hfs2⟩ := mS_o hm2
      refine lv_aload_n hx hb d_law_679 rfl (lv_at hl 4 rfl) ?_
      refine xq_calli hz (xq_runV (kc := 0) (n := 0) (As := []) (rest := []) X I (by decide) hfs2 rfl (c_SpectrumDeskModel_thrown hm2) (xg k_0428eee463) (List.mem_cons_of_mem _ k_43c58839ad) (List.mem_cons_of_mem _ k_bcd6d121c1) (List.mem_cons_of_mem _ k_e8fa1ab47a) (List.mem_cons_of_mem _ k_30fa15c9ac) (by decide +kernel) (by decide) rfl hl.1 rfl (Nat.le_of_ble_eq_true rfl) d_law_680 hR) I (fun r3 σ3 H hp I => ?_)
      obtain ⟨rfl, hm3⟩ := hp
      refine lv_iload hx hb d_law_683 (lv_at hl 1 rfl) ?_
      refine lv_icmp_eq hx hb d_law_685 rfl (fun hc => ?_) (fun hc => ?_)
      · refine lv_iload hx hb d_law_690 (lv_at hl 1 rfl) ?_
        refine lv_if_ne hx hb d_law_692 rfl (fun hd => ?_) (fun hd => ?_)
        · refine lv_goto hx hb d_law_706 rfl ?_
          have hl := lv_sub hl [2, 3, 4, 5, 6] rfl
          have hl : lv_has ls 8 [(0, .ref b), (1, .ref (ad 0)), (2, .ref (ad 183)), (3, .ref (ad 192)), (4, .int (nI i))] := hl
          exact kk ls _ _ hl ⟨n, st, A, rw, S, P, ln, Tx, A9, Dt, Pr, (nI 2), fo, h1n, hn6, hCK.same hn6 (fun q hq => mS_out hm3 q (Or.inl hq)), mS_in hm3 (fun _ _ _ => rfl), (mS_out hm3 192 (Or.inr (by decide))).trans ho, hLR⟩ I
        · exact absurd hd (by decide)
      · exact absurd rfl hc
    · obtain ⟨b9, hb9, -, hlb⟩ := nI_btw 0 30 (by decide) hv2
      refine lv_aload_n hx hb d_law_642 rfl (lv_at hl 1 rfl) ?_
      refine lv_aload_n hx hb d_law_643 rfl (lv_at hl 0 rfl) ?_
      refine lv_iload hx hb d_law_644 (lv_at hl 4 rfl) ?_
      refine lv_iconst (v := nI 1) hx hb d_law_646 (by decide) ?_
      refine lv_iadd hx hb d_law_647 (xr_topi (y := nI (i + 1)) (nI_add i 1) ?_)
      refine xq_sld X I hz hX hbl (i := i + 1) (by omega) (by omega) d_law_648 ?_
      refine xr_topi (y := nI a9) ha9 ?_
      refine lv_aload_n hx hb d_law_649 rfl (lv_at hl 0 rfl) ?_
      refine lv_iload hx hb d_law_650 (lv_at hl 4 rfl) ?_
      refine lv_iconst (v := nI 2) hx hb d_law_652 (by decide) ?_
      refine lv_iadd hx hb d_law_653 (xr_topi (y := nI (i + 2)) (nI_add i 2) ?_)
      refine xq_sld X I hz hX hbl (i := i + 2) (by omega) (by omega) d_law_654 ?_
      refine xr_topi (y := nI b9) hb9 ?_
      refine lv_aload_n hx hb d_law_655 rfl (lv_at hl 3 rfl) ?_
      refine xq_callw hz (xq_runW (n := 4) (As := [.ref (ad 0), .int (nI a9), .int (nI b9), .ref (ad 192)]) (rest := []) X I hT (c_SpectrumDeskLaw_cell_ok rfl q1 h1n hn6 q2 r1_ hgd q4 hst hla hlb ho) rfl rfl (xg k_SpectrumDeskLaw_cell) (List.mem_cons_of_mem _ k_e71d806439) (List.mem_cons_of_mem _ k_1a2096a739) (List.mem_cons_of_mem _ k_fd7a21d612) (by decide +kernel) (by decide) rfl hl.1 rfl (Nat.le_of_ble_eq_true rfl) d_law_656 hR) I (fun r1 σ1 H hp I => ?_)
      obtain ⟨rfl, r9, rk, σ8, e1, hu, h9⟩ := hp
      have k1 : ∀ q, q ≠ 192 → σ1 q = σ8 q := fun q hq => by rw [h9]; exact va_up_ne _ _ hq
      have o1 : σ1 192 = .inl (cJ, 1, .inr (.inl (vp_updL fo 0 r9))) := by rw [h9]; exact va_up_self _ _ _
      clear h9
      have hm1 : mS ad cI cZ σ1 th n A9 rw Dt ln Pr σ1 := mS_in hm (fun q _ _ => (k1 q (by omega)).trans (hu.1 q (by omega) (by omega)))
      obtain ⟨fs7, hfs1⟩ := mS_o hm1
      have ck1 : CK ad cI cJ cZ cC cG cP σ1 n (nI 0) A rw S P ln Tx := (hCK.up hgd hu).same hn6 (fun q hq => k1 q (by omega))
      refine lv_istore (lv' := [(5, .int (nI 0)), (0, .ref b), (1, .ref (ad 0)), (2, .ref (ad 183)), (3, .ref (ad 192)), (4, .int (nI i))]) hx hb d_law_659 hl (by decide) rfl (fun ls hl => ?_)
      refine lv_aload_n hx hb d_law_661 rfl (lv_at hl 3 rfl) ?_
      refine lv_aload_n hx hb d_law_662 rfl (lv_at hl 1 rfl) ?_
      refine lv_iload hx hb d_law_663 (lv_at hl 5 rfl) ?_
      refine lv_iconst (v := nI 1) hx hb d_law_665 (by decide) ?_
      refine lv_iadd hx hb d_law_666 (xr_topi (y := nI (i + 1)) (nI_add i 1) ?_)
      refine xq_sld X I hz hX hbl (i := i + 1) (by omega) (by omega) d_law_667 ?_
      refine xr_topi (y := nI a9) ha9 ?_
      refine lv_aload_n hx hb d_law_668 rfl (lv_at hl 1 rfl) ?_
      refine lv_iload hx hb d_law_669 (lv_at hl 5 rfl) ?_
      refine lv_iconst (v := nI 2) hx hb d_law_671 (by decide) ?_
      refine lv_iadd hx hb d_law_672 (xr_topi (y := nI (i + 2)) (nI_add i 2) ?_)
      refine xq_sld X I hz hX hbl (i := i + 2) (by omega) (by omega) d_law_673 ?_
      refine xr_topi (y := nI b9) hb9 ?_
      refine xq_calll hz (xq_runV (kc := 7) (n := 2) (As := [.int (nI a9), .int (nI b9)]) (rest := []) X I (by decide) hfs1 rfl (c_SpectrumDeskModel_cell_ok hm1 hla hlb hn6 r2_) (xg k_e1277267b6) (List.mem_cons_of_mem _ k_4881fbf273) (List.mem_cons_of_mem _ k_c7b06adbc2) (List.mem_cons_of_mem _ k_32243aaf69) (List.mem_cons_of_mem _ k_30fa15c9ac) (by decide +kernel) (by decide) rfl hl.1 rfl (Nat.le_of_ble_eq_true rfl) d_law_674 hR) I (fun r2 σ2 H hp I => ?_)
      obtain ⟨hx9, hm2⟩ := hp
      refine lv_lstore (lv' := [(6, .long r2), (5, .int (nI 0)), (0, .ref b), (1, .ref (ad 0)), (2, .ref (ad 183)), (3, .ref (ad 192)), (4, .int (nI i))]) hx hb d_law_677 hl (by decide) rfl (fun ls hl => ?_)
      obtain ⟨fs8, hfs2⟩ := mS_o hm2
      refine lv_aload_n hx hb d_law_679 rfl (lv_at hl 4 rfl) ?_
      refine xq_calli hz (xq_runV (kc := 0) (n := 0) (As := []) (rest := []) X I (by decide) hfs2 rfl (c_SpectrumDeskModel_thrown hm2) (xg k_0428eee463) (List.mem_cons_of_mem _ k_43c58839ad) (List.mem_cons_of_mem _ k_bcd6d121c1) (List.mem_cons_of_mem _ k_e8fa1ab47a) (List.mem_cons_of_mem _ k_30fa15c9ac) (by decide +kernel) (by decide) rfl hl.1 rfl (Nat.le_of_ble_eq_true rfl) d_law_680 hR) I (fun r3 σ3 H hp I => ?_)
      obtain ⟨rfl, hm3⟩ := hp
      refine lv_iload hx hb d_law_683 (lv_at hl 1 rfl) ?_
      refine lv_icmp_eq hx hb d_law_685 rfl (fun hc => ?_) (fun hc => ?_)
      · refine lv_iload hx hb d_law_690 (lv_at hl 1 rfl) ?_
        refine lv_if_ne hx hb d_law_692 rfl (fun hd => ?_) (fun hd => ?_)
        · exact absurd rfl hd
        · refine lv_aload_n hx hb d_law_695 rfl (lv_at hl 5 rfl) ?_
          refine lv_iconst (v := nI 0) hx hb d_law_696 (by decide) ?_
          refine xr_lald X I 192 1 (by decide) ((mS_out hm3 192 (Or.inr (by decide))).trans o1) rfl (by decide) (by decide) d_law_697 ?_
          refine xr_topl (y := r9) rfl ?_
          refine lv_lload hx hb d_law_698 (lv_at hl 0 rfl) ?_
          refine W.lcmp hx hb d_law_700 ?_
          refine lv_if_eq hx hb d_law_701 rfl (fun he => ?_) (fun he => ?_)
          · refine lv_goto hx hb d_law_706 rfl ?_
            have hl := lv_sub hl [2, 3, 4, 5, 6] rfl
            have hl : lv_has ls 8 [(0, .ref b), (1, .ref (ad 0)), (2, .ref (ad 183)), (3, .ref (ad 192)), (4, .int (nI i))] := hl
            exact kk ls _ _ hl ⟨n, (nI 0), A, rw, S, P, ln, Tx, A9, Dt, Pr, (nI 0), _, h1n, hn6, (ck1.same hn6 (fun q hq => mS_out hm3 q (Or.inl hq))), mS_in hm3 (fun _ _ _ => rfl), ((mS_out hm3 192 (Or.inr (by decide))).trans o1), hLR⟩ I
          · exact absurd ((lg_cmp_eq _ _).mpr (Int64.toInt_inj.mp (by rw [e1, mc a9 b9 _ hla hlb hx9]))) he
      · exact absurd rfl hc
set_option maxHeartbeats 4000000 in
set_option maxRecDepth 100000 in
theorem lop_whole {p : Program} {l : Launch} {e : Env} {s : State} {m : MethodId} {args : Array Value} {below : List Frame} {meth : Method} {c : Code} {Q : State → Prop} {H : Heap} {cells slots : Nat} {ls : Array Slot} {D : va_G} {cI cJ cZ cC cG cP : ClassId} {ad : Nat → Nat} {σ : Nat → va_E} {b L i : Nat} {xs : Nat → Int32} (hx : p.tables.exec = Jvm.exec) (hb : c.code = b_law) (X : xX p c b_law 8 s args (wl :: AW) "SpectrumDeskLaw" m D classes (xT cI cJ cZ cC cG cP) ) (hz : ∀ k, s.heap.size ≤ ad k) (hT : xtOK (xA 193 ad) s) (hfl : l.flags = Jvm.pinnedFlags ++ [Jvm.noTraceFlag]) (hX : va_X b L xs s s.heap) (hbl : b < s.heap.size) (hL : L ≤ 3584) (hi : i + 7 ≤ L) (hR : cells + 1 ≤ room_1.cells ∧ slots + 6 ≤ room_1.slots) (hMT : MATH) (hl : lv_has ls 8 [(0, .ref b), (1, .ref (ad 0)), (2, .ref (ad 183)), (3, .ref (ad 192)), (4, .int (nI i))]) (hI : LI ad cI cJ cZ cC cG cP σ) (I : xI D classes 193 ad s.heap σ H [])
    (kk : ∀ (ls : Array Slot) (σ : Nat → va_E) (H : Heap), lv_has ls 8 [(0, .ref b), (1, .ref (ad 0)), (2, .ref (ad 183)), (3, .ref (ad 192)), (4, .int (nI i))] → LI ad cI cJ cZ cC cG cP σ → xI D classes 193 ad s.heap σ H [] → W p l e room_1 s m args below meth c H [] (cells + 1) (slots + 6) Q (F0 m 867 ls [])) :
    W p l e room_1 s m args below meth c H [] cells slots Q (F0 m 778 ls []) := by
  obtain ⟨n, st, A, rw, S, P, ln, Tx, A9, Dt, Pr, th, fo, h1n, hn6, hCK, hm, ho, hLR⟩ := hI
  obtain ⟨fs9, hfs⟩ := mS_o hm
  have hR0 : cells ≤ room_1.cells ∧ slots ≤ room_1.slots := ⟨by omega, by omega⟩
  obtain ⟨q1, q2, q3, q4, q5⟩ := id hCK
  obtain ⟨r1_, r2_, r3_, r4_, r5_, r6_, r7_, r8_, r9_⟩ := id hLR
  obtain ⟨mV, mC, mK, mD, fu, mfu, mR⟩ := hMT n A A9 h1n hn6 r1_ r2_ r3_
  obtain ⟨V, hgd, hst⟩ := hCK.V mV
  obtain ⟨mc, mm, mw, ma⟩ := mR V hgd
  by_cases hv1 : (xs (i + 1) < 0 ∨ nI n ≤ xs (i + 1))
  · refine lv_aload_n hx hb d_law_778 rfl (lv_at hl 1 rfl) ?_
    refine lv_aload_n hx hb d_law_779 rfl (lv_at hl 0 rfl) ?_
    refine lv_iload hx hb d_law_780 (lv_at hl 4 rfl) ?_
    refine lv_iconst (v := nI 1) hx hb d_law_782 (by decide) ?_
    refine lv_iadd hx hb d_law_783 (xr_topi (y := nI (i + 1)) (nI_add i 1) ?_)
    refine xq_sld X I hz hX hbl (i := i + 1) (by omega) (by omega) d_law_784 ?_
    refine lv_aload_n hx hb d_law_785 rfl (lv_at hl 3 rfl) ?_
    refine xq_callw hz (xq_runW (n := 3) (As := [.ref (ad 0), .int (xs (i + 1)), .ref (ad 192)]) (rest := []) X I hT (c_SpectrumDeskLaw_whole_bad hfl rfl q1 hv1) rfl rfl (xg k_SpectrumDeskLaw_whole) (List.mem_cons_of_mem _ k_38962a2be2) (List.mem_cons_of_mem _ k_bccb0f151e) (List.mem_cons_of_mem _ k_fd7a21d612) (by decide +kernel) (by decide) rfl hl.1 rfl (Nat.le_of_ble_eq_true rfl) d_law_786 hR) I (fun r1 σ1 H hp I => ?_)
    obtain ⟨rfl, h9⟩ := hp; rw [h9] at I; clear h9
    refine lv_istore (lv' := [(5, .int (nI 1)), (0, .ref b), (1, .ref (ad 0)), (2, .ref (ad 183)), (3, .ref (ad 192)), (4, .int (nI i))]) hx hb d_law_789 hl (by decide) rfl (fun ls hl => ?_)
    refine lv_aload_n hx hb d_law_791 rfl (lv_at hl 3 rfl) ?_
    refine lv_aload_n hx hb d_law_792 rfl (lv_at hl 1 rfl) ?_
    refine lv_iload hx hb d_law_793 (lv_at hl 5 rfl) ?_
    refine lv_iconst (v := nI 1) hx hb d_law_795 (by decide) ?_
    refine lv_iadd hx hb d_law_796 (xr_topi (y := nI (i + 1)) (nI_add i 1) ?_)
    refine xq_sld X I hz hX hbl (i := i + 1) (by omega) (by omega) d_law_797 ?_
    refine xq_calli hz (xq_runV (kc := 0) (n := 1) (As := [.int (xs (i + 1))]) (rest := []) X I (by decide) hfs rfl (c_SpectrumDeskModel_whole_bad hm hv1) (xg k_6758589847) (List.mem_cons_of_mem _ k_f2eed9ec8c) (List.mem_cons_of_mem _ k_3c1797834a) (List.mem_cons_of_mem _ k_8499e11ed9) (List.mem_cons_of_mem _ k_30fa15c9ac) (by decide +kernel) (by decide) rfl hl.1 rfl (Nat.le_of_ble_eq_true rfl) d_law_798 hR) I (fun r2 σ2 H hp I => ?_)
    obtain ⟨-, hm2⟩ := hp
    refine lv_istore (lv' := [(6, .int r2), (5, .int (nI 1)), (0, .ref b), (1, .ref (ad 0)), (2, .ref (ad 183)), (3, .ref (ad 192)), (4, .int (nI i))]) hx hb d_law_801 hl (by decide) rfl (fun ls hl => ?_)
    obtain ⟨fs8, hfs2⟩ := mS_o hm2
    refine lv_aload_n hx hb d_law_803 rfl (lv_at hl 4 rfl) ?_
    refine xq_calli hz (xq_runV (kc := 0) (n := 0) (As := []) (rest := []) X I (by decide) hfs2 rfl (c_SpectrumDeskModel_thrown hm2) (xg k_0428eee463) (List.mem_cons_of_mem _ k_43c58839ad) (List.mem_cons_of_mem _ k_bcd6d121c1) (List.mem_cons_of_mem _ k_e8fa1ab47a) (List.mem_cons_of_mem _ k_30fa15c9ac) (by decide +kernel) (by decide) rfl hl.1 rfl (Nat.le_of_ble_eq_true rfl) d_law_804 hR) I (fun r3 σ3 H hp I => ?_)
    obtain ⟨rfl, hm3⟩ := hp
    refine lv_iload hx hb d_law_807 (lv_at hl 1 rfl) ?_
    refine lv_icmp_eq hx hb d_law_809 rfl (fun hc => ?_) (fun hc => ?_)
    · refine lv_iload hx hb d_law_814 (lv_at hl 1 rfl) ?_
      refine lv_if_ne hx hb d_law_816 rfl (fun hd => ?_) (fun hd => ?_)
      · refine lv_goto hx hb d_law_838 rfl ?_
        have hl := lv_sub hl [2, 3, 4, 5, 6] rfl
        have hl : lv_has ls 8 [(0, .ref b), (1, .ref (ad 0)), (2, .ref (ad 183)), (3, .ref (ad 192)), (4, .int (nI i))] := hl
        exact kk ls _ _ hl ⟨n, st, A, rw, S, P, ln, Tx, A9, Dt, Pr, (nI 1), fo, h1n, hn6, hCK.same hn6 (fun q hq => mS_out hm3 q (Or.inl hq)), mS_in hm3 (fun _ _ _ => rfl), (mS_out hm3 192 (Or.inr (by decide))).trans ho, hLR⟩ I
      · exact absurd hd (by decide)
    · exact absurd rfl hc
  · obtain ⟨a9, ha9, hla⟩ := nI_ix (by omega) hv1
    refine lv_aload_n hx hb d_law_778 rfl (lv_at hl 1 rfl) ?_
    refine lv_aload_n hx hb d_law_779 rfl (lv_at hl 0 rfl) ?_
    refine lv_iload hx hb d_law_780 (lv_at hl 4 rfl) ?_
    refine lv_iconst (v := nI 1) hx hb d_law_782 (by decide) ?_
    refine lv_iadd hx hb d_law_783 (xr_topi (y := nI (i + 1)) (nI_add i 1) ?_)
    refine xq_sld X I hz hX hbl (i := i + 1) (by omega) (by omega) d_law_784 ?_
    refine xr_topi (y := nI a9) ha9 ?_
    refine lv_aload_n hx hb d_law_785 rfl (lv_at hl 3 rfl) ?_
    refine xq_callw hz (xq_runW (n := 3) (As := [.ref (ad 0), .int (nI a9), .ref (ad 192)]) (rest := []) X I hT (c_SpectrumDeskLaw_whole_ok rfl q1 h1n hn6 q2 r1_ hgd q4 hst hla ho) rfl rfl (xg k_SpectrumDeskLaw_whole) (List.mem_cons_of_mem _ k_38962a2be2) (List.mem_cons_of_mem _ k_bccb0f151e) (List.mem_cons_of_mem _ k_fd7a21d612) (by decide +kernel) (by decide) rfl hl.1 rfl (Nat.le_of_ble_eq_true rfl) d_law_786 hR) I (fun r1 σ1 H hp I => ?_)
    obtain ⟨rfl, r9, rk, σ8, e1, hu, h9⟩ := hp
    have k1 : ∀ q, q ≠ 192 → σ1 q = σ8 q := fun q hq => by rw [h9]; exact va_up_ne _ _ hq
    have o1 : σ1 192 = .inl (cJ, 1, .inr (.inl (vp_updL fo 0 r9))) := by rw [h9]; exact va_up_self _ _ _
    clear h9
    have hm1 : mS ad cI cZ σ1 th n A9 rw Dt ln Pr σ1 := mS_in hm (fun q _ _ => (k1 q (by omega)).trans (hu.1 q (by omega) (by omega)))
    obtain ⟨fs7, hfs1⟩ := mS_o hm1
    have ck1 : CK ad cI cJ cZ cC cG cP σ1 n (nI 0) A rw S P ln Tx := (hCK.up hgd hu).same hn6 (fun q hq => k1 q (by omega))
    refine lv_istore (lv' := [(5, .int (nI 0)), (0, .ref b), (1, .ref (ad 0)), (2, .ref (ad 183)), (3, .ref (ad 192)), (4, .int (nI i))]) hx hb d_law_789 hl (by decide) rfl (fun ls hl => ?_)
    refine lv_aload_n hx hb d_law_791 rfl (lv_at hl 3 rfl) ?_
    refine lv_aload_n hx hb d_law_792 rfl (lv_at hl 1 rfl) ?_
    refine lv_iload hx hb d_law_793 (lv_at hl 5 rfl) ?_
    refine lv_iconst (v := nI 1) hx hb d_law_795 (by decide) ?_
    refine lv_iadd hx hb d_law_796 (xr_topi (y := nI (i + 1)) (nI_add i 1) ?_)
    refine xq_sld X I hz hX hbl (i := i + 1) (by omega) (by omega) d_law_797 ?_
    refine xr_topi (y := nI a9) ha9 ?_
    refine xq_calli hz (xq_runV (kc := 7) (n := 1) (As := [.int (nI a9)]) (rest := []) X I (by decide) hfs1 rfl (c_SpectrumDeskModel_whole_ok hm1 hla hn6 r2_) (xg k_6758589847) (List.mem_cons_of_mem _ k_f2eed9ec8c) (List.mem_cons_of_mem _ k_3c1797834a) (List.mem_cons_of_mem _ k_8499e11ed9) (List.mem_cons_of_mem _ k_30fa15c9ac) (by decide +kernel) (by decide) rfl hl.1 rfl (Nat.le_of_ble_eq_true rfl) d_law_798 hR) I (fun r2 σ2 H hp I => ?_)
    obtain ⟨x9, hx9, e2, hm2⟩ := hp
    have hw9 := mw a9 x9 hla hx9
    refine lv_istore (lv' := [(6, .int r2), (5, .int (nI 0)), (0, .ref b), (1, .ref (ad 0)), (2, .ref (ad 183)), (3, .ref (ad 192)), (4, .int (nI i))]) hx hb d_law_801 hl (by decide) rfl (fun ls hl => ?_)
    obtain ⟨fs8, hfs2⟩ := mS_o hm2
    refine lv_aload_n hx hb d_law_803 rfl (lv_at hl 4 rfl) ?_
    refine xq_calli hz (xq_runV (kc := 0) (n := 0) (As := []) (rest := []) X I (by decide) hfs2 rfl (c_SpectrumDeskModel_thrown hm2) (xg k_0428eee463) (List.mem_cons_of_mem _ k_43c58839ad) (List.mem_cons_of_mem _ k_bcd6d121c1) (List.mem_cons_of_mem _ k_e8fa1ab47a) (List.mem_cons_of_mem _ k_30fa15c9ac) (by decide +kernel) (by decide) rfl hl.1 rfl (Nat.le_of_ble_eq_true rfl) d_law_804 hR) I (fun r3 σ3 H hp I => ?_)
    obtain ⟨rfl, hm3⟩ := hp
    refine lv_iload hx hb d_law_807 (lv_at hl 1 rfl) ?_
    refine lv_icmp_eq hx hb d_law_809 rfl (fun hc => ?_) (fun hc => ?_)
    · refine lv_iload hx hb d_law_814 (lv_at hl 1 rfl) ?_
      refine lv_if_ne hx hb d_law_816 rfl (fun hd => ?_) (fun hd => ?_)
      · exact absurd rfl hd
      · refine lv_aload_n hx hb d_law_819 rfl (lv_at hl 5 rfl) ?_
        refine lv_iconst (v := nI 0) hx hb d_law_820 (by decide) ?_
        refine xr_lald X I 192 1 (by decide) ((mS_out hm3 192 (Or.inr (by decide))).trans o1) rfl (by decide) (by decide) d_law_821 ?_
        refine xr_topl (y := r9) rfl ?_
        refine lv_iload hx hb d_law_822 (lv_at hl 0 rfl) ?_
        refine lv_if_eq hx hb d_law_824 rfl (fun hf => ?_) (fun hf => ?_)
        · have ez9 : r9 = 0 := by rw [e1, if_neg (fun q => by rw [e2, if_pos (hw9.mpr q)] at hf; exact absurd hf (by decide))]
          refine lv_lconst (v := 0) hx hb d_law_831 (by decide) ?_
          refine W.lcmp hx hb d_law_832 ?_
          refine lv_if_eq hx hb d_law_833 rfl (fun he => ?_) (fun he => ?_)
          · refine lv_goto hx hb d_law_838 rfl ?_
            have hl := lv_sub hl [2, 3, 4, 5, 6] rfl
            have hl : lv_has ls 8 [(0, .ref b), (1, .ref (ad 0)), (2, .ref (ad 183)), (3, .ref (ad 192)), (4, .int (nI i))] := hl
            exact kk ls _ _ hl ⟨n, (nI 0), A, rw, S, P, ln, Tx, A9, Dt, Pr, (nI 0), _, h1n, hn6, (ck1.same hn6 (fun q hq => mS_out hm3 q (Or.inl hq))), mS_in hm3 (fun _ _ _ => rfl), ((mS_out hm3 192 (Or.inr (by decide))).trans o1), hLR⟩ I
          · exact absurd ((lg_cmp_eq _ _).mpr (ez9)) he
        · have ez9 : r9 = 1 := by rw [e1, if_pos (hw9.mp (Decidable.not_not.mp (fun q => hf (by rw [e2, if_neg q]; rfl))))]
          refine lv_lconst (v := 1) hx hb d_law_827 (by decide) ?_
          refine lv_goto hx hb d_law_828 rfl ?_
          refine W.lcmp hx hb d_law_832 ?_
          refine lv_if_eq hx hb d_law_833 rfl (fun he => ?_) (fun he => ?_)
          · refine lv_goto hx hb d_law_838 rfl ?_
            have hl := lv_sub hl [2, 3, 4, 5, 6] rfl
            have hl : lv_has ls 8 [(0, .ref b), (1, .ref (ad 0)), (2, .ref (ad 183)), (3, .ref (ad 192)), (4, .int (nI i))] := hl
            exact kk ls _ _ hl ⟨n, (nI 0), A, rw, S, P, ln, Tx, A9, Dt, Pr, (nI 0), _, h1n, hn6, (ck1.same hn6 (fun q hq => mS_out hm3 q (Or.inl hq))), mS_in hm3 (fun _ _ _ => rfl), ((mS_out hm3 192 (Or.inr (by decide))).trans o1), hLR⟩ I
          · exact absurd ((lg_cmp_eq _ _).mpr (ez9)) he
    · exact absurd rfl hc
set_option maxHeartbeats 4000000 in
set_option maxRecDepth 100000 in
theorem lop_count {p : Program} {l : Launch} {e : Env} {s : State} {m : MethodId} {args : Array Value} {below : List Frame} {meth : Method} {c : Code} {Q : State → Prop} {H : Heap} {cells slots : Nat} {ls : Array Slot} {D : va_G} {cI cJ cZ cC cG cP : ClassId} {ad : Nat → Nat} {σ : Nat → va_E} {b L i : Nat} {xs : Nat → Int32} (hx : p.tables.exec = Jvm.exec) (hb : c.code = b_law) (X : xX p c b_law 8 s args (wl :: AW) "SpectrumDeskLaw" m D classes (xT cI cJ cZ cC cG cP) ) (hz : ∀ k, s.heap.size ≤ ad k) (hT : xtOK (xA 193 ad) s) (hfl : l.flags = Jvm.pinnedFlags ++ [Jvm.noTraceFlag]) (hX : va_X b L xs s s.heap) (hbl : b < s.heap.size) (hL : L ≤ 3584) (hi : i + 7 ≤ L) (hR : cells + 1 ≤ room_1.cells ∧ slots + 6 ≤ room_1.slots) (hMT : MATH) (hl : lv_has ls 8 [(0, .ref b), (1, .ref (ad 0)), (2, .ref (ad 183)), (3, .ref (ad 192)), (4, .int (nI i))]) (hI : LI ad cI cJ cZ cC cG cP σ) (I : xI D classes 193 ad s.heap σ H [])
    (kk : ∀ (ls : Array Slot) (σ : Nat → va_E) (H : Heap), lv_has ls 8 [(0, .ref b), (1, .ref (ad 0)), (2, .ref (ad 183)), (3, .ref (ad 192)), (4, .int (nI i))] → LI ad cI cJ cZ cC cG cP σ → xI D classes 193 ad s.heap σ H [] → W p l e room_1 s m args below meth c H [] (cells + 1) (slots + 6) Q (F0 m 867 ls [])) :
    W p l e room_1 s m args below meth c H [] cells slots Q (F0 m 484 ls []) := by
  obtain ⟨n, st, A, rw, S, P, ln, Tx, A9, Dt, Pr, th, fo, h1n, hn6, hCK, hm, ho, hLR⟩ := hI
  obtain ⟨fs9, hfs⟩ := mS_o hm
  have hR0 : cells ≤ room_1.cells ∧ slots ≤ room_1.slots := ⟨by omega, by omega⟩
  obtain ⟨q1, q2, q3, q4, q5⟩ := id hCK
  obtain ⟨r1_, r2_, r3_, r4_, r5_, r6_, r7_, r8_, r9_⟩ := id hLR
  obtain ⟨mV, mC, mK, mD, fu, mfu, mR⟩ := hMT n A A9 h1n hn6 r1_ r2_ r3_
  obtain ⟨V, hgd, hst⟩ := hCK.V mV
  obtain ⟨mc, mm, mw, ma⟩ := mR V hgd
  refine lv_aload_n hx hb d_law_484 rfl (lv_at hl 1 rfl) ?_
  refine lv_aload_n hx hb d_law_485 rfl (lv_at hl 0 rfl) ?_
  refine lv_iload hx hb d_law_486 (lv_at hl 4 rfl) ?_
  refine lv_iconst (v := nI 1) hx hb d_law_488 (by decide) ?_
  refine lv_iadd hx hb d_law_489 (xr_topi (y := nI (i + 1)) (nI_add i 1) ?_)
  refine xq_sld X I hz hX hbl (i := i + 1) (by omega) (by omega) d_law_490 ?_
  refine lv_aload_n hx hb d_law_491 rfl (lv_at hl 0 rfl) ?_
  refine lv_iload hx hb d_law_492 (lv_at hl 4 rfl) ?_
  refine lv_iconst (v := nI 2) hx hb d_law_494 (by decide) ?_
  refine lv_iadd hx hb d_law_495 (xr_topi (y := nI (i + 2)) (nI_add i 2) ?_)
  refine xq_sld X I hz hX hbl (i := i + 2) (by omega) (by omega) d_law_496 ?_
  refine lv_i2l hx hb d_law_497 rfl ?_
  refine lv_bipush (v := nI 32) hx hb d_law_498 (by decide) ?_
  refine lv_lshl hx hb d_law_500 rfl ?_
  refine lv_aload_n hx hb d_law_501 rfl (lv_at hl 0 rfl) ?_
  refine lv_iload hx hb d_law_502 (lv_at hl 4 rfl) ?_
  refine lv_iconst (v := nI 3) hx hb d_law_504 (by decide) ?_
  refine lv_iadd hx hb d_law_505 (xr_topi (y := nI (i + 3)) (nI_add i 3) ?_)
  refine xq_sld X I hz hX hbl (i := i + 3) (by omega) (by omega) d_law_506 ?_
  refine lv_i2l hx hb d_law_507 rfl ?_
  refine lv_ldc2 (v := 4294967295) hx hb X.1.2.2.2.1 (X.1.2.2.2.2 _ (List.mem_cons_of_mem _ k_aba93b39a5)) d_law_508 ?_
  refine lv_land hx hb d_law_511 ?_
  refine lv_lor hx hb d_law_512 ?_
  refine lv_topl (fun tp etp => ?_)
  refine lv_aload_n hx hb d_law_513 rfl (lv_at hl 0 rfl) ?_
  refine lv_iload hx hb d_law_514 (lv_at hl 4 rfl) ?_
  refine lv_iconst (v := nI 4) hx hb d_law_516 (by decide) ?_
  refine lv_iadd hx hb d_law_517 (xr_topi (y := nI (i + 4)) (nI_add i 4) ?_)
  refine xq_sld X I hz hX hbl (i := i + 4) (by omega) (by omega) d_law_518 ?_
  refine lv_i2l hx hb d_law_519 rfl ?_
  refine lv_bipush (v := nI 32) hx hb d_law_520 (by decide) ?_
  refine lv_lshl hx hb d_law_522 rfl ?_
  refine lv_aload_n hx hb d_law_523 rfl (lv_at hl 0 rfl) ?_
  refine lv_iload hx hb d_law_524 (lv_at hl 4 rfl) ?_
  refine lv_iconst (v := nI 5) hx hb d_law_526 (by decide) ?_
  refine lv_iadd hx hb d_law_527 (xr_topi (y := nI (i + 5)) (nI_add i 5) ?_)
  refine xq_sld X I hz hX hbl (i := i + 5) (by omega) (by omega) d_law_528 ?_
  refine lv_i2l hx hb d_law_529 rfl ?_
  refine lv_ldc2 (v := 4294967295) hx hb X.1.2.2.2.1 (X.1.2.2.2.2 _ (List.mem_cons_of_mem _ k_aba93b39a5)) d_law_530 ?_
  refine lv_land hx hb d_law_533 ?_
  refine lv_lor hx hb d_law_534 ?_
  refine lv_topl (fun bt ebt => ?_)
  refine lv_aload_n hx hb d_law_535 rfl (lv_at hl 0 rfl) ?_
  refine lv_iload hx hb d_law_536 (lv_at hl 4 rfl) ?_
  refine lv_bipush (v := nI 6) hx hb d_law_538 (by decide) ?_
  refine lv_iadd hx hb d_law_540 (xr_topi (y := nI (i + 6)) (nI_add i 6) ?_)
  refine xq_sld X I hz hX hbl (i := i + 6) (by omega) (by omega) d_law_541 ?_
  refine lv_aload_n hx hb d_law_542 rfl (lv_at hl 3 rfl) ?_
  by_cases hbad : xs (i + 1) < nI 1 ∨ nI n < xs (i + 1) ∨ xs (i + 6) < 0 ∨ nI 2 < xs (i + 6) ∨ ¬ 0 < bt
  · refine xq_callw hz (xq_runW (n := 6) (As := [.ref (ad 0), .int (xs (i + 1)), .long tp, .long bt, .int (xs (i + 6)), .ref (ad 192)]) (rest := []) X I hT (c_SpectrumDeskLaw_count_bad hfl rfl q1 hbad) rfl rfl (xg k_SpectrumDeskLaw_count) (List.mem_cons_of_mem _ k_3ff26b9ad7) (List.mem_cons_of_mem _ k_2fe709eb90) (List.mem_cons_of_mem _ k_fd7a21d612) (by decide +kernel) (by decide) rfl hl.1 rfl (Nat.le_of_ble_eq_true rfl) d_law_543 hR) I (fun r1 σ1 H hp I => ?_)
    obtain ⟨rfl, h9⟩ := hp; rw [h9] at I; clear h9
    refine lv_istore (lv' := [(5, .int (nI 1)), (0, .ref b), (1, .ref (ad 0)), (2, .ref (ad 183)), (3, .ref (ad 192)), (4, .int (nI i))]) hx hb d_law_546 hl (by decide) rfl (fun ls hl => ?_)
    refine lv_aload_n hx hb d_law_548 rfl (lv_at hl 3 rfl) ?_
    refine lv_aload_n hx hb d_law_549 rfl (lv_at hl 1 rfl) ?_
    refine lv_iload hx hb d_law_550 (lv_at hl 5 rfl) ?_
    refine lv_iconst (v := nI 1) hx hb d_law_552 (by decide) ?_
    refine lv_iadd hx hb d_law_553 (xr_topi (y := nI (i + 1)) (nI_add i 1) ?_)
    refine xq_sld X I hz hX hbl (i := i + 1) (by omega) (by omega) d_law_554 ?_
    refine lv_aload_n hx hb d_law_555 rfl (lv_at hl 1 rfl) ?_
    refine lv_iload hx hb d_law_556 (lv_at hl 5 rfl) ?_
    refine lv_iconst (v := nI 2) hx hb d_law_558 (by decide) ?_
    refine lv_iadd hx hb d_law_559 (xr_topi (y := nI (i + 2)) (nI_add i 2) ?_)
    refine xq_sld X I hz hX hbl (i := i + 2) (by omega) (by omega) d_law_560 ?_
    refine lv_i2l hx hb d_law_561 rfl ?_
    refine lv_bipush (v := nI 32) hx hb d_law_562 (by decide) ?_
    refine lv_lshl hx hb d_law_564 rfl ?_
    refine lv_aload_n hx hb d_law_565 rfl (lv_at hl 1 rfl) ?_
    refine lv_iload hx hb d_law_566 (lv_at hl 5 rfl) ?_
    refine lv_iconst (v := nI 3) hx hb d_law_568 (by decide) ?_
    refine lv_iadd hx hb d_law_569 (xr_topi (y := nI (i + 3)) (nI_add i 3) ?_)
    refine xq_sld X I hz hX hbl (i := i + 3) (by omega) (by omega) d_law_570 ?_
    refine lv_i2l hx hb d_law_571 rfl ?_
    refine lv_ldc2 (v := 4294967295) hx hb X.1.2.2.2.1 (X.1.2.2.2.2 _ (List.mem_cons_of_mem _ k_aba93b39a5)) d_law_572 ?_
    refine lv_land hx hb d_law_575 ?_
    refine lv_lor hx hb d_law_576 ?_
    refine lv_topl (fun tp2 etp2 => ?_)
    refine lv_aload_n hx hb d_law_577 rfl (lv_at hl 1 rfl) ?_
    refine lv_iload hx hb d_law_578 (lv_at hl 5 rfl) ?_
    refine lv_iconst (v := nI 4) hx hb d_law_580 (by decide) ?_
    refine lv_iadd hx hb d_law_581 (xr_topi (y := nI (i + 4)) (nI_add i 4) ?_)
    refine xq_sld X I hz hX hbl (i := i + 4) (by omega) (by omega) d_law_582 ?_
    refine lv_i2l hx hb d_law_583 rfl ?_
    refine lv_bipush (v := nI 32) hx hb d_law_584 (by decide) ?_
    refine lv_lshl hx hb d_law_586 rfl ?_
    refine lv_aload_n hx hb d_law_587 rfl (lv_at hl 1 rfl) ?_
    refine lv_iload hx hb d_law_588 (lv_at hl 5 rfl) ?_
    refine lv_iconst (v := nI 5) hx hb d_law_590 (by decide) ?_
    refine lv_iadd hx hb d_law_591 (xr_topi (y := nI (i + 5)) (nI_add i 5) ?_)
    refine xq_sld X I hz hX hbl (i := i + 5) (by omega) (by omega) d_law_592 ?_
    refine lv_i2l hx hb d_law_593 rfl ?_
    refine lv_ldc2 (v := 4294967295) hx hb X.1.2.2.2.1 (X.1.2.2.2.2 _ (List.mem_cons_of_mem _ k_aba93b39a5)) d_law_594 ?_
    refine lv_land hx hb d_law_597 ?_
    refine lv_lor hx hb d_law_598 ?_
    refine lv_topl (fun bt2 ebt2 => ?_)
    refine lv_aload_n hx hb d_law_599 rfl (lv_at hl 1 rfl) ?_
    refine lv_iload hx hb d_law_600 (lv_at hl 5 rfl) ?_
    refine lv_bipush (v := nI 6) hx hb d_law_602 (by decide) ?_
    refine lv_iadd hx hb d_law_604 (xr_topi (y := nI (i + 6)) (nI_add i 6) ?_)
    refine xq_sld X I hz hX hbl (i := i + 6) (by omega) (by omega) d_law_605 ?_
    have u1 : tp2 = tp := etp2.trans etp.symm
    have u2 : bt2 = bt := ebt2.trans ebt.symm
    refine xq_calli hz (xq_runV (kc := 0) (n := 4) (As := [.int (xs (i + 1)), .long tp2, .long bt2, .int (xs (i + 6))]) (rest := []) X I (by decide) hfs rfl (c_SpectrumDeskModel_count_bad hm (by rw [u2]; rcases hbad with h | h | h | h | h; exact Or.inl h; exact Or.inr (Or.inl h); exact Or.inr (Or.inr (Or.inl h)); exact Or.inr (Or.inr (Or.inr (Or.inl h))); exact Or.inr (Or.inr (Or.inr (Or.inr (Int64.not_lt.mp h)))))) (xg k_bc348f59a0) (List.mem_cons_of_mem _ k_f371332b6a) (List.mem_cons_of_mem _ k_43e38c7b74) (List.mem_cons_of_mem _ k_0e7bab3dcc) (List.mem_cons_of_mem _ k_30fa15c9ac) (by decide +kernel) (by decide) rfl hl.1 rfl (Nat.le_of_ble_eq_true rfl) d_law_606 hR) I (fun r2 σ2 H hp I => ?_)
    obtain ⟨-, hm2⟩ := hp
    refine lv_istore (lv' := [(6, .int r2), (5, .int (nI 1)), (0, .ref b), (1, .ref (ad 0)), (2, .ref (ad 183)), (3, .ref (ad 192)), (4, .int (nI i))]) hx hb d_law_609 hl (by decide) rfl (fun ls hl => ?_)
    obtain ⟨fs8, hfs2⟩ := mS_o hm2
    refine lv_aload_n hx hb d_law_611 rfl (lv_at hl 4 rfl) ?_
    refine xq_calli hz (xq_runV (kc := 0) (n := 0) (As := []) (rest := []) X I (by decide) hfs2 rfl (c_SpectrumDeskModel_thrown hm2) (xg k_0428eee463) (List.mem_cons_of_mem _ k_43c58839ad) (List.mem_cons_of_mem _ k_bcd6d121c1) (List.mem_cons_of_mem _ k_e8fa1ab47a) (List.mem_cons_of_mem _ k_30fa15c9ac) (by decide +kernel) (by decide) rfl hl.1 rfl (Nat.le_of_ble_eq_true rfl) d_law_612 hR) I (fun r3 σ3 H hp I => ?_)
    obtain ⟨rfl, hm3⟩ := hp
    refine lv_iload hx hb d_law_615 (lv_at hl 1 rfl) ?_
    refine lv_icmp_eq hx hb d_law_617 rfl (fun hc => ?_) (fun hc => ?_)
    · refine lv_iload hx hb d_law_622 (lv_at hl 1 rfl) ?_
      refine lv_if_ne hx hb d_law_624 rfl (fun hd => ?_) (fun hd => ?_)
      · refine lv_goto hx hb d_law_639 rfl ?_
        have hl := lv_sub hl [2, 3, 4, 5, 6] rfl
        have hl : lv_has ls 8 [(0, .ref b), (1, .ref (ad 0)), (2, .ref (ad 183)), (3, .ref (ad 192)), (4, .int (nI i))] := hl
        exact kk ls _ _ hl ⟨n, st, A, rw, S, P, ln, Tx, A9, Dt, Pr, (nI 1), fo, h1n, hn6, hCK.same hn6 (fun q hq => mS_out hm3 q (Or.inl hq)), mS_in hm3 (fun _ _ _ => rfl), (mS_out hm3 192 (Or.inr (by decide))).trans ho, hLR⟩ I
      · exact absurd hd (by decide)
    · exact absurd rfl hc
  · obtain ⟨a9, ha9, hla, hlb⟩ := nI_btw 1 n (by omega) (fun h => hbad (h.elim Or.inl (fun h => Or.inr (Or.inl h))))
    obtain ⟨w9, hw9, -, hlw⟩ := nI_btw 0 2 (by decide) (fun h => hbad (Or.inr (Or.inr (h.elim Or.inl (fun h => Or.inr (Or.inl h))))))
    have hbt : 0 < bt := Decidable.not_not.mp (fun h => hbad (Or.inr (Or.inr (Or.inr (Or.inr h)))))
    rw [ha9, hw9]
    refine xq_callw hz (xq_runW (n := 6) (As := [.ref (ad 0), .int (nI a9), .long tp, .long bt, .int (nI w9), .ref (ad 192)]) (rest := []) X I hT (c_SpectrumDeskLaw_count_ok rfl q1 h1n hn6 q2 r1_ hgd q4 hst hla hlb hlw hbt ho) rfl rfl (xg k_SpectrumDeskLaw_count) (List.mem_cons_of_mem _ k_3ff26b9ad7) (List.mem_cons_of_mem _ k_2fe709eb90) (List.mem_cons_of_mem _ k_fd7a21d612) (by decide +kernel) (by decide) rfl hl.1 rfl (Nat.le_of_ble_eq_true rfl) d_law_543 hR) I (fun r1 σ1 H hp I => ?_)
    obtain ⟨rfl, r9, rk, σ8, e1, hu, h9⟩ := hp
    have k1 : ∀ q, q ≠ 192 → σ1 q = σ8 q := fun q hq => by rw [h9]; exact va_up_ne _ _ hq
    have o1 : σ1 192 = .inl (cJ, 1, .inr (.inl (vp_updL fo 0 (r9.toInt64)))) := by rw [h9]; exact va_up_self _ _ _
    clear h9
    have hm1 : mS ad cI cZ σ1 th n A9 rw Dt ln Pr σ1 := mS_in hm (fun q _ _ => (k1 q (by omega)).trans (hu.1 q (by omega) (by omega)))
    obtain ⟨fs7, hfs1⟩ := mS_o hm1
    have ck1 : CK ad cI cJ cZ cC cG cP σ1 n (nI 0) A rw S P ln Tx := (hCK.up hgd hu).same hn6 (fun q hq => k1 q (by omega))
    refine lv_istore (lv' := [(5, .int (nI 0)), (0, .ref b), (1, .ref (ad 0)), (2, .ref (ad 183)), (3, .ref (ad 192)), (4, .int (nI i))]) hx hb d_law_546 hl (by decide) rfl (fun ls hl => ?_)
    refine lv_aload_n hx hb d_law_548 rfl (lv_at hl 3 rfl) ?_
    refine lv_aload_n hx hb d_law_549 rfl (lv_at hl 1 rfl) ?_
    refine lv_iload hx hb d_law_550 (lv_at hl 5 rfl) ?_
    refine lv_iconst (v := nI 1) hx hb d_law_552 (by decide) ?_
    refine lv_iadd hx hb d_law_553 (xr_topi (y := nI (i + 1)) (nI_add i 1) ?_)
    refine xq_sld X I hz hX hbl (i := i + 1) (by omega) (by omega) d_law_554 ?_
    refine xr_topi (y := nI a9) ha9 ?_
    refine lv_aload_n hx hb d_law_555 rfl (lv_at hl 1 rfl) ?_
    refine lv_iload hx hb d_law_556 (lv_at hl 5 rfl) ?_
    refine lv_iconst (v := nI 2) hx hb d_law_558 (by decide) ?_
    refine lv_iadd hx hb d_law_559 (xr_topi (y := nI (i + 2)) (nI_add i 2) ?_)
    refine xq_sld X I hz hX hbl (i := i + 2) (by omega) (by omega) d_law_560 ?_
    refine lv_i2l hx hb d_law_561 rfl ?_
    refine lv_bipush (v := nI 32) hx hb d_law_562 (by decide) ?_
    refine lv_lshl hx hb d_law_564 rfl ?_
    refine lv_aload_n hx hb d_law_565 rfl (lv_at hl 1 rfl) ?_
    refine lv_iload hx hb d_law_566 (lv_at hl 5 rfl) ?_
    refine lv_iconst (v := nI 3) hx hb d_law_568 (by decide) ?_
    refine lv_iadd hx hb d_law_569 (xr_topi (y := nI (i + 3)) (nI_add i 3) ?_)
    refine xq_sld X I hz hX hbl (i := i + 3) (by omega) (by omega) d_law_570 ?_
    refine lv_i2l hx hb d_law_571 rfl ?_
    refine lv_ldc2 (v := 4294967295) hx hb X.1.2.2.2.1 (X.1.2.2.2.2 _ (List.mem_cons_of_mem _ k_aba93b39a5)) d_law_572 ?_
    refine lv_land hx hb d_law_575 ?_
    refine lv_lor hx hb d_law_576 ?_
    refine lv_topl (fun tp2 etp2 => ?_)
    refine lv_aload_n hx hb d_law_577 rfl (lv_at hl 1 rfl) ?_
    refine lv_iload hx hb d_law_578 (lv_at hl 5 rfl) ?_
    refine lv_iconst (v := nI 4) hx hb d_law_580 (by decide) ?_
    refine lv_iadd hx hb d_law_581 (xr_topi (y := nI (i + 4)) (nI_add i 4) ?_)
    refine xq_sld X I hz hX hbl (i := i + 4) (by omega) (by omega) d_law_582 ?_
    refine lv_i2l hx hb d_law_583 rfl ?_
    refine lv_bipush (v := nI 32) hx hb d_law_584 (by decide) ?_
    refine lv_lshl hx hb d_law_586 rfl ?_
    refine lv_aload_n hx hb d_law_587 rfl (lv_at hl 1 rfl) ?_
    refine lv_iload hx hb d_law_588 (lv_at hl 5 rfl) ?_
    refine lv_iconst (v := nI 5) hx hb d_law_590 (by decide) ?_
    refine lv_iadd hx hb d_law_591 (xr_topi (y := nI (i + 5)) (nI_add i 5) ?_)
    refine xq_sld X I hz hX hbl (i := i + 5) (by omega) (by omega) d_law_592 ?_
    refine lv_i2l hx hb d_law_593 rfl ?_
    refine lv_ldc2 (v := 4294967295) hx hb X.1.2.2.2.1 (X.1.2.2.2.2 _ (List.mem_cons_of_mem _ k_aba93b39a5)) d_law_594 ?_
    refine lv_land hx hb d_law_597 ?_
    refine lv_lor hx hb d_law_598 ?_
    refine lv_topl (fun bt2 ebt2 => ?_)
    refine lv_aload_n hx hb d_law_599 rfl (lv_at hl 1 rfl) ?_
    refine lv_iload hx hb d_law_600 (lv_at hl 5 rfl) ?_
    refine lv_bipush (v := nI 6) hx hb d_law_602 (by decide) ?_
    refine lv_iadd hx hb d_law_604 (xr_topi (y := nI (i + 6)) (nI_add i 6) ?_)
    refine xq_sld X I hz hX hbl (i := i + 6) (by omega) (by omega) d_law_605 ?_
    refine xr_topi (y := nI w9) hw9 ?_
    obtain rfl : tp2 = tp := etp2.trans etp.symm
    obtain rfl : bt2 = bt := ebt2.trans ebt.symm
    refine xq_calli hz (xq_runV (kc := 5) (n := 4) (As := [.int (nI a9), .long tp2, .long bt2, .int (nI w9)]) (rest := []) X I (by decide) hfs1 rfl (c_SpectrumDeskModel_count_ok hm1 hla hlb hn6 hlw hbt r2_) (xg k_bc348f59a0) (List.mem_cons_of_mem _ k_f371332b6a) (List.mem_cons_of_mem _ k_43e38c7b74) (List.mem_cons_of_mem _ k_0e7bab3dcc) (List.mem_cons_of_mem _ k_30fa15c9ac) (by decide +kernel) (by decide) rfl hl.1 rfl (Nat.le_of_ble_eq_true rfl) d_law_606 hR) I (fun r2 σ2 H hp I => ?_)
    obtain ⟨e2, hm2⟩ := hp
    have e3 : r9 = r2 := by
      obtain ⟨m1, m2⟩ := mC a9 _ _ hla hlb hbt
      rw [e1, e2, m1, m2]
      by_cases z0 : w9 = 0
      · rw [if_pos z0, if_pos z0]
      · rw [if_neg z0, if_neg z0]
        by_cases z1 : w9 = 1
        · rw [if_pos z1, if_pos z1]
        · rw [if_neg z1, if_neg z1, lessI]; grind
    refine lv_istore (lv' := [(6, .int r2), (5, .int (nI 0)), (0, .ref b), (1, .ref (ad 0)), (2, .ref (ad 183)), (3, .ref (ad 192)), (4, .int (nI i))]) hx hb d_law_609 hl (by decide) rfl (fun ls hl => ?_)
    obtain ⟨fs8, hfs2⟩ := mS_o hm2
    refine lv_aload_n hx hb d_law_611 rfl (lv_at hl 4 rfl) ?_
    refine xq_calli hz (xq_runV (kc := 0) (n := 0) (As := []) (rest := []) X I (by decide) hfs2 rfl (c_SpectrumDeskModel_thrown hm2) (xg k_0428eee463) (List.mem_cons_of_mem _ k_43c58839ad) (List.mem_cons_of_mem _ k_bcd6d121c1) (List.mem_cons_of_mem _ k_e8fa1ab47a) (List.mem_cons_of_mem _ k_30fa15c9ac) (by decide +kernel) (by decide) rfl hl.1 rfl (Nat.le_of_ble_eq_true rfl) d_law_612 hR) I (fun r3 σ3 H hp I => ?_)
    obtain ⟨rfl, hm3⟩ := hp
    refine lv_iload hx hb d_law_615 (lv_at hl 1 rfl) ?_
    refine lv_icmp_eq hx hb d_law_617 rfl (fun hc => ?_) (fun hc => ?_)
    · refine lv_iload hx hb d_law_622 (lv_at hl 1 rfl) ?_
      refine lv_if_ne hx hb d_law_624 rfl (fun hd => ?_) (fun hd => ?_)
      · exact absurd rfl hd
      · refine lv_aload_n hx hb d_law_627 rfl (lv_at hl 5 rfl) ?_
        refine lv_iconst (v := nI 0) hx hb d_law_628 (by decide) ?_
        refine xr_lald X I 192 1 (by decide) ((mS_out hm3 192 (Or.inr (by decide))).trans o1) rfl (by decide) (by decide) d_law_629 ?_
        refine xr_topl (y := r9.toInt64) rfl ?_
        refine lv_iload hx hb d_law_630 (lv_at hl 0 rfl) ?_
        refine lv_i2l hx hb d_law_632 rfl ?_
        refine W.lcmp hx hb d_law_633 ?_
        refine lv_if_eq hx hb d_law_634 rfl (fun he => ?_) (fun he => ?_)
        · refine lv_goto hx hb d_law_639 rfl ?_
          have hl := lv_sub hl [2, 3, 4, 5, 6] rfl
          have hl : lv_has ls 8 [(0, .ref b), (1, .ref (ad 0)), (2, .ref (ad 183)), (3, .ref (ad 192)), (4, .int (nI i))] := hl
          exact kk ls _ _ hl ⟨n, (nI 0), A, rw, S, P, ln, Tx, A9, Dt, Pr, (nI 0), _, h1n, hn6, (ck1.same hn6 (fun q hq => mS_out hm3 q (Or.inl hq))), mS_in hm3 (fun _ _ _ => rfl), ((mS_out hm3 192 (Or.inr (by decide))).trans o1), hLR⟩ I
        · exact absurd ((lg_cmp_eq _ _).mpr (by rw [e3])) he
    · exact absurd rfl hc
