/-! the law, its first steps (written by wip/gen) -/
theorem k_d20df5ed69 : (Jvm.Cond.classLink "SpectrumDeskLaw" (8 : Nat) "SpectrumDesk") ∈ AW := aw_1 (List.mem_of_getElem? (i := 27) (by decide +kernel)) (by decide +kernel)
theorem k_9ca8ce0977 : (Jvm.Cond.instantiable "SpectrumDesk" (7 : Nat)) ∈ AW := aw_1 (List.mem_of_getElem? (i := 28) (by decide +kernel)) (by decide +kernel)
theorem k_60ab381fa9 : (Jvm.Cond.initialized "SpectrumDesk") ∈ AW := aw_1 (List.mem_of_getElem? (i := 1) (by decide +kernel)) (by decide +kernel)
theorem k_cd565b7a52 : (Jvm.Cond.methodLink "SpectrumDeskLaw" (41 : Nat) ({ cls := "SpectrumDesk", name := "<init>", desc := "()V" } : Jvm.MethodName)) ∈ AW := aw_1 (List.mem_of_getElem? (i := 29) (by decide +kernel)) (by decide +kernel)
theorem k_cf25481d67 : (Jvm.Cond.instanceMethod ({ cls := "SpectrumDesk", name := "<init>", desc := "()V" } : Jvm.MethodName)) ∈ AW := aw_1 (List.mem_of_getElem? (i := 30) (by decide +kernel)) (by decide +kernel)
theorem k_f2a4c9a5db : (Jvm.Cond.classLink "SpectrumDeskLaw" (42 : Nat) "SpectrumDeskModel") ∈ AW := aw_4 (List.mem_of_getElem? (i := 173) (by decide +kernel)) (by decide +kernel)
theorem k_b716cff0a7 : (Jvm.Cond.instantiable "SpectrumDeskModel" (14 : Nat)) ∈ AW := aw_4 (List.mem_of_getElem? (i := 174) (by decide +kernel)) (by decide +kernel)
theorem k_2614d596cd : (Jvm.Cond.initialized "SpectrumDeskModel") ∈ AW := aw_1 (List.mem_of_getElem? (i := 10) (by decide +kernel)) (by decide +kernel)
theorem k_a0497e2d07 : (Jvm.Cond.methodLink "SpectrumDeskLaw" (44 : Nat) ({ cls := "SpectrumDeskModel", name := "<init>", desc := "()V" } : Jvm.MethodName)) ∈ AW := aw_4 (List.mem_of_getElem? (i := 175) (by decide +kernel)) (by decide +kernel)
theorem k_b1f1f5eba9 : (Jvm.Cond.instanceMethod ({ cls := "SpectrumDeskModel", name := "<init>", desc := "()V" } : Jvm.MethodName)) ∈ AW := aw_4 (List.mem_of_getElem? (i := 176) (by decide +kernel)) (by decide +kernel)
set_option maxHeartbeats 4000000 in
set_option maxRecDepth 100000 in
theorem law_body {p : Program} {e : Env} {s : State} {m : MethodId} {below : List Frame} {meth : Method} {c : Code} (l : Launch) {b L : Nat} {xs : Nat → Int32} (hfl : l.flags = Jvm.pinnedFlags ++ [Jvm.noTraceFlag]) (hMT : MATH) (hL : L ≤ 3584) (C0 : lw_At p s m meth c b L xs) {ls : Array Slot} (hl : lv_has ls 8 [(0, .ref b)]) : W p l e room_1 s m #[Value.ref b] below meth c s.heap [] 0 0 (lw_Z below #[Value.ref b] s) (F0 m 0 ls []) := by
  obtain ⟨hx, hb, hr, hml, hown, hts, hX, hbl, hlk, hgv⟩ := C0
  have hao : aoOK s := ⟨over_moved (a := #[Value.ref b]) (Vm.Alike.refl _) (hts (.arrayOver (.array .int)) (lt_t (by decide +kernel))), va_AO.of (hts (.arrayOver (.object "SpectrumDesk$Polynomial")) (lt_t (by decide +kernel)))⟩
  have hnest : nestOK s := ⟨va_Nw.of rfl (hts (.methodLinkNest "SpectrumDesk$Spectrum" 115 ⟨"SpectrumDesk", "bitsOf", "(J)I"⟩ "SpectrumDesk") (lt_t (by decide +kernel))), va_Nw.of rfl (hts (.methodLinkNest "SpectrumDesk$Euclid" 64 ⟨"SpectrumDesk", "bitsOf", "(J)I"⟩ "SpectrumDesk") (lt_t (by decide +kernel)))⟩
  obtain ⟨D, cI, cJ, cZ, cC, cG, cP, hK⟩ := law_K hts hao
  obtain ⟨z, hz0⟩ : ∃ z, z = s.heap.size := ⟨_, rfl⟩
  obtain ⟨ad, had⟩ : ∃ ad : Nat → Nat, ∀ k, ad k = z + k := ⟨fun k => z + k, fun _ => rfl⟩
  have hz : ∀ k, s.heap.size ≤ ad k := fun k => by rw [had]; omega
  have X : xX p c b_law 8 s #[Value.ref b] (wl :: AW) "SpectrumDeskLaw" m D classes (xT cI cJ cZ cC cG cP) := ⟨⟨hx, hb, hml, hown, fun w hw => (List.mem_cons.mp hw).elim (fun h => by rw [h]; exact hts _ (lt_t (by decide +kernel))) (fun h => law_AW hts w h)⟩, hK, hnest⟩
  have hT : xtOK (xA 193 ad) s := law_xt hts hgv (fun a ha h => by obtain ⟨k, -, e⟩ := h; have := hz k; omega)
  have hA : ∀ q, s.heap.size ≤ q → (fun q : Nat => s.heap.size ≤ q) q := fun _ h => h
  have hl : lv_has ls 8 [(0, .ref b)] := hl
  have J : xJ D classes (fun q : Nat => s.heap.size ≤ q) 0 ad s.heap (fun _ => .inl (cI, 0, .inl (fun _ => 0))) s.heap [] := ⟨fun k q hq => by simp [xw] at hq, ⟨fun i j p q hp => by simp [xw] at hp, fun k q hq => by simp [xw] at hq⟩, va_S.rf⟩
  refine xj_newH X J had hA (by omega) fin_S t_S t_S_ok (List.mem_cons_of_mem _ k_d20df5ed69) (List.mem_cons_of_mem _ k_9ca8ce0977) (List.mem_cons_of_mem _ k_60ab381fa9) (ci := ciS) rfl (fs := [.null, .null, .null, .null, .null, .int 0, .int 0]) (by decide +kernel) (by decide) (by decide) d_law_0 (fun H J => ?_)
  obtain ⟨σ1, hσ1⟩ : ∃ s9, s9 = va_up (fun _ => (.inl (cI, 0, .inl (fun _ => 0)) : va_E)) 0 (.inr (ciS, [.null, .null, .null, .null, .null, .int 0, .int 0])) := ⟨_, rfl⟩
  rw [← hσ1] at J
  have o1 : σ1 0 = .inr (ciS, [.null, .null, .null, .null, .null, .int 0, .int 0]) := by rw [hσ1]; exact va_up_self _ _ _
  clear hσ1
  refine lv_dup hx hb d_law_3 rfl ?_
  refine xj_W fun hle => ?_
  have hH9 := xJ_size had J (by omega) (by omega)
  refine xj_callg had hA hH9 (xj_runI (rm := { frames := 4, cells := 182, slots := 2231, locals := 256 }) (n := 0) (As := []) (rest := [.ref (ad 0)]) X J hH9 hao (c_SpectrumDesk_init had rfl o1) (xg k_e0e567d54b) (List.mem_cons_of_mem _ k_cd565b7a52) (List.mem_cons_of_mem _ k_cf25481d67) (List.mem_cons_of_mem _ k_6836736ab7) rfl rfl rfl (by decide +kernel) (by decide) rfl hl.1 rfl (Nat.le_of_ble_eq_true rfl) d_law_4 ⟨by decide, by decide⟩) J (fun σ2 H locs hp J => ?_)
  obtain ⟨p0, p1, p2, p3, p4⟩ := hp
  refine lv_astore_n (lv' := [(1, .ref (ad 0)), (0, .ref b)]) hx hb d_law_7 rfl hl (by decide) rfl (fun ls hl => ?_)
  have J : xJ D classes (fun q : Nat => s.heap.size ≤ q) 183 ad s.heap σ2 H locs := J
  refine xj_new X J had hA (by omega) (by omega) fin_M t_M t_M_ok (List.mem_cons_of_mem _ k_f2a4c9a5db) (List.mem_cons_of_mem _ k_b716cff0a7) (List.mem_cons_of_mem _ k_2614d596cd) (ci := ciM) rfl (fs := [.null, .null, .null, .null, .int 0, .int 0, .null, .null, .int 0, .null, .int 0, .null, .int 0, .int 0]) (by decide +kernel) (show 0 + 1 + 182 + 1 ≤ 601024 by decide) (show 0 + 7 + 2231 + 14 ≤ 7293033 by decide) d_law_8 (fun H J => ?_)
  obtain ⟨σ3, hσ3⟩ : ∃ s9, s9 = va_up σ2 183 (.inr (ciM, [.null, .null, .null, .null, .int 0, .int 0, .null, .null, .int 0, .null, .int 0, .null, .int 0, .int 0])) := ⟨_, rfl⟩
  rw [← hσ3] at J
  have σ3k : σ3 183 = (.inr (ciM, [.null, .null, .null, .null, .int 0, .int 0, .null, .null, .int 0, .null, .int 0, .null, .int 0, .int 0])) := by rw [hσ3]; exact va_up_self _ _ _
  have σ3o : ∀ q, q ≠ 183 → σ3 q = σ2 q := fun q hq => by rw [hσ3]; exact va_up_ne _ _ hq
  clear hσ3
  refine lv_dup hx hb d_law_11 rfl ?_
  refine xj_W fun hle => ?_
  have hH9 := xJ_size had J (by omega) (by omega)
  refine xj_callg had hA hH9 (xj_runI (rm := { frames := 1, cells := 8, slots := 35265, locals := 64 }) (n := 0) (As := []) (rest := [.ref (ad 183)]) X J hH9 hao (c_SpectrumDeskModel_init had rfl σ3k) (xg k_55b347c130) (List.mem_cons_of_mem _ k_a0497e2d07) (List.mem_cons_of_mem _ k_b1f1f5eba9) (List.mem_cons_of_mem _ k_30fa15c9ac) rfl rfl rfl (by decide +kernel) (by decide) rfl hl.1 rfl (Nat.le_of_ble_eq_true rfl) d_law_12 ⟨by decide, by decide⟩) J (fun σ4 H locs hp J => ?_)
  obtain ⟨g0, g183, g184, g185, g186, g187, g188, g189, g190, g191⟩ := hp
  refine lv_astore_n (lv' := [(2, .ref (ad 183)), (1, .ref (ad 0)), (0, .ref b)]) hx hb d_law_15 rfl hl (by decide) rfl (fun ls hl => ?_)
  refine lv_iconst (v := nI 1) hx hb d_law_16 (by decide) ?_
  have J : xJ D classes (fun q : Nat => s.heap.size ≤ q) 192 ad s.heap σ4 H locs := J
  refine xj_newa (atype := .long) X J had hA (by omega) (by omega) (List.mem_cons_of_mem _ k_9bf18df0e3) 1 rfl (n := 1) (a0 := (1, .inr (.inl (fun _ => 0)))) (fun _ => rfl) (by omega) (by show 1 * 8 ≤ 536870912; omega) (show 0 + 1 + 182 + 1 + 8 + 1 ≤ 601024 by decide) (show 0 + 7 + 2231 + 14 + 35265 + 1 ≤ 7293033 by decide) d_law_17 (fun H J => ?_)
  obtain ⟨σ5, hσ5⟩ : ∃ s9, s9 = va_up σ4 192 (.inl (cJ, 1, .inr (.inl (fun _ => 0)))) := ⟨_, rfl⟩
  rw [← hσ5] at J
  have σ5k : σ5 192 = (.inl (cJ, 1, .inr (.inl (fun _ => 0)))) := by rw [hσ5]; exact va_up_self _ _ _
  have σ5o : ∀ q, q ≠ 192 → σ5 q = σ4 q := fun q hq => by rw [hσ5]; exact va_up_ne _ _ hq
  clear hσ5
  refine lv_astore_n (lv' := [(3, .ref (ad 192)), (2, .ref (ad 183)), (1, .ref (ad 0)), (0, .ref b)]) hx hb d_law_19 rfl hl (by decide) rfl (fun ls hl => ?_)
  refine lv_iconst (v := nI 0) hx hb d_law_20 (by decide) ?_
  refine lv_istore (lv' := [(4, .int (nI 0)), (3, .ref (ad 192)), (2, .ref (ad 183)), (1, .ref (ad 0)), (0, .ref b)]) hx hb d_law_21 hl (by decide) rfl (fun ls hl => ?_)
  have hl := lv_sub hl [4, 3, 2, 1, 0] rfl
  have hl : lv_has ls 8 [(0, .ref b), (1, .ref (ad 0)), (2, .ref (ad 183)), (3, .ref (ad 192)), (4, .int (nI 0))] := hl
  have J : xJ D classes (fun q : Nat => s.heap.size ≤ q) 193 ad s.heap σ5 H locs := J
  have h5 : ∀ q, q < 183 → σ5 q = σ2 q := fun q hq => (σ5o q (by omega)).trans ((g0 q hq).trans (σ3o q (by omega)))
  have hm5 : mS ad cI cZ σ5 (nI 0) 1 (fun _ => 0) 0 (fun _ => 0) 0 (fun _ => 0) σ5 := by
    refine ⟨σ5, fun _ => 0, fun _ => 0, fun _ => 0, fun _ => 0, fun _ => 0, fun _ => 0, 0, 0, ?_, (σ5o 187 (by decide)).trans g187, (σ5o 188 (by decide)).trans g188, (σ5o 189 (by decide)).trans g189, (σ5o 190 (by decide)).trans g190, (σ5o 191 (by decide)).trans g191, fun _ _ => rfl, RB_0⟩
    funext q
    by_cases e9 : 183 ≤ q ∧ q ≤ 186
    · obtain ⟨a9, b9⟩ := e9
      rcases (by omega : q = 183 ∨ q = 184 ∨ q = 185 ∨ q = 186) with rfl | rfl | rfl | rfl
      · exact (σ5o 183 (by decide)).trans g183
      · exact (σ5o 184 (by decide)).trans g184
      · exact (σ5o 185 (by decide)).trans g185
      · exact (σ5o 186 (by decide)).trans g186
    · rw [r_o (by omega)]
  have hI : LI ad cI cJ cZ cC cG cP σ5 := ⟨1, nI 1, fun _ _ => 0, 0, fun _ => 0, fun _ _ => 0, 0, fun _ => 0, fun _ => 0, fun _ => 0, fun _ => 0, nI 0, fun _ => 0, by decide, by decide, CK.same (⟨p0, p1, p2, p3, Or.inr ⟨rfl, p4⟩⟩ : CK ad cI cJ cZ cC cG cP σ2 1 (nI 1) (fun _ _ => 0) 0 (fun _ => 0) (fun _ _ => 0) 0 (fun _ => 0)) (by decide) h5, hm5, σ5k, LR_0⟩
  refine va_forget (fun q hq => J.2.2.2.2 q hq) ?_
  refine law_loop (L := L) hx hb X hz hT hfl hX hbl hL hMT hr hlk L 0 _ _ σ5 H ls (by omega) (by omega) ?_ ?_ hl hI ⟨J.1, ⟨J.2.1.1, fun k q hq => xw_in hq⟩, J.2.2.1, fun q h1 h2 => J.2.2.2.1 q h1 (by omega), fun q hq => by cases hq⟩
  · have : room_1.cells = 601024 := rfl
    omega
  · have : room_1.slots = 7293033 := rfl
    omega
