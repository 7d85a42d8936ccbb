/-! the law: its own methods where the desk does not throw (written by wip/gen) -/

set_option maxHeartbeats 4000000 in
set_option maxRecDepth 100000 in
theorem c_SpectrumDeskLaw_put_ok {l : Launch} {D : va_G} {cI cJ cZ cC cG cP : ClassId} {N : Nat} {ad : Nat → Nat} {σ : Nat → va_E} {n : Nat} {st : Int32} (hN : N = 193) (hS0 : σ 0 = .inr (ciS, [.ref (ad 1), .ref (ad 8), .ref (ad 9), .ref (ad 18), .ref (ad 179), .int (nI n), .int st])) {A : Nat → Nat → Int32} {i j : Nat} {v : Int32} (hn : n ≤ 6) (hA : mat ad cI cG σ 1 2 A) (hi : i < n) (hj : j < n) (hv : -1000000 ≤ v.toInt ∧ v.toInt ≤ 1000000) :
    Met l y_SpectrumDeskLaw_put v_SpectrumDeskLaw_put uR (va_Pc [.ref (ad 0), .int (nI i), .int (nI j), .int v] (uS D classes (xT cI cJ cZ cC cG cP) N ad σ)) (va_Qi (fun r σ2 => r = nI 0 ∧ ( ∃ A' : Nat → Nat → Int32, (∀ q, q ≠ 0 → q < 2 ∨ 8 ≤ q → σ2 q = σ q) ∧ σ2 0 = .inr (ciS, [.ref (ad 1), .ref (ad 8), .ref (ad 9), .ref (ad 18), .ref (ad 179), .int (nI n), .int (nI 1)]) ∧ mat ad cI cG σ2 1 2 A' ∧ ∀ a b, a < 6 → A' a b = if (a = i ∧ b = j) ∨ (a = j ∧ b = i) then v else A a b)) (uS D classes (xT cI cJ cZ cC cG cP) N ad) (xA N ad)) 1 6 (xA N ad) := by
  refine xu_met rfl (Nat.le_of_ble_eq_true rfl) ?_
  intro p e s m args below meth c ls hx hb X hr hlk htab hT hl I
  have hl : lv_has ls 5 [(0, .ref (ad 0)), (1, .int (nI i)), (2, .int (nI j)), (3, .int v)] := hl
  refine lv_aload_n hx hb d_SpectrumDeskLaw_put_0 rfl (lv_at hl 0 rfl) ?_
  refine lv_iload_n hx hb d_SpectrumDeskLaw_put_1 rfl (lv_at hl 1 rfl) ?_
  refine lv_iload_n hx hb d_SpectrumDeskLaw_put_2 rfl (lv_at hl 2 rfl) ?_
  refine lv_iload_n hx hb d_SpectrumDeskLaw_put_3 rfl (lv_at hl 3 rfl) ?_
  refine xr_callv (xt_runV (kc := 1) (n := 3) (As := [.int (nI i), .int (nI j), .int v]) (rest := []) X I (by omega) hS0 rfl (c_SpectrumDesk_put_ok hN hS0 hn hA hi hj hv) (xg k_ef988f04f8) (List.mem_cons_of_mem _ k_53dc2a5d19) (List.mem_cons_of_mem _ k_907051f5f4) (List.mem_cons_of_mem _ k_063ca71c10) (List.mem_cons_of_mem _ k_6836736ab7) (by decide +kernel) (by decide) rfl hl.1 rfl (Nat.le_of_ble_eq_true rfl) d_SpectrumDeskLaw_put_4) I (fun σ1 H locs hp I => ?_)
  refine lv_goto hx hb d_SpectrumDeskLaw_put_7 rfl ?_
  refine lv_iconst (v := nI 0) hx hb d_SpectrumDeskLaw_put_18 (by decide) ?_
  exact xu_iret X I hT hr hlk (by decide) (by decide) ⟨rfl, hp⟩ d_SpectrumDeskLaw_put_19
set_option maxHeartbeats 4000000 in
set_option maxRecDepth 100000 in
theorem c_SpectrumDeskLaw_at_ok {l : Launch} {D : va_G} {cI cJ cZ cC cG cP : ClassId} {N : Nat} {ad : Nat → Nat} {σ : Nat → va_E} {n : Nat} {st : Int32} (hN : N = 193) (hS0 : σ 0 = .inr (ciS, [.ref (ad 1), .ref (ad 8), .ref (ad 9), .ref (ad 18), .ref (ad 179), .int (nI n), .int st])) {A : Nat → Nat → Int32} {i j : Nat} (hn : n ≤ 6) (hA : mat ad cI cG σ 1 2 A) (hi : i < n) (hj : j < n) {fo : Nat → Int64} (ho : σ 192 = .inl (cJ, 1, .inr (.inl fo))) :
    Met l y_SpectrumDeskLaw_at v_SpectrumDeskLaw_at uR (va_Pc [.ref (ad 0), .int (nI i), .int (nI j), .ref (ad 192)] (uS D classes (xT cI cJ cZ cC cG cP) N ad σ)) (va_Qi (fun r σ2 => r = nI 0 ∧ σ2 = va_up σ 192 (.inl (cJ, 1, .inr (.inl (vp_updL fo 0 (A i j).toInt64))))) (uS D classes (xT cI cJ cZ cC cG cP) N ad) (xA N ad)) 1 6 (xA N ad) := by
  refine xu_met rfl (Nat.le_of_ble_eq_true rfl) ?_
  intro p e s m args below meth c ls hx hb X hr hlk htab hT hl I
  have hl : lv_has ls 5 [(0, .ref (ad 0)), (1, .int (nI i)), (2, .int (nI j)), (3, .ref (ad 192))] := hl
  refine lv_aload_n hx hb d_SpectrumDeskLaw_at_0 rfl (lv_at hl 3 rfl) ?_
  refine lv_iconst (v := nI 0) hx hb d_SpectrumDeskLaw_at_1 (by decide) ?_
  refine lv_aload_n hx hb d_SpectrumDeskLaw_at_2 rfl (lv_at hl 0 rfl) ?_
  refine lv_iload_n hx hb d_SpectrumDeskLaw_at_3 rfl (lv_at hl 1 rfl) ?_
  refine lv_iload_n hx hb d_SpectrumDeskLaw_at_4 rfl (lv_at hl 2 rfl) ?_
  refine xr_calli (xt_runV (kc := 1) (n := 2) (As := [.int (nI i), .int (nI j)]) (rest := [.int (nI 0), .ref (ad 192)]) X I (by omega) hS0 rfl (c_SpectrumDesk_at_ok hN hS0 hn hA hi hj) (xg k_366308e1c8) (List.mem_cons_of_mem _ k_777cd66aa1) (List.mem_cons_of_mem _ k_32ac9011f2) (List.mem_cons_of_mem _ k_7ae7ef694e) (List.mem_cons_of_mem _ k_6836736ab7) (by decide +kernel) (by decide) rfl hl.1 rfl (Nat.le_of_ble_eq_true rfl) d_SpectrumDeskLaw_at_5) I (fun r1 σ1 H locs hp I => ?_)
  obtain ⟨rfl, h9⟩ := hp; rw [h9] at I; clear h9
  refine lv_i2l hx hb d_SpectrumDeskLaw_at_8 rfl ?_
  refine xr_last X I 192 1 (by omega) ho rfl (by decide) (by decide) d_SpectrumDeskLaw_at_9 (fun H locs I => ?_)
  refine lv_goto hx hb d_SpectrumDeskLaw_at_10 rfl ?_
  refine lv_iconst (v := nI 0) hx hb d_SpectrumDeskLaw_at_17 (by decide) ?_
  exact xu_iret X I hT hr hlk (by decide) (by decide) ⟨rfl, rfl⟩ d_SpectrumDeskLaw_at_18
set_option maxHeartbeats 4000000 in
set_option maxRecDepth 100000 in
theorem c_SpectrumDeskLaw_count_ok {l : Launch} {D : va_G} {cI cJ cZ cC cG cP : ClassId} {N : Nat} {ad : Nat → Nat} {σ : Nat → va_E} {n : Nat} {st : Int32} (hN : N = 193) (hS0 : σ 0 = .inr (ciS, [.ref (ad 1), .ref (ad 8), .ref (ad 9), .ref (ad 18), .ref (ad 179), .int (nI n), .int st])) {A : Nat → Nat → Int32} {V : Nat → Int} (h1n : 1 ≤ n) (hn : n ≤ 6) (hA : mat ad cI cG σ 1 2 A) (hsA : smA A) (hgd : gdM A n V) (hsp : spZ ad cI cG cP σ) (hst : (st = nI 0 ∧ ∃ rk, spV ad cI cJ cZ cG σ A n V rk) ∨ (st = nI 1 ∧ spN ad cI cJ cZ cG σ)) {k9 wy : Nat} {tp bt : Int64} (h1 : 1 ≤ k9) (h2 : k9 ≤ n) (h4 : wy ≤ 2) (h5 : 0 < bt) {fo : Nat → Int64} (ho : σ 192 = .inl (cJ, 1, .inr (.inl fo))) :
    Met l y_SpectrumDeskLaw_count v_SpectrumDeskLaw_count uR (va_Pc [.ref (ad 0), .int (nI k9), .long tp, .long bt, .int (nI wy), .ref (ad 192)] (uS D classes (xT cI cJ cZ cC cG cP) N ad σ)) (va_Qi (fun r σ2 => r = nI 0 ∧ ∃ (r9 : Int32) (rk : Int32) (σ1 : Nat → va_E), (r9 = (if wy = 0 then lessI (low tp.toInt k9 (mulp bt.toInt k9 (pB (iA A) k9) k9) k9) k9 else if wy = 1 then nI (ez (low tp.toInt k9 (mulp bt.toInt k9 (pB (iA A) k9) k9) k9) 0 k9) else nI (ra (low tp.toInt k9 (mulp bt.toInt k9 (pB (iA A) k9) k9) k9) (nI 1) (k9 + 1)))) ∧ upV ad cI cJ cZ cG cP σ A n V rk σ1 ∧ σ2 = va_up σ1 192 (.inl (cJ, 1, .inr (.inl (vp_updL fo 0 r9.toInt64))))) (uS D classes (xT cI cJ cZ cC cG cP) N ad) (xA N ad)) 1 6 (xA N ad) := by
  refine xu_met rfl (Nat.le_of_ble_eq_true rfl) ?_
  intro p e s m args below meth c ls hx hb X hr hlk htab hT hl I
  have hl : lv_has ls 9 [(0, .ref (ad 0)), (1, .int (nI k9)), (2, .long tp), (4, .long bt), (6, .int (nI wy)), (7, .ref (ad 192))] := hl
  refine lv_aload hx hb d_SpectrumDeskLaw_count_0 (lv_at hl 5 rfl) ?_
  refine lv_iconst (v := nI 0) hx hb d_SpectrumDeskLaw_count_2 (by decide) ?_
  refine lv_aload_n hx hb d_SpectrumDeskLaw_count_3 rfl (lv_at hl 0 rfl) ?_
  refine lv_iload_n hx hb d_SpectrumDeskLaw_count_4 rfl (lv_at hl 1 rfl) ?_
  refine lv_lload_n hx hb d_SpectrumDeskLaw_count_5 rfl (lv_at hl 2 rfl) ?_
  refine lv_lload hx hb d_SpectrumDeskLaw_count_6 (lv_at hl 3 rfl) ?_
  refine lv_iload hx hb d_SpectrumDeskLaw_count_8 (lv_at hl 4 rfl) ?_
  refine xr_calli (xt_runV (kc := 8) (n := 4) (As := [.int (nI k9), .long tp, .long bt, .int (nI wy)]) (rest := [.int (nI 0), .ref (ad 192)]) X I (by omega) hS0 rfl (c_SpectrumDesk_count_ok hN hS0 h1n hn hA hsA hgd hsp hst h1 h2 h4 h5) (xg k_67671de29f) (List.mem_cons_of_mem _ k_82618050f6) (List.mem_cons_of_mem _ k_fb87d44909) (List.mem_cons_of_mem _ k_90c619da39) (List.mem_cons_of_mem _ k_6836736ab7) (by decide +kernel) (by decide) rfl hl.1 rfl (Nat.le_of_ble_eq_true rfl) d_SpectrumDeskLaw_count_10) I (fun r9 σ1 H locs hp I => ?_)
  obtain ⟨hv9, rk, hu⟩ := hp
  refine lv_i2l hx hb d_SpectrumDeskLaw_count_13 rfl ?_
  refine xr_last X I 192 1 (by omega) ((hu.1 192 (by decide) (by omega)).trans ho) rfl (by decide) (by decide) d_SpectrumDeskLaw_count_14 (fun H locs I => ?_)
  refine lv_goto hx hb d_SpectrumDeskLaw_count_15 rfl ?_
  refine lv_iconst (v := nI 0) hx hb d_SpectrumDeskLaw_count_22 (by decide) ?_
  exact xu_iret X I hT hr hlk (by decide) (by decide) ⟨rfl, r9, rk, σ1, hv9, hu, rfl⟩ d_SpectrumDeskLaw_count_23
set_option maxHeartbeats 4000000 in
set_option maxRecDepth 100000 in
theorem c_SpectrumDeskLaw_cell_ok {l : Launch} {D : va_G} {cI cJ cZ cC cG cP : ClassId} {N : Nat} {ad : Nat → Nat} {σ : Nat → va_E} {n : Nat} {st : Int32} (hN : N = 193) (hS0 : σ 0 = .inr (ciS, [.ref (ad 1), .ref (ad 8), .ref (ad 9), .ref (ad 18), .ref (ad 179), .int (nI n), .int st])) {A : Nat → Nat → Int32} {V : Nat → Int} (h1n : 1 ≤ n) (hn : n ≤ 6) (hA : mat ad cI cG σ 1 2 A) (hsA : smA A) (hgd : gdM A n V) (hsp : spZ ad cI cG cP σ) (hst : (st = nI 0 ∧ ∃ rk, spV ad cI cJ cZ cG σ A n V rk) ∨ (st = nI 1 ∧ spN ad cI cJ cZ cG σ)) {i w9 : Nat} (hi : i < n) (hw : w9 ≤ 30) {fo : Nat → Int64} (ho : σ 192 = .inl (cJ, 1, .inr (.inl fo))) :
    Met l y_SpectrumDeskLaw_cell v_SpectrumDeskLaw_cell uR (va_Pc [.ref (ad 0), .int (nI i), .int (nI w9), .ref (ad 192)] (uS D classes (xT cI cJ cZ cC cG cP) N ad σ)) (va_Qi (fun r σ2 => r = nI 0 ∧ ∃ (r9 : Int64) (rk : Int32) (σ1 : Nat → va_E), (r9.toInt = V i / 2 ^ (30 - w9)) ∧ upV ad cI cJ cZ cG cP σ A n V rk σ1 ∧ σ2 = va_up σ1 192 (.inl (cJ, 1, .inr (.inl (vp_updL fo 0 r9))))) (uS D classes (xT cI cJ cZ cC cG cP) N ad) (xA N ad)) 1 6 (xA N ad) := by
  refine xu_met rfl (Nat.le_of_ble_eq_true rfl) ?_
  intro p e s m args below meth c ls hx hb X hr hlk htab hT hl I
  have hl : lv_has ls 5 [(0, .ref (ad 0)), (1, .int (nI i)), (2, .int (nI w9)), (3, .ref (ad 192))] := hl
  refine lv_aload_n hx hb d_SpectrumDeskLaw_cell_0 rfl (lv_at hl 3 rfl) ?_
  refine lv_iconst (v := nI 0) hx hb d_SpectrumDeskLaw_cell_1 (by decide) ?_
  refine lv_aload_n hx hb d_SpectrumDeskLaw_cell_2 rfl (lv_at hl 0 rfl) ?_
  refine lv_iload_n hx hb d_SpectrumDeskLaw_cell_3 rfl (lv_at hl 1 rfl) ?_
  refine lv_iload_n hx hb d_SpectrumDeskLaw_cell_4 rfl (lv_at hl 2 rfl) ?_
  refine xr_calll (xt_runV (kc := 8) (n := 2) (As := [.int (nI i), .int (nI w9)]) (rest := [.int (nI 0), .ref (ad 192)]) X I (by omega) hS0 rfl (c_SpectrumDesk_cell_ok hN hS0 h1n hn hA hsA hgd hsp hst hi hw) (xg k_8c8e09c5aa) (List.mem_cons_of_mem _ k_b1820bd929) (List.mem_cons_of_mem _ k_1f6ee19ff0) (List.mem_cons_of_mem _ k_447c57d56a) (List.mem_cons_of_mem _ k_6836736ab7) (by decide +kernel) (by decide) rfl hl.1 rfl (Nat.le_of_ble_eq_true rfl) d_SpectrumDeskLaw_cell_5) I (fun r9 σ1 H locs hp I => ?_)
  obtain ⟨hv9, rk, hu⟩ := hp
  refine xr_last X I 192 1 (by omega) ((hu.1 192 (by decide) (by omega)).trans ho) rfl (by decide) (by decide) d_SpectrumDeskLaw_cell_8 (fun H locs I => ?_)
  refine lv_goto hx hb d_SpectrumDeskLaw_cell_9 rfl ?_
  refine lv_iconst (v := nI 0) hx hb d_SpectrumDeskLaw_cell_20 (by decide) ?_
  exact xu_iret X I hT hr hlk (by decide) (by decide) ⟨rfl, r9, rk, σ1, hv9, hu, rfl⟩ d_SpectrumDeskLaw_cell_21
set_option maxHeartbeats 4000000 in
set_option maxRecDepth 100000 in
theorem c_SpectrumDeskLaw_multiplicity_ok {l : Launch} {D : va_G} {cI cJ cZ cC cG cP : ClassId} {N : Nat} {ad : Nat → Nat} {σ : Nat → va_E} {n : Nat} {st : Int32} (hN : N = 193) (hS0 : σ 0 = .inr (ciS, [.ref (ad 1), .ref (ad 8), .ref (ad 9), .ref (ad 18), .ref (ad 179), .int (nI n), .int st])) {A : Nat → Nat → Int32} {V : Nat → Int} (h1n : 1 ≤ n) (hn : n ≤ 6) (hA : mat ad cI cG σ 1 2 A) (hsA : smA A) (hgd : gdM A n V) (hsp : spZ ad cI cG cP σ) (hst : (st = nI 0 ∧ ∃ rk, spV ad cI cJ cZ cG σ A n V rk) ∨ (st = nI 1 ∧ spN ad cI cJ cZ cG σ)) {i : Nat} (hi : i < n) {fo : Nat → Int64} (ho : σ 192 = .inl (cJ, 1, .inr (.inl fo))) :
    Met l y_SpectrumDeskLaw_multiplicity v_SpectrumDeskLaw_multiplicity uR (va_Pc [.ref (ad 0), .int (nI i), .ref (ad 192)] (uS D classes (xT cI cJ cZ cC cG cP) N ad σ)) (va_Qi (fun r σ2 => r = nI 0 ∧ ∃ (r9 : Int32) (rk : Int32) (σ1 : Nat → va_E), (r9 = (if (ceD (pB (iA A) n) n) = 0 then nI 1 else hmS n (ceD (pB (iA A) n) n) (nI i) 43 (low (V i) n (mulp 1073741824 n (pB (iA A) n) n) n) (low (V i) (ceD (pB (iA A) n) n) (mulp 1073741824 (ceD (pB (iA A) n) n) (ceF (pB (iA A) n) n) (ceD (pB (iA A) n) n)) (ceD (pB (iA A) n) n)))) ∧ upV ad cI cJ cZ cG cP σ A n V rk σ1 ∧ σ2 = va_up σ1 192 (.inl (cJ, 1, .inr (.inl (vp_updL fo 0 r9.toInt64))))) (uS D classes (xT cI cJ cZ cC cG cP) N ad) (xA N ad)) 1 6 (xA N ad) := by
  refine xu_met rfl (Nat.le_of_ble_eq_true rfl) ?_
  intro p e s m args below meth c ls hx hb X hr hlk htab hT hl I
  have hl : lv_has ls 4 [(0, .ref (ad 0)), (1, .int (nI i)), (2, .ref (ad 192))] := hl
  refine lv_aload_n hx hb d_SpectrumDeskLaw_multiplicity_0 rfl (lv_at hl 2 rfl) ?_
  refine lv_iconst (v := nI 0) hx hb d_SpectrumDeskLaw_multiplicity_1 (by decide) ?_
  refine lv_aload_n hx hb d_SpectrumDeskLaw_multiplicity_2 rfl (lv_at hl 0 rfl) ?_
  refine lv_iload_n hx hb d_SpectrumDeskLaw_multiplicity_3 rfl (lv_at hl 1 rfl) ?_
  refine xr_calli (xt_runV (kc := 8) (n := 1) (As := [.int (nI i)]) (rest := [.int (nI 0), .ref (ad 192)]) X I (by omega) hS0 rfl (c_SpectrumDesk_multiplicity_ok hN hS0 h1n hn hA hsA hgd hsp hst hi) (xg k_149da778ce) (List.mem_cons_of_mem _ k_45d2d7441a) (List.mem_cons_of_mem _ k_918e32c679) (List.mem_cons_of_mem _ k_34439ee148) (List.mem_cons_of_mem _ k_6836736ab7) (by decide +kernel) (by decide) rfl hl.1 rfl (Nat.le_of_ble_eq_true rfl) d_SpectrumDeskLaw_multiplicity_4) I (fun r9 σ1 H locs hp I => ?_)
  obtain ⟨hv9, rk, hu⟩ := hp
  refine lv_i2l hx hb d_SpectrumDeskLaw_multiplicity_7 rfl ?_
  refine xr_last X I 192 1 (by omega) ((hu.1 192 (by decide) (by omega)).trans ho) rfl (by decide) (by decide) d_SpectrumDeskLaw_multiplicity_8 (fun H locs I => ?_)
  refine lv_goto hx hb d_SpectrumDeskLaw_multiplicity_9 rfl ?_
  refine lv_iconst (v := nI 0) hx hb d_SpectrumDeskLaw_multiplicity_15 (by decide) ?_
  exact xu_iret X I hT hr hlk (by decide) (by decide) ⟨rfl, r9, rk, σ1, hv9, hu, rfl⟩ d_SpectrumDeskLaw_multiplicity_16
set_option maxHeartbeats 4000000 in
set_option maxRecDepth 100000 in
theorem c_SpectrumDeskLaw_whole_ok {l : Launch} {D : va_G} {cI cJ cZ cC cG cP : ClassId} {N : Nat} {ad : Nat → Nat} {σ : Nat → va_E} {n : Nat} {st : Int32} (hN : N = 193) (hS0 : σ 0 = .inr (ciS, [.ref (ad 1), .ref (ad 8), .ref (ad 9), .ref (ad 18), .ref (ad 179), .int (nI n), .int st])) {A : Nat → Nat → Int32} {V : Nat → Int} (h1n : 1 ≤ n) (hn : n ≤ 6) (hA : mat ad cI cG σ 1 2 A) (hsA : smA A) (hgd : gdM A n V) (hsp : spZ ad cI cG cP σ) (hst : (st = nI 0 ∧ ∃ rk, spV ad cI cJ cZ cG σ A n V rk) ∨ (st = nI 1 ∧ spN ad cI cJ cZ cG σ)) {i : Nat} (hi : i < n) {fo : Nat → Int64} (ho : σ 192 = .inl (cJ, 1, .inr (.inl fo))) :
    Met l y_SpectrumDeskLaw_whole v_SpectrumDeskLaw_whole uR (va_Pc [.ref (ad 0), .int (nI i), .ref (ad 192)] (uS D classes (xT cI cJ cZ cC cG cP) N ad σ)) (va_Qi (fun r σ2 => r = nI 0 ∧ ∃ (r9 : Int64) (rk : Int32) (σ1 : Nat → va_E), r9 = (if V i % 1073741824 = 0 ∧ nI i < lessI (low (V i) n (pfF A n) n) n + nI (ez (low (V i) n (pfF A n) n) 0 n) then 1 else 0) ∧ upV ad cI cJ cZ cG cP σ A n V rk σ1 ∧ σ2 = va_up σ1 192 (.inl (cJ, 1, .inr (.inl (vp_updL fo 0 r9))))) (uS D classes (xT cI cJ cZ cC cG cP) N ad) (xA N ad)) 1 6 (xA N ad) := by
  refine xu_met rfl (Nat.le_of_ble_eq_true rfl) ?_
  intro p e s m args below meth c ls hx hb X hr hlk htab hT hl I
  have hl : lv_has ls 4 [(0, .ref (ad 0)), (1, .int (nI i)), (2, .ref (ad 192))] := hl
  refine lv_aload_n hx hb d_SpectrumDeskLaw_whole_0 rfl (lv_at hl 2 rfl) ?_
  refine lv_iconst (v := nI 0) hx hb d_SpectrumDeskLaw_whole_1 (by decide) ?_
  refine lv_aload_n hx hb d_SpectrumDeskLaw_whole_2 rfl (lv_at hl 0 rfl) ?_
  refine lv_iload_n hx hb d_SpectrumDeskLaw_whole_3 rfl (lv_at hl 1 rfl) ?_
  refine xr_calli (xt_runV (kc := 8) (n := 1) (As := [.int (nI i)]) (rest := [.int (nI 0), .ref (ad 192)]) X I (by omega) hS0 rfl (c_SpectrumDesk_whole_ok hN hS0 h1n hn hA hsA hgd hsp hst hi) (xg k_3e457abe36) (List.mem_cons_of_mem _ k_d4ddcee6c5) (List.mem_cons_of_mem _ k_483b258309) (List.mem_cons_of_mem _ k_cc35f0af79) (List.mem_cons_of_mem _ k_6836736ab7) (by decide +kernel) (by decide) rfl hl.1 rfl (Nat.le_of_ble_eq_true rfl) d_SpectrumDeskLaw_whole_4) I (fun r9 σ1 H locs hp I => ?_)
  obtain ⟨hv9, rk, hu⟩ := hp
  refine lv_if_eq hx hb d_SpectrumDeskLaw_whole_7 rfl (fun hc => ?_) (fun hc => ?_)
  · refine lv_lconst (v := 0) hx hb d_SpectrumDeskLaw_whole_14 (by decide) ?_
    refine xr_last X I 192 1 (by omega) ((hu.1 192 (by decide) (by omega)).trans ho) rfl (by decide) (by decide) d_SpectrumDeskLaw_whole_15 (fun H locs I => ?_)
    refine lv_goto hx hb d_SpectrumDeskLaw_whole_16 rfl ?_
    refine lv_iconst (v := nI 0) hx hb d_SpectrumDeskLaw_whole_22 (by decide) ?_
    exact xu_iret X I hT hr hlk (by decide) (by decide) ⟨rfl, 0, rk, σ1, (by rw [if_neg (fun h => by rw [hv9, if_pos h] at hc; exact absurd hc (by decide))]), hu, rfl⟩ d_SpectrumDeskLaw_whole_23
  · refine lv_lconst (v := 1) hx hb d_SpectrumDeskLaw_whole_10 (by decide) ?_
    refine lv_goto hx hb d_SpectrumDeskLaw_whole_11 rfl ?_
    refine xr_last X I 192 1 (by omega) ((hu.1 192 (by decide) (by omega)).trans ho) rfl (by decide) (by decide) d_SpectrumDeskLaw_whole_15 (fun H locs I => ?_)
    refine lv_goto hx hb d_SpectrumDeskLaw_whole_16 rfl ?_
    refine lv_iconst (v := nI 0) hx hb d_SpectrumDeskLaw_whole_22 (by decide) ?_
    exact xu_iret X I hT hr hlk (by decide) (by decide) ⟨rfl, 1, rk, σ1, (by rw [if_pos (Decidable.not_not.mp (fun h => hc (by rw [hv9, if_neg h]; rfl)))]), hu, rfl⟩ d_SpectrumDeskLaw_whole_23
