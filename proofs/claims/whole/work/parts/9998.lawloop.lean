/-! the law, its loop (written by wip/gen) -/

set_option maxHeartbeats 4000000 in
set_option maxRecDepth 100000 in
theorem law_loop {p : Program} {l : Launch} {e : Env} {s : State} {m : MethodId} {below : List Frame} {meth : Method} {c : Code} {D : va_G} {cI cJ cZ cC cG cP : ClassId} {ad : Nat → Nat} {b L : Nat} {xs : Nat → Int32} (hx : p.tables.exec = Jvm.exec) (hb : c.code = b_law) (X : xX p c b_law 8 s #[Value.ref b] (wl :: AW) "SpectrumDeskLaw" m D classes (xT cI cJ cZ cC cG cP) ) (hz : ∀ k, s.heap.size ≤ ad k) (hT : xtOK (xA 193 ad) s) (hfl : l.flags = Jvm.pinnedFlags ++ [Jvm.noTraceFlag]) (hX : va_X b L xs s s.heap) (hbl : b < s.heap.size) (hL : L ≤ 3584)  (hMT : MATH) (hr : meth.sig.returnType = ret) (hlk : meth.locks = false) : ∀ (f i cells slots : Nat) (σ : Nat → va_E) (H : Heap) (ls : Array Slot), L < i + 7 * f + 7 → i ≤ L + 7 → cells + f + 1 ≤ room_1.cells → slots + 6 * f + 6 ≤ room_1.slots → lv_has ls 8 [(0, .ref b), (1, .ref (ad 0)), (2, .ref (ad 183)), (3, .ref (ad 192)), (4, .int (nI i))] → LI ad cI cJ cZ cC cG cP σ → xI D classes 193 ad s.heap σ H [] → W p l e room_1 s m #[Value.ref b] below meth c H [] cells slots (lw_Z below #[Value.ref b] s) (F0 m 23 ls []) := by
  intro f
  induction f with
  | zero =>
    intro i cells slots σ H ls hf hi hcl hsl hl hI I
    refine lv_iload hx hb d_law_23 (lv_at hl 4 rfl) ?_
    refine lv_aload_n hx hb d_law_25 rfl (lv_at hl 0 rfl) ?_
    refine xq_slen X I hz hX hbl d_law_26 ?_
    refine lv_bipush (v := nI 7) hx hb d_law_27 (by decide) ?_
    refine lv_isub hx hb d_law_29 ?_
    refine lv_icmp_gt hx hb d_law_30 rfl (fun hc => ?_) (fun hc => ?_)
    · refine lv_iconst (v := nI 1) hx hb d_law_873 (by decide) ?_
      exact W.widen (by have : room_1.cells = 601024 := rfl; omega) (by have : room_1.slots = 7293033 := rfl; omega) (lw_ret hx hb hr hlk d_law_874)
    · exact absurd ((lp_gt hL (by omega)).mpr (by omega)) hc
  | succ f ih =>
    intro i cells slots σ H ls hf hi hcl hsl hl hI I
    refine lv_iload hx hb d_law_23 (lv_at hl 4 rfl) ?_
    refine lv_aload_n hx hb d_law_25 rfl (lv_at hl 0 rfl) ?_
    refine xq_slen X I hz hX hbl d_law_26 ?_
    refine lv_bipush (v := nI 7) hx hb d_law_27 (by decide) ?_
    refine lv_isub hx hb d_law_29 ?_
    refine lv_icmp_gt hx hb d_law_30 rfl (fun hc => ?_) (fun hc => ?_)
    · refine lv_iconst (v := nI 1) hx hb d_law_873 (by decide) ?_
      exact W.widen (by have : room_1.cells = 601024 := rfl; omega) (by have : room_1.slots = 7293033 := rfl; omega) (lw_ret hx hb hr hlk d_law_874)
    · have hi7 : i + 7 ≤ L := by rcases Nat.lt_or_ge L (i + 7) with h | h; exact absurd ((lp_gt hL (by omega)).mpr h) hc; exact h
      refine lv_aload_n hx hb d_law_33 rfl (lv_at hl 0 rfl) ?_
      refine lv_iload hx hb d_law_34 (lv_at hl 4 rfl) ?_
      refine xq_sld X I hz hX hbl (i := i) (by omega) (by omega) d_law_36 ?_
      refine lv_bipush (v := nI 15) hx hb d_law_37 (by decide) ?_
      refine lv_iand hx hb d_law_39 ?_
      obtain ⟨k, hk, ek⟩ := and15 (xs i)
      refine xr_topi (y := nI k) ek ?_
      have kk : ∀ (ls : Array Slot) (σ : Nat → va_E) (H : Heap), lv_has ls 8 [(0, .ref b), (1, .ref (ad 0)), (2, .ref (ad 183)), (3, .ref (ad 192)), (4, .int (nI i))] → LI ad cI cJ cZ cC cG cP σ → xI D classes 193 ad s.heap σ H [] → W p l e room_1 s m #[Value.ref b] below meth c H [] (cells + 1) (slots + 6) (lw_Z below #[Value.ref b] s) (F0 m 867 ls []) := by
        intro ls σ H hl hI I
        refine lv_iinc (k := 4) (v := nI (i + 7)) (lv' := [(4, .int (nI (i + 7))), (0, .ref b), (1, .ref (ad 0)), (2, .ref (ad 183)), (3, .ref (ad 192))]) hx hb d_law_867 hl rfl (nI_add i 7) (by decide) rfl (fun ls hl => ?_)
        refine lv_goto hx hb d_law_870 rfl ?_
        have hl := lv_sub hl [1, 2, 3, 4, 0] rfl
        have hl : lv_has ls 8 [(0, .ref b), (1, .ref (ad 0)), (2, .ref (ad 183)), (3, .ref (ad 192)), (4, .int (nI (i + 7)))] := hl
        exact ih (i + 7) (cells + 1) (slots + 6) σ H ls (by omega) (by omega) (by omega) (by omega) hl hI I
      have hR : cells + 1 ≤ room_1.cells ∧ slots + 6 ≤ room_1.slots := ⟨by omega, by omega⟩
      match k, hk with
      | 0, _ => exact lv_tableIn (tgt := 120) hx hb d_law_40 (by decide) (by decide) (off := 80) rfl rfl (lop_make hx hb X hz hT hfl hX hbl hL hi7 hR hl hI I kk)
      | 1, _ => exact lv_tableIn (tgt := 156) hx hb d_law_40 (by decide) (by decide) (off := 116) rfl rfl (lop_put hx hb X hz hT hfl hX hbl hL hi7 hR hl hI I kk)
      | 2, _ => exact lv_tableIn (tgt := 216) hx hb d_law_40 (by decide) (by decide) (off := 176) rfl rfl (lop_at hx hb X hz hT hfl hX hbl hL hi7 hR hl hI I kk)
      | 3, _ => exact lv_tableIn (tgt := 284) hx hb d_law_40 (by decide) (by decide) (off := 244) rfl rfl (lop_size hx hb X hz hT hfl hX hbl hL hi7 hR hl hI I kk)
      | 4, _ => exact lv_tableIn (tgt := 309) hx hb d_law_40 (by decide) (by decide) (off := 269) rfl rfl (lop_data hx hb X hz hT hfl hX hbl hL hi7 hR hl hI I kk)
      | 5, _ => exact lv_tableIn (tgt := 396) hx hb d_law_40 (by decide) (by decide) (off := 356) rfl rfl (lop_spread hx hb X hz hT hfl hX hbl hL hi7 hR hl hI I kk)
      | 6, _ => exact lv_tableIn (tgt := 409) hx hb d_law_40 (by decide) (by decide) (off := 369) rfl rfl (lop_shift hx hb X hz hT hfl hX hbl hL hi7 hR hl hI I kk)
      | 7, _ => exact lv_tableIn (tgt := 434) hx hb d_law_40 (by decide) (by decide) (off := 394) rfl rfl (lop_characteristic hx hb X hz hT hfl hX hbl hL hi7 hR hMT hl hI I kk)
      | 8, _ => exact lv_tableIn (tgt := 459) hx hb d_law_40 (by decide) (by decide) (off := 419) rfl rfl (lop_character hx hb X hz hT hfl hX hbl hL hi7 hR hl hI I kk)
      | 9, _ => exact lv_tableIn (tgt := 484) hx hb d_law_40 (by decide) (by decide) (off := 444) rfl rfl (lop_count hx hb X hz hT hfl hX hbl hL hi7 hR hMT hl hI I kk)
      | 10, _ => exact lv_tableIn (tgt := 642) hx hb d_law_40 (by decide) (by decide) (off := 602) rfl rfl (lop_cell hx hb X hz hT hfl hX hbl hL hi7 hR hMT hl hI I kk)
      | 11, _ => exact lv_tableIn (tgt := 709) hx hb d_law_40 (by decide) (by decide) (off := 669) rfl rfl (lop_multiplicity hx hb X hz hT hfl hX hbl hL hi7 hR hMT hl hI I kk)
      | 12, _ => exact lv_tableIn (tgt := 765) hx hb d_law_40 (by decide) (by decide) (off := 725) rfl rfl (lop_distinct hx hb X hz hT hfl hX hbl hL hi7 hR hMT hl hI I kk)
      | 13, _ => exact lv_tableIn (tgt := 778) hx hb d_law_40 (by decide) (by decide) (off := 738) rfl rfl (lop_whole hx hb X hz hT hfl hX hbl hL hi7 hR hMT hl hI I kk)
      | 14, _ => exact lv_tableIn (tgt := 841) hx hb d_law_40 (by decide) (by decide) (off := 801) rfl rfl (lop_apart hx hb X hz hT hfl hX hbl hL hi7 hR hMT hl hI I kk)
      | 15, _ => exact lv_tableIn (tgt := 854) hx hb d_law_40 (by decide) (by decide) (off := 814) rfl rfl (lop_check hx hb X hz hT hfl hX hbl hL hi7 hR hMT hl hI I kk)
      | k + 16, h => exact absurd h (by omega)
