/-! the law's entry: what the tables say of the world's classes -/
theorem lt_t {w : Cond} (h : w ∈ tables_1) : w ∈ lw_tbl := List.mem_append_right _ h
theorem law_AW {args : Array Value} {s : State} (hts : ∀ w ∈ lw_tbl, w.before args s = true) : ∀ w ∈ AW, w.before args s = true := fun w hw => hts w (List.mem_filter.mp hw).1
theorem law_K {args : Array Value} {s : State} (hts : ∀ w ∈ lw_tbl, w.before args s = true) (ha : aoOK s) : ∃ (D : va_G) (cI cJ cZ cC cG cP : ClassId), va_K D classes (xT cI cJ cZ cC cG cP) s := by
  have hAW := law_AW hts
  obtain ⟨c0, i0, k0⟩ := u_known hAW fw_S (n := 7) (hAW _ (aw_1 (List.mem_of_getElem? (i := 28) (by decide +kernel)) (by decide +kernel)))
  obtain ⟨c1, i1, k1⟩ := u_known hAW fw_U (n := 3) (hts (.instantiable R_U 3) (lt_t (by decide +kernel)))
  obtain ⟨c2, i2, k2⟩ := u_known hAW fw_E (n := 14) (hts (.instantiable R_E 14) (lt_t (by decide +kernel)))
  obtain ⟨c3, i3, k3⟩ := u_known hAW fw_P (n := 4) (hts (.instantiable R_P 4) (lt_t (by decide +kernel)))
  obtain ⟨c4, i4, k4⟩ := u_known hAW fw_B (n := 2) (hts (.instantiable R_B 2) (lt_t (by decide +kernel)))
  obtain ⟨c5, i5, k5⟩ := u_known hAW fw_C (n := 3) (hts (.instantiable R_C 3) (lt_t (by decide +kernel)))
  obtain ⟨c6, i6, k6⟩ := u_known hAW fw_R (n := 4) (hts (.instantiable R_R 4) (lt_t (by decide +kernel)))
  obtain ⟨c7, i7, k7⟩ := u_known hAW fw_M (n := 14) (hts (.instantiable R_M 14) (lt_t (by decide +kernel)))
  obtain ⟨cI, kI, oI, a1, a2, a3⟩ := Cond.arrayClass_spec (hts (.arrayClass .int) (lt_t (by decide +kernel)))
  obtain ⟨cJ, kJ, oJ, b1, b2, b3⟩ := Cond.arrayClass_spec (hts (.arrayClass .long) (lt_t (by decide +kernel)))
  obtain ⟨cZ, kZ, oZ, d1, d2, d3⟩ := Cond.arrayClass_spec (hts (.arrayClass .boolean) (lt_t (by decide +kernel)))
  obtain ⟨cC, kC, oC, e1, e2, e3⟩ := Cond.arrayClass_spec (hts (.arrayClass .char) (lt_t (by decide +kernel)))
  obtain ⟨oG, cG, kG, f1, f2, f3, f4, f5⟩ := arrayOverA_spec ha.1
  obtain ⟨oP, cP, kP, g1, g2, g3, g4, g5⟩ := Cond.arrayOver_spec ha.2
  refine ⟨(fun c => match c with | 0 => c0 | 1 => c1 | 2 => c2 | 3 => c3 | 4 => c4 | 5 => c5 | 6 => c6 | _ => c7, fun c => match c with | 0 => i0 | 1 => i1 | 2 => i2 | 3 => i3 | 4 => i4 | 5 => i5 | 6 => i6 | _ => i7), cI, cJ, cZ, cC, cG, cP, fun c q hq => ?_, fun k q hq => ?_⟩
  · match c, hq with
    | 0, hq => cases hq; exact k0
    | 1, hq => cases hq; exact k1
    | 2, hq => cases hq; exact k2
    | 3, hq => cases hq; exact k3
    | 4, hq => cases hq; exact k4
    | 5, hq => cases hq; exact k5
    | 6, hq => cases hq; exact k6
    | 7, hq => cases hq; exact k7
    | c + 8, hq => exact absurd hq (by simp)
  · match k, hq with
    | 0, hq => cases hq; exact ⟨fun N z => ⟨(fun k h => by cases h), kI, a2, oI, a3⟩, a1⟩
    | 1, hq => cases hq; exact ⟨fun N z => ⟨(fun k h => by cases h), kJ, b2, oJ, b3⟩, b1⟩
    | 2, hq => cases hq; exact ⟨fun N z => ⟨(fun k h => by cases h), kZ, d2, oZ, d3⟩, d1⟩
    | 3, hq => cases hq; exact ⟨fun N z => ⟨(fun k h => by cases h), kC, e2, oC, e3⟩, e1⟩
    | 4, hq => cases hq; exact ⟨fun N z => ⟨(fun k h => by cases h), kG, f3, oG, f4⟩, f5⟩
    | 5, hq => cases hq; exact ⟨fun N z => ⟨(fun k h => by cases h), kP, g3, oP, g4⟩, kP, oP, g3, g4, g1, g5⟩
    | k + 6, hq => exact absurd hq (by simp)
theorem law_xt {args : Array Value} {s : State} {A : Nat → Prop} (hts : ∀ w ∈ lw_tbl, w.before args s = true) (hgv : (Jvm.Cond.and given_1 narrow_1).before args s = true) (hA : ∀ a : Nat, a < s.heap.size → ¬ A a) : xtOK A s := by
  have hs := flat_of_before _ hgv
  refine ⟨fun q hq => ?_, xtZ.of (hts (.laysStatic Bundle.tN "UNASSIGNED_STACK" Bundle.steD) (lt_t (by decide +kernel))) (hs (.isRef (.static Bundle.tN "UNASSIGNED_STACK" Bundle.steD)) (by decide +kernel)) hA, xtZ.of (hts (.laysStatic Bundle.tN "SUPPRESSED_SENTINEL" Bundle.listD) (lt_t (by decide +kernel))) (hs (.isRef (.static Bundle.tN "SUPPRESSED_SENTINEL" Bundle.listD)) (by decide +kernel)) hA, va_Nw.of rfl (hts (.declares (Bundle.initS "java/lang/RuntimeException")) (lt_t (by decide +kernel))), va_Nw.of rfl (hts (.declares (Bundle.initS "java/lang/Exception")) (lt_t (by decide +kernel))), va_Nw.of rfl (hts (.declares (Bundle.initS Bundle.tN)) (lt_t (by decide +kernel))), va_Nw.of rfl (hts (.castable xt_A xt_A) (lt_t (by decide +kernel))), va_Nw.of rfl (hts (.castable xt_I xt_I) (lt_t (by decide +kernel))), ?_⟩
  · have h1 : ∀ q ∈ xt_strs, Cond.stringRef "SpectrumDesk" q.1 q.2 ∈ tables_1 := by decide +kernel
    have h2 := hts _ (lt_t (h1 q hq))
    obtain ⟨c, kc, hc, -⟩ : ∃ (c : ClassId) (kc : Class), s.vm.findClass "SpectrumDesk" = some c ∧ True := by
      obtain ⟨c, kc, hc, hk, -⟩ := Cond.instantiable_spec (hts (.instantiable "SpectrumDesk" 7) (lt_t (by decide +kernel)))
      exact ⟨c, kc, hc, trivial⟩
    obtain ⟨-, -, -, a, -, -, -, -, -, hev⟩ := Cond.stringRef_spec hc h2
    exact ⟨a, vk_R.of h2 hev⟩
  · exact hs (.not (.castable xt_A xt_I)) (by decide +kernel)
