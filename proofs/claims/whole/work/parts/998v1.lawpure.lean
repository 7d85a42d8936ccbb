/-! numbers between bounds -/
theorem nI_btw {v : Int32} (a b : Nat) (hb : a ≤ b ∧ b < 2 ^ 31) (h : ¬ (v < nI a ∨ nI b < v)) : ∃ k, v = nI k ∧ a ≤ k ∧ k ≤ b := by
  have h1 : nI a ≤ v := Int32.not_lt.mp fun q => h (Or.inl q)
  have h2 : v ≤ nI b := Int32.not_lt.mp fun q => h (Or.inr q)
  have ta : (nI b).toInt = b := Int32.toInt_ofNat_of_lt (by omega)
  have tb : (nI a).toInt = a := Int32.toInt_ofNat_of_lt (by omega)
  have e1 := Int32.le_iff_toInt_le.mp h1
  have e2 := Int32.le_iff_toInt_le.mp h2
  refine ⟨v.toInt.toNat, ?_, by omega, by omega⟩
  apply Int32.toInt_inj.mp
  rw [show (nI v.toInt.toNat).toInt = (v.toInt.toNat : Int) from Int32.toInt_ofNat_of_lt (by omega)]
  omega
theorem nI_ix {v : Int32} {n : Nat} (hn : n < 2 ^ 31) (h : ¬ (v < 0 ∨ nI n ≤ v)) : ∃ k, v = nI k ∧ k < n := by
  have h1 : (0 : Int32) ≤ v := Int32.not_lt.mp fun q => h (Or.inl q)
  have h2 : v < nI n := Int32.not_le.mp fun q => h (Or.inr q)
  have ta : (nI n).toInt = n := Int32.toInt_ofNat_of_lt (by omega)
  have e1 := Int32.le_iff_toInt_le.mp h1
  have e2 := Int32.lt_iff_toInt_lt.mp h2
  have e0 : (0 : Int32).toInt = 0 := by decide
  refine ⟨v.toInt.toNat, ?_, by omega⟩
  apply Int32.toInt_inj.mp
  rw [show (nI v.toInt.toNat).toInt = (v.toInt.toNat : Int) from Int32.toInt_ofNat_of_lt (by omega)]
  omega
theorem isS_iff {v : Int64} : isS v ↔ -1000000 ≤ v.toInt ∧ v.toInt ≤ 1000000 := by
  have e1 : (-1000000 : Int64).toInt = -1000000 := by decide
  have e2 : (1000000 : Int64).toInt = 1000000 := by decide
  simp only [isS, Int64.le_iff_toInt_le, e1, e2]
theorem isS_of {v : Int32} (h : -1000000 ≤ v.toInt ∧ v.toInt ≤ 1000000) : isS v.toInt64 := isS_iff.mpr (by rw [q_i2l]; exact h)
theorem isS_not {v : Int32} (h : v.toInt > 1000000 ∨ v.toInt < -1000000) : ¬ isS v.toInt64 := fun k => by
  have := isS_iff.mp k
  rw [q_i2l] at this
  omega
theorem LR_put {n : Nat} {A A' : Nat → Nat → Int32} {A9 : Nat → Int32} {rw : Nat} {S : Nat → Int32} {P : Nat → Nat → Int32} {Dt : Nat → Int32} {ln : Nat} {Tx Pr : Nat → Int32} {a b : Nat} {v : Int32} (h : LR n A A9 rw S P Dt ln Tx Pr) (hn : n ≤ 6) (ha : a < n) (hb : b < n) (hv : -1000000 ≤ v.toInt ∧ v.toInt ≤ 1000000) (hA : ∀ i j, i < 6 → A' i j = if (i = a ∧ j = b) ∨ (i = b ∧ j = a) then v else A i j) : LR n A' (upd (upd A9 (6 * a + b) v) (6 * b + a) v) rw S P Dt ln Tx Pr := by
  obtain ⟨r1, r2, r3, r⟩ := h
  have hu : ∀ i j, i < 6 → j < 6 → upd (upd A9 (6 * a + b) v) (6 * b + a) v (6 * i + j) = if (i = a ∧ j = b) ∨ (i = b ∧ j = a) then v else A9 (6 * i + j) := fun i j hi hj => by
    by_cases e1 : i = b ∧ j = a
    · rw [e1.1, e1.2, upd_s, if_pos (Or.inr ⟨rfl, rfl⟩)]
    · rw [upd_n (by omega)]
      by_cases e2 : i = a ∧ j = b
      · rw [e2.1, e2.2, upd_s, if_pos (Or.inl ⟨rfl, rfl⟩)]
      · rw [upd_n (by omega), if_neg (fun h => h.elim e2 e1)]
  refine ⟨fun i j hi hj => ?_, fun i j hi hj => ?_, fun i j hi hj => ⟨?_, ?_⟩, r⟩
  · rw [hA i j hi]; split
    · exact hv
    · exact r1 i j hi hj
  · rw [hu i j hi hj]; split
    · exact hv
    · exact r2 i j hi hj
  · rw [hu i j (by omega) (by omega), hA i j (by omega)]
    by_cases e : (i = a ∧ j = b) ∨ (i = b ∧ j = a)
    · rw [if_pos e, if_pos e]
    · rw [if_neg e, if_neg e]; exact (r3 i j hi hj).1
  · rw [hA i j (by omega), hA j i (by omega)]
    by_cases e : (i = a ∧ j = b) ∨ (i = b ∧ j = a)
    · rw [if_pos e, if_pos (by omega)]
    · rw [if_neg e, if_neg (by omega)]; exact (r3 i j hi hj).2
