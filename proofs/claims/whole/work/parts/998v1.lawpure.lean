/-! numbers between bounds -/
theorem nI_btw {v : Int32} (a b : Nat) (hb : a ≤ b ∧ b < 2 ^ 31) (h : ¬ (v < nI a ∨ nI b < v)) : ∃ k, v = nI k ∧ a ≤ k ∧ k ≤ b := by
  have h1 : nI a ≤ v := Int32.not_lt.mp fun q => h (Or.inl q)
  have h2 : v ≤ nI b := Int32.not_lt.mp fun q => h (Or.inr q)
  have ta : (nI b).toInt = b := Int32.toInt_ofNat_of_lt (by omega)
  have tb : (nI a).toInt = a := Int32.toInt_ofNat_of_lt (by omega)
  have e1 := Int32.le_iff_toInt_le.mp h1
  have e2 := Int32.le_iff_toInt_le.mp h2
  refine ⟨v.toInt.toNat, ?_, by omega, by omega⟩
  apply Int32.toInt_inj.mp
  rw [show (nI v.toInt.toNat).toInt = (v.toInt.toNat : Int) from Int32.toInt_ofNat_of_lt (by omega)]
  omega
