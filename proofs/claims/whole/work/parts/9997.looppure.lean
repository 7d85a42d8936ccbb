/-! the law's loop: numbers -/
theorem and15 (v : Int32) : ∃ k, k < 16 ∧ v &&& nI 15 = nI k := by
  refine ⟨(v.toBitVec &&& 15#32).toNat, ?_, ?_⟩
  · rw [BitVec.toNat_and]
    exact Nat.lt_of_le_of_lt Nat.and_le_right (by decide)
  · apply Int32.toBitVec_inj.mp
    rw [Int32.toBitVec_and]
    show v.toBitVec &&& 15#32 = BitVec.ofNat 32 _
    rw [BitVec.ofNat_toNat, BitVec.setWidth_eq]
theorem lp_gt {L i : Nat} (hL : L ≤ 3584) (hi : i ≤ 4000) : (nI L - nI 7 < nI i) ↔ L < i + 7 := by
  have h1 : (nI L).toInt = L := Int32.toInt_ofNat_of_lt (by omega)
  have h2 : (nI i).toInt = i := Int32.toInt_ofNat_of_lt (by omega)
  have h3 : (nI 7).toInt = 7 := by decide
  have h4 : (nI L - nI 7).toInt = (L : Int) - 7 := by rw [q_isub (by rw [h1, h3]; omega) (by rw [h1, h3]; omega), h1, h3]
  rw [Int32.lt_iff_toInt_lt, h4, h2]
  omega
