/-! printing, purely -/
theorem dl_fuel2 {v k : Nat} (hv : v < 10 ^ 50) (h : k = 0 ∨ 10 ^ k ≤ v) : ¬ k + 0 = 60 := by
  have := dl_small hv h
  omega
theorem q_i2c {v : Nat} (h : v < 65536) : ((nI v).toUInt32 % 65536).toInt32 = nI v := by
  have e : (nI v).toUInt32 = UInt32.ofNat v := rfl
  rw [e, ← Int32.toBitVec_inj]
  show (UInt32.ofNat v % 65536).toBitVec = BitVec.ofNat 32 v
  apply BitVec.eq_of_toNat_eq
  show (UInt32.ofNat v % 65536).toNat = (BitVec.ofNat 32 v).toNat
  have e2 : (UInt32.ofNat v).toNat = v % 2 ^ 32 := UInt32.toNat_ofNat'
  have : (65536 : UInt32).toNat = 65536 := rfl
  rw [UInt32.toNat_mod, e2, this, BitVec.toNat_ofNat]
  omega
theorem lm_p50 : ((10 : Int) ^ 50) * 2 < 1073741824 ^ 6 := by decide
theorem lm_si_u {f : Nat → Int32} {v : Nat} (h : lm_ok f 6) (hu : lm_u f 6 = (v : Int)) (hv : v < 10 ^ 50) : lm_si f 6 (v : Int) := by
  have h4 : ((10 ^ 50 : Nat) : Int) = 10 ^ 50 := by decide
  have h5 := lm_p50
  exact ⟨⟨h, 0, by rw [hu]; omega⟩, by omega, by omega⟩
theorem lm_abs {f : Nat → Int32} {x : Int} {v : Nat} (hv : v < 10 ^ 50) (h : lm_is f 6 x) (e : x = (v : Int)) : lm_ok f 6 ∧ lm_u f 6 = (v : Int) := by
  obtain ⟨h1, q, h2⟩ := h
  refine ⟨h1, ?_⟩
  have h3 := lm_u_range h1
  have h4 : ((10 ^ 50 : Nat) : Int) = 10 ^ 50 := by decide
  have h5 := lm_p50
  have hq : q = 0 := by
    rcases Int.lt_or_le q 0 with h | h
    · have := Int.mul_le_mul_of_nonneg_right (show q ≤ -1 by omega) (show (0 : Int) ≤ 1073741824 ^ 6 by decide)
      omega
    · rcases Int.lt_or_le 0 q with h' | h'
      · have := Int.mul_le_mul_of_nonneg_right (show 1 ≤ q by omega) (show (0 : Int) ≤ 1073741824 ^ 6 by decide)
        omega
      · omega
  rw [hq] at h2
  omega
theorem q_c16 {v : Nat} (h : v < 65536) : (nI v).toUInt32.toUInt16.toUInt32.toInt32 = nI v := by
  have e : (nI v).toUInt32 = UInt32.ofNat v := rfl
  rw [e, ← Int32.toBitVec_inj]
  show ((UInt32.ofNat v).toUInt16.toUInt32).toBitVec = BitVec.ofNat 32 v
  apply BitVec.eq_of_toNat_eq
  show ((UInt32.ofNat v).toUInt16.toUInt32).toNat = (BitVec.ofNat 32 v).toNat
  have e2 : (UInt32.ofNat v).toNat = v % 2 ^ 32 := UInt32.toNat_ofNat'
  rw [UInt16.toNat_toUInt32, UInt32.toNat_toUInt16, e2, BitVec.toNat_ofNat]
  omega
theorem q_narC {v : Nat} (h : v < 65536) : vp_nar .char (nI v) = nI v := q_c16 h
