/-! the lowest bit; inverses of odd numbers -/
theorem lb_dbl (y : BitVec 32) : (y <<< 1) &&& -(y <<< 1) = (y &&& -y) <<< 1 := by
  have h : -(y <<< 1) = (-y) <<< 1 := by
    rw [BitVec.shiftLeft_eq_mul_twoPow, BitVec.shiftLeft_eq_mul_twoPow, BitVec.neg_mul]
  rw [h, ← BitVec.shiftLeft_and_distrib]
theorem lb_add (y : BitVec 32) : y <<< 1 ||| 1#32 = y <<< 1 + 1#32 := by
  have h0 : (y <<< 1) &&& 1#32 = 0#32 := by
    apply BitVec.eq_of_getLsbD_eq
    intro i hi
    rw [BitVec.getLsbD_and, BitVec.getLsbD_shiftLeft]
    rcases i with _ | i <;> simp
  rw [BitVec.add_eq_or_of_and_eq_zero _ _ h0]
theorem lb_odd (y : BitVec 32) : (y <<< 1 + 1#32) &&& -(y <<< 1 + 1#32) = 1#32 := by
  have h : -(y <<< 1 + 1#32) = ~~~(y <<< 1) := by
    rw [BitVec.not_eq_neg_add, BitVec.neg_add]
  rw [h, ← lb_add]
  apply BitVec.eq_of_getLsbD_eq
  intro i hi
  rw [BitVec.getLsbD_and, BitVec.getLsbD_or, BitVec.getLsbD_not, BitVec.getLsbD_shiftLeft]
  rcases i with _ | i
  · simp
  · simp
    intros
    simp_all

theorem lb_split : ∀ (x : Nat), 0 < x → ∃ k m, x = 2 ^ k * (2 * m + 1)
  | x, h => by
    by_cases e : x % 2 = 0
    · obtain ⟨k, m, hk⟩ := lb_split (x / 2) (by omega)
      refine ⟨k + 1, m, ?_⟩
      rw [Nat.pow_succ, Nat.mul_right_comm, ← hk]
      omega
    · exact ⟨0, x / 2, by omega⟩
theorem lb_two (z : Nat) : BitVec.ofNat 32 (z * 2) = BitVec.ofNat 32 z <<< 1 := by
  rw [BitVec.shiftLeft_eq_mul_twoPow]
  apply BitVec.eq_of_toNat_eq
  rw [BitVec.toNat_mul, BitVec.toNat_ofNat, BitVec.toNat_ofNat, BitVec.toNat_twoPow]
  omega
theorem lb_nat : ∀ (k m : Nat), (BitVec.ofNat 32 (2 ^ k * (2 * m + 1))) &&& -(BitVec.ofNat 32 (2 ^ k * (2 * m + 1))) = BitVec.ofNat 32 (2 ^ k)
  | 0, m => by
    have e : BitVec.ofNat 32 (2 ^ 0 * (2 * m + 1)) = BitVec.ofNat 32 m <<< 1 + 1#32 := by
      rw [← lb_two, show 2 ^ 0 * (2 * m + 1) = m * 2 + 1 by omega, BitVec.ofNat_add]
    rw [e]
    exact lb_odd _
  | k + 1, m => by
    rw [Nat.pow_succ, Nat.mul_right_comm, lb_two, lb_dbl, lb_nat k m, ← lb_two]

def ivF (b : Int32) : Nat → Int32
  | 0 => b
  | k + 1 => ivF b k * (2 - b * ivF b k)
theorem iv_sq (b : Int32) (k : Nat) : 1 - b * ivF b (k + 1) = (1 - b * ivF b k) * (1 - b * ivF b k) := by
  rw [ivF]
  grind
theorem iv_zero {b c : Int32} (h : 1 - b * b = 8 * c) : b * ivF b 4 = 1 := by
  have h0 : 1 - b * ivF b 0 = 8 * c := h
  have h1 : 1 - b * ivF b 1 = 64 * (c * c) := by rw [iv_sq, h0]; grind
  have h2 : 1 - b * ivF b 2 = 4096 * (c * c * (c * c)) := by rw [iv_sq, h1]; grind
  have h3 : 1 - b * ivF b 3 = 16777216 * (c * c * (c * c) * (c * c * (c * c))) := by rw [iv_sq, h2]; grind
  have h4 : 1 - b * ivF b 4 = 0 := by
    rw [iv_sq, h3]
    generalize c * c * (c * c) * (c * c * (c * c)) = z
    have : (16777216 : Int32) * z * (16777216 * z) = (16777216 * 16777216) * (z * z) := by grind
    rw [this, show (16777216 : Int32) * 16777216 = 0 by decide]
    grind
  grind
theorem iv_odd (m : Nat) : nI (2 * m + 1) * ivF (nI (2 * m + 1)) 4 = 1 := by
  obtain ⟨t, ht⟩ : ∃ t, m * (m + 1) = 2 * t := ⟨m * (m + 1) / 2, by
    have : m * (m + 1) % 2 = 0 := by
      rcases Nat.mod_two_eq_zero_or_one m with h | h
      · rw [Nat.mul_mod, h, Nat.zero_mul]
      · rw [Nat.mul_mod, show (m + 1) % 2 = 0 by omega, Nat.mul_zero]
    omega⟩
  have e1 : nI (2 * m + 1) = 2 * nI m + 1 := by
    rw [← nI_add, ← pk_mul]; rfl
  have e2 : nI m * (nI m + 1) = 2 * nI t := by
    have : nI m * nI (m + 1) = nI 2 * nI t := by rw [pk_mul, pk_mul, ht]
    rw [← nI_add] at this
    exact this
  refine iv_zero (c := -nI t) ?_
  rw [e1]
  have : (1 : Int32) - (2 * nI m + 1) * (2 * nI m + 1) = -4 * (nI m * (nI m + 1)) := by grind
  rw [this, e2]
  grind
theorem lb_and {x k m : Nat} (h : x = 2 ^ k * (2 * m + 1)) : (nI x &&& -nI x) = nI (2 ^ k) := by
  rw [← Int32.toBitVec_inj]
  show (nI x).toBitVec &&& -(nI x).toBitVec = BitVec.ofNat 32 (2 ^ k)
  have e : (nI x).toBitVec = BitVec.ofNat 32 (2 ^ k * (2 * m + 1)) := by rw [h]; rfl
  rw [e]
  exact lb_nat k m
def bc1 (x : Int32) : Int32 := x - ((x.toUInt32 >>> ((nI 1 : Int32).toUInt32 &&& Int32.toUInt32 31)).toInt32 &&& nI 1431655765)
def bc2 (x : Int32) : Int32 := (x &&& nI 858993459) + ((x.toUInt32 >>> ((nI 2 : Int32).toUInt32 &&& Int32.toUInt32 31)).toInt32 &&& nI 858993459)
def bc3 (x : Int32) : Int32 := (x + (x.toUInt32 >>> ((nI 4 : Int32).toUInt32 &&& Int32.toUInt32 31)).toInt32) &&& nI 252645135
def bc4 (x : Int32) : Int32 := x + (x.toUInt32 >>> ((nI 8 : Int32).toUInt32 &&& Int32.toUInt32 31)).toInt32
def bc5 (x : Int32) : Int32 := x + (x.toUInt32 >>> ((nI 16 : Int32).toUInt32 &&& Int32.toUInt32 31)).toInt32
theorem bc_ones : ∀ k, k < 31 → (bc5 (bc4 (bc3 (bc2 (bc1 (nI (2 ^ k - 1)))))) &&& nI 63) = nI k := by decide +kernel
