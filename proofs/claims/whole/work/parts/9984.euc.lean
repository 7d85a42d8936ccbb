/-! Euclid's steps, purely -/
def pwF : Nat → Nat
  | 1 => 4
  | 2 => 2
  | 3 => 6
  | 4 => 16
  | 5 => 32
  | _ => 54
theorem pwF_ok : ∀ n, n < 7 → 1 ≤ n → (nI n * (nI n - nI 1)) + ((nI 2 * (nI n - nI 2)) * (nI n - nI 3)) = nI (pwF n) := by decide +kernel
theorem pwF_le : ∀ n, n < 7 → 2 ≤ pwF n ∧ pwF n ≤ 54 := by decide +kernel
/-- the first number of U goes: j of its numbers are done -/
def cnF (U L : Nat → Int) (u l j : Nat) : Nat → Int := fun k => if k < j then U k * L l - (if u - l ≤ k then L (k - (u - l)) * U u else 0) else U k
def ngF (U : Nat → Int) (j : Nat) : Nat → Int := fun k => if k < j then -U k else U k
/-- reduce, before it is divided -/
def rdF (U L : Nat → Int) (u l : Nat) : Nat → Int := ngF (cnF (cnF U L u l u) L (u - 1) l (u - 1)) (u - 1)
theorem pl_div {d y z q x : Int} (h0 : d = z * y) (hz : 0 < z) (hx : x = d * q) : x / z = y * q := by
  rw [hx, h0, Int.mul_assoc, Int.mul_ediv_cancel_left _ (by omega)]
theorem pl_div2 {d y z q x : Int} (h0 : d = z * y) (hz : 0 < z) (hx : x = d * d * q) : x / (z * z) = y * (y * q) := by
  have : x = z * z * (y * (y * q)) := by rw [hx, h0]; grind
  rw [this, Int.mul_ediv_cancel_left _ (by have := Int.mul_pos hz hz; omega)]
theorem lm_si_ne {f : Nat → Int32} {n : Nat} {x : Int} (h : lm_si f n x) (h0 : x ≠ 0) : lm_u f n ≠ 0 := fun hu => by
  obtain ⟨⟨_, q, hq⟩, h1, h2⟩ := h
  rw [hu, Int.zero_add] at hq
  have hB := lm_B n
  rcases Int.lt_or_le q 0 with h | h
  · have := Int.mul_le_mul_of_nonneg_right (show q ≤ -1 by omega) (Int.le_of_lt hB)
    omega
  · rcases Int.lt_or_le 0 q with h' | h'
    · have := Int.mul_le_mul_of_nonneg_right (show 1 ≤ q by omega) (Int.le_of_lt hB)
      omega
    · have : q = 0 := by omega
      rw [this] at hq
      omega
theorem lm_dv_odd {f : Nat → Int32} {n z : Nat} {x y : Int} (h : lm_si f n x) (hz : z < 30 * n) (hy : lm_u f n = 2 ^ z * (2 * y + 1)) : ∃ y' : Int, x = 2 ^ z * (2 * y' + 1) := by
  obtain ⟨⟨_, q, hq⟩, _⟩ := h
  obtain ⟨r, hr⟩ : ∃ r, 30 * n = z + 1 + r := ⟨30 * n - z - 1, by omega⟩
  have e3 : (1073741824 : Int) ^ n = 2 ^ z * 2 * 2 ^ r := by
    rw [← Int.pow_succ, ← Int.pow_add, ← hr, Int.pow_mul]; rfl
  refine ⟨y + q * 2 ^ r, ?_⟩
  rw [hq, hy, e3]
  grind
theorem lm_odd_limb {g : Nat → Int32} {n : Nat} {y : Int} (h : lm_is g n (2 * y + 1)) (hn : 0 < n) : ∃ m : Nat, g 0 = nI (2 * m + 1) ∧ 2 * m + 1 < 1073741824 := by
  have h1 := lm_is_at h hn
  rw [Int.pow_zero, Int.ediv_one] at h1
  refine ⟨(((2 * y + 1) % 1073741824).toNat) / 2, ?_, by omega⟩
  rw [← Int32.toInt_inj, nI_toInt (by omega), h1]
  omega
