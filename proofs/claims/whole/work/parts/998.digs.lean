/-! limbs as digits: halves, and division by odd numbers -/
theorem lm_dig {f : Nat → Int32} {y : Int} : ∀ {n : Nat}, (∀ j, j < n → (f j).toInt = y / 1073741824 ^ j % 1073741824) → lm_u f n = y % 1073741824 ^ n
  | 0, _ => by rw [lm_u, Int.pow_zero, Int.emod_one]
  | n + 1, h => by
    rw [lm_u, lm_dig (n := n) (fun j hj => h j (by omega)), h n (by omega), Int.pow_succ]
    have h1 := lm_B n
    have h2 := Int.mul_ediv_add_emod y (1073741824 ^ n)
    have h3 := Int.mul_ediv_add_emod (y / 1073741824 ^ n) 1073741824
    have h4 := Int.emod_nonneg y (show (1073741824 : Int) ^ n ≠ 0 by omega)
    have h5 := Int.emod_lt_of_pos y h1
    have h6 := Int.emod_nonneg (y / 1073741824 ^ n) (show (1073741824 : Int) ≠ 0 by decide)
    have h7 := Int.emod_lt_of_pos (y / 1073741824 ^ n) (show (0 : Int) < 1073741824 by decide)
    generalize y / 1073741824 ^ n % 1073741824 = d at *
    generalize y / 1073741824 ^ n / 1073741824 = q at *
    generalize y % 1073741824 ^ n = r at *
    generalize hB : (1073741824 : Int) ^ n = B at *
    have e : y = r + d * B + B * 1073741824 * q := by
      rw [← h2, ← h3]; grind
    have hr : 0 ≤ r + d * B := Int.add_nonneg h4 (Int.mul_nonneg h6 (by omega))
    have hl : r + d * B < B * 1073741824 := by
      have := Int.mul_le_mul_of_nonneg_right (show d ≤ 1073741823 by omega) (Int.le_of_lt h1)
      grind
    rw [e, Int.add_mul_emod_self_left, Int.emod_eq_of_lt hr hl]
theorem lm_is_dig {f : Nat → Int32} {y : Int} {n : Nat} (h : ∀ j, j < n → (f j).toInt = y / 1073741824 ^ j % 1073741824) : lm_is f n y := by
  refine ⟨fun j hj => ?_, y / 1073741824 ^ n, ?_⟩
  · rw [h j hj]
    exact ⟨Int.emod_nonneg _ (by decide), Int.emod_lt_of_pos _ (by decide)⟩
  · rw [lm_dig h]
    have := Int.mul_ediv_add_emod y (1073741824 ^ n)
    grind
theorem lm_dig_u {f : Nat → Int32} : ∀ {n j : Nat}, lm_ok f n → j < n → (f j).toInt = lm_u f n / 1073741824 ^ j % 1073741824
  | 0, _, _, h => absurd h (Nat.not_lt_zero _)
  | n + 1, j, hok, hj => by
    have h1 := lm_B j
    by_cases e : j = n
    · subst e
      have hr := lm_u_range (lm_ok_le hok (Nat.le_succ j))
      have hd := hok j hj
      rw [lm_u, Int.add_mul_ediv_right _ _ (by omega), Int.ediv_eq_zero_of_lt hr.1 hr.2, Int.zero_add, Int.emod_eq_of_lt hd.1 hd.2]
    · rw [lm_u, lm_dig_u (lm_ok_le hok (Nat.le_succ n)) (show j < n by omega)]
      obtain ⟨k, rfl⟩ : ∃ k, n = j + 1 + k := ⟨n - j - 1, by omega⟩
      have e2 : (f (j + 1 + k)).toInt * 1073741824 ^ (j + 1 + k) = (f (j + 1 + k)).toInt * 1073741824 ^ k * 1073741824 * 1073741824 ^ j := by
        rw [Int.pow_add, Int.pow_succ]; grind
      rw [e2, Int.add_mul_ediv_right _ _ (by omega), Int.add_mul_emod_self_right]
theorem lm_is_at {f : Nat → Int32} {y : Int} {n j : Nat} (h : lm_is f n y) (hj : j < n) : (f j).toInt = y / 1073741824 ^ j % 1073741824 := by
  obtain ⟨hok, q, rfl⟩ := h
  rw [lm_dig_u hok hj]
  have h1 := lm_B j
  obtain ⟨k, rfl⟩ : ∃ k, n = j + 1 + k := ⟨n - j - 1, by omega⟩
  have e2 : q * 1073741824 ^ (j + 1 + k) = q * 1073741824 ^ k * 1073741824 * 1073741824 ^ j := by
    rw [Int.pow_add, Int.pow_succ]; grind
  rw [e2, Int.add_mul_ediv_right _ _ (by omega), Int.add_mul_emod_self_right]
/-- beyond the limbs: all as the sign -/
theorem lm_si_ext {f : Nat → Int32} {x : Int} {n j : Nat} (h : lm_si f n x) (hj : n ≤ j) : x / 1073741824 ^ j % 1073741824 = if x < 0 then 1073741823 else 0 := by
  have h1 := lm_B j
  have h2 : (1073741824 : Int) ^ n ≤ 1073741824 ^ j := by
    obtain ⟨k, rfl⟩ : ∃ k, j = n + k := ⟨j - n, by omega⟩
    rw [Int.pow_add]
    have := Int.mul_le_mul_of_nonneg_left (show (1 : Int) ≤ 1073741824 ^ k by have := lm_B k; omega) (Int.le_of_lt (lm_B n))
    omega
  have h3 := h.2.1
  have h4 := h.2.2
  split
  · have : x / 1073741824 ^ j = -1 := by
      rw [Int.ediv_eq_iff_of_pos h1]
      constructor <;> omega
    rw [this]; decide
  · rw [Int.ediv_eq_zero_of_lt (by omega) (by omega)]; decide
theorem lm_hv {y : Int} {b : Nat} (hb : b < 30) : (y / 1073741824 % 1073741824 * 1073741824 + y % 1073741824) / 2 ^ b % 1073741824 = y / 2 ^ b % 1073741824 := by
  obtain ⟨k, hk⟩ : ∃ k, k + b = 30 := ⟨30 - b, by omega⟩
  have hp : (0 : Int) < 2 ^ b := Int.pow_pos (by decide)
  have e : (1073741824 : Int) = 2 ^ k * 2 ^ b := by rw [← Int.pow_add, hk]; decide
  have h1 := Int.mul_ediv_add_emod y 1073741824
  have h2 := Int.mul_ediv_add_emod (y / 1073741824) 1073741824
  have h3 : y = y / 1073741824 % 1073741824 * 1073741824 + y % 1073741824 + y / 1073741824 / 1073741824 * (2 ^ k * 1073741824) * 2 ^ b := by
    have : y / 1073741824 / 1073741824 * (2 ^ k * 1073741824) * 2 ^ b = y / 1073741824 / 1073741824 * (2 ^ k * 2 ^ b) * 1073741824 := by grind
    rw [this, ← e]
    omega
  conv => rhs; rw [h3]
  rw [Int.add_mul_ediv_right _ _ (by omega), ← Int.mul_assoc, Int.add_mul_emod_self_right]
theorem lm_top {f : Nat → Int32} {n : Nat} {x : Int} (hn : 0 < n) (h : lm_si f n x) : (f (n - 1)).toInt ≥ 536870912 ↔ x < 0 := by
  obtain ⟨k, rfl⟩ : ∃ k, n = k + 1 := ⟨n - 1, by omega⟩
  exact lm_si_top h
