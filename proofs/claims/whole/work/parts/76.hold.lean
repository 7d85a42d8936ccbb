/-! the reference: bigHolds, bigLose, purely -/
theorem rg_split {P : Nat → Int32} {o up : Nat} : ∀ n, rg P o (up + n) = rg P o up + rg P (o + up) n * 16777216 ^ up
  | 0 => by simp [rg]
  | n + 1 => by
    rw [show up + (n + 1) = (up + n) + 1 from rfl, rg, rg_split n, rg, Int.add_mul, Int.pow_add, ← Nat.add_assoc, Int.mul_assoc ((P (o + up + n)).toInt), Int.mul_comm (16777216 ^ n : Int)]
    omega
theorem rg_ok_up {P : Nat → Int32} {o up n : Nat} (h : rg_ok P o (up + n)) : rg_ok P (o + up) n := fun j hj => by rw [Nat.add_assoc]; exact h _ (by omega)
theorem hold_eq {P : Nat → Int32} {o up n : Nat} {x : Int} (h : rg_ok P o (up + n)) : x * 16777216 ^ up ≤ rg P o (up + n) ↔ x ≤ rg P (o + up) n := by
  have h1 := rg_range (rg_ok_le h (show up ≤ up + n by omega))
  have hB := rg_B up
  rw [rg_split]
  constructor
  · intro h2
    refine (Int.lt_or_le (rg P (o + up) n) x).elim (fun h3 => ?_) id
    have h4 := Int.mul_le_mul_of_nonneg_right (show rg P (o + up) n + 1 ≤ x from h3) (Int.le_of_lt hB)
    rw [Int.add_mul, Int.one_mul] at h4
    omega
  · intro h2
    have h4 := Int.mul_le_mul_of_nonneg_right h2 (Int.le_of_lt hB)
    omega
theorem rg_Ble {a b : Nat} (h : a ≤ b) : (16777216 : Int) ^ a ≤ 16777216 ^ b := by
  obtain ⟨d, rfl⟩ : ∃ d, b = a + d := ⟨b - a, by omega⟩
  rw [Int.pow_add]
  have := rg_B d
  have := rg_B a
  have := Int.mul_le_mul_of_nonneg_left (show (1 : Int) ≤ 16777216 ^ d by omega) (show (0 : Int) ≤ 16777216 ^ a by omega)
  omega
theorem hold_lt {P : Nat → Int32} {o q a b up : Nat} (ha : rg_ok P o a) (hb : rg_ok P q b) (h0 : 0 < b) (ht : P (q + (b - 1)) ≠ 0) (hab : a < b + up) : ¬ rg P q b * 16777216 ^ up ≤ rg P o a := by
  have h1 := (rg_range ha).2
  have h2 := rg_top hb h0 ht
  have h3 := rg_Ble (show a ≤ (b - 1) + up by omega)
  have h4 := Int.mul_le_mul_of_nonneg_right h2 (Int.le_of_lt (rg_B up))
  rw [Int.pow_add] at h3
  omega
theorem hold_gt {P : Nat → Int32} {o q a b up : Nat} (ha : rg_ok P o a) (hb : rg_ok P q b) (ht : 0 < a → P (o + (a - 1)) ≠ 0) (hab : b + up < a) : rg P q b * 16777216 ^ up ≤ rg P o a := by
  have h1 := (rg_range hb).2
  have h2 := rg_top ha (by omega) (ht (by omega))
  have h3 := rg_Ble (show b + up ≤ a - 1 by omega)
  have h4 := Int.mul_le_mul_of_nonneg_right (Int.le_of_lt h1) (Int.le_of_lt (rg_B up))
  rw [Int.pow_add] at h3
  omega
