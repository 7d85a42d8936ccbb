/-! the reference: bigLose, purely -/
theorem lose_digit {z : Int} (h0 : -(16777216 * 16777216) ≤ z) (h1 : z < 16777216) : ∃ v c : Nat, v < 16777216 ∧ c ≤ 16777216 ∧ z = (v : Int) - (c : Int) * 16777216 ∧ z % 16777216 = (v : Int) :=
  ⟨(z % 16777216).toNat, (-(z / 16777216)).toNat, by omega, by omega, by omega, by omega⟩
theorem lose_low {x y t c : Nat} (hy : y < 16777216) (ht : t < 16777216) (hc : c ≤ 16777216) : -(16777216 * 16777216) ≤ (x : Int) - (c : Int) - ((t * y : Nat) : Int) := by
  have h : t * y ≤ 16777215 * 16777215 := Nat.mul_le_mul (by omega) (by omega)
  omega
theorem lose_ty {y t : Nat} (hy : y < 16777216) (ht : t < 16777216) : t * y ≤ 281474943156225 := by
  have h : t * y ≤ 16777215 * 16777215 := Nat.mul_le_mul (by omega) (by omega)
  omega
theorem dv_mul {f : Nat → Int} {t : Int} : ∀ i, dv (fun j => t * f j) i = t * dv f i
  | 0 => by simp [dv]
  | i + 1 => by rw [dv, dv, dv_mul i, Int.mul_add, Int.mul_assoc]
theorem lose_end {P P2 : Nat → Int32} {w up n : Nat} {x t : Int} {c : Nat} (hwo : rg_ok P (300 * w) (up + n)) (hlow : ∀ j, j < 300 * w + up → P2 j = P j) (hok : rg_ok P2 (300 * w + up) n) (hle : x * t * 16777216 ^ up ≤ rg P (300 * w) (up + n)) (inv : rg P2 (300 * w + up) n = rg P (300 * w + up) n - t * x + (c : Int) * 16777216 ^ n) :
    rg_ok P2 (300 * w) (up + n) ∧ rg P2 (300 * w) (up + n) = rg P (300 * w) (up + n) - x * t * 16777216 ^ up := by
  have h1 := (hold_eq hwo).mp hle
  have h2 := (rg_range hok).2
  have hB := rg_B n
  have hx := Int.mul_comm x t
  have hc : c = 0 := (Nat.eq_zero_or_pos c).elim id (fun h => by
    have := Int.mul_le_mul_of_nonneg_right (show (1 : Int) ≤ (c : Int) by omega) (Int.le_of_lt hB)
    omega)
  rw [hc] at inv
  simp at inv
  constructor
  · intro j hj
    by_cases e : j < up
    · rw [hlow _ (by omega)]; exact hwo j hj
    · have h := hok (j - up) (by omega)
      rw [show 300 * w + up + (j - up) = 300 * w + j by omega] at h
      exact h
  · rw [rg_split, rg_split, inv, rg_congr (P := P2) (P' := P) (o := 300 * w) (o' := 300 * w) (n := up) (fun j hj => hlow _ (by omega)), hx, Int.sub_mul]
    omega
