/-! the reference: bigDivide, purely -/
theorem dv_nonneg {f : Nat → Int} (h : ∀ j, 0 ≤ f j) : ∀ i, 0 ≤ dv f i
  | 0 => Int.le_refl _
  | i + 1 => by
    have h1 := dv_nonneg h i
    have h2 := Int.mul_nonneg (h i) (Int.le_of_lt (rg_B i))
    rw [dv]; omega
/-- two high digits -/
theorem quo_high {P : Nat → Int32} {o a i : Nat} (ha : rg_ok P o a) (hi : a ≤ i + 2) : (dg P o a (i + 1) * 16777216 + dg P o a i) * 16777216 ^ i ≤ rg P o a := by
  rw [← dv_all (P := P) (o := o) hi, dv, dv, Int.pow_succ, Int.add_mul, Int.mul_assoc, Int.mul_comm (16777216 : Int) (16777216 ^ i)]
  have := dv_nonneg (fun j => (dg_range (j := j) ha).1) i
  omega
theorem quo_top {P : Nat → Int32} {q b : Nat} (hb : rg_ok P q (b + 1)) : rg P q (b + 1) ≤ ((P (q + b)).toInt + 1) * 16777216 ^ b := by
  have h := (rg_range (rg_ok_le hb (Nat.le_succ b))).2
  rw [rg, Int.add_mul]; omega
/-- the length of a number below a bound -/
theorem quo_len {P : Nat → Int32} {o a i : Nat} (ha : rg_ok P o a) (ht : 0 < a → P (o + (a - 1)) ≠ 0) (h : rg P o a < 16777216 ^ i) : a ≤ i := by
  refine Nat.le_of_not_lt fun h1 => ?_
  have h2 := rg_top ha (by omega) (ht (by omega))
  have h3 := rg_Ble (show i ≤ a - 1 by omega)
  omega
/-- the digit that is tried is not too large: hi is high, tp the top digit and one -/
theorem quo_try {Y W Bk Bb hi : Int} {tp q : Int} (hq : q * tp ≤ hi) (q0 : 0 ≤ q) (hBk : 0 < Bk) (hBb : 0 < Bb) (hY : Y ≤ tp * Bb) (hW : hi * (Bb * Bk) ≤ W) : Y * q * Bk ≤ W := by
  have h1 : Y * q ≤ tp * Bb * q := Int.mul_le_mul_of_nonneg_right hY q0
  have h2 : q * tp * Bb ≤ hi * Bb := Int.mul_le_mul_of_nonneg_right hq (Int.le_of_lt hBb)
  have h3 : tp * Bb * q = q * tp * Bb := by rw [Int.mul_comm (tp * Bb) q, Int.mul_assoc]
  have h4 : Y * q * Bk ≤ hi * Bb * Bk := Int.mul_le_mul_of_nonneg_right (by omega) (Int.le_of_lt hBk)
  rw [← Int.mul_assoc] at hW
  omega
theorem quo_small {Y Bk q W : Int} (hY : 0 < Y) (hB : 0 < Bk) (h1 : Y * q * Bk ≤ W) (h2 : W < Y * (Bk * 16777216)) : q < 16777216 := by
  refine Int.lt_of_not_ge fun h => ?_
  have h3 : Y * 16777216 ≤ Y * q := Int.mul_le_mul_of_nonneg_left h (Int.le_of_lt hY)
  have h4 : Y * 16777216 * Bk ≤ Y * q * Bk := Int.mul_le_mul_of_nonneg_right h3 (Int.le_of_lt hB)
  rw [Int.mul_assoc, Int.mul_comm 16777216 Bk] at h4
  omega
theorem rg_cons {P : Nat → Int32} {o n : Nat} : rg P o (n + 1) = (P o).toInt + rg P (o + 1) n * 16777216 := by
  rw [Nat.add_comm n 1, rg_split]
  simp [rg]
theorem quo_end {x y q r : Int} (h : x = r + y * q) (h0 : 0 ≤ r) (h1 : r < y) : x / y = q ∧ x % y = r := by
  subst h
  rw [Int.add_mul_ediv_left _ _ (by omega), Int.add_mul_emod_self_left, Int.ediv_eq_zero_of_lt h0 h1, Int.emod_eq_of_lt h0 h1]
  simp
theorem rb_same {P L M P' L' M' : Nat → Int32} {v : Nat} {x : Int} (hp : ∀ j, 300 * v ≤ j → j < 300 * v + 300 → P' j = P j) (hl : L' v = L v) (hm : M' v = M v) (h : rb P L M v x) : rb P' L' M' v x := by
  obtain ⟨n, n1, n2, n3, n4, n5⟩ := h
  have hc : ∀ j, j < n → P' (300 * v + j) = P (300 * v + j) := fun j hj => hp _ (by omega) (by omega)
  refine ⟨n, n1, hl.trans n2, rg_ok_congr hc n3, fun h0 => by rw [hc _ (by omega)]; exact n4 h0, ?_⟩
  rw [hm, rg_congr hc]; exact n5
