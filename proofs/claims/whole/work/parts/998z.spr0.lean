/-! the sums over the data, column by column -/
def dO2 (D : Nat → Int32) (rw i : Nat) : Prop := ∀ r, r < rw → bd 1000 (D (6 * r + i)).toInt
theorem spI_bd2 {D : Nat → Int32} {rw i j r : Nat} (h : dO2 D rw i) (h' : dO2 D rw j) (hr : r < rw) : ∀ s : Nat, s ≤ r → bd ((s : Int) * 4000000) (spI D i j r s)
  | 0, _ => by simp [spI, bd]
  | s + 1, hs => by
    have ih := spI_bd2 h h' hr s (by omega)
    have a := h r (by omega)
    have b := h s (by omega)
    have c := h' r (by omega)
    have d := h' s (by omega)
    have h1 : bd 2000 ((D (6 * r + i)).toInt - (D (6 * s + i)).toInt) := ⟨by have := a.1; have := b.2; omega, by have := a.2; have := b.1; omega⟩
    have h2 : bd 2000 ((D (6 * r + j)).toInt - (D (6 * s + j)).toInt) := ⟨by have := c.1; have := d.2; omega, by have := c.2; have := d.1; omega⟩
    have h3 := bd_mul h1 h2
    simp only [spI]
    have e : ((s + 1 : Nat) : Int) * 4000000 = (s : Int) * 4000000 + 2000 * 2000 := by omega
    rw [e]
    exact bd_add ih h3
theorem spO_bd2 {D : Nat → Int32} {rw i j : Nat} (h : dO2 D rw i) (h' : dO2 D rw j) (hrw : rw ≤ 100) : ∀ r : Nat, r ≤ rw → bd ((r : Int) * 400000000) (spO D i j r)
  | 0, _ => by simp [spO, bd]
  | r + 1, hr => by
    have ih := spO_bd2 h h' hrw r (by omega)
    have h1 := spI_bd2 h h' (show r < rw by omega) r (Nat.le_refl _)
    simp only [spO]
    have e : ((r + 1 : Nat) : Int) * 400000000 = (r : Int) * 400000000 + 400000000 := by omega
    rw [e]
    exact bd_add ih (bd_le (by omega) h1)
/-- the same sums, in whole numbers -/
def zi1 (D : Nat → Int32) (i : Nat) : Nat → Int
  | 0 => 0
  | r + 1 => zi1 D i r + (D (6 * r + i)).toInt
def zi2 (D : Nat → Int32) (i j : Nat) : Nat → Int
  | 0 => 0
  | r + 1 => zi2 D i j r + (D (6 * r + i)).toInt * (D (6 * r + j)).toInt
theorem spI_eq (D : Nat → Int32) (i j r : Nat) : ∀ s : Nat, spI D i j r s = (s : Int) * ((D (6 * r + i)).toInt * (D (6 * r + j)).toInt) - (D (6 * r + i)).toInt * zi1 D j s - (D (6 * r + j)).toInt * zi1 D i s + zi2 D i j s
  | 0 => by simp [spI, zi1, zi2]
  | s + 1 => by
    have ih := spI_eq D i j r s
    simp only [spI, zi1, zi2, ih]
    have e : ((s + 1 : Nat) : Int) = (s : Int) + 1 := by omega
    rw [e]
    grind
theorem spO_eq (D : Nat → Int32) (i j : Nat) : ∀ r : Nat, spO D i j r = (r : Int) * zi2 D i j r - zi1 D i r * zi1 D j r
  | 0 => by simp [spO, zi1, zi2]
  | r + 1 => by
    have ih := spO_eq D i j r
    have h := spI_eq D i j r r
    simp only [spO, zi1, zi2, ih, h]
    have e : ((r + 1 : Nat) : Int) = (r : Int) + 1 := by omega
    rw [e]
    grind
theorem q_iaddb {x v : Int32} (h : -2000000000 ≤ x.toInt + v.toInt ∧ x.toInt + v.toInt ≤ 2000000000) : (x + v).toInt = x.toInt + v.toInt := by
  rw [Int32.toInt_add]
  exact Int.bmod_eq_of_le (by omega) (by omega)
theorem q_imulb {x v : Int32} (h : -2000000000 ≤ x.toInt * v.toInt ∧ x.toInt * v.toInt ≤ 2000000000) : (x * v).toInt = x.toInt * v.toInt := by
  rw [Int32.toInt_mul]
  exact Int.bmod_eq_of_le (by omega) (by omega)
theorem sm1_eq {D : Nat → Int32} {rw i : Nat} (h : dO2 D rw i) (hrw : rw ≤ 100) : ∀ r : Nat, r ≤ rw → (sm1 D i r).toInt = zi1 D i r ∧ bd ((r : Int) * 1000) (zi1 D i r)
  | 0, _ => ⟨by simp [sm1, zi1], by simp [zi1, bd]⟩
  | r + 1, hr => by
    obtain ⟨a, b⟩ := sm1_eq h hrw r (by omega)
    have c := h r (by omega)
    have e : ((r + 1 : Nat) : Int) * 1000 = (r : Int) * 1000 + 1000 := by omega
    have b1 := b.1; have b2 := b.2; have c1 := c.1; have c2 := c.2
    refine ⟨?_, by rw [e]; exact bd_add b c⟩
    simp only [sm1, zi1]
    rw [q_iaddb (by rw [a]; omega), a]
theorem sm2_eq {D : Nat → Int32} {rw i j : Nat} (h : dO2 D rw i) (h' : dO2 D rw j) (hrw : rw ≤ 100) : ∀ r : Nat, r ≤ rw → (sm2 D i j r).toInt = zi2 D i j r ∧ bd ((r : Int) * 1000000) (zi2 D i j r)
  | 0, _ => ⟨by simp [sm2, zi2], by simp [zi2, bd]⟩
  | r + 1, hr => by
    obtain ⟨a, b⟩ := sm2_eq h h' hrw r (by omega)
    have c := bd_mul (h r (by omega)) (h' r (by omega))
    have e : ((r + 1 : Nat) : Int) * 1000000 = (r : Int) * 1000000 + 1000 * 1000 := by omega
    have b1 := b.1; have b2 := b.2; have c1 := c.1; have c2 := c.2
    have m := q_imulb (x := D (6 * r + i)) (v := D (6 * r + j)) (by omega)
    refine ⟨?_, by rw [e]; exact bd_add b c⟩
    simp only [sm2, zi2]
    rw [q_iaddb (by rw [a, m]; omega), a, m]
/-- the desk's number for a place of the spread is the reference's -/
theorem spC_eq {D : Nat → Int32} {rw i j : Nat} {P : Nat → Nat → Int32} {S : Nat → Int32} (h : dO2 D rw i) (h' : dO2 D rw j) (hrw : rw ≤ 100) (hi : S i = sm1 D i rw) (hj : S j = sm1 D j rw) (hP : P i j = sm2 D i j rw) : (spC rw P S i j).toInt = spO D i j rw := by
  obtain ⟨a1, b1⟩ := sm1_eq h hrw rw (Nat.le_refl _)
  obtain ⟨a2, b2⟩ := sm1_eq h' hrw rw (Nat.le_refl _)
  obtain ⟨a3, b3⟩ := sm2_eq h h' hrw rw (Nat.le_refl _)
  have c1 := bd_mul b1 b2
  have hr : bd 100 (rw : Int) := ⟨by omega, by omega⟩
  have c2 := bd_mul hr b3
  have k1 : ((rw : Int) * 1000) * ((rw : Int) * 1000) ≤ 10000000000 := by
    have : (rw : Int) * 1000 ≤ 100000 := by omega
    have h0 : 0 ≤ (rw : Int) * 1000 := by omega
    calc ((rw : Int) * 1000) * ((rw : Int) * 1000) ≤ 100000 * 100000 := Int.mul_le_mul this this h0 (by decide)
      _ = 10000000000 := by decide
  have c11 := c1.1; have c12 := c1.2; have c21 := c2.1; have c22 := c2.2
  have tr : (nI rw).toInt = rw := Int32.toInt_ofNat_of_lt (by omega)
  rw [spO_eq]
  show ((nI rw).toInt64 * (P i j).toInt64 - (S i).toInt64 * (S j).toInt64).toInt = _
  have e1 : ((nI rw).toInt64 * (P i j).toInt64).toInt = (rw : Int) * zi2 D i j rw := by rw [q_lmul (by rw [q_i2l, q_i2l, tr, hP, a3]; omega) (by rw [q_i2l, q_i2l, tr, hP, a3]; omega), q_i2l, q_i2l, tr, hP, a3]
  have e2 : ((S i).toInt64 * (S j).toInt64).toInt = zi1 D i rw * zi1 D j rw := by rw [q_lmul (by rw [q_i2l, q_i2l, hi, hj, a1, a2]; omega) (by rw [q_i2l, q_i2l, hi, hj, a1, a2]; omega), q_i2l, q_i2l, hi, hj, a1, a2]
  rw [q_lsub (by rw [e1, e2]; omega) (by rw [e1, e2]; omega), e1, e2]
