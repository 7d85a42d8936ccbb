/-! the reference: shift, spread, data -/
def shA (A : Nat → Int32) (v : Int32) (k : Nat) : Nat → Int32 := fun q => if q % 7 = 0 ∧ q / 7 < k then A q + v else A q
theorem shA_0 {A : Nat → Int32} {v : Int32} : shA A v 0 = A := by
  funext q
  simp [shA]
theorem shA_s {A : Nat → Int32} {v : Int32} {k : Nat} : upd (shA A v k) (7 * k) (shA A v k (7 * k) + v) = shA A v (k + 1) := by
  funext q
  simp only [upd, shA]
  by_cases h : q = 7 * k
  · subst h
    rw [if_pos rfl, if_neg (by omega), if_pos (by omega)]
  · rw [if_neg h]
    by_cases h2 : q % 7 = 0 ∧ q / 7 < k
    · rw [if_pos h2, if_pos (by omega)]
    · rw [if_neg h2, if_neg (by omega)]
/-- the sums over pairs of data rows: of the first r rows with all before; of row r with the first s -/
def spI (D : Nat → Int32) (i j r : Nat) : Nat → Int
  | 0 => 0
  | s + 1 => spI D i j r s + ((D (6 * r + i)).toInt - (D (6 * s + i)).toInt) * ((D (6 * r + j)).toInt - (D (6 * s + j)).toInt)
def spO (D : Nat → Int32) (i j : Nat) : Nat → Int
  | 0 => 0
  | r + 1 => spO D i j r + spI D i j r r
def dOK (D : Nat → Int32) (rw : Nat) : Prop := ∀ q, q < 6 * rw → bd 1000 (D q).toInt
theorem spI_bd {D : Nat → Int32} {rw i j r : Nat} (h : dOK D rw) (hi : i < 6) (hj : j < 6) (hr : r < rw) : ∀ s : Nat, s ≤ r → bd ((s : Int) * 4000000) (spI D i j r s)
  | 0, _ => by simp [spI, bd]
  | s + 1, hs => by
    have ih := spI_bd h hi hj hr s (by omega)
    have a := h (6 * r + i) (by omega)
    have b := h (6 * s + i) (by omega)
    have c := h (6 * r + j) (by omega)
    have d := h (6 * s + j) (by omega)
    have h1 : bd 2000 ((D (6 * r + i)).toInt - (D (6 * s + i)).toInt) := ⟨by have := a.1; have := b.2; omega, by have := a.2; have := b.1; omega⟩
    have h2 : bd 2000 ((D (6 * r + j)).toInt - (D (6 * s + j)).toInt) := ⟨by have := c.1; have := d.2; omega, by have := c.2; have := d.1; omega⟩
    have h3 := bd_mul h1 h2
    simp only [spI]
    have e : ((s + 1 : Nat) : Int) * 4000000 = (s : Int) * 4000000 + 2000 * 2000 := by omega
    rw [e]
    exact bd_add ih h3
theorem spO_bd {D : Nat → Int32} {rw i j : Nat} (h : dOK D rw) (hrw : rw ≤ 100) (hi : i < 6) (hj : j < 6) : ∀ r : Nat, r ≤ rw → bd ((r : Int) * 400000000) (spO D i j r)
  | 0, _ => by simp [spO, bd]
  | r + 1, hr => by
    have ih := spO_bd h hrw hi hj r (by omega)
    have h1 := spI_bd h hi hj (show r < rw by omega) r (Nat.le_refl _)
    simp only [spO]
    have e : ((r + 1 : Nat) : Int) * 400000000 = (r : Int) * 400000000 + 400000000 := by omega
    rw [e]
    exact bd_add ih (bd_le (by omega) h1)
theorem q_diff {a b : Int32} (ha : bd 1000 a.toInt) (hb : bd 1000 b.toInt) : (a - b).toInt64.toInt = a.toInt - b.toInt := by
  have a1 := ha.1
  have a2 := ha.2
  have b1 := hb.1
  have b2 := hb.2
  rw [q_i2l, q_isub (by omega) (by omega)]
theorem q_prod2 {a b c d : Int32} {s : Int64} (ha : bd 1000 a.toInt) (hb : bd 1000 b.toInt) (hc : bd 1000 c.toInt) (hd : bd 1000 d.toInt) (hs : bd 100000000000 s.toInt) : (s + (a - b).toInt64 * (c - d).toInt64).toInt = s.toInt + (a.toInt - b.toInt) * (c.toInt - d.toInt) := by
  have e1 := q_diff ha hb
  have e2 := q_diff hc hd
  have h1 : bd 2000 (a.toInt - b.toInt) := ⟨by have := ha.1; have := hb.2; omega, by have := ha.2; have := hb.1; omega⟩
  have h2 : bd 2000 (c.toInt - d.toInt) := ⟨by have := hc.1; have := hd.2; omega, by have := hc.2; have := hd.1; omega⟩
  have h3 := bd_mul h1 h2
  have h4 := h3.1
  have h5 := h3.2
  have s1 := hs.1
  have s2 := hs.2
  have e3 : ((a - b).toInt64 * (c - d).toInt64).toInt = (a.toInt - b.toInt) * (c.toInt - d.toInt) := by rw [q_lmul (by rw [e1, e2]; omega) (by rw [e1, e2]; omega), e1, e2]
  rw [q_ladd (by rw [e3]; omega) (by rw [e3]; omega), e3]
def spA (A : Nat → Int32) (f : Nat → Nat → Int32) (n k e : Nat) : Nat → Int32 := fun q => if q / 6 < k ∧ q % 6 < n ∨ q / 6 = k ∧ q % 6 < e then f (q / 6) (q % 6) else A q
theorem spA_0 {A : Nat → Int32} {f : Nat → Nat → Int32} {n : Nat} : spA A f n 0 0 = A := by
  funext q
  simp [spA]
theorem spA_s {A : Nat → Int32} {f : Nat → Nat → Int32} {n k e : Nat} (hn : n ≤ 6) (he : e < n) : upd (spA A f n k e) (6 * k + e) (f k e) = spA A f n k (e + 1) := by
  funext q
  simp only [upd, spA]
  by_cases h : q = 6 * k + e
  · subst h
    rw [if_pos rfl, show (6 * k + e) / 6 = k by omega, show (6 * k + e) % 6 = e by omega, if_pos (by omega)]
  · rw [if_neg h]
    by_cases h2 : q / 6 < k ∧ q % 6 < n ∨ q / 6 = k ∧ q % 6 < e
    · rw [if_pos h2, if_pos (by omega)]
    · rw [if_neg h2, if_neg (by omega)]
theorem spA_e {A : Nat → Int32} {f : Nat → Nat → Int32} {n k : Nat} : spA A f n k n = spA A f n (k + 1) 0 := by
  funext q
  simp only [spA]
  by_cases h2 : q / 6 < k ∧ q % 6 < n ∨ q / 6 = k ∧ q % 6 < n
  · rw [if_pos h2, if_pos (by omega)]
  · rw [if_neg h2, if_neg (by omega)]
theorem q_ofInt {x : Int64} {v : Int} (h : x.toInt = v) : x = Int64.ofInt v := by
  apply q_linj
  have h1 := x.le_toInt
  have h2 := x.toInt_lt
  rw [Int64.toInt_ofInt_of_le (by omega) (by omega), h]
