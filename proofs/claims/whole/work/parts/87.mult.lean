/-! the reference: multiplicity, apart, data, purely -/
def dg2 (a b : Nat) : Nat → Nat := fun k => if k = 0 then a else b
theorem dg2_q {G : Nat → Int32} {a b : Nat} (h : G 0 = nI a ∧ G 1 = nI b) : ∀ k, k < 2 → G k = nI (dg2 a b k) := fun k hk => by
  rcases k with _ | _ | k
  · exact h.1
  · exact h.2
  · omega
def nxt (p : Nat → Int) (d : Nat) (i : Int32) (pl g : Int) : Int := if wL (pl + pl + 1) (g + g) d p ≤ i then pl + pl + 1 else pl + pl
def mltF (p0 p1 : Nat → Int) (d0 d1 : Nat) (i : Int32) : Nat → Int → Int → Int32
  | 0, pl, g => win0 pl g d0 p0
  | f + 1, pl, g => if win1 pl g d0 d1 p0 p1 ≤ nI 1 then win0 pl g d0 p0 else mltF p0 p1 d0 d1 i f (nxt p0 d0 i pl g) (g + g)
def mlOK (p0 p1 : Nat → Int) (d0 d1 : Nat) (i : Int32) : Nat → Int → Int → Prop
  | 0, pl, g => win1 pl g d0 d1 p0 p1 ≤ nI 1
  | f + 1, pl, g => win1 pl g d0 d1 p0 p1 ≤ nI 1 ∨ mlOK p0 p1 d0 d1 i f (nxt p0 d0 i pl g) (g + g)
def plB (k : Nat) (pl g : Int) : Prop := -(2 ^ (23 + k)) ≤ pl ∧ pl < 2 ^ (23 + k) ∧ g = 2 ^ k
theorem plB_n {p : Nat → Int} {d k : Nat} {i : Int32} {pl g : Int} (h : plB k pl g) : plB (k + 1) (nxt p d i pl g) (g + g) := by
  obtain ⟨h1, h2, h3⟩ := h
  have e : (2 : Int) ^ (23 + (k + 1)) = 2 ^ (23 + k) + 2 ^ (23 + k) := by rw [show 23 + (k + 1) = 23 + k + 1 by omega, Int.pow_succ]; omega
  have e2 : (2 : Int) ^ (k + 1) = 2 ^ k + 2 ^ k := by rw [Int.pow_succ]; omega
  refine ⟨?_, ?_, by rw [h3, e2]⟩ <;> rw [nxt, e] <;> split <;> omega
theorem plB_bd {k : Nat} {pl g : Int} (h : plB k pl g) (hk : k ≤ 332) : bd (2 ^ 355) pl ∧ bd (2 ^ 355) g := by
  obtain ⟨h1, h2, h3⟩ := h
  have a : (2 : Int) ^ (23 + k) ≤ 2 ^ 355 := p2_le (by omega)
  have b : (2 : Int) ^ k ≤ 2 ^ 355 := p2_le (by omega)
  have c : (0 : Int) < 2 ^ k := Int.pow_pos (by decide)
  exact ⟨⟨by omega, by omega⟩, ⟨by omega, by omega⟩⟩
theorem plB_0 {p : Nat → Int} {d w : Nat} {i : Int32} {x : Int64} (h : cellP p d w i x) : plB w x.toInt (2 ^ w) := by
  obtain ⟨h1, h2, -, -⟩ := h
  have e : (2 : Int) ^ (23 + w) = 8388608 * 2 ^ w := by rw [Int.pow_add]; rfl
  have c : (0 : Int) < 2 ^ w := Int.pow_pos (by decide)
  exact ⟨by rw [e]; omega, by rw [e]; omega, rfl⟩
/-- the first grid on which all are alone -/
def apP (n : Nat) (ok : Nat → Nat → Prop) (r : Int32) : Prop := (∃ w, w ≤ 30 ∧ r = nI w ∧ (∀ i, i < n → ok i w) ∧ ∀ v, v < w → ∃ i, i < n ∧ ¬ ok i v) ∨ (r = -1 ∧ ∀ v, v ≤ 30 → ∃ i, i < n ∧ ¬ ok i v)
def v6 (a b c d e f : Int32) : Nat → Int32 := fun k => if k = 0 then a else if k = 1 then b else if k = 2 then c else if k = 3 then d else if k = 4 then e else f
def in1000 (x : Int32) : Prop := ¬ x < -1000 ∧ ¬ nI 1000 < x
