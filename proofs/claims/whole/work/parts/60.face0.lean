/-! the reference between two calls -/
def mS (ad : Nat → Nat) (cI cZ : ClassId) (σb : Nat → va_E) (th : Int32) (n : Nat) (A9 : Nat → Int32) (rw : Nat) (Dt : Nat → Int32) (ps : Nat) (Pr : Nat → Int32) : (Nat → va_E) → Prop := fun σ =>
  ∃ (s0 : Nat → va_E) (G Dg P L M : Nat → Int32) (Z : Nat → Int) (le eq : Int32), σ = rw3 s0 ciM cI cZ (mfs ad th (nI n) (nI rw) (nI ps) le eq) P L M ∧ s0 187 = .inl (cI, 5, .inl G) ∧ s0 188 = .inl (cI, 36, .inl A9) ∧ s0 189 = .inl (cI, 600, .inl Dt) ∧ s0 190 = .inl (cI, 400, .inl Pr) ∧ s0 191 = .inl (cI, 400, .inl Dg) ∧ (∀ q, q < 183 ∨ 191 < q → s0 q = σb q) ∧ RB P L M Z
def isP (r c : Int32) (n : Nat) : Prop := ¬ r < 0 ∧ r < nI n ∧ ¬ c < 0 ∧ c < nI n
def isS (v : Int64) : Prop := -1000000 ≤ v ∧ v ≤ 1000000
theorem q_nge {a b : Int32} (h : ¬ b ≤ a) : a < b := Int32.not_le.mp h
theorem q_ngt {a b : Int32} (h : ¬ a < b) : b ≤ a := Int32.not_lt.mp h
theorem q_le_lt {a b : Int32} (h : b ≤ a) : ¬ a < b := Int32.not_lt.mpr h
theorem bd_64 (x : Int64) : bd (2 ^ 360) x.toInt := by
  have h1 := x.le_toInt
  have h2 := x.toInt_lt
  have : (9223372036854775808 : Int) ≤ 2 ^ 360 := by decide
  exact ⟨by omega, by omega⟩
