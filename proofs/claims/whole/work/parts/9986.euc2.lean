/-! Euclid's algorithm of the desk, purely -/
def euR (U L : Nat → Int) (j : Nat) : Nat → Int := fun q => rdF U L (j + 2) (j + 1) q / (U (j + 2) * U (j + 2))
def euF : Nat → (Nat → Int) → (Nat → Int) → (Nat → Int) × Nat
  | 0, _, L => (L, 0)
  | j + 1, U, L => if euR U L j j = 0 then (L, j + 1) else euF j L (euR U L j)
def fitL (lbs : Nat) (x : Int) : Prop := -(1073741824 ^ lbs) ≤ 2 * x ∧ 2 * x < 1073741824 ^ lbs
def euOK (lbs : Nat) : Nat → (Nat → Int) → (Nat → Int) → Prop
  | 0, _, _ => True
  | j + 1, U, L => U (j + 2) ≠ 0 ∧ fitL lbs (U (j + 2)) ∧ pl_sz j lbs (rdF U L (j + 2) (j + 1)) ∧ (∀ q, q ≤ j → rdF U L (j + 2) (j + 1) q = U (j + 2) * U (j + 2) * euR U L j q) ∧ pl_sz j lbs (euR U L j) ∧ (euR U L j j = 0 ∨ euOK lbs j L (euR U L j))
/-- the common divisor of the desk: the last one, made to begin with 1 -/
def ceD (p : Nat → Int) (n : Nat) : Nat := (euF (n - 1) p (dF p)).2
def ceF (p : Nat → Int) (n : Nat) : Nat → Int := fun q => (euF (n - 1) p (dF p)).1 q / (euF (n - 1) p (dF p)).1 (ceD p n)
def ceOK (lbs : Nat) (p : Nat → Int) (n : Nat) : Prop := euOK lbs (n - 1) p (dF p) ∧ (euF (n - 1) p (dF p)).1 (ceD p n) ≠ 0 ∧ pl_sz (ceD p n) lbs (euF (n - 1) p (dF p)).1 ∧ (∀ q, q ≤ ceD p n → (euF (n - 1) p (dF p)).1 q = (euF (n - 1) p (dF p)).1 (ceD p n) * ceF p n q) ∧ pl_sz (ceD p n) lbs (ceF p n)
theorem euF_le : ∀ (j : Nat) (U L : Nat → Int), (euF j U L).2 ≤ j
  | 0, _, _ => Nat.le_refl _
  | j + 1, U, L => by
    rw [euF]
    split
    · exact Nat.le_refl _
    · exact Nat.le_succ_of_le (euF_le j _ _)
theorem q_dec (j : Nat) : nI (j + 1) + Int32.ofInt (-1) = nI j := by
  have h := nP_dec (j + 1)
  rw [nP_succ, nP_succ] at h
  exact h
