/-! changes of sign, counted from below and from above -/
/-- the last sign that is not 0 -/
def lsg (p : Nat → Int) (bf : Int32) (k : Nat) : Nat → Int32
  | 0 => bf
  | n + 1 => if sg (p (k + n)) = 0 then lsg p bf k n else sg (p (k + n))
def chg (a b : Int32) : Nat := if a * b < 0 then 1 else 0
/-- from above, over the places k .. k + n - 1 alone -/
def raK (p : Nat → Int) (bf : Int32) (k : Nat) (lt : Int32) : Nat → Nat
  | 0 => chg bf lt
  | n + 1 => if sg (p (k + n)) = -lt then raK p bf k (sg (p (k + n))) n + 1 else raK p bf k lt n
theorem sg_3 (x : Int) : sg x = 0 ∨ sg x = 1 ∨ sg x = -1 := by
  unfold sg
  rcases Int.lt_trichotomy x 0 with h | h | h
  · right; right; simp [h]
  · left; simp [h]
  · right; left
    have h1 : ¬ x < 0 := by omega
    have h2 : ¬ x = 0 := by omega
    simp [h1, h2]
theorem fa_top (p : Nat → Int) : ∀ (n k : Nat) (bf : Int32), fa p bf k (n + 1) = fa p bf k n + chg (sg (p (k + n))) (lsg p bf k n)
  | 0, k, bf => by by_cases hh : sg (p k) * bf < 0 <;> simp [fa, chg, lsg, hh]
  | n + 1, k, bf => by
    have ih := fa_top p n (k + 1) (if sg (p k) = 0 then bf else sg (p k))
    have e : ∀ m : Nat, lsg p (if sg (p k) = 0 then bf else sg (p k)) (k + 1) m = lsg p bf k (m + 1) := by
      intro m
      induction m with
      | zero => simp [lsg]
      | succ m im =>
        simp only [lsg]
        rw [show k + 1 + m = k + (m + 1) by omega]
        simp only [lsg] at im
        rw [im]
    rw [fa, ih, fa, e n, show k + 1 + n = k + (n + 1) by omega]
    omega
theorem chg_sym (a b : Int32) : chg a b = chg b a := by
  unfold chg
  rw [Int32.mul_comm]
theorem chg_0 (x : Int32) : chg 0 x = 0 := by simp [chg]
theorem fa_raK (p : Nat → Int) (bf : Int32) (k : Nat) (n : Nat) : ∀ (lt : Int32), (lt = 1 ∨ lt = -1) → fa p bf k n + chg (lsg p bf k n) lt = raK p bf k lt n := by
  induction n with
  | zero => intro lt _; simp [fa, lsg, raK]
  | succ n ih =>
    intro lt hlt
    rw [fa_top, lsg, raK]
    have hne : ¬ (0 : Int32) = -lt := by rcases hlt with h | h <;> rw [h] <;> decide
    have hself : ¬ lt = -lt := by rcases hlt with h | h <;> rw [h] <;> decide
    have hnz : ¬ lt = 0 := by rcases hlt with h | h <;> rw [h] <;> decide
    have hnz2 : ¬ -lt = 0 := by rcases hlt with h | h <;> rw [h] <;> decide
    have hc0 : chg lt lt = 0 := by rcases hlt with h | h <;> rw [h] <;> decide
    have hc1 : chg (-lt) lt = 1 := by rcases hlt with h | h <;> rw [h] <;> decide
    have hm : -lt = 1 ∨ -lt = -1 := by rcases hlt with h | h <;> rw [h] <;> decide
    have h3 : sg (p (k + n)) = 0 ∨ sg (p (k + n)) = lt ∨ sg (p (k + n)) = -lt := by
      rcases sg_3 (p (k + n)) with e | e | e <;> rcases hlt with h | h <;> rw [e, h] <;> decide
    rcases h3 with e | e | e
    · rw [e, if_pos rfl, if_neg hne, chg_0, Nat.add_zero]
      exact ih lt hlt
    · rw [e, if_neg hnz, if_neg hself, hc0, chg_sym lt, Nat.add_zero]
      exact ih lt hlt
    · rw [e, if_neg hnz2, if_pos rfl, hc1, chg_sym (-lt)]
      rw [ih (-lt) hm]
theorem ra_zero {p : Nat → Int} (k : Nat) : ∀ (lt : Int32), (lt = 1 ∨ lt = -1) → (∀ j, j < k → p j = 0) → ra p lt k = 0 := by
  induction k with
  | zero => intro lt _ _; rfl
  | succ k ih =>
    intro lt hlt hz
    have e : sg (p k) = 0 := by rw [hz k (by omega)]; rfl
    have hne : ¬ (0 : Int32) = -lt := by rcases hlt with h | h <;> rw [h] <;> decide
    rw [ra, e, if_neg hne]
    exact ih lt hlt (fun j hj => hz j (by omega))
theorem ra_raK {p : Nat → Int} {k : Nat} (hz : ∀ j, j < k → p j = 0) (n : Nat) : ∀ (lt : Int32), (lt = 1 ∨ lt = -1) → ra p lt (k + n) = raK p 0 k lt n := by
  induction n with
  | zero => intro lt hlt; rw [Nat.add_zero, ra_zero k lt hlt hz, raK, chg_0]
  | succ n ih =>
    intro lt hlt
    rw [show k + (n + 1) = (k + n) + 1 by omega, ra, raK]
    by_cases e : sg (p (k + n)) = -lt
    · have hm : sg (p (k + n)) = 1 ∨ sg (p (k + n)) = -1 := by rw [e]; rcases hlt with h | h <;> rw [h] <;> decide
      rw [if_pos e, if_pos e, ih _ hm]
    · rw [if_neg e, if_neg e, ih lt hlt]
/-- the reference's count of changes is the desk's, where the first number is above 0 -/
theorem fa_ra {p : Nat → Int} {k d : Nat} (hz : ∀ j, j < k → p j = 0) (hk : k ≤ d) (ht : sg (p d) = 1) : fa p 0 k (d + 1 - k) = ra p (nI 1) (d + 1) := by
  have h := fa_raK p 0 k (d + 1 - k) 1 (Or.inl rfl)
  have e : lsg p 0 k (d + 1 - k) = 1 := by
    rw [show d + 1 - k = (d - k) + 1 by omega, lsg, show k + (d - k) = d by omega, ht, if_neg (by decide)]
  have c : chg 1 1 = 0 := by decide
  rw [e, c, Nat.add_zero, ← ra_raK hz _ 1 (Or.inl rfl), show k + (d + 1 - k) = d + 1 by omega] at h
  exact h
