/-! the desk's polynomials begin with 1; their numbers are small, once they are the reference's -/
theorem pB_top (A : Nat → Nat → Int) (k : Nat) : pB A k k = 1 := by
  induction k with
  | zero => rfl
  | succ k ih =>
    rw [pB, grF, if_neg (by omega), tlF, if_neg (by omega), if_neg (by omega)]
    rw [show k + 1 - 1 = k by omega, ih]
    rfl
/-- what is left -/
def MTH3 (n : Nat) (A : Nat → Nat → Int32) (A9 : Nat → Int32) : Prop :=
  (∃ V, gdM A n V) ∧
  (∀ k9 k, 1 ≤ k9 → k9 ≤ n → k ≤ k9 → cF A9 k9 k = pB (iA A) k9 k) ∧
  nP (cmC (cF A9 n) n) = nI (ceD (pB (iA A) n) n) ∧
  ∃ fu, fu ≤ 332 ∧ ∀ V, gdM A n V →
    (∀ (i w9 : Nat) (x : Int64), i < n → w9 ≤ 30 → cellP (cF A9 n) n w9 (nI i) x → x.toInt = V i / 2 ^ (30 - w9)) ∧
    (∀ (i : Nat) (x : Int64), i < n → cellP (cF A9 n) n 0 (nI i) x → mlOK (cF A9 n) (cmF (cF A9 n) n) n (cmC (cF A9 n) n - 1) (nI i) fu x.toInt 1 ∧ mltF (cF A9 n) (cmF (cF A9 n) n) n (cmC (cF A9 n) n - 1) (nI i) fu x.toInt 1 = mlC A n V i) ∧
    (∀ (i : Nat) (x : Int64), i < n → cellP (cF A9 n) n 0 (nI i) x → ((¬ nI i < wL x.toInt 1 n (cF A9 n) ∧ nI i < wL x.toInt 1 n (cF A9 n) + nI (wE x.toInt 1 n (cF A9 n))) ↔ (V i % 1073741824 = 0 ∧ nI i < lessI (low (V i) n (pfF A n) n) n + nI (ez (low (V i) n (pfF A n) n) 0 n)))) ∧
    ∀ r1 r2 : Int32, apC A n V r1 → apP n (fun i v => win1 (V i / 2 ^ (30 - v)) (2 ^ v) n (cmC (cF A9 n) n - 1) (cF A9 n) (cmF (cF A9 n) n) = nI 1) r2 → r1 = r2
def MATH3 : Prop := ∀ (n : Nat) (A : Nat → Nat → Int32) (A9 : Nat → Int32), 1 ≤ n → n ≤ 6 → smA A → (∀ i j, i < 6 → j < 6 → bd 1000000 ((A9 (6 * i + j)).toInt)) → (∀ i j, i < n → j < n → A9 (6 * i + j) = A i j ∧ A i j = A j i) → MTH3 n A A9
theorem math_of3 (h : MATH3) : MATH2 := fun n A A9 h1 h6 a b c => by
  obtain ⟨m1, m2, m5, m6⟩ := h n A A9 h1 h6 a b c
  refine ⟨m1, m2, fun k9 _ _ => pB_top _ k9, fun k hk => ?_, m5, m6⟩
  rw [← m2 n k h1 (Nat.le_refl _) hk]
  have p6 : 2 ^ n ≤ 64 := Nat.pow_le_pow_right (by decide) h6 (n := 2)
  exact dl_50 (chF_sm (k := n) (e := k) b p6)
/-- the whole claim out of what is left -/
theorem i_of3 (h : MATH3) : Claimed_1_1 ∧ Claimed_1_2 := i_of (math_of2 (math_of3 h))
