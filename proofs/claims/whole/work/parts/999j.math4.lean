/-! what is left behind M1 -/
def MTH4 (n : Nat) (A : Nat → Nat → Int32) (A9 : Nat → Int32) : Prop :=
  (∃ V, gdM A n V) ∧
  nP (cmC (cF A9 n) n) = nI (ceD (pB (iA A) n) n) ∧
  ∃ fu, fu ≤ 332 ∧ ∀ V, gdM A n V →
    (∀ (i w9 : Nat) (x : Int64), i < n → w9 ≤ 30 → cellP (cF A9 n) n w9 (nI i) x → x.toInt = V i / 2 ^ (30 - w9)) ∧
    (∀ (i : Nat) (x : Int64), i < n → cellP (cF A9 n) n 0 (nI i) x → mlOK (cF A9 n) (cmF (cF A9 n) n) n (cmC (cF A9 n) n - 1) (nI i) fu x.toInt 1 ∧ mltF (cF A9 n) (cmF (cF A9 n) n) n (cmC (cF A9 n) n - 1) (nI i) fu x.toInt 1 = mlC A n V i) ∧
    (∀ (i : Nat) (x : Int64), i < n → cellP (cF A9 n) n 0 (nI i) x → ((¬ nI i < wL x.toInt 1 n (cF A9 n) ∧ nI i < wL x.toInt 1 n (cF A9 n) + nI (wE x.toInt 1 n (cF A9 n))) ↔ (V i % 1073741824 = 0 ∧ nI i < lessI (low (V i) n (pfF A n) n) n + nI (ez (low (V i) n (pfF A n) n) 0 n)))) ∧
    ∀ r1 r2 : Int32, apC A n V r1 → apP n (fun i v => win1 (V i / 2 ^ (30 - v)) (2 ^ v) n (cmC (cF A9 n) n - 1) (cF A9 n) (cmF (cF A9 n) n) = nI 1) r2 → r1 = r2
/-- the reference's polynomial may be taken to be the desk's (m1_law) -/
def MATH4 : Prop := ∀ (n : Nat) (A : Nat → Nat → Int32) (A9 : Nat → Int32), 1 ≤ n → n ≤ 6 → smA A → (∀ i j, i < 6 → j < 6 → bd 1000000 ((A9 (6 * i + j)).toInt)) → (∀ i j, i < n → j < n → A9 (6 * i + j) = A i j ∧ A i j = A j i) → (∀ k9 k, 1 ≤ k9 → k9 ≤ n → k ≤ k9 → cF A9 k9 k = pB (iA A) k9 k) → MTH4 n A A9
theorem math_of4 (h : MATH4) : MATH3 := fun n A A9 h1 h6 a b c => by
  have m := m1_law h6 c
  obtain ⟨m1, m5, m6⟩ := h n A A9 h1 h6 a b c m
  exact ⟨m1, m, m5, m6⟩
theorem i_of4 (h : MATH4) : Claimed_1_1 ∧ Claimed_1_2 := i_of3 (math_of4 h)
