/-! what the law's answers rest on, of the numbers alone -/
abbrev cF (A9 : Nat → Int32) (k : Nat) : Nat → Int := chF (fun i j => (A9 (6 * i + j)).toInt) k (2 ^ k)
/-- apart, as the desk finds it -/
abbrev apC (A : Nat → Nat → Int32) (n : Nat) (V : Nat → Int) (r : Int32) : Prop := (∃ v, v ≤ 30 ∧ r = nI v ∧ nI (ctF V v (n - 1)) = nI n - nI (ceD (pB (iA A) n) n) ∧ ∀ u, u < v → ¬ nI (ctF V u (n - 1)) = nI n - nI (ceD (pB (iA A) n) n)) ∨ (r = -1 ∧ ∀ u, u ≤ 30 → ¬ nI (ctF V u (n - 1)) = nI n - nI (ceD (pB (iA A) n) n))
abbrev mlC (A : Nat → Nat → Int32) (n : Nat) (V : Nat → Int) (i : Nat) : Int32 := if (ceD (pB (iA A) n) n) = 0 then nI 1 else hmS n (ceD (pB (iA A) n) n) (nI i) 43 (low (V i) n (mulp 1073741824 n (pB (iA A) n) n) n) (low (V i) (ceD (pB (iA A) n) n) (mulp 1073741824 (ceD (pB (iA A) n) n) (ceF (pB (iA A) n) n) (ceD (pB (iA A) n) n)) (ceD (pB (iA A) n) n))
def MTH (n : Nat) (A : Nat → Nat → Int32) (A9 : Nat → Int32) : Prop :=
  (∃ V, gdM A n V) ∧
  (∀ (k9 : Nat) (tp bt : Int64), 1 ≤ k9 → k9 ≤ n → 0 < bt → wL tp.toInt bt.toInt k9 (cF A9 k9) = lessI (low tp.toInt k9 (mulp bt.toInt k9 (pB (iA A) k9) k9) k9) k9 ∧ wE tp.toInt bt.toInt k9 (cF A9 k9) = ez (low tp.toInt k9 (mulp bt.toInt k9 (pB (iA A) k9) k9) k9) 0 k9) ∧
  (∀ k, k ≤ n → cF A9 n k = pB (iA A) n k ∧ (pB (iA A) n k).natAbs < 10 ^ 50) ∧
  nP (cmC (cF A9 n) n) = nI (ceD (pB (iA A) n) n) ∧
  ∃ fu, fu ≤ 332 ∧ ∀ V, gdM A n V →
    (∀ (i w9 : Nat) (x : Int64), i < n → w9 ≤ 30 → cellP (cF A9 n) n w9 (nI i) x → x.toInt = V i / 2 ^ (30 - w9)) ∧
    (∀ (i : Nat) (x : Int64), i < n → cellP (cF A9 n) n 0 (nI i) x → mlOK (cF A9 n) (cmF (cF A9 n) n) n (cmC (cF A9 n) n - 1) (nI i) fu x.toInt 1 ∧ mltF (cF A9 n) (cmF (cF A9 n) n) n (cmC (cF A9 n) n - 1) (nI i) fu x.toInt 1 = mlC A n V i) ∧
    (∀ (i : Nat) (x : Int64), i < n → cellP (cF A9 n) n 0 (nI i) x → ((¬ nI i < wL x.toInt 1 n (cF A9 n) ∧ nI i < wL x.toInt 1 n (cF A9 n) + nI (wE x.toInt 1 n (cF A9 n))) ↔ (V i % 1073741824 = 0 ∧ nI i < lessI (low (V i) n (pfF A n) n) n + nI (ez (low (V i) n (pfF A n) n) 0 n)))) ∧
    ∀ r1 r2 : Int32, apC A n V r1 → apP n (fun i v => win1 (V i / 2 ^ (30 - v)) (2 ^ v) n (cmC (cF A9 n) n - 1) (cF A9 n) (cmF (cF A9 n) n) = nI 1) r2 → r1 = r2
/-- what is left to prove: it speaks of symmetric matrices of small whole numbers, of no program -/
def MATH : Prop := ∀ (n : Nat) (A : Nat → Nat → Int32) (A9 : Nat → Int32), 1 ≤ n → n ≤ 6 → smA A → (∀ i j, i < 6 → j < 6 → bd 1000000 ((A9 (6 * i + j)).toInt)) → (∀ i j, i < n → j < n → A9 (6 * i + j) = A i j ∧ A i j = A j i) → MTH n A A9
theorem dl_one {v a b : Nat} (ha : dl v a) (hb : dl v b) : a = b := by
  obtain ⟨a1, a2, a3⟩ := ha
  obtain ⟨b1, b2, b3⟩ := hb
  rcases Nat.lt_trichotomy a b with h | h | h
  · exfalso
    rcases b3 with q | q
    · omega
    · have : 10 ^ a ≤ 10 ^ (b - 1) := Nat.pow_le_pow_right (by decide) (by omega)
      omega
  · exact h
  · exfalso
    rcases a3 with q | q
    · omega
    · have : 10 ^ b ≤ 10 ^ (a - 1) := Nat.pow_le_pow_right (by decide) (by omega)
      omega
theorem dl_le {v a : Nat} (ha : dl v a) (hv : v < 10 ^ 50) : a ≤ 51 := by
  obtain ⟨a1, a2, a3⟩ := ha
  rcases a3 with q | q
  · omega
  · have := dl_small hv (k := a - 1) (Or.inr q)
    omega
