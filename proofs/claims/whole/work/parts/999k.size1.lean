/-! the first clause of gdM: the desk's polynomials fit six limbs -/
theorem sz_1 {n : Nat} {A : Nat → Nat → Int32} {A9 : Nat → Int32} (h6 : n ≤ 6) (hb : ∀ i j, i < 6 → j < 6 → bd 1000000 ((A9 (6 * i + j)).toInt)) (hm : ∀ k9 k, 1 ≤ k9 → k9 ≤ n → k ≤ k9 → cF A9 k9 k = pB (iA A) k9 k) : ∀ k, k ≤ n → pl_sz k 6 (pB (iA A) k) := fun k hk e he => by
  have e1 : (2 : Int) * 2 ^ 150 < 1073741824 ^ 6 := by decide
  rcases Nat.eq_zero_or_pos k with q | q
  · subst q
    have : pB (iA A) 0 e = 1 := rfl
    rw [this]
    exact ⟨by decide, by decide⟩
  · have p6 : 2 ^ k ≤ 64 := Nat.pow_le_pow_right (by decide) (show k ≤ 6 by omega) (n := 2)
    have h := chF_sm (A := fun i j => (A9 (6 * i + j)).toInt) (k := k) (e := e) hb p6
    have h' : bd (2 ^ 150) (pB (iA A) k e) := by rw [← hm k e q hk he]; exact h
    have a := h'.1
    have b := h'.2
    omega
