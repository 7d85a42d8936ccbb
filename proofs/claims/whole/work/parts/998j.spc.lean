/-! what the desk puts into the matrix of the data -/
abbrev spC (rw : Nat) (P : Nat → Nat → Int32) (S : Nat → Int32) (i j : Nat) : Int64 := (nI rw).toInt64 * (P i j).toInt64 - (S i).toInt64 * (S j).toInt64
def spFit (rw : Nat) (P : Nat → Nat → Int32) (S : Nat → Int32) (n k m : Nat) : Prop := ∀ i j, j < n → (i < k ∨ i = k ∧ j < m) → -1000000 ≤ (spC rw P S i j).toInt ∧ (spC rw P S i j).toInt ≤ 1000000
def spM (rw : Nat) (P : Nat → Nat → Int32) (S : Nat → Int32) (A : Nat → Nat → Int32) (n k m : Nat) (A2 : Nat → Nat → Int32) : Prop := ∀ a b, a < 6 → A2 a b = if b < n ∧ (a < k ∨ a = k ∧ b < m) then (spC rw P S a b).toInt32 else A a b
theorem spFit_0 {rw : Nat} {P : Nat → Nat → Int32} {S : Nat → Int32} {n : Nat} : spFit rw P S n 0 0 := fun i j _ h => by omega
theorem spFit_s {rw : Nat} {P : Nat → Nat → Int32} {S : Nat → Int32} {n k m : Nat} (h : spFit rw P S n k m) (h1 : -1000000 ≤ (spC rw P S k m).toInt ∧ (spC rw P S k m).toInt ≤ 1000000) : spFit rw P S n k (m + 1) := fun i j hj hd => by
  by_cases e : i = k ∧ j = m
  · rw [e.1, e.2]; exact h1
  · exact h i j hj (by omega)
theorem spFit_n {rw : Nat} {P : Nat → Nat → Int32} {S : Nat → Int32} {n k : Nat} (h : spFit rw P S n k n) : spFit rw P S n (k + 1) 0 := fun i j hj hd => h i j hj (by omega)
theorem spM_0 {rw : Nat} {P : Nat → Nat → Int32} {S : Nat → Int32} {A : Nat → Nat → Int32} {n : Nat} : spM rw P S A n 0 0 A := fun a b _ => by rw [if_neg (by omega)]
theorem spM_s {rw : Nat} {P : Nat → Nat → Int32} {S : Nat → Int32} {A A2 : Nat → Nat → Int32} {n k m : Nat} (h : spM rw P S A n k m A2) (hm : m < n) : spM rw P S A n k (m + 1) (va_up A2 k (upd (A2 k) m (spC rw P S k m).toInt32)) := fun a b ha => by
  by_cases ea : a = k
  · rw [ea, va_up_self]
    by_cases eb : b = m
    · rw [eb, upd_s, if_pos (by omega)]
    · rw [upd_n eb, h k b (by omega)]
      by_cases q : b < n ∧ (k < k ∨ k = k ∧ b < m)
      · rw [if_pos q, if_pos (by omega)]
      · rw [if_neg q, if_neg (by omega)]
  · rw [va_up_ne _ _ ea, h a b ha]
    by_cases q : b < n ∧ (a < k ∨ a = k ∧ b < m)
    · rw [if_pos q, if_pos (by omega)]
    · rw [if_neg q, if_neg (by omega)]
theorem spM_n {rw : Nat} {P : Nat → Nat → Int32} {S : Nat → Int32} {A A2 : Nat → Nat → Int32} {n k : Nat} (h : spM rw P S A n k n A2) : spM rw P S A n (k + 1) 0 A2 := fun a b ha => by
  rw [h a b ha]
  by_cases q : b < n ∧ (a < k ∨ a = k ∧ b < n)
  · rw [if_pos q, if_pos (by omega)]
  · rw [if_neg q, if_neg (by omega)]
