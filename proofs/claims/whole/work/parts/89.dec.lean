/-! the reference: characteristic, purely -/
def dl (v k : Nat) : Prop := 1 ≤ k ∧ v < 10 ^ k ∧ (k = 1 ∨ 10 ^ (k - 1) ≤ v)
theorem dl_50 {x : Int} (h : bd (2 ^ 150) x) : x.natAbs < 10 ^ 50 := by
  have h1 := h.1
  have h2 := h.2
  have h3 : (2 : Int) ^ 150 < 10 ^ 50 := by decide
  have h4 : ((10 ^ 50 : Nat) : Int) = 10 ^ 50 := by decide
  omega
theorem dl_small {v k : Nat} (hv : v < 10 ^ 50) (h : k = 0 ∨ 10 ^ k ≤ v) : k ≤ 50 := by
  rcases h with h | h
  · omega
  · rcases Nat.lt_or_ge k 51 with q | q
    · omega
    · have : 10 ^ 51 ≤ 10 ^ k := Nat.pow_le_pow_right (by decide) q
      omega
theorem dl_fuel {v k : Nat} (hv : v < 10 ^ 50) (h : k = 0 ∨ 10 ^ k ≤ v) : ¬ k + 0 = 51 := by
  have := dl_small hv h
  omega
theorem dl_more {v k : Nat} (h : v / 10 ^ k ≠ 0) : 10 ^ k ≤ v := by
  rcases Nat.lt_or_ge v (10 ^ k) with q | q
  · exact absurd (Nat.div_eq_of_lt q) h
  · exact q
theorem dl_end {v k : Nat} (h : k = 0 ∨ 10 ^ k ≤ v) (h0 : v / 10 ^ (k + 1) = 0) : dl v (k + 1) := by
  have hp : 0 < 10 ^ (k + 1) := Nat.pow_pos (by decide)
  refine ⟨by omega, ?_, ?_⟩
  · rcases Nat.lt_or_ge v (10 ^ (k + 1)) with q | q
    · exact q
    · have := Nat.div_pos q hp
      omega
  · rcases h with h | h
    · left; omega
    · right; rw [Nat.add_sub_cancel]; exact h
theorem RB_tenth {P P' L M : Nat → Int32} {X : Nat → Int} {w n n' : Nat} (hB : RB P L M X) (hw : w < 112) (m1 : n ≤ 300) (_m2 : L w = nI n) (m3 : rg_ok P (300 * w) n) (m5 : (M w = 0 ∧ X w = rg P (300 * w) n) ∨ (M w = 1 ∧ X w = -rg P (300 * w) n)) (t1 : n' ≤ n) (t2 : ∀ j, j < 300 * w ∨ 300 * w + 300 ≤ j → P' j = P j) (t3 : rg_ok P' (300 * w) n') (t4 : 0 < n' → P' (300 * w + (n' - 1)) ≠ 0) (t5 : rg P' (300 * w) n' = rg P (300 * w) n / 10) : ∃ x' : Int, RB P' (upd L w (nI n')) M (va_up X w x') ∧ x'.natAbs = (X w).natAbs / 10 := by
  have hr := (rg_range m3).1
  have hfr : ∀ (x' : Int), rb P' (upd L w (nI n')) M w x' → RB P' (upd L w (nI n')) M (va_up X w x') := fun x' h j hj => by
    by_cases e : j = w
    · rw [e, va_up_self]; exact h
    · rw [va_up_ne _ _ e]
      exact rb_same (fun q h1 h2 => t2 q (by omega)) (upd_n e) rfl (hB j hj)
  rcases m5 with ⟨a, b⟩ | ⟨a, b⟩
  · exact ⟨rg P (300 * w) n / 10, hfr _ ⟨n', by omega, upd_s, t3, t4, Or.inl ⟨a, t5.symm⟩⟩, by omega⟩
  · exact ⟨-(rg P (300 * w) n / 10), hfr _ ⟨n', by omega, upd_s, t3, t4, Or.inr ⟨a, by rw [t5]⟩⟩, by omega⟩
