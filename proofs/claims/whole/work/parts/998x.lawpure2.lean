/-! shifts, characters -/
theorem sh_sum {x v : Int32} : (x.toInt64 + v.toInt64).toInt = x.toInt + v.toInt := by
  have h1 := x.le_toInt; have h2 := x.toInt_lt; have h3 := v.le_toInt; have h4 := v.toInt_lt
  rw [q_ladd (by rw [q_i2l, q_i2l]; omega) (by rw [q_i2l, q_i2l]; omega), q_i2l, q_i2l]
theorem LR_A9 {n : Nat} {A : Nat → Nat → Int32} {A9 : Nat → Int32} {rw : Nat} {S : Nat → Int32} {P : Nat → Nat → Int32} {Dt : Nat → Int32} {ln : Nat} {Tx Pr : Nat → Int32} (h : LR n A A9 rw S P Dt ln Tx Pr) {j : Nat} (hj : j < n) : A9 (7 * j) = A j j := by
  have := (h.2.2.1 j j hj hj).1
  rw [show 7 * j = 6 * j + j by omega]
  exact this
theorem isS_sh {n : Nat} {A : Nat → Nat → Int32} {A9 : Nat → Int32} {rw : Nat} {S : Nat → Int32} {P : Nat → Nat → Int32} {Dt : Nat → Int32} {ln : Nat} {Tx Pr : Nat → Int32} {v : Int32} (h : LR n A A9 rw S P Dt ln Tx Pr) (hf : ∀ i, i < n → -1000000 ≤ (A i i).toInt + v.toInt ∧ (A i i).toInt + v.toInt ≤ 1000000) {j : Nat} (hj : j < n) : isS ((A9 (7 * j)).toInt64 + v.toInt64) :=
  isS_iff.mpr (by rw [sh_sum, LR_A9 h hj]; exact hf j hj)
theorem sh_isS {n : Nat} {A : Nat → Nat → Int32} {A9 : Nat → Int32} {rw : Nat} {S : Nat → Int32} {P : Nat → Nat → Int32} {Dt : Nat → Int32} {ln : Nat} {Tx Pr : Nat → Int32} {v : Int32} (h : LR n A A9 rw S P Dt ln Tx Pr) {j : Nat} (hj : j < n) (hf : isS ((A9 (7 * j)).toInt64 + v.toInt64)) : -1000000 ≤ (A j j).toInt + v.toInt ∧ (A j j).toInt + v.toInt ≤ 1000000 := by
  have := isS_iff.mp hf
  rw [sh_sum, LR_A9 h hj] at this
  exact this
theorem q_iadd9 {x v : Int32} (h : -1000000 ≤ x.toInt + v.toInt ∧ x.toInt + v.toInt ≤ 1000000) : (x + v).toInt = x.toInt + v.toInt := by
  rw [Int32.toInt_add]
  exact Int.bmod_eq_of_le (by omega) (by omega)
theorem LR_shift {n : Nat} {A A' : Nat → Nat → Int32} {A9 : Nat → Int32} {rw : Nat} {S : Nat → Int32} {P : Nat → Nat → Int32} {Dt : Nat → Int32} {ln : Nat} {Tx Pr : Nat → Int32} {v : Int32} (h : LR n A A9 rw S P Dt ln Tx Pr) (hn : n ≤ 6) (hf : ∀ i, i < n → -1000000 ≤ (A i i).toInt + v.toInt ∧ (A i i).toInt + v.toInt ≤ 1000000) (hA : ∀ a b, a < 6 → A' a b = if a = b ∧ a < n then A a b + v else A a b) : LR n A' (shA A9 v n) rw S P Dt ln Tx Pr := by
  have h0 := h
  obtain ⟨r1, r2, r3, r⟩ := h
  have hs : ∀ i j, i < 6 → j < 6 → shA A9 v n (6 * i + j) = if i = j ∧ i < n then A9 (6 * i + j) + v else A9 (6 * i + j) := fun i j hi hj => by
    simp only [shA]
    by_cases e : i = j ∧ i < n
    · rw [if_pos e, if_pos (by obtain ⟨rfl, e⟩ := e; omega)]
    · rw [if_neg e, if_neg (by omega)]
  refine ⟨fun i j hi hj => ?_, fun i j hi hj => ?_, fun i j hi hj => ⟨?_, ?_⟩, r⟩
  · rw [hA i j hi]
    by_cases e : i = j ∧ i < n
    · rw [if_pos e]; obtain ⟨rfl, e⟩ := e; rw [q_iadd9 (hf i e)]; exact hf i e
    · rw [if_neg e]; exact r1 i j hi hj
  · rw [hs i j hi hj]
    by_cases e : i = j ∧ i < n
    · rw [if_pos e]; obtain ⟨rfl, e⟩ := e; rw [(r3 i i e e).1, q_iadd9 (hf i e)]; exact hf i e
    · rw [if_neg e]; exact r2 i j hi hj
  · rw [hs i j (by omega) (by omega), hA i j (by omega), (r3 i j hi hj).1]
  · rw [hA i j (by omega), hA j i (by omega), (r3 i j hi hj).2]
    by_cases e : i = j
    · rw [e]
    · rw [if_neg (fun q => e q.1), if_neg (fun q => e q.1.symm)]
theorem ch_same {ln : Nat} {Tx Pr : Nat → Int32} {v r1 r2 : Int32} (hl : ln ≤ 61) (h : ∀ k, k < ln → Tx k = Pr k) (e1 : ∀ k, v = nI k → k < ln → r1 = Tx k) (e1b : (v < 0 ∨ nI ln ≤ v) → r1 = -1) (e2 : r2 = (if ¬ v < 0 ∧ v < nI ln then Pr v.toNatClampNeg else -1)) : r1 = r2 := by
  by_cases hv : v < 0 ∨ nI ln ≤ v
  · rw [e1b hv, e2, if_neg (fun q => hv.elim q.1 (fun h2 => Int32.not_le.mpr q.2 h2))]
  · obtain ⟨k, rfl, hk⟩ := nI_ix (by omega) hv
    rw [e1 k rfl hk, e2, if_pos ⟨fun q => hv (Or.inl q), Int32.not_le.mp fun q => hv (Or.inr q)⟩, nI_clamp (by omega)]
    exact h k hk
