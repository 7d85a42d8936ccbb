/-! Budan: moving a polynomial's zeros down makes no more changes of sign -/
theorem ra_s (p : Nat → Int) (lt : Int32) (k : Nat) : ra p lt (k + 1) = if sg (p k) = -lt then ra p (sg (p k)) k + 1 else ra p lt k := rfl
theorem neg_neg9 {lt : Int32} (h : lt = 1 ∨ lt = -1) : - -lt = lt := by rcases h with h | h <;> rw [h] <;> decide
theorem pm_neg {lt : Int32} (h : lt = 1 ∨ lt = -1) : -lt = 1 ∨ -lt = -1 := by rcases h with h | h <;> rw [h] <;> decide
theorem ra_flip (p : Nat → Int) (k : Nat) : ∀ lt, (lt = 1 ∨ lt = -1) → ra p lt k ≤ ra p (-lt) k + 1 := by
  induction k with
  | zero => intro lt _; simp [ra]
  | succ k ih =>
    intro lt hlt
    have hself : ¬ lt = -lt := by rcases hlt with h | h <;> rw [h] <;> decide
    have hself2 : ¬ -lt = lt := fun h => hself h.symm
    have hz : ¬ (0 : Int32) = -lt := by rcases hlt with h | h <;> rw [h] <;> decide
    have hz2 : ¬ (0 : Int32) = lt := by rcases hlt with h | h <;> rw [h] <;> decide
    rw [ra, ra, neg_neg9 hlt]
    have h3 : sg (p k) = 0 ∨ sg (p k) = lt ∨ sg (p k) = -lt := by
      rcases sg_3 (p k) with e | e | e <;> rcases hlt with h | h <;> rw [e, h] <;> decide
    rcases h3 with e | e | e
    · rw [e, if_neg hz, if_neg hz2]; exact ih lt hlt
    · rw [e, if_neg hself, if_pos rfl]; omega
    · rw [e, if_pos rfl, if_neg hself2]; omega
theorem sg_neg1 {x : Int} : sg x = -1 ↔ x < 0 := by
  unfold sg
  by_cases h : x < 0
  · simp [h]
  · simp only [h, if_false, iff_false]
    by_cases e : x = 0
    · simp [e]
    · simp [e]
theorem sg_pos1 {x : Int} : sg x = 1 ↔ 0 < x := by
  unfold sg
  by_cases h : x < 0
  · simp only [h, if_true]
    constructor
    · intro q; exact absurd q (by decide)
    · intro q; omega
  · simp only [h, if_false]
    by_cases e : x = 0
    · simp [e]
    · simp only [e, if_false, true_iff]; omega
/-- one step: p k becomes p k + h p (k + 1) -/
theorem ra_step0 {p q : Nat → Int} {k : Nat} {h : Int} (hh : 0 ≤ h) (hq : q k = p k + h * p (k + 1)) (ho : ∀ j, j < k → q j = p j) {s : Int32} (hs : s = 1 ∨ s = -1) (he : sg (p (k + 1)) = s) : ra q s (k + 1) ≤ ra p s (k + 1) := by
  rw [ra, ra]
  have c1 : ∀ lt, ra q lt k = ra p lt k := fun lt => ra_cg k lt ho
  by_cases e1 : sg (q k) = -s
  · have e2 : sg (p k) = -s := by
      rcases hs with rfl | rfl
      · have a := sg_neg1.mp e1
        have b := sg_pos1.mp he
        have := Int.mul_nonneg hh (Int.le_of_lt b)
        exact sg_neg1.mpr (by omega)
      · have a := sg_pos1.mp (e1.trans (by decide))
        have b := sg_neg1.mp he
        have := Int.mul_nonneg hh (show 0 ≤ -p (k + 1) by omega)
        rw [Int.mul_neg] at this
        exact (sg_pos1.mpr (by omega)).trans (by decide)
    rw [if_pos e1, if_pos e2, e1, e2, c1]
    exact Nat.le_refl _
  · rw [if_neg e1, c1]
    by_cases e2 : sg (p k) = -s
    · rw [if_pos e2, e2]; exact ra_flip p k s hs
    · rw [if_neg e2]; exact Nat.le_refl _
theorem ra_step {p q : Nat → Int} {k : Nat} {h : Int} (hh : 0 ≤ h) (hq : q k = p k + h * p (k + 1)) (ho : ∀ j, j ≠ k → q j = p j) (m : Nat) : ∀ lt, (lt = 1 ∨ lt = -1) → ra q lt (k + 2 + m) ≤ ra p lt (k + 2 + m) := by
  induction m with
  | zero =>
    intro lt hlt
    show ra q lt (k + 1 + 1) ≤ ra p lt (k + 1 + 1)
    rw [ra_s q lt (k + 1), ra_s p lt (k + 1), ho (k + 1) (by omega)]
    by_cases z : p (k + 1) = 0
    · have hs : ∀ j, j < k + 1 → q j = p j := fun j hj => by
        by_cases e : j = k
        · rw [e, hq, z, Int.mul_zero, Int.add_zero]
        · exact ho j e
      rw [ra_cg (k + 1) _ hs, ra_cg (k + 1) _ hs]
      exact Nat.le_refl _
    · have hs : sg (p (k + 1)) = 1 ∨ sg (p (k + 1)) = -1 := by
        rcases sg_3 (p (k + 1)) with e | e | e
        · exact absurd (sg_zero.mp e) z
        · exact Or.inl e
        · exact Or.inr e
      have st := ra_step0 hh hq (fun j hj => ho j (by omega)) hs rfl
      by_cases e : sg (p (k + 1)) = -lt
      · rw [if_pos e, if_pos e]; omega
      · rw [if_neg e, if_neg e]
        have el : sg (p (k + 1)) = lt := by
          rcases hs with a | a <;> rcases hlt with b | b <;> rw [a, b] at e ⊢ <;> first | rfl | exact absurd (by decide) e
        rw [← el]; exact st
  | succ m ih =>
    intro lt hlt
    show ra q lt (k + 2 + m + 1) ≤ ra p lt (k + 2 + m + 1)
    rw [ra_s q lt (k + 2 + m), ra_s p lt (k + 2 + m), ho (k + 2 + m) (by omega)]
    by_cases e : sg (p (k + 2 + m)) = -lt
    · rw [if_pos e, if_pos e, e]
      have := ih (-lt) (pm_neg hlt)
      omega
    · rw [if_neg e, if_neg e]
      exact ih lt hlt
/-- a sweep, all sweeps -/
theorem ra_swp {v : Int} (hv : 0 ≤ v) {d : Nat} (p : Nat → Int) (j : Nat) : j ≤ d → ra (swp v d p j) (nI 1) (d + 1) ≤ ra p (nI 1) (d + 1) := by
  induction j with
  | zero => intro _; exact Nat.le_refl _
  | succ j ih =>
    intro hj
    refine Nat.le_trans ?_ (ih (by omega))
    have h := ra_step (p := swp v d p j) (q := swp v d p (j + 1)) (k := d - 1 - j) (h := v) hv (by rw [swp, va_up_self, show d - 1 - j + 1 = d - j by omega]) (fun i hi => by rw [swp, va_up_ne _ _ hi]) j (nI 1) (Or.inl rfl)
    rw [show d - 1 - j + 2 + j = d + 1 by omega] at h
    exact h
theorem ra_low {v : Int} (hv : 0 ≤ v) {d : Nat} (p : Nat → Int) (i : Nat) : i ≤ d → ra (low v d p i) (nI 1) (d + 1) ≤ ra p (nI 1) (d + 1) := by
  induction i with
  | zero => intro _; exact Nat.le_refl _
  | succ i ih =>
    intro hi
    rw [low]
    exact Nat.le_trans (ra_swp hv _ (d - i) (by omega)) (ih (by omega))
