/-! Descartes: a factor t - h, h above 0, makes at least one more change of sign -/
theorem sg_lt3 (x : Int) {lt : Int32} (hlt : lt = 1 ∨ lt = -1) : x = 0 ∨ sg x = lt ∨ sg x = -lt := by
  rcases sg_3 x with e | e | e
  · exact Or.inl (sg_zero.mp e)
  · rcases hlt with h | h
    · exact Or.inr (Or.inl (by rw [e, h]))
    · exact Or.inr (Or.inr (by rw [e, h]; decide))
  · rcases hlt with h | h
    · exact Or.inr (Or.inr (by rw [e, h]))
    · exact Or.inr (Or.inl (by rw [e, h]))
/-- b opposite to lt, a below it with lt or 0: b - h a is opposite too -/
theorem sg_sub {x y h : Int} (hh : 0 < h) {lt : Int32} (hlt : lt = 1 ∨ lt = -1) (hx : sg x = -lt ∨ (x = 0 ∧ y ≠ 0)) (hy : y = 0 ∨ sg y = lt) : sg (x - h * y) = -lt := by
  rcases hlt with rfl | rfl
  · have hy' : 0 ≤ y := by
      rcases hy with q | q
      · omega
      · have := sg_pos1.mp q; omega
    have hx' : x < 0 ∨ (x = 0 ∧ 0 < y) := by
      rcases hx with q | ⟨q, q2⟩
      · exact Or.inl (sg_neg1.mp q)
      · exact Or.inr ⟨q, by omega⟩
    refine sg_neg1.mpr ?_
    rcases hx' with q | ⟨q, q2⟩
    · have := Int.mul_nonneg (Int.le_of_lt hh) hy'; omega
    · have := Int.mul_pos hh q2; omega
  · have hy' : y ≤ 0 := by
      rcases hy with q | q
      · omega
      · have := sg_neg1.mp q; omega
    have hx' : 0 < x ∨ (x = 0 ∧ y < 0) := by
      rcases hx with q | ⟨q, q2⟩
      · exact Or.inl (sg_pos1.mp (q.trans (by decide)))
      · exact Or.inr ⟨q, by omega⟩
    have hn : h * y = -(h * -y) := by rw [Int.mul_neg]; omega
    refine (sg_pos1.mpr ?_).trans (by decide)
    rcases hx' with q | ⟨q, q2⟩
    · have := Int.mul_nonneg (Int.le_of_lt hh) (show 0 ≤ -y by omega); omega
    · have := Int.mul_pos hh (show 0 < -y by omega); omega
theorem ra_up (p : Nat → Int) (lt : Int32) (n : Nat) (hlt : lt = 1 ∨ lt = -1) : ra p lt n ≤ ra p lt (n + 1) := by
  rw [ra_s]
  by_cases e : sg (p n) = -lt
  · rw [if_pos e, e]; exact ra_flip p n lt hlt
  · rw [if_neg e]; exact Nat.le_refl _
theorem dsc_0 {b c : Nat → Int} {h : Int} (hh : 0 < h) (n : Nat) : (∀ j, j < n → c j = b j - h * b (j + 1)) → ∀ lt, (lt = 1 ∨ lt = -1) → (b n = 0 ∨ sg (b n) = lt) → ra b lt n ≤ ra c lt n := by
  induction n with
  | zero => intro _ lt _ _; exact Nat.le_refl _
  | succ n ih =>
    intro hc lt hlt hb
    have hc' : ∀ j, j < n → c j = b j - h * b (j + 1) := fun j hj => hc j (by omega)
    rcases sg_lt3 (b n) hlt with e | e | e
    · have h1 := ih hc' lt hlt (Or.inl e)
      have h2 := ra_up c lt n hlt
      have h0 : ra b lt (n + 1) = ra b lt n := by rw [ra_s, e, if_neg]; rcases hlt with h | h <;> rw [h] <;> decide
      omega
    · have h1 := ih hc' lt hlt (Or.inr e)
      have h2 := ra_up c lt n hlt
      have h0 : ra b lt (n + 1) = ra b lt n := by rw [ra_s, e, if_neg]; rcases hlt with h | h <;> rw [h] <;> decide
      omega
    · have h1 := ih hc' (-lt) (pm_neg hlt) (Or.inr e)
      have hs : sg (c n) = -lt := by rw [hc n (by omega)]; exact sg_sub hh hlt (Or.inl e) hb
      rw [ra_s b, ra_s c, if_pos e, if_pos hs, e, hs]
      omega
theorem dsc_1 {b c : Nat → Int} {h : Int} (hh : 0 < h) (h0 : b 0 = 0) (n : Nat) : (∀ j, j < n → c j = b j - h * b (j + 1)) → ∀ lt, (lt = 1 ∨ lt = -1) → (b n = 0 ∨ sg (b n) = lt) → (∃ j, j ≤ n ∧ b j ≠ 0) → ra b lt n + 1 ≤ ra c lt n := by
  induction n with
  | zero => intro _ lt _ _ ⟨j, hj, he⟩; exact absurd h0 (by rw [show j = 0 by omega] at he; exact he)
  | succ n ih =>
    intro hc lt hlt hb hex
    have hc' : ∀ j, j < n → c j = b j - h * b (j + 1) := fun j hj => hc j (by omega)
    have hz : ¬ sg (b n) = -lt → ra b lt (n + 1) = ra b lt n := fun e => by rw [ra_s, if_neg e]
    have h2 := ra_up c lt n hlt
    rcases sg_lt3 (b n) hlt with e | e | e
    · have hb0 := hz (by rw [e]; rcases hlt with h | h <;> rw [h] <;> decide)
      by_cases hl : ∃ j, j ≤ n ∧ b j ≠ 0
      · have h1 := ih hc' lt hlt (Or.inl e) hl
        omega
      · have hall : ∀ j, j < n → b j = 0 := fun j hj => Decidable.not_not.mp fun q => hl ⟨j, by omega, q⟩
        have hr : ra b lt n = 0 := ra_zero n lt hlt hall
        have hn1 : b (n + 1) ≠ 0 := by
          obtain ⟨j, hj, he⟩ := hex
          rcases Nat.lt_or_ge n j with q | q
          · rw [show n + 1 = j by omega]; exact he
          · exact absurd ⟨j, q, he⟩ hl
        have hs : sg (c n) = -lt := by rw [hc n (by omega)]; exact sg_sub hh hlt (Or.inr ⟨e, hn1⟩) hb
        rw [ra_s c, if_pos hs]
        omega
    · have hb0 := hz (by rw [e]; rcases hlt with h | h <;> rw [h] <;> decide)
      have hne : b n ≠ 0 := fun q => by rw [q] at e; rcases hlt with h | h <;> rw [h] at e <;> exact absurd e (by decide)
      have h1 := ih hc' lt hlt (Or.inr e) ⟨n, Nat.le_refl _, hne⟩
      omega
    · have hne : b n ≠ 0 := fun q => by rw [q] at e; rcases hlt with h | h <;> rw [h] at e <;> exact absurd e (by decide)
      have h1 := ih hc' (-lt) (pm_neg hlt) (Or.inr e) ⟨n, Nat.le_refl _, hne⟩
      have hs : sg (c n) = -lt := by rw [hc n (by omega)]; exact sg_sub hh hlt (Or.inl e) hb
      rw [ra_s b, ra_s c, if_pos e, if_pos hs, e, hs]
      omega
