/-! each zero at the new place costs a change of sign -/
theorem swp_lo {v : Int} {d : Nat} {p : Nat → Int} (m : Nat) : ∀ j, j + m < d → swp v d p m j = p j := by
  induction m with
  | zero => intro j _; rfl
  | succ m ih => intro j hj; rw [swp, va_up_ne _ _ (by omega)]; exact ih j (by omega)
theorem swp_rec {v : Int} {d : Nat} {p : Nat → Int} (m : Nat) : m ≤ d → ∀ j, j < d → d ≤ j + m → swp v d p m j = p j + v * swp v d p m (j + 1) := by
  induction m with
  | zero => intro _ j h1 h2; omega
  | succ m ih =>
    intro hm j h1 h2
    rw [swp]
    by_cases e : j = d - 1 - m
    · rw [e, va_up_self, va_up_ne _ _ (by omega), swp_lo m _ (by omega), show d - 1 - m + 1 = d - m by omega]
    · rw [va_up_ne _ _ e, va_up_ne _ _ (by omega)]
      exact ih (by omega) j h1 (by omega)
theorem ra_sh {c : Nat → Int} {i : Nat} (hz : ∀ j, j < i → c j = 0) (n : Nat) : ∀ lt, (lt = 1 ∨ lt = -1) → ra c lt (i + n) = ra (fun j => c (i + j)) lt n := by
  induction n with
  | zero => intro lt hlt; rw [Nat.add_zero, ra_zero i lt hlt hz]; rfl
  | succ n ih =>
    intro lt hlt
    rw [show i + (n + 1) = i + n + 1 by omega, ra_s, ra_s (fun j => c (i + j))]
    by_cases e : sg (c (i + n)) = -lt
    · rw [if_pos e, if_pos e, ih _ (by rw [e]; exact pm_neg hlt)]
    · rw [if_neg e, if_neg e, ih lt hlt]
/-- a sweep over the places from i on that ends in 0 -/
theorem ra_swp0 {v : Int} (hv : 0 < v) {d i : Nat} (hi : i < d) {p : Nat → Int} (hz : ∀ j, j < i → p j = 0) (hd : p d ≠ 0) (h0 : swp v d p (d - i) i = 0) : ra (swp v d p (d - i)) (nI 1) (d + 1) + 1 ≤ ra p (nI 1) (d + 1) := by
  have hb : ∀ j, j < i → swp v d p (d - i) j = 0 := fun j hj => by rw [swp_lo (d - i) j (by omega)]; exact hz j hj
  have htop : swp v d p (d - i) d = p d := swp_hi (by omega) (d - i) d (Nat.le_refl _) (by omega)
  have e1 := ra_sh hb (d + 1 - i) 1 (Or.inl rfl)
  have e2 := ra_sh hz (d + 1 - i) 1 (Or.inl rfl)
  rw [show i + (d + 1 - i) = d + 1 by omega] at e1 e2
  have key := dsc_1 (b := fun j => if i + j ≤ d then swp v d p (d - i) (i + j) else 0) (c := fun j => p (i + j)) hv (by show (if i + 0 ≤ d then swp v d p (d - i) (i + 0) else 0) = 0; rw [if_pos (by omega)]; exact h0) (d + 1 - i) (fun j hj => by
    show p (i + j) = (if i + j ≤ d then swp v d p (d - i) (i + j) else 0) - v * (if i + (j + 1) ≤ d then swp v d p (d - i) (i + (j + 1)) else 0)
    rw [if_pos (by omega)]
    by_cases e : i + (j + 1) ≤ d
    · rw [if_pos e, swp_rec (d - i) (by omega) (i + j) (by omega) (by omega), show i + j + 1 = i + (j + 1) by omega]
      omega
    · rw [if_neg e, show i + j = d by omega, htop, Int.mul_zero]
      omega) 1 (Or.inl rfl) (Or.inl (by show (if i + (d + 1 - i) ≤ d then swp v d p (d - i) (i + (d + 1 - i)) else 0) = 0; rw [if_neg (by omega)])) ⟨d - i, by omega, by
    show (if i + (d - i) ≤ d then swp v d p (d - i) (i + (d - i)) else 0) ≠ 0
    rw [if_pos (by omega), show i + (d - i) = d by omega, htop]
    exact hd⟩
  have e3 : ra (fun j => if i + j ≤ d then swp v d p (d - i) (i + j) else 0) 1 (d + 1 - i) = ra (fun j => swp v d p (d - i) (i + j)) 1 (d + 1 - i) := ra_cg _ _ (fun k hk => by
    show (if i + k ≤ d then swp v d p (d - i) (i + k) else 0) = _
    rw [if_pos (by omega)])
  show ra (swp v d p (d - i)) 1 (d + 1) + 1 ≤ ra p 1 (d + 1)
  omega
