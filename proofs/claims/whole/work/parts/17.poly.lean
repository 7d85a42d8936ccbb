/-! the desk's polynomials: the cell i and the nine behind it -/
def pl_g (ad : Nat → Nat) (i : Nat) : Nat → Option Nat := fun k => if k < 7 then some (ad (i + 2 + k)) else none
def pl (ad : Nat → Nat) (cI cG : ClassId) (σ : Nat → va_E) (i most dgr lbs : Nat) (F : Nat → Nat → Int32) (sp : Nat → Int32) : Prop :=
  σ i = .inr (ciP, [.ref (ad (i + 1)), .ref (ad (i + 9)), .int (nI dgr), .int (nI lbs)]) ∧ σ (i + 1) = .inl (cG, 7, .inr (.inr (.inr (.inr (pl_g ad i))))) ∧ (∀ k, k < 7 → σ (i + 2 + k) = .inl (cI, most, .inl (F k))) ∧ σ (i + 9) = .inl (cI, most, .inl sp)
section PL
variable {ad : Nat → Nat} {cI cG : ClassId} {σ : Nat → va_E} {i most dgr lbs : Nat} {F : Nat → Nat → Int32} {sp : Nat → Int32}
theorem pl_o (h : pl ad cI cG σ i most dgr lbs F sp) : σ i = .inr (ciP, [.ref (ad (i + 1)), .ref (ad (i + 9)), .int (nI dgr), .int (nI lbs)]) := h.1
theorem pl_c (h : pl ad cI cG σ i most dgr lbs F sp) : σ (i + 1) = .inl (cG, 7, .inr (.inr (.inr (.inr (pl_g ad i))))) := h.2.1
theorem pl_r (h : pl ad cI cG σ i most dgr lbs F sp) {k : Nat} (hk : k < 7) : σ (i + 2 + k) = .inl (cI, most, .inl (F k)) := h.2.2.1 k hk
theorem pl_s (h : pl ad cI cG σ i most dgr lbs F sp) : σ (i + 9) = .inl (cI, most, .inl sp) := h.2.2.2
theorem pl_at {k : Nat} (hk : k < 7) : pl_g ad i k = some (ad (i + 2 + k)) := if_pos hk
theorem pl_row (h : pl ad cI cG σ i most dgr lbs F sp) {k : Nat} (hk : k < 7) (f : Nat → Int32) : pl ad cI cG (va_up σ (i + 2 + k) (.inl (cI, most, .inl f))) i most dgr lbs (va_up F k f) sp := by
  refine ⟨(va_up_ne _ _ (by omega)).trans h.1, (va_up_ne _ _ (by omega)).trans h.2.1, fun j hj => ?_, (va_up_ne _ _ (by omega)).trans h.2.2.2⟩
  by_cases e : j = k
  · subst e
    rw [va_up_self, va_up_self]
  · rw [va_up_ne _ _ (by omega), va_up_ne _ _ e]
    exact h.2.2.1 j hj
theorem pl_spare (h : pl ad cI cG σ i most dgr lbs F sp) (f : Nat → Int32) : pl ad cI cG (va_up σ (i + 9) (.inl (cI, most, .inl f))) i most dgr lbs F f := by
  refine ⟨(va_up_ne _ _ (by omega)).trans h.1, (va_up_ne _ _ (by omega)).trans h.2.1, fun j hj => ?_, va_up_self _ _ _⟩
  rw [va_up_ne _ _ (by omega)]
  exact h.2.2.1 j hj
theorem pl_else (h : pl ad cI cG σ i most dgr lbs F sp) {k : Nat} (hk : k < i ∨ i + 10 ≤ k) (e : va_E) : pl ad cI cG (va_up σ k e) i most dgr lbs F sp := by
  refine ⟨(va_up_ne _ _ (by omega)).trans h.1, (va_up_ne _ _ (by omega)).trans h.2.1, fun j hj => ?_, (va_up_ne _ _ (by omega)).trans h.2.2.2⟩
  rw [va_up_ne _ _ (by omega)]
  exact h.2.2.1 j hj
theorem pl_fields (h : pl ad cI cG σ i most dgr lbs F sp) (d2 l2 : Nat) : pl ad cI cG (va_up σ i (.inr (ciP, [.ref (ad (i + 1)), .ref (ad (i + 9)), .int (nI d2), .int (nI l2)]))) i most d2 l2 F sp := by
  refine ⟨va_up_self _ _ _, (va_up_ne _ _ (by omega)).trans h.2.1, fun j hj => ?_, (va_up_ne _ _ (by omega)).trans h.2.2.2⟩
  rw [va_up_ne _ _ (by omega)]
  exact h.2.2.1 j hj
theorem pl_same {σ' : Nat → va_E} (h : pl ad cI cG σ i most dgr lbs F sp) (hs : ∀ q, i ≤ q → q < i + 10 → σ' q = σ q) : pl ad cI cG σ' i most dgr lbs F sp :=
  ⟨(hs _ (by omega) (by omega)).trans h.1, (hs _ (by omega) (by omega)).trans h.2.1, fun j hj => (hs _ (by omega) (by omega)).trans (h.2.2.1 j hj), (hs _ (by omega) (by omega)).trans h.2.2.2⟩
end PL
/-- rows and spare of the polynomial i alone have changed -/
def pl_fr (σ σ' : Nat → va_E) (i : Nat) : Prop := ∀ q, q < i + 2 ∨ i + 10 ≤ q → σ' q = σ q
theorem pl_fr_rf {σ : Nat → va_E} {i : Nat} : pl_fr σ σ i := fun _ _ => rfl
theorem pl_fr_up {σ σ' : Nat → va_E} {i k : Nat} {e : va_E} (h : pl_fr σ σ' i) (hk : i + 2 ≤ k ∧ k < i + 10) : pl_fr σ (va_up σ' k e) i := fun q hq => (va_up_ne _ _ (by omega)).trans (h q hq)
/-- the coefficients -/
def pl_is (F : Nat → Nat → Int32) (dgr lbs : Nat) (p : Nat → Int) : Prop := ∀ k, k ≤ dgr → lm_is (F k) lbs (p k)
/-- a polynomial's rows become p' -/
def pl_up (ad : Nat → Nat) (cI cG : ClassId) (σ : Nat → va_E) (i most dgr lbs : Nat) (p : Nat → Int) : (Nat → va_E) → Prop := fun σ' =>
  ∃ (F : Nat → Nat → Int32) (sp : Nat → Int32), pl_fr σ σ' i ∧ pl ad cI cG σ' i most dgr lbs F sp ∧ pl_is F dgr lbs p
/-! what the moves of a polynomial do to its numbers -/
/-- j steps of a sweep from above: p_k + v p_(k+1) for k = d - 1, d - 2 .. -/
def swp (v : Int) (d : Nat) (p : Nat → Int) : Nat → Nat → Int
  | 0 => p
  | j + 1 => va_up (swp v d p j) (d - 1 - j) (swp v d p j (d - 1 - j) + v * swp v d p j (d - j))
/-- i sweeps -/
def low (v : Int) (d : Nat) (p : Nat → Int) : Nat → Nat → Int
  | 0 => p
  | i + 1 => swp v d (low v d p i) (d - i)
/-- p((t + top) / bottom), times bottom to the d -/
def mul (b : Int) (d : Nat) (p : Nat → Int) : Nat → Int := fun k => if k ≤ d then p k * b ^ (d - k) else p k
theorem lm_is_zero {f : Nat → Int32} {n : Nat} (h : ∀ j, j < n → f j = nI 0) : lm_is f n 0 := by
  have hok : lm_ok f n := fun j hj => by rw [h j hj]; decide
  exact ⟨hok, 0, by rw [lm_u_zero hok (fun j hj => h j hj)]; simp⟩
/-- the first a coefficients of multiplyRoots are done -/
def mulp (v : Int) (d : Nat) (p : Nat → Int) (a : Nat) : Nat → Int := fun k => if k < a then p k * v ^ (d - k) else p k
/-- the numbers fit their limbs, with their signs -/
def pl_sz (d lbs : Nat) (p : Nat → Int) : Prop := ∀ k, k ≤ d → -(1073741824 ^ lbs) ≤ 2 * p k ∧ 2 * p k < 1073741824 ^ lbs
/-- how many zeros at 0: the first k from a on, of d - a, whose number isn't 0 -/
def ez (p : Nat → Int) (a : Nat) : Nat → Nat
  | 0 => a
  | k + 1 => if p a = 0 then ez p (a + 1) k else a
/-- the changes of sign from above, behind the sign lt -/
def ra (p : Nat → Int) (lt : Int32) : Nat → Nat
  | 0 => 0
  | k + 1 => if sg (p k) = -lt then ra p (sg (p k)) k + 1 else ra p lt k
def lessI (p : Nat → Int) (d : Nat) : Int32 := nI d - nI (ez p 0 d) - nI (ra p (nI 1) (d + 1))
theorem sg_zero {x : Int} : sg x = 0 ↔ x = 0 := by
  unfold sg
  constructor
  · intro h
    rcases Int.lt_or_le x 0 with h1 | h1
    · rw [if_pos h1] at h; exact absurd h (by decide)
    · rw [if_neg (by omega)] at h
      split at h
      · assumption
      · exact absurd h (by decide)
  · intro h
    rw [h]
    rfl
/-- where a polynomial is loaded: its ten cells alone change -/
def pl_fr10 (σ σ' : Nat → va_E) (i : Nat) : Prop := ∀ q, q < i ∨ i + 10 ≤ q → σ' q = σ q
