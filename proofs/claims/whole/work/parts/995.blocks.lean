/-! the blocks' polynomials -/
def pB (A : Nat → Nat → Int) : Nat → Nat → Int
  | 0 => fun _ => 1
  | k + 1 => grF A (pB A k) k
/-- the first k + 1 blocks are worked out, the others are there -/
def bkU (ad : Nat → Nat) (cI cG : ClassId) (σ : Nat → va_E) (A : Nat → Nat → Int) (k : Nat) : Prop := (∀ a, a ≤ k → ∃ (F : Nat → Nat → Int32) (s : Nat → Int32), pl ad cI cG σ (20 + 10 * a) 6 a 6 F s ∧ pl_is F a 6 (pB A a)) ∧ ∀ a, k < a → a ≤ 6 → ∃ (d : Nat) (F : Nat → Nat → Int32) (s : Nat → Int32), pl ad cI cG σ (20 + 10 * a) 6 d 6 F s
theorem bkU_keep {ad : Nat → Nat} {cI cG : ClassId} {σ σ' : Nat → va_E} {A : Nat → Nat → Int} {k : Nat} (h : bkU ad cI cG σ A k) (hk : k ≤ 6) (hs : ∀ q, 20 ≤ q → q < 90 → σ' q = σ q) : bkU ad cI cG σ' A k := by
  refine ⟨fun a ha => ?_, fun a h1 h2 => ?_⟩
  · obtain ⟨F, s, b, c⟩ := h.1 a ha
    exact ⟨F, s, pl_same b (fun q q1 q2 => hs q (by omega) (by omega)), c⟩
  · obtain ⟨d, F, s, b⟩ := h.2 a h1 h2
    exact ⟨d, F, s, pl_same b (fun q q1 q2 => hs q (by omega) (by omega))⟩
theorem bkU_next {ad : Nat → Nat} {cI cG : ClassId} {σ σ' : Nat → va_E} {A : Nat → Nat → Int} {k : Nat} {F : Nat → Nat → Int32} {s : Nat → Int32} (h : bkU ad cI cG σ A k) (hk : k < 6) (hs : ∀ q, 20 ≤ q → q < 90 → (q < 20 + 10 * (k + 1) ∨ 20 + 10 * (k + 1) + 10 ≤ q) → σ' q = σ q) (hp : pl ad cI cG σ' (20 + 10 * (k + 1)) 6 (k + 1) 6 F s) (hi : pl_is F (k + 1) 6 (pB A (k + 1))) : bkU ad cI cG σ' A (k + 1) := by
  refine ⟨fun a ha => ?_, fun a h1 h2 => ?_⟩
  · by_cases e : a = k + 1
    · rw [e]; exact ⟨F, s, hp, hi⟩
    · obtain ⟨F, s, b, c⟩ := h.1 a (by omega)
      exact ⟨F, s, pl_same b (fun q q1 q2 => hs q (by omega) (by omega) (by omega)), c⟩
  · obtain ⟨d, F, s, b⟩ := h.2 a (by omega) h2
    exact ⟨d, F, s, pl_same b (fun q q1 q2 => hs q (by omega) (by omega) (by omega))⟩
