/-! the reference's minors, as it works them out -/
def pcn (s : Nat) : Nat → Nat
  | 0 => 0
  | k + 1 => pcn s k + s / 2 ^ k % 2
def plF (set sz : Nat) : Nat → Nat × Nat
  | 0 => (0, 0)
  | i + 1 => if set / 2 ^ i % 2 = 1 then (if (plF set sz i).2 + 1 = sz then i else (plF set sz i).1, (plF set sz i).2 + 1) else plF set sz i
def inF (A : Nat → Nat → Int) (part sz col : Nat) (prev : Nat → Int) : Nat → Int × Nat
  | 0 => (if sz = 0 then 1 else 0, 0)
  | i + 1 => if part / 2 ^ i % 2 = 1 then (if ((inF A part sz col prev i).2 + sz - 1) % 2 = 1 then (inF A part sz col prev i).1 - A i col * prev (part - 2 ^ i) else (inF A part sz col prev i).1 + A i col * prev (part - 2 ^ i), (inF A part sz col prev i).2 + 1) else inF A part sz col prev i
def mnF (A : Nat → Nat → Int) (set : Nat) : Nat → Nat → Int
  | 0, part => (inF A part 0 (plF set 0 6).1 (fun _ => 0) 6).1
  | s + 1, part => (inF A part (s + 1) (plF set (s + 1) 6).1 (mnF A set s) 6).1
def mn (A : Nat → Nat → Int) (set part : Nat) : Int := mnF A set (pcn part 6) part
def chF (A : Nat → Nat → Int) (k : Nat) : Nat → Nat → Int
  | 0 => fun _ => 0
  | set + 1 => va_up (chF A k set) (k - pcn set 6) (if pcn set 6 % 2 = 1 then chF A k set (k - pcn set 6) - mn A set set else chF A k set (k - pcn set 6) + mn A set set)
theorem pcn_le {s : Nat} : ∀ k, pcn s k ≤ k
  | 0 => Nat.le_refl _
  | k + 1 => by
    have := pcn_le (s := s) k
    rw [pcn]
    omega
theorem pl_lt {set sz : Nat} : ∀ i, i ≤ 6 → (plF set sz i).1 < 6 ∧ (plF set sz i).2 ≤ i
  | 0, _ => by simp [plF]
  | i + 1, h => by
    have := pl_lt (set := set) (sz := sz) i (by omega)
    simp only [plF]
    split
    · constructor
      · split <;> simp <;> omega
      · simp; omega
    · omega
theorem mb_clear : ∀ p, p < 64 → ∀ i, i < 6 → p / 2 ^ i % 2 = 1 → (nI p &&& ((nI 1 <<< (nI i &&& 31)) ^^^ (-1))) = nI (p - 2 ^ i) := by decide +kernel
theorem mb_and : ∀ p, p < 64 → ∀ s, s < 64 → (nI p &&& nI s) = nI (p &&& s) := by decide +kernel
theorem mb_bit : ∀ p, p < 64 → ∀ i, i < 6 → ((nI p >>> (nI i &&& 31)) &&& nI 1) = nI (p / 2 ^ i % 2) := by decide +kernel
theorem mb_one : ∀ k, k ≤ 6 → (nI 1 <<< (nI k &&& 31)) = nI (2 ^ k) := by decide +kernel
/-- a member taken out: one fewer, and still among them -/
theorem mb_sub : ∀ p, p < 64 → ∀ i, i < 6 → p / 2 ^ i % 2 = 1 → pcn (p - 2 ^ i) 6 + 1 = pcn p 6 ∧ p - 2 ^ i < p ∧ 2 ^ i ≤ p := by decide +kernel
theorem mb_in : ∀ s, s < 64 → ∀ p, p < 64 → ∀ i, i < 6 → p / 2 ^ i % 2 = 1 → p &&& s = p → (p - 2 ^ i) &&& s = p - 2 ^ i := by decide +kernel
theorem mb_self : ∀ s, s < 64 → s &&& s = s := by decide +kernel
theorem mb_sz : ∀ k, k ≤ 6 → ∀ s, s < 2 ^ k → pcn s 6 ≤ k ∧ s < 64 := by decide +kernel
/-- sizes -/
theorem inF_bd {A : Nat → Nat → Int} {part sz col : Nat} {prev : Nat → Int} {u : Int} (hu : 1 ≤ u) (hA : ∀ i, i < 6 → bd 1000000 (A i col)) (hp : ∀ i, i < 6 → part / 2 ^ i % 2 = 1 → bd u (prev (part - 2 ^ i))) : ∀ i : Nat, i ≤ 6 → bd (1 + (i : Int) * (1000000 * u)) (inF A part sz col prev i).1
  | 0, _ => by
    simp only [inF, bd]
    split <;> simp
  | i + 1, hi => by
    have ih := inF_bd hu hA hp (sz := sz) i (by omega)
    have hm : 0 ≤ 1000000 * u := by omega
    have e : (1 : Int) + ((i + 1 : Nat) : Int) * (1000000 * u) = 1 + (i : Int) * (1000000 * u) + 1000000 * u := by
      rw [show ((i + 1 : Nat) : Int) = (i : Int) + 1 by simp, Int.add_mul]
      omega
    rw [e]
    simp only [inF]
    split
    · next hb =>
      have h1 := bd_mul (hA i (by omega)) (hp i (by omega) hb)
      obtain ⟨a1, a2⟩ := h1
      obtain ⟨b1, b2⟩ := ih
      split
      · exact ⟨by show -_ ≤ _ - _; omega, by show _ - _ ≤ _; omega⟩
      · exact ⟨by show -_ ≤ _ + _; omega, by show _ + _ ≤ _; omega⟩
    · exact bd_le (by omega) ih
theorem mnF_bd {A : Nat → Nat → Int} {set : Nat} (hA : ∀ i j, i < 6 → j < 6 → bd 1000000 (A i j)) : ∀ s part, bd (8388608 ^ s) (mnF A set s part)
  | 0, part => by
    have h : ∀ i, (inF A part 0 (plF set 0 6).1 (fun _ => 0) i).1 = 1 := fun i => by
      induction i with
      | zero => rfl
      | succ i ih =>
        simp only [inF]
        split
        · split <;> simp [ih]
        · exact ih
    simp only [mnF]
    rw [h]
    exact ⟨by decide, by decide⟩
  | s + 1, part => by
    have h0 : (0 : Int) < 8388608 ^ s := Int.pow_pos (by decide)
    have h := inF_bd (A := A) (part := part) (sz := s + 1) (col := (plF set (s + 1) 6).1) (prev := mnF A set s) (u := 8388608 ^ s) (by omega) (fun i hi => hA i _ hi (pl_lt 6 (Nat.le_refl _)).1) (fun i _ _ => mnF_bd hA s _) 6 (Nat.le_refl _)
    simp only [mnF]
    refine bd_le ?_ h
    rw [Int.pow_succ]
    simp
    omega
