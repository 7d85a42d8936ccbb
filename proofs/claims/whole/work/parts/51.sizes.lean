/-! what weigh answers, and when its numbers are small enough -/
def wR (t b : Int) (d : Nat) (p : Nat → Int) : Nat → Int := low t d (mulp b d p d) d
def wE (t b : Int) (d : Nat) (p : Nat → Int) : Nat := ez (wR t b d p) 0 (d + 1)
def wL (t b : Int) (d : Nat) (p : Nat → Int) : Int32 := nI d - nI (wE t b d p) - nI (fa (wR t b d p) 0 (wE t b d p) (d + 1 - wE t b d p))
def wH (t b : Int) (d : Nat) (p : Nat → Int) : Prop := sm t ∧ sm b ∧ (∀ k j, k ≤ d → j ≤ d → sm (mA b p k j)) ∧ ∀ a j k, a ≤ d → j ≤ d → k ≤ d → sm (swp t d (low t d (mulp b d p d) a) j k)
def wU (σ0 : Nat → va_E) (cI cZ : ClassId) (ad : Nat → Nat) (th nn rws ps : Int32) (G : Nat → Int32) (Z : Nat → Int) (t b : Int) (d : Nat) (p : Nat → Int) : (Nat → va_E) → Prop := fun σ' =>
  ∃ (P' L' M' : Nat → Int32) (Z' : Nat → Int), σ' = rw3 (va_up σ0 187 (.inl (cI, 5, .inl (upd G 4 (nI d))))) ciM cI cZ (mfs ad th nn rws ps (wL t b d p) (nI (wE t b d p))) P' L' M' ∧ RB P' L' M' Z' ∧ eqX Z' (mvX Z d (wR t b d p))
/-- |x| at most u -/
def bd (u x : Int) : Prop := -u ≤ x ∧ x ≤ u
theorem bd_mul {u v x y : Int} (hx : bd u x) (hy : bd v y) : bd (u * v) (x * y) := by
  obtain ⟨x1, x2⟩ := hx
  obtain ⟨y1, y2⟩ := hy
  have a1 : 0 ≤ (u - x) * (v + y) := Int.mul_nonneg (by omega) (by omega)
  have a2 : 0 ≤ (u + x) * (v - y) := Int.mul_nonneg (by omega) (by omega)
  have a3 : 0 ≤ (u - x) * (v - y) := Int.mul_nonneg (by omega) (by omega)
  have a4 : 0 ≤ (u + x) * (v + y) := Int.mul_nonneg (by omega) (by omega)
  constructor <;> grind
theorem bd_add {u v x y : Int} (hx : bd u x) (hy : bd v y) : bd (u + v) (x + y) := ⟨by have := hx.1; have := hy.1; omega, by have := hx.2; have := hy.2; omega⟩
theorem bd_le {u v x : Int} (h : u ≤ v) (hx : bd u x) : bd v x := ⟨by have := hx.1; omega, by have := hx.2; omega⟩
theorem bd_pow {v b : Int} (hb : bd v b) : ∀ n : Nat, bd (v ^ n) (b ^ n)
  | 0 => by simp [bd]
  | n + 1 => by rw [Int.pow_succ, Int.pow_succ]; exact bd_mul (bd_pow hb n) hb
theorem swp_bd {u v t : Int} {d : Nat} {p : Nat → Int} (ht : bd v t) (hp : ∀ k, k ≤ d → bd (u * v ^ (d - k)) (p k)) : ∀ j, j ≤ d → ∀ k, k ≤ d → bd (2 ^ j * u * v ^ (d - k)) (swp t d p j k)
  | 0, _, k, hk => by
    have := hp k hk
    simp only [swp]
    rw [show (2 : Int) ^ 0 * u = u by simp]
    exact this
  | j + 1, hj, k, hk => by
    have ih := swp_bd ht hp j (by omega)
    have e2 : (2 : Int) ^ (j + 1) * u * v ^ (d - k) = 2 ^ j * u * v ^ (d - k) + 2 ^ j * u * v ^ (d - k) := by rw [Int.pow_succ]; grind
    simp only [swp, va_up]
    split
    · next h =>
      subst h
      have h1 := ih (d - 1 - j) (by omega)
      have h2 := ih (d - j) (by omega)
      have h3 := bd_mul ht h2
      rw [e2]
      refine bd_add h1 ?_
      have e3 : v * (2 ^ j * u * v ^ (d - (d - j))) = 2 ^ j * u * v ^ (d - (d - 1 - j)) := by
        rw [show d - (d - 1 - j) = (d - (d - j)) + 1 by omega, Int.pow_succ]
        grind
      rw [e3] at h3
      exact h3
    · have h1 := ih k hk
      refine bd_le ?_ h1
      rw [e2]
      have : 0 ≤ 2 ^ j * u * v ^ (d - k) := by
        have a := h1.1
        have b := h1.2
        omega
      omega
theorem low_bd {u v t : Int} {d : Nat} {p : Nat → Int} (ht : bd v t) (hp : ∀ k, k ≤ d → bd (u * v ^ (d - k)) (p k)) : ∀ a, a ≤ d → ∀ k, k ≤ d → bd (2 ^ (d * a) * u * v ^ (d - k)) (low t d p a k)
  | 0, _, k, hk => by
    have := hp k hk
    simp only [low]
    rw [Nat.mul_zero, show (2 : Int) ^ 0 * u = u by simp]
    exact this
  | a + 1, ha, k, hk => by
    have ih := low_bd ht hp a (by omega)
    have h := swp_bd (u := 2 ^ (d * a) * u) ht ih (d - a) (by omega) k hk
    simp only [low]
    refine bd_le ?_ h
    have h0 : 0 ≤ 2 ^ (d * a) * u * v ^ (d - k) := by
      have q := ih k hk
      have q1 := q.1
      have q2 := q.2
      omega
    have e1 : (2 : Int) ^ (d * (a + 1)) = 2 ^ a * (2 ^ (d - a) * 2 ^ (d * a)) := by
      rw [← Int.pow_add, ← Int.pow_add]
      congr 1
      rw [Nat.mul_succ]
      omega
    have e2 : (2 : Int) ^ (d * (a + 1)) * u * v ^ (d - k) = 2 ^ a * (2 ^ (d - a) * (2 ^ (d * a) * u) * v ^ (d - k)) := by rw [e1]; grind
    rw [e2]
    have h0' : (0 : Int) < 2 ^ a := Int.pow_pos (by decide)
    have h1 : (1 : Int) ≤ 2 ^ a := by omega
    have h2 : 0 ≤ 2 ^ (d - a) * (2 ^ (d * a) * u) * v ^ (d - k) := by
      have q1 := h.1
      have q2 := h.2
      omega
    have := Int.mul_le_mul_of_nonneg_right h1 h2
    omega
theorem p2_lt {a b : Nat} (h : a < b) : (2 : Int) ^ a < 2 ^ b := by
  obtain ⟨d, rfl⟩ : ∃ d, b = a + 1 + d := ⟨b - (a + 1), by omega⟩
  rw [Int.pow_add, Int.pow_succ]
  have h1 : (0 : Int) < 2 ^ a := Int.pow_pos (by decide)
  have h2 : (0 : Int) < 2 ^ d := Int.pow_pos (by decide)
  have := Int.mul_le_mul_of_nonneg_left (show (1 : Int) ≤ 2 ^ d by omega) (show (0 : Int) ≤ 2 ^ a * 2 by omega)
  omega
theorem p2_le {a b : Nat} (h : a ≤ b) : (2 : Int) ^ a ≤ 2 ^ b := by
  rcases Nat.lt_or_eq_of_le h with h | h
  · exact Int.le_of_lt (p2_lt h)
  · rw [h]
    exact Int.le_refl _
theorem sBB_2 : sBB = 2 ^ 2400 := by
  show (16777216 : Int) ^ 100 = 2 ^ (24 * 100)
  rw [Int.pow_mul]
  rfl
theorem sm_of {n : Nat} {x : Int} (hn : n < 2400) (h : bd (2 ^ n) x) : sm x := by
  have h1 := p2_lt hn
  have h2 := h.1
  have h3 := h.2
  have e := sBB_2
  constructor
  · show -sBB < x
    omega
  · show x < sBB
    omega
theorem wH_of {t b : Int} {d : Nat} {p : Nat → Int} (hd : d ≤ 6) (ht : bd (2 ^ 360) t) (hb : bd (2 ^ 360) b) (hp : ∀ k, k ≤ d → bd (2 ^ 150) (p k)) : wH t b d p := by
  have hv : ∀ n : Nat, ((2 : Int) ^ 360) ^ n = 2 ^ (360 * n) := fun n => (Int.pow_mul ..).symm
  refine ⟨sm_of (by decide) ht, sm_of (by decide) hb, fun k j hk hj => ?_, fun a j k ha hj hk => ?_⟩
  · simp only [mA]
    split
    · next h =>
      have h1 := bd_mul (hp j hj) (bd_pow hb (k - j))
      rw [hv, ← Int.pow_add] at h1
      exact sm_of (n := 150 + 360 * (k - j)) (by omega) h1
    · exact sm_of (by decide) (hp j hj)
  · have h1 : ∀ k, k ≤ d → bd (2 ^ 150 * (2 ^ 360) ^ (d - k)) (mulp b d p d k) := fun k hk => by
      simp only [mulp]
      split
      · exact bd_mul (hp k hk) (bd_pow hb _)
      · refine bd_le ?_ (hp k hk)
        rw [hv, ← Int.pow_add]
        exact p2_le (by omega)
    have h2 := low_bd ht h1 a ha
    have h3 := swp_bd (u := 2 ^ (d * a) * 2 ^ 150) ht h2 j hj k hk
    rw [hv, ← Int.pow_add, ← Int.pow_add, ← Int.pow_add] at h3
    have hda : d * a ≤ 6 * 6 := Nat.mul_le_mul hd (by omega)
    exact sm_of (n := j + (d * a + 150) + 360 * (d - k)) (by omega) h3
