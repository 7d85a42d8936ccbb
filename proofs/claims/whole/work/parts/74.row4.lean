/-! the reference: rowTrim, lower, purely -/
def dgt (f : Nat → Int) : Nat → Nat
  | 0 => 0
  | c + 1 => if f c = 0 then dgt f c else c + 1
def lwA (Z : Nat → Int) (dm ds a b v : Nat) : Int :=
  if 32 ≤ v ∧ v ≤ 32 + dm then (if v < 32 + a then Z v * Z (24 + ds) else Z v) - (if 32 + (dm - ds) ≤ v ∧ v < 32 + (dm - ds) + b then Z (32 + dm) * Z (v - 8 - (dm - ds)) else 0) else Z v
def lwI (Z : Nat → Int) (dm ds a b : Nat) (X : Nat → Int) : Prop := (∀ v, v ≠ 105 → v ≠ 106 → X v = lwA Z dm ds a b v) ∧ X 106 = Z (32 + dm)
theorem lwI_0 {Z : Nat → Int} {dm ds : Nat} : lwI Z dm ds 0 0 (va_up Z 106 (Z (32 + dm))) := by
  refine ⟨fun v h1 h2 => ?_, va_up_self _ _ _⟩
  rw [va_up_ne _ _ h2]
  simp only [lwA]
  by_cases h : 32 ≤ v ∧ v ≤ 32 + dm
  · rw [if_pos h, if_neg (by omega), if_neg (by omega)]; omega
  · rw [if_neg h]
theorem lwI_a {Z X : Nat → Int} {dm ds k : Nat} (hk : k ≤ dm) (hm : dm ≤ 6) (hs : ds ≤ 6) (h : lwI Z dm ds k 0 X) : X (32 + k) = Z (32 + k) ∧ X (24 + ds) = Z (24 + ds) := by
  constructor
  · rw [h.1 _ (by omega) (by omega), lwA, if_pos (by omega), if_neg (by omega), if_neg (by omega)]; omega
  · rw [h.1 _ (by omega) (by omega), lwA, if_neg (by omega)]
theorem lwI_as {Z X : Nat → Int} {dm ds k : Nat} (hk : k ≤ dm) (hm : dm ≤ 6) (h : lwI Z dm ds k 0 X) (y : Int) : lwI Z dm ds (k + 1) 0 (va_up (va_up X 105 y) (32 + k) (Z (32 + k) * Z (24 + ds))) := by
  refine ⟨fun v h1 h2 => ?_, ?_⟩
  · by_cases e : v = 32 + k
    · rw [e, va_up_self, lwA, if_pos (by omega), if_pos (by omega), if_neg (by omega)]; omega
    · rw [va_up_ne _ _ e, va_up_ne _ _ h1, h.1 v h1 h2]
      simp only [lwA]
      by_cases g : 32 ≤ v ∧ v ≤ 32 + dm
      · rw [if_pos g, if_pos g]
        by_cases g2 : v < 32 + k
        · rw [if_pos g2, if_pos (c := v < 32 + (k + 1)) (by omega)]
        · rw [if_neg g2, if_neg (c := v < 32 + (k + 1)) (by omega)]
      · rw [if_neg g, if_neg g]
  · rw [va_up_ne _ _ (by omega), va_up_ne _ _ (by decide)]; exact h.2
theorem lwI_b {Z X : Nat → Int} {dm ds k : Nat} (hk : k ≤ ds) (hd : ds ≤ dm) (hm : dm ≤ 6) (h : lwI Z dm ds (dm + 1) k X) : X (32 + k + (dm - ds)) = Z (32 + k + (dm - ds)) * Z (24 + ds) ∧ X (24 + k) = Z (24 + k) := by
  constructor
  · rw [h.1 _ (by omega) (by omega), lwA, if_pos (by omega), if_pos (by omega), if_neg (by omega)]; omega
  · rw [h.1 _ (by omega) (by omega), lwA, if_neg (by omega)]
theorem lwI_bs {Z X : Nat → Int} {dm ds k : Nat} (hk : k ≤ ds) (hd : ds ≤ dm) (hm : dm ≤ 6) (h : lwI Z dm ds (dm + 1) k X) (y : Int) : lwI Z dm ds (dm + 1) (k + 1) (va_up (va_up X 105 y) (32 + k + (dm - ds)) (Z (32 + k + (dm - ds)) * Z (24 + ds) - Z (32 + dm) * Z (24 + k))) := by
  refine ⟨fun v h1 h2 => ?_, ?_⟩
  · by_cases e : v = 32 + k + (dm - ds)
    · rw [e, va_up_self, lwA, if_pos (by omega), if_pos (by omega), if_pos (by omega), show 32 + k + (dm - ds) - 8 - (dm - ds) = 24 + k by omega]
    · rw [va_up_ne _ _ e, va_up_ne _ _ h1, h.1 v h1 h2]
      simp only [lwA]
      by_cases g : 32 ≤ v ∧ v ≤ 32 + dm
      · rw [if_pos g, if_pos g]
        by_cases g2 : 32 + (dm - ds) ≤ v ∧ v < 32 + (dm - ds) + k
        · rw [if_pos g2]; rw [if_pos (c := 32 + (dm - ds) ≤ v ∧ v < 32 + (dm - ds) + (k + 1)) (by omega)]
        · rw [if_neg g2]; rw [if_neg (c := 32 + (dm - ds) ≤ v ∧ v < 32 + (dm - ds) + (k + 1)) (by omega)]
      · rw [if_neg g, if_neg g]
  · rw [va_up_ne _ _ (by omega), va_up_ne _ _ (by decide)]; exact h.2
theorem dgt_congr {f g : Nat → Int} : ∀ {c : Nat}, (∀ k, k < c → f k = g k) → dgt f c = dgt g c
  | 0, _ => rfl
  | c + 1, h => by
    simp only [dgt]
    rw [h c (Nat.lt_succ_self _), dgt_congr (fun k hk => h k (Nat.lt_succ_of_lt hk))]
