/-! longs of the desk's questions -/
theorem q_oT {x : Int} (h1 : -4611686018427387904 ≤ x) (h2 : x ≤ 4611686018427387904) : (Int64.ofInt x).toInt = x := by
  rw [Int64.toInt_ofInt_of_le (by omega) (by omega)]
theorem q_td (x : Int) : x.tdiv 1073741824 = if 0 ≤ x then x / 1073741824 else -((-x) / 1073741824) := by
  split
  · next h => exact Int.tdiv_eq_ediv_of_nonneg h
  · next h =>
    have := Int.tdiv_eq_ediv_of_nonneg (a := -x) (b := 1073741824) (by omega)
    rw [← this, Int.neg_tdiv, Int.neg_neg]
theorem q_tdiv {x : Int64} : (x / 1073741824).toInt = x.toInt.tdiv 1073741824 := by
  have h1 := x.le_toInt
  have h2 := x.toInt_lt
  rw [Int64.toInt_div, show (1073741824 : Int64).toInt = 1073741824 by decide]
  have h3 := q_td x.toInt
  exact Int.bmod_eq_of_le (by omega) (by omega)
theorem q_rem30 {x : Int64} : x - x / 1073741824 * 1073741824 = 0 ↔ x.toInt % 1073741824 = 0 := by
  have h3 := q_td x.toInt
  have h1 := x.le_toInt
  have h2 := x.toInt_lt
  have e1 : (x / 1073741824 * 1073741824).toInt = x.toInt.tdiv 1073741824 * 1073741824 := by
    rw [Int64.toInt_mul, q_tdiv, show (1073741824 : Int64).toInt = 1073741824 by decide]
    exact Int.bmod_eq_of_le (by omega) (by omega)
  have e2 : (x - x / 1073741824 * 1073741824).toInt = x.toInt - x.toInt.tdiv 1073741824 * 1073741824 := by
    rw [Int64.toInt_sub, e1]
    exact Int.bmod_eq_of_le (by omega) (by omega)
  rw [← Int64.toInt_inj, e2, show (0 : Int64).toInt = 0 by decide]
  omega
/-- how many cells are taken by the first j + 1 eigenvalues -/
def ctF (V : Nat → Int) (w : Nat) : Nat → Nat
  | 0 => 1
  | j + 1 => ctF V w j + (if V (j + 1) / 2 ^ (30 - w) = V j / 2 ^ (30 - w) then 0 else 1)
def smF (V : Nat → Int) : Nat → Int
  | 0 => 0
  | j + 1 => smF V j + V j
theorem ctF_le {V : Nat → Int} {w : Nat} : ∀ j, ctF V w j ≤ j + 1
  | 0 => Nat.le_refl _
  | j + 1 => by
    have := ctF_le (V := V) (w := w) j
    rw [ctF]
    split <;> omega
theorem smF_bd {V : Nat → Int} {n bo : Nat} (hbo : bo ≤ 6000000) (hV : ∀ i, i < n → -((bo : Int) * 1073741824) ≤ V i ∧ V i ≤ (bo : Int) * 1073741824) : ∀ j : Nat, j ≤ n → -((j : Int) * 6442450944000000) ≤ smF V j ∧ smF V j ≤ (j : Int) * 6442450944000000
  | 0, _ => by rw [smF]; omega
  | j + 1, h => by
    have h1 := smF_bd hbo hV j (by omega)
    have h2 := hV j (by omega)
    rw [smF]
    omega
theorem q_shrD : ∀ d, d < 64 → (((nI d).toInt64 &&& 63).toBitVec.smod 64).toNat = d := by decide +kernel
theorem q_shr {x : Int64} {d : Nat} (hd : d < 64) : (x >>> ((nI d).toInt64 &&& 63)).toInt = x.toInt / 2 ^ d := by
  rw [q_lshr (q_shrD d hd)]
  simp
/-- the blocks of fewer rows -/
def bks (ad : Nat → Nat) (cI cG : ClassId) (σ : Nat → va_E) (n : Nat) (pb : Nat → Nat → Int) : Prop := ∀ k, k ≤ n → ∃ (F : Nat → Nat → Int32) (s : Nat → Int32), pl ad cI cG σ (20 + 10 * k) 6 k 6 F s ∧ pl_is F k 6 (pb k) ∧ pl_sz k 6 (pb k)
theorem bks_keep {ad : Nat → Nat} {cI cG : ClassId} {σ σ' : Nat → va_E} {n : Nat} {pb : Nat → Nat → Int} (h : bks ad cI cG σ n pb) (hn : n ≤ 6) (hs : ∀ q, q < 90 → σ' q = σ q) : bks ad cI cG σ' n pb := fun k hk => by
  obtain ⟨F, s, a, b, c⟩ := h k hk
  exact ⟨F, s, pl_same a (fun q h1 h2 => hs q (by omega)), b, c⟩
