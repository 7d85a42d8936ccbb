/-! what the reference's questions leave as it was -/
def zOK (Z Z' : Nat → Int) : Prop := ∀ w, w < 32 ∨ w = 110 ∨ w = 111 → Z' w = Z w
theorem zOK_rf {Z : Nat → Int} : zOK Z Z := fun _ _ => rfl
theorem zOK_tr {Z Y X : Nat → Int} (a : zOK Z Y) (b : zOK Y X) : zOK Z X := fun w h => (b w h).trans (a w h)
theorem zOK_up {Z Y : Nat → Int} {k : Nat} {v : Int} (a : zOK Z Y) (h : 32 ≤ k ∧ k ≠ 110 ∧ k ≠ 111) : zOK Z (va_up Y k v) := fun w hw => (va_up_ne _ _ (by omega)).trans (a w hw)
theorem zOK_mv {Z Y X : Nat → Int} {d : Nat} {f : Nat → Int} (a : zOK Z Y) (hd : d ≤ 7) (h : eqX X (mvX Y d f)) : zOK Z X := fun w hw => (h w (by omega)).trans ((mvX_out (by omega)).trans (a w hw))
def mE (σ0 : Nat → va_E) (cI cZ : ClassId) (ad : Nat → Nat) (th nn rws ps : Int32) (G : Nat → Int32) (Z : Nat → Int) : (Nat → va_E) → Prop := fun σ' =>
  ∃ (s0 : Nat → va_E) (G' P' L' M' : Nat → Int32) (Z' : Nat → Int) (le eq : Int32), σ' = rw3 s0 ciM cI cZ (mfs ad th nn rws ps le eq) P' L' M' ∧ s0 187 = .inl (cI, 5, .inl G') ∧ (∀ q, q ≠ 187 → s0 q = σ0 q) ∧ (∀ a, a ≠ 4 → G' a = G a) ∧ RB P' L' M' Z' ∧ zOK Z Z'
/-- the answer of cellOf: found by halving from the edges -/
def cellP (p : Nat → Int) (d w : Nat) (i : Int32) (r : Int64) : Prop := -(8000000 * 2 ^ w) ≤ r.toInt ∧ r.toInt < 8000000 * 2 ^ w ∧ (r.toInt = -(8000000 * 2 ^ w) ∨ wL r.toInt (2 ^ w) d p ≤ i) ∧ (r.toInt + 1 = 8000000 * 2 ^ w ∨ ¬ wL (r.toInt + 1) (2 ^ w) d p ≤ i)
theorem q_p2 {w : Nat} (h : w ≤ 30) : (1 : Int) ≤ 2 ^ w ∧ (2 : Int) ^ w ≤ 1073741824 := ⟨by have : (0 : Int) < 2 ^ w := Int.pow_pos (by decide); omega, p2_le (b := 30) h⟩
theorem q_shl {n w : Nat} (hw : w ≤ 30) (hn : n ≤ 8000000) : (lN n <<< ((nI w).toInt64 &&& 63)).toInt = (n : Int) * 2 ^ w := by
  have h2 : (2 : Nat) ^ w ≤ 1073741824 := Nat.pow_le_pow_right (by decide) hw (n := 2)
  have h3 : n * 2 ^ w ≤ 8000000 * 1073741824 := Nat.mul_le_mul hn h2
  rw [wb_shl n (by omega), pk_lT (by omega)]
  simp
theorem q_lneg {x : Int64} (h : -9223372036854775808 < x.toInt) : (-x).toInt = -x.toInt := by
  rw [Int64.toInt_neg]
  have := x.toInt_lt
  exact Int.bmod_eq_of_le (by omega) (by omega)
theorem q_mid {lo hi : Int64} (h1 : -8589934592000000 ≤ lo.toInt) (h2 : hi.toInt ≤ 8589934592000000) (h3 : lo.toInt < hi.toInt) : (hi - lo).toInt = hi.toInt - lo.toInt ∧ (lo + (hi - lo) / 2).toInt = lo.toInt + (hi.toInt - lo.toInt) / 2 := by
  have e1 : (hi - lo).toInt = hi.toInt - lo.toInt := q_lsub (by omega) (by omega)
  have e2 : (2 : Int64).toInt = 2 := by decide
  have e3 : ((hi - lo) / 2).toInt = (hi.toInt - lo.toInt) / 2 := by rw [lg_ldiv_nonneg (by omega) (by omega), e1, e2]
  exact ⟨e1, by rw [q_ladd (by rw [e3]; omega) (by rw [e3]; omega), e3]⟩
theorem bd_53 {x : Int} (h1 : -8589934592000000 ≤ x) (h2 : x ≤ 8589934592000000) : bd (2 ^ 360) x := by
  have : (8589934592000000 : Int) ≤ 2 ^ 360 := by decide
  exact ⟨by omega, by omega⟩
