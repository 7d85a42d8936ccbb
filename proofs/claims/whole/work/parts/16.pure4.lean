/-! digits to the base 2^24, followed by zeros -/
def dg (P : Nat → Int32) (o n j : Nat) : Int := if j < n then (P (o + j)).toInt else 0
def dv (f : Nat → Int) : Nat → Int
  | 0 => 0
  | i + 1 => dv f i + f i * 16777216 ^ i
theorem dv_in {P : Nat → Int32} {o n : Nat} : ∀ {i : Nat}, i ≤ n → dv (dg P o n) i = rg P o i
  | 0, _ => rfl
  | i + 1, h => by rw [dv, rg, dv_in (by omega), dg, if_pos (by omega)]
theorem dv_out {P : Nat → Int32} {o n : Nat} : ∀ {d : Nat}, dv (dg P o n) (n + d) = rg P o n
  | 0 => dv_in (Nat.le_refl _)
  | d + 1 => by rw [← Nat.add_assoc, dv, dv_out, dg, if_neg (by omega)]; simp
theorem dv_all {P : Nat → Int32} {o n i : Nat} (h : n ≤ i) : dv (dg P o n) i = rg P o n := by
  obtain ⟨d, rfl⟩ : ∃ d, i = n + d := ⟨i - n, by omega⟩
  exact dv_out
theorem dg_range {P : Nat → Int32} {o n j : Nat} (h : rg_ok P o n) : 0 ≤ dg P o n j ∧ dg P o n j < 16777216 := by
  unfold dg
  split
  · next hj => exact h j hj
  · decide
/-- bigAt's answer as a natural -/
theorem dg_nat {P : Nat → Int32} {o n j : Nat} {r : Int32} (h : rg_ok P o n) (hr : r = if j < n then P (o + j) else 0) : ∃ x : Nat, x < 16777216 ∧ r = nI x ∧ dg P o n j = (x : Int) := by
  have hd := dg_range (j := j) h
  have e : r.toInt = dg P o n j := by
    rw [hr]
    unfold dg
    split <;> rfl
  refine ⟨r.toInt.toNat, by omega, ?_, by omega⟩
  apply q_iinj
  rw [nI_toInt (by omega)]
  omega
theorem rg_conv {P : Nat → Int32} {o k : Nat} (h : rg_ok P o (k + 1)) (hv : 16777216 ^ k ≤ rg P o (k + 1)) : P (o + k) ≠ 0 := by
  intro e
  have h1 := (rg_range (rg_ok_le h (Nat.le_succ k))).2
  rw [rg, e] at hv
  simp at hv
  omega
theorem more_step {P : Nat → Int32} {o i c c' v : Nat} {f g : Nat → Int} (hok : rg_ok P o i) (hv : v < 16777216) (inv : rg P o i + (c : Int) * 16777216 ^ i = dv f i + dv g i) (h : f i + g i + (c : Int) = (v : Int) + (c' : Int) * 16777216) :
    rg_ok (upd P (o + i) (nI v)) o (i + 1) ∧ rg (upd P (o + i) (nI v)) o (i + 1) + (c' : Int) * 16777216 ^ (i + 1) = dv f (i + 1) + dv g (i + 1) := by
  have e : (nI v).toInt = (v : Int) := nI_toInt (by omega)
  obtain ⟨h1, h2⟩ := rg_push (P := P) (v := nI v) hok (by rw [e]; omega)
  refine ⟨h1, ?_⟩
  rw [h2, e, dv, dv, Int.pow_succ]
  grind
theorem less_step {P : Nat → Int32} {o i b b' v : Nat} {f g : Nat → Int} (hok : rg_ok P o i) (hv : v < 16777216) (inv : rg P o i = dv f i - dv g i + (b : Int) * 16777216 ^ i) (h : f i - g i - (b : Int) = (v : Int) - (b' : Int) * 16777216) :
    rg_ok (upd P (o + i) (nI v)) o (i + 1) ∧ rg (upd P (o + i) (nI v)) o (i + 1) = dv f (i + 1) - dv g (i + 1) + (b' : Int) * 16777216 ^ (i + 1) := by
  have e : (nI v).toInt = (v : Int) := nI_toInt (by omega)
  obtain ⟨h1, h2⟩ := rg_push (P := P) (v := nI v) hok (by rw [e]; omega)
  refine ⟨h1, ?_⟩
  rw [h2, e, dv, dv, Int.pow_succ]
  grind
/-- the size of the number w becomes y; its sign stays -/
def rm_up (σ0 : Nat → va_E) (ci : Nat) (cI cZ : ClassId) (fs : List Value) (P L M : Nat → Int32) (w : Nat) (y : Int) : (Nat → va_E) → Prop := fun σ' =>
  ∃ (P' : Nat → Int32) (n' : Nat), σ' = rw3 σ0 ci cI cZ fs P' (upd L w (nI n')) M ∧ n' ≤ 300 ∧ (∀ j, j < 300 * w ∨ 300 * w + 300 ≤ j → P' j = P j) ∧ rg_ok P' (300 * w) n' ∧ (0 < n' → P' (300 * w + (n' - 1)) ≠ 0) ∧ rg P' (300 * w) n' = y
theorem rg_lt_len {P Q : Nat → Int32} {o q a b : Nat} (ha : rg_ok P o a) (hb : rg_ok Q q b) (hab : a < b) (ht : 0 < b → Q (q + (b - 1)) ≠ 0) : rg P o a < rg Q q b := by
  have h1 := (rg_range ha).2
  have h2 := rg_top hb (by omega) (ht (by omega))
  have h3 : (16777216 : Int) ^ a ≤ 16777216 ^ (b - 1) := by
    obtain ⟨d, e⟩ : ∃ d, b - 1 = a + d := ⟨b - 1 - a, by omega⟩
    rw [e, Int.pow_add]
    have := rg_B d
    have := rg_B a
    have := Int.mul_le_mul_of_nonneg_left (show (1 : Int) ≤ 16777216 ^ d by omega) (show (0 : Int) ≤ 16777216 ^ a by omega)
    omega
  omega
/-- two numbers of one length that agree above place i: the part there decides -/
theorem rg_lt_at {P Q : Nat → Int32} {o q i : Nat} : ∀ {n : Nat}, i < n → rg_ok P o n → rg_ok Q q n → (∀ j, i < j → j < n → P (o + j) = Q (q + j)) → (P (o + i)).toInt < (Q (q + i)).toInt → rg P o n < rg Q q n
  | 0, h, _, _, _, _ => absurd h (Nat.not_lt_zero _)
  | n + 1, h, h1, h2, h3, h4 => by
    rw [rg, rg]
    by_cases e : i = n
    · subst e
      have a := (rg_range (rg_ok_le h1 (Nat.le_succ i))).2
      have b := (rg_range (rg_ok_le h2 (Nat.le_succ i))).1
      have := Int.mul_le_mul_of_nonneg_right (show (P (o + i)).toInt + 1 ≤ (Q (q + i)).toInt by omega) (Int.le_of_lt (rg_B i))
      rw [Int.add_mul] at this
      omega
    · have := rg_lt_at (show i < n by omega) (rg_ok_le h1 (Nat.le_succ n)) (rg_ok_le h2 (Nat.le_succ n)) (fun j a b => h3 j a (by omega)) h4
      rw [h3 n (by omega) (by omega)]
      omega
theorem rg_eq_all {P Q : Nat → Int32} {o q n : Nat} (h : ∀ j, j < n → P (o + j) = Q (q + j)) : rg P o n = rg Q q n := rg_congr h
theorem more_top {P P2 : Nat → Int32} {o q a b i : Nat} (hok : rg_ok P2 o i) (h : 0 < i) (inv : rg P2 o i = rg P o a + rg P q b) (hwo : rg_ok P o a) (huo : rg_ok P q b) (hwt : 0 < a → P (o + (a - 1)) ≠ 0) (hut : 0 < b → P (q + (b - 1)) ≠ 0) (hmx : (a = i ∧ b ≤ i) ∨ (b = i ∧ a ≤ i)) : P2 (o + (i - 1)) ≠ 0 := by
  obtain ⟨k, rfl⟩ : ∃ k, i = k + 1 := ⟨i - 1, by omega⟩
  show P2 (o + k) ≠ 0
  refine rg_conv hok ?_
  have ha := (rg_range hwo).1
  have hb := (rg_range huo).1
  rcases hmx with ⟨e, -⟩ | ⟨e, -⟩
  · subst e
    have := rg_top hwo (by omega) (hwt (by omega))
    rw [Nat.add_sub_cancel] at this
    omega
  · subst e
    have := rg_top huo (by omega) (hut (by omega))
    rw [Nat.add_sub_cancel] at this
    omega
theorem rb_len {P : Nat → Int32} {o n k : Nat} (hok : rg_ok P o n) (ht : 0 < n → P (o + (n - 1)) ≠ 0) (hk : rg P o n < 16777216 ^ k) : n ≤ k := by
  rcases Nat.lt_or_ge k n with h | h
  · have h1 := rg_top hok (by omega) (ht (by omega))
    have h3 : (16777216 : Int) ^ k ≤ 16777216 ^ (n - 1) := by
      obtain ⟨d, e⟩ : ∃ d, n - 1 = k + d := ⟨n - 1 - k, by omega⟩
      rw [e, Int.pow_add]
      have := rg_B d
      have := rg_B k
      have := Int.mul_le_mul_of_nonneg_left (show (1 : Int) ≤ 16777216 ^ d by omega) (show (0 : Int) ≤ 16777216 ^ k by omega)
      omega
    omega
  · exact h
/-- the bound that all numbers of the reference keep -/
def rBB : Int := 16777216 ^ 299
def rbd (x : Int) : Prop := -rBB < x ∧ x < rBB
theorem rm_rb {σ0 σ' : Nat → va_E} {ci : Nat} {cI cZ : ClassId} {fs : List Value} {P L M : Nat → Int32} {w : Nat} {x y : Int} (h : rm_up σ0 ci cI cZ fs P L M w y σ') (hs : (M w = 0 ∧ x = y) ∨ (M w = 1 ∧ x = -y)) : rb_up σ0 ci cI cZ fs P L M w x σ' := by
  obtain ⟨P', n', e, h1, h2, h3, h4, h5⟩ := h
  exact ⟨P', upd L w (nI n'), M, e, ⟨h2, fun j hj => upd_n hj, fun _ _ => rfl⟩, n', h1, upd_s, h3, h4, by rw [h5]; exact hs⟩
theorem sg_neg {x : Int} : sg x < 0 ↔ x < 0 := by
  unfold sg
  constructor
  · intro h
    rcases Int.lt_or_le x 0 with h1 | h1
    · exact h1
    · rw [if_neg (by omega)] at h
      split at h <;> exact absurd h (by decide)
  · intro h
    rw [if_pos h]
    decide
theorem rg_set {P : Nat → Int32} {o d : Nat} {v : Int32} : ∀ {n : Nat}, d < n → rg (upd P (o + d) v) o n = rg P o n + (v.toInt - (P (o + d)).toInt) * 16777216 ^ d
  | 0, h => absurd h (Nat.not_lt_zero _)
  | n + 1, h => by
    rw [rg, rg]
    by_cases e : d = n
    · subst e
      rw [rg_upd (by omega), upd_s]
      grind
    · rw [rg_set (show d < n by omega), upd_n (show o + n ≠ o + d by omega)]
      grind
theorem rg_nat {P : Nat → Int32} {o n j : Nat} (h : rg_ok P o n) (hj : j < n) : ∃ x : Nat, x < 16777216 ∧ P (o + j) = nI x ∧ (P (o + j)).toInt = (x : Int) := by
  have h1 := h j hj
  refine ⟨(P (o + j)).toInt.toNat, by omega, ?_, by omega⟩
  apply q_iinj
  rw [nI_toInt (by omega)]
  omega
theorem rg_zero {P : Nat → Int32} {o : Nat} : ∀ {n : Nat}, (∀ j, j < n → P (o + j) = 0) → rg P o n = 0
  | 0, _ => rfl
  | n + 1, h => by
    rw [rg, rg_zero (fun j hj => h j (by omega)), h n (by omega)]
    simp
/-- one place of a product -/
theorem prod_step {P : Nat → Int32} {o n i j cy x y z : Nat} {V : Int} {a b : Nat → Int} (hd : i + j < n) (hz : (P (o + (i + j))).toInt = (z : Int)) (inv : rg P o n + (cy : Int) * 16777216 ^ (i + j) = V + (x : Int) * dv b j * 16777216 ^ i) (hb : b j = (y : Int)) :
    rg (upd P (o + (i + j)) (nI ((cy + z + x * y) % 16777216))) o n + (((cy + z + x * y) / 16777216 : Nat) : Int) * 16777216 ^ (i + (j + 1)) = V + (x : Int) * dv b (j + 1) * 16777216 ^ i := by
  rw [rg_set hd, hz, nI_toInt (by omega), dv, hb]
  have e1 : (16777216 : Int) ^ (i + (j + 1)) = 16777216 ^ (i + j) * 16777216 := by rw [← Nat.add_assoc, Int.pow_succ]
  have e2 : (16777216 : Int) ^ (i + j) = 16777216 ^ i * 16777216 ^ j := Int.pow_add ..
  have e3 : (((cy + z + x * y) % 16777216 : Nat) : Int) + (((cy + z + x * y) / 16777216 : Nat) : Int) * 16777216 = (cy : Int) + z + x * y := by
    have : (x : Int) * y = ((x * y : Nat) : Int) := by simp
    omega
  rw [e1]
  rw [e2] at inv ⊢
  generalize (((cy + z + x * y) % 16777216 : Nat) : Int) = r at *
  generalize (((cy + z + x * y) / 16777216 : Nat) : Int) = q at *
  grind
theorem prod_carry {cy z x y : Nat} (h1 : cy < 16777216) (h2 : z < 16777216) (h3 : x < 16777216) (h4 : y < 16777216) : cy + z + x * y < 281474976710656 ∧ (cy + z + x * y) / 16777216 < 16777216 := by
  have : x * y ≤ 16777215 * 16777215 := Nat.mul_le_mul (by omega) (by omega)
  omega
