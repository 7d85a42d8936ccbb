theorem lm_ok_upd {f : Nat → Int32} {n k : Nat} {v : Int32} (h : lm_ok f n) (hv : 0 ≤ v.toInt ∧ v.toInt < 1073741824) : lm_ok (upd f k v) n := fun j hj => by
  unfold upd
  split
  · exact hv
  · exact h j hj
/-- a number with its sign -/
def lm_si (f : Nat → Int32) (n : Nat) (x : Int) : Prop := lm_is f n x ∧ -(1073741824 ^ n) ≤ 2 * x ∧ 2 * x < 1073741824 ^ n
theorem lm_si_cases {f : Nat → Int32} {n : Nat} {x : Int} (h : lm_si f n x) : (0 ≤ x ∧ lm_u f n = x) ∨ (x < 0 ∧ lm_u f n = x + 1073741824 ^ n) := by
  obtain ⟨⟨hok, q, hq⟩, h1, h2⟩ := h
  obtain ⟨u1, u2⟩ := lm_u_range hok
  have hP := lm_B n
  generalize (1073741824 : Int) ^ n = P at *
  have hq1 : q < 1 := by
    rcases Int.lt_or_le q 1 with h | h
    · exact h
    · have := Int.mul_le_mul_of_nonneg_right h (Int.le_of_lt hP)
      omega
  have hq2 : -2 < q := by
    rcases Int.lt_or_le (-2) q with h | h
    · exact h
    · have := Int.mul_le_mul_of_nonneg_right h (Int.le_of_lt hP)
      omega
  have : q = 0 ∨ q = -1 := by omega
  rcases this with rfl | rfl
  · left; omega
  · right; omega
theorem lm_si_top {f : Nat → Int32} {k : Nat} {x : Int} (h : lm_si f (k + 1) x) : 536870912 ≤ (f k).toInt ↔ x < 0 := by
  have hok := h.1.1
  obtain ⟨u1, u2⟩ := lm_u_range (lm_ok_le hok (Nat.le_succ k))
  have hP := lm_B k
  have hc := lm_si_cases h
  obtain ⟨-, h1, h2⟩ := h
  rw [lm_u, Int.pow_succ] at hc
  rw [Int.pow_succ] at h1 h2
  generalize (1073741824 : Int) ^ k = P at *
  generalize (f k).toInt = t at *
  constructor
  · intro ht
    have := Int.mul_le_mul_of_nonneg_right ht (Int.le_of_lt hP)
    rcases hc with hc | hc <;> omega
  · intro hx
    rcases Int.lt_or_le t 536870912 with ht | ht
    · have := Int.mul_le_mul_of_nonneg_right (show t + 1 ≤ 536870912 by omega) (Int.le_of_lt hP)
      rw [Int.add_mul] at this
      rcases hc with hc | hc <;> omega
    · exact ht
theorem lm_u_zero {f : Nat → Int32} : ∀ {n : Nat}, lm_ok f n → (∀ j, j < n → f j = 0) → lm_u f n = 0
  | 0, _, _ => rfl
  | n + 1, h, hz => by
    rw [lm_u, lm_u_zero (lm_ok_le h (Nat.le_succ n)) (fun j hj => hz j (by omega)), hz n (by omega)]
    simp
theorem lm_u_pos {f : Nat → Int32} {k : Nat} : ∀ {n : Nat}, lm_ok f n → k < n → f k ≠ 0 → 0 < lm_u f n
  | 0, _, hk, _ => absurd hk (Nat.not_lt_zero _)
  | n + 1, h, hk, hz => by
    have hP := lm_B n
    have h0 := h n (by omega)
    have hu := (lm_u_range (lm_ok_le h (Nat.le_succ n))).1
    rw [lm_u]
    by_cases e : k = n
    · subst e
      have : 0 < (f k).toInt := by
        rcases Int.lt_or_eq_of_le h0.1 with h | h
        · exact h
        · exact absurd (q_iinj (by rw [← h]; rfl)) hz
      have := Int.mul_pos this hP
      omega
    · have := lm_u_pos (lm_ok_le h (Nat.le_succ n)) (show k < n by omega) hz
      have := Int.mul_nonneg h0.1 (Int.le_of_lt hP)
      omega
/-- the sign as an int -/
def sg (x : Int) : Int32 := if x < 0 then -1 else if x = 0 then 0 else 1
/-- k - 1 as an int: the place of a loop that goes down -/
def nP (k : Nat) : Int32 := nI k - nI 1
theorem nP_succ (k : Nat) : nP (k + 1) = nI k := pk_sub (a := k + 1) (b := 1) (by omega)
theorem nP_dec (k : Nat) : nP (k + 1) + Int32.ofInt (-1) = nP k := by
  rw [nP_succ]
  have e : Int32.ofInt (-1) = -nI 1 := by decide
  rw [e, nP, Int32.sub_eq_add_neg]
theorem nP_0 : nP 0 < 0 := by decide
/-- the cell a, whose first n limbs become x; nothing else changes -/
def lm_up (σ : Nat → va_E) (a : Nat) (cI : ClassId) (La : Nat) (f : Nat → Int32) (n : Nat) (x : Int) : (Nat → va_E) → Prop := fun σ' =>
  ∃ f' : Nat → Int32, σ' = va_up σ a (.inl (cI, La, .inl f')) ∧ (∀ j, n ≤ j → f' j = f j) ∧ lm_is f' n x
theorem lm_add_is {f f' g : Nat → Int32} {off n : Nat} {d q x y : Int} (ho : off ≤ n) (hok : lm_ok f' n) (h : lm_u f' n = lm_u f n + d * 1073741824 ^ off * lm_u g (n - off) + q * 1073741824 ^ n) (hx : lm_is f n x) (hy : lm_is g (n - off) y) : lm_is f' n (x + d * 1073741824 ^ off * y) := by
  obtain ⟨-, q1, e1⟩ := hx
  obtain ⟨-, q2, e2⟩ := hy
  obtain ⟨k, rfl⟩ : ∃ k, n = off + k := ⟨n - off, by omega⟩
  have e : off + k - off = k := by omega
  rw [e] at h e2
  refine ⟨hok, q1 + d * q2 - q, ?_⟩
  have e4 : (1073741824 : Int) ^ (off + k) = 1073741824 ^ off * 1073741824 ^ k := Int.pow_add ..
  rw [e4] at h e1 ⊢
  rw [h, e1, e2]
  grind
/-- a long's digits -/
theorem lm_digit (r : Int64) : (r &&& 1073741823).toInt = r.toInt % 1073741824 ∧ (r >>> ((nI 30 : Int32).toInt64 &&& 63)).toInt = r.toInt / 1073741824 := ⟨q_land30 r, q_shr30 r⟩
def lm_bd : Nat → Int
  | 0 => 9223372036854775808
  | 1 => 8589934593
  | 2 => 9
  | _ => 0
/-- limbs that are all the mask from the second on -/
theorem lm_u_fill {f : Nat → Int32} : ∀ {n : Nat}, (∀ j, 1 ≤ j → j ≤ n → (f j).toInt = 1073741823) → lm_u f (n + 1) = (f 0).toInt - 1073741824 + 1073741824 ^ (n + 1)
  | 0, _ => by simp [lm_u]
  | n + 1, h => by
    rw [lm_u, lm_u_fill (fun j h1 h2 => h j h1 (by omega)), h (n + 1) (by omega) (by omega)]
    have e : (1073741824 : Int) ^ (n + 1 + 1) = 1073741824 ^ (n + 1) * 1073741824 := Int.pow_succ ..
    rw [e]
    grind
theorem lm_u_fill0 {f : Nat → Int32} : ∀ {n : Nat}, (∀ j, 1 ≤ j → j ≤ n → f j = 0) → lm_u f (n + 1) = (f 0).toInt
  | 0, _ => by simp [lm_u]
  | n + 1, h => by
    rw [lm_u, lm_u_fill0 (fun j h1 h2 => h j h1 (by omega)), h (n + 1) (by omega) (by omega)]
    simp
/-- the same number in more limbs -/
theorem lm_u_ext {f : Nat → Int32} {k : Nat} : ∀ {n : Nat}, (∀ j, k ≤ j → j < k + n → (f j).toInt = 1073741823) → lm_u f (k + n) = lm_u f k - 1073741824 ^ k + 1073741824 ^ (k + n)
  | 0, _ => by simp
  | n + 1, h => by
    have e : k + (n + 1) = k + n + 1 := rfl
    rw [e, lm_u, lm_u_ext (fun j h1 h2 => h j h1 (by omega)), h (k + n) (by omega) (by omega), Int.pow_succ]
    grind
theorem lm_u_ext0 {f : Nat → Int32} {k : Nat} : ∀ {n : Nat}, (∀ j, k ≤ j → j < k + n → f j = 0) → lm_u f (k + n) = lm_u f k
  | 0, _ => by simp
  | n + 1, h => by
    have e : k + (n + 1) = k + n + 1 := rfl
    rw [e, lm_u, lm_u_ext0 (fun j h1 h2 => h j h1 (by omega)), h (k + n) (by omega) (by omega)]
    simp
theorem lm_widen {f g : Nat → Int32} {k n : Nat} {x : Int} (h : lm_si f k x) (hk : k ≤ n) (h0 : ∀ j, j < k → g j = f j) (h1 : ∀ j, k ≤ j → j < n → (x < 0 → (g j).toInt = 1073741823) ∧ (0 ≤ x → g j = 0)) : lm_is g n x := by
  obtain ⟨d, rfl⟩ : ∃ d, n = k + d := ⟨n - k, by omega⟩
  have hc := lm_si_cases h
  have hg : lm_u g k = lm_u f k := lm_u_congr h0
  have hok : lm_ok g (k + d) := fun j hj => by
    by_cases e : j < k
    · rw [h0 j e]; exact h.1.1 j e
    · rcases Int.lt_or_le x 0 with hx | hx
      · rw [(h1 j (by omega) hj).1 hx]; decide
      · rw [(h1 j (by omega) hj).2 hx]; decide
  rcases hc with ⟨hx, hu⟩ | ⟨hx, hu⟩
  · exact ⟨hok, 0, by rw [lm_u_ext0 (fun j a b => (h1 j a b).2 hx), hg, hu]; simp⟩
  · exact ⟨hok, -1, by rw [lm_u_ext (fun j a b => (h1 j a b).1 hx), hg, hu]; omega⟩
theorem lm_assign {f : Nat → Int32} {n : Nat} {v : Int32} (hv : -1073741824 ≤ v.toInt ∧ v.toInt < 1073741824) (h0 : (f 0).toInt = v.toInt % 1073741824) (h1 : ∀ j, 1 ≤ j → j ≤ n → (v.toInt < 0 → (f j).toInt = 1073741823) ∧ (0 ≤ v.toInt → f j = 0)) : lm_is f (n + 1) v.toInt := by
  have hok : lm_ok f (n + 1) := fun j hj => by
    by_cases e : j = 0
    · rw [e, h0]; omega
    · rcases Int.lt_or_le v.toInt 0 with hx | hx
      · rw [(h1 j (by omega) (by omega)).1 hx]; decide
      · rw [(h1 j (by omega) (by omega)).2 hx]; decide
  rcases Int.lt_or_le v.toInt 0 with hx | hx
  · exact ⟨hok, -1, by rw [lm_u_fill (fun j a b => (h1 j a b).1 hx), h0]; omega⟩
  · exact ⟨hok, 0, by rw [lm_u_fill0 (fun j a b => (h1 j a b).2 hx), h0]; omega⟩
/-- the balanced digits of a number in limbs: the carry into limb i -/
theorem lm_prod {c : Nat → Int32} {i : Nat} {cy dg cy' : Int} (h : (c i).toInt + cy = dg + cy' * 1073741824) (S : Int) (hS : S + cy * 1073741824 ^ i = lm_u c i) : (S + dg * 1073741824 ^ i) + cy' * 1073741824 ^ (i + 1) = lm_u c (i + 1) := by
  rw [lm_u, Int.pow_succ]
  grind
theorem lm_bd_step {i : Nat} {r d r2 : Int} (hi : i < 3) (hr : -lm_bd i ≤ r ∧ r ≤ lm_bd i) (e : r = d + r2 * 1073741824) (hd : -536870912 ≤ d ∧ d ≤ 536870912) : -lm_bd (i + 1) ≤ r2 ∧ r2 ≤ lm_bd (i + 1) := by
  have : i = 0 ∨ i = 1 ∨ i = 2 := by omega
  rcases this with rfl | rfl | rfl <;> simp only [lm_bd] at hr ⊢ <;> omega
theorem lm_is_mod {f : Nat → Int32} {n : Nat} {x x' : Int} (h : lm_is f n x) (q : Int) (e : x' = x + q * 1073741824 ^ n) : lm_is f n x' := by
  obtain ⟨h1, q1, h2⟩ := h
  exact ⟨h1, q1 + q, by rw [e, h2]; grind⟩
theorem q_iand30 (x : Int32) : (x &&& nI 1073741823).toInt = x.toInt % 1073741824 := by
  have h := pk_and x (m := nI 1073741823) 30 (by decide)
  rw [h, nI_toInt (by omega)]
  have c := BitVec.toInt_eq_toNat_cond x.toBitVec
  have c' : x.toInt = x.toBitVec.toInt := rfl
  have hl := x.toBitVec.isLt
  rw [c', c]
  split <;> omega
theorem nP_lt {k : Nat} (h : k < 2 ^ 31) : nP k < nI k := by
  cases k with
  | zero => decide
  | succ k => rw [nP_succ]; exact nI_lt (Nat.lt_succ_self k) h
