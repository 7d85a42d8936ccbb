/-! longs to 2^64 as naturals: rows of kit/laws/BITS.to-paste, the family wb_ and lN_ti -/
theorem wb_tb (n : Nat) : (lN n).toBitVec = BitVec.ofNat 64 n := rfl
theorem wb_inj {a b : Int64} (h : a.toBitVec = b.toBitVec) : a = b := Int64.toBitVec_inj.mp h
theorem wb_tn {n : Nat} (h : n < 2 ^ 64) : (lN n).toBitVec.toNat = n := by rw [wb_tb, BitVec.toNat_ofNat, Nat.mod_eq_of_lt h]
theorem wb_of (x : Int64) : ∃ n, n < 2 ^ 64 ∧ x = lN n := ⟨x.toBitVec.toNat, x.toBitVec.isLt, wb_inj (by rw [wb_tb]; simp)⟩
theorem wb_of32 (x : Int32) : ∃ n, n < 2 ^ 32 ∧ x = nI n := ⟨x.toBitVec.toNat, x.toBitVec.isLt, Int32.toBitVec_inj.mp (by show _ = BitVec.ofNat 32 _; simp)⟩
theorem wb_c : ∀ k, k < 64 → ((nI k).toInt64 &&& 63) = lN k := by decide +kernel
theorem wb_cu : ∀ k, k < 64 → ((nI k).toInt64.toUInt64 &&& Int64.toUInt64 63) = UInt64.ofNat k := by decide +kernel
theorem wb_sm : ∀ k, k < 64 → (BitVec.ofNat 64 k).smod 64 = BitVec.ofNat 64 k := by decide +kernel
theorem wb_pw {a b : Nat} (h : a ≤ b) : 2 ^ b = 2 ^ a * 2 ^ (b - a) := by rw [← Nat.pow_add]; congr 1; omega
theorem wb_lt2 {a b : Nat} (h : a < b) : 2 ^ a < 2 ^ b := Nat.pow_lt_pow_right (by decide) h
theorem wb_mod (n : Nat) : lN n = lN (n % 2 ^ 64) := wb_inj (by rw [wb_tb, wb_tb]; apply BitVec.eq_of_toNat_eq; rw [BitVec.toNat_ofNat, BitVec.toNat_ofNat, Nat.mod_mod])
theorem wb_shr {n k : Nat} (hn : n < 2 ^ 64) (hk : k < 64) : ((lN n).toUInt64 >>> ((nI k).toInt64.toUInt64 &&& Int64.toUInt64 63)).toInt64 = lN (n / 2 ^ k) := by
  rw [wb_cu k hk]
  apply wb_inj
  apply BitVec.eq_of_toNat_eq
  show ((lN n).toUInt64 >>> UInt64.ofNat k).toNat = (BitVec.ofNat 64 _).toNat
  have h1 : (UInt64.ofNat k).toNat = k := by
    show (BitVec.ofNat 64 k).toNat = k
    rw [BitVec.toNat_ofNat, Nat.mod_eq_of_lt (by omega)]
  have h2 : (lN n).toUInt64.toNat = n := wb_tn hn
  rw [UInt64.toNat_shiftRight, h1, h2, Nat.mod_eq_of_lt hk, Nat.shiftRight_eq_div_pow, BitVec.toNat_ofNat, Nat.mod_eq_of_lt (Nat.lt_of_le_of_lt (Nat.div_le_self _ _) hn)]
theorem wb_shl (n : Nat) {k : Nat} (hk : k < 64) : lN n <<< ((nI k).toInt64 &&& 63) = lN (n * 2 ^ k) := by
  rw [wb_c k hk]
  apply wb_inj
  rw [Int64.toBitVec_shiftLeft, wb_tb, wb_tb, wb_tb, wb_sm k hk]
  apply BitVec.eq_of_toNat_eq
  rw [BitVec.shiftLeft_eq', BitVec.toNat_shiftLeft, BitVec.toNat_ofNat, BitVec.toNat_ofNat, BitVec.toNat_ofNat, Nat.mod_eq_of_lt (show k < 2 ^ 64 by omega), Nat.shiftLeft_eq, Nat.mul_mod, Nat.mod_mod, ← Nat.mul_mod]
theorem wb_and {a b : Nat} (ha : a < 2 ^ 64) (hb : b < 2 ^ 64) : lN a &&& lN b = lN (a &&& b) := by
  apply wb_inj
  rw [Int64.toBitVec_and, wb_tb, wb_tb, wb_tb]
  apply BitVec.eq_of_toNat_eq
  rw [BitVec.toNat_and, BitVec.toNat_ofNat, BitVec.toNat_ofNat, BitVec.toNat_ofNat, Nat.mod_eq_of_lt ha, Nat.mod_eq_of_lt hb, Nat.mod_eq_of_lt (Nat.and_lt_two_pow _ hb)]
theorem wb_or {a b : Nat} (ha : a < 2 ^ 64) (hb : b < 2 ^ 64) : lN a ||| lN b = lN (a ||| b) := by
  apply wb_inj
  rw [Int64.toBitVec_or, wb_tb, wb_tb, wb_tb]
  apply BitVec.eq_of_toNat_eq
  rw [BitVec.toNat_or, BitVec.toNat_ofNat, BitVec.toNat_ofNat, BitVec.toNat_ofNat, Nat.mod_eq_of_lt ha, Nat.mod_eq_of_lt hb, Nat.mod_eq_of_lt (Nat.or_lt_two_pow ha hb)]
theorem wb_mask {n k : Nat} (hn : n < 2 ^ 64) (hk : k < 64) : lN n &&& lN (2 ^ k - 1) = lN (n % 2 ^ k) := by
  rw [wb_and hn (by have := wb_lt2 hk; omega), Nat.and_two_pow_sub_one_eq_mod]
theorem lN_bv (n : Nat) : (lN n).toBitVec = BitVec.ofNat 64 n := rfl
theorem lN_nat {n : Nat} (h : n < 2 ^ 64) : (lN n).toBitVec.toNat = n := by rw [lN_bv, BitVec.toNat_ofNat]; exact Nat.mod_eq_of_lt h
theorem lN_ti {m : Nat} (h : m < 2 ^ 64) : (lN m).toInt = if m < 2 ^ 63 then (m : Int) else (m : Int) - 2 ^ 64 := by
  have c := BitVec.toInt_eq_toNat_cond (lN m).toBitVec
  rw [lN_nat h] at c
  show (lN m).toBitVec.toInt = _
  rw [c]
  split <;> split <;> omega
/-! ints and longs as whole numbers, where nothing overflows -/
theorem q_ladd {a b : Int64} (h1 : -9223372036854775808 ≤ a.toInt + b.toInt) (h2 : a.toInt + b.toInt < 9223372036854775808) : (a + b).toInt = a.toInt + b.toInt := by
  rw [Int64.toInt_add]; exact Int.bmod_eq_of_le (by omega) (by omega)
theorem q_lsub {a b : Int64} (h1 : -9223372036854775808 ≤ a.toInt - b.toInt) (h2 : a.toInt - b.toInt < 9223372036854775808) : (a - b).toInt = a.toInt - b.toInt := by
  rw [Int64.toInt_sub]; exact Int.bmod_eq_of_le (by omega) (by omega)
theorem q_lmul {a b : Int64} (h1 : -9223372036854775808 ≤ a.toInt * b.toInt) (h2 : a.toInt * b.toInt < 9223372036854775808) : (a * b).toInt = a.toInt * b.toInt := by
  rw [Int64.toInt_mul]; exact Int.bmod_eq_of_le (by omega) (by omega)
theorem q_iadd {a b : Int32} (h1 : -2147483648 ≤ a.toInt + b.toInt) (h2 : a.toInt + b.toInt < 2147483648) : (a + b).toInt = a.toInt + b.toInt := by
  rw [Int32.toInt_add]; exact Int.bmod_eq_of_le (by omega) (by omega)
theorem q_isub {a b : Int32} (h1 : -2147483648 ≤ a.toInt - b.toInt) (h2 : a.toInt - b.toInt < 2147483648) : (a - b).toInt = a.toInt - b.toInt := by
  rw [Int32.toInt_sub]; exact Int.bmod_eq_of_le (by omega) (by omega)
theorem q_imul {a b : Int32} (h1 : -2147483648 ≤ a.toInt * b.toInt) (h2 : a.toInt * b.toInt < 2147483648) : (a * b).toInt = a.toInt * b.toInt := by
  rw [Int32.toInt_mul]; exact Int.bmod_eq_of_le (by omega) (by omega)
theorem q_i2l (x : Int32) : x.toInt64.toInt = x.toInt := Int32.toInt_toInt64 x
theorem q_l2i {x : Int64} (h1 : -2147483648 ≤ x.toInt) (h2 : x.toInt < 2147483648) : x.toInt32.toInt = x.toInt := by
  rw [Int64.toInt_toInt32]; exact Int.bmod_eq_of_le (by omega) (by omega)
theorem q_land30 (x : Int64) : (x &&& 1073741823).toInt = x.toInt % 1073741824 := by
  obtain ⟨n, hn, rfl⟩ := wb_of x
  have h := wb_mask (k := 30) hn (by decide)
  have e : lN (2 ^ 30 - 1) = 1073741823 := by decide
  rw [e] at h
  rw [h, pk_lT (by omega), lN_ti hn]
  split <;> omega
theorem q_land24 (x : Int64) : (x &&& 16777215).toInt = x.toInt % 16777216 := by
  obtain ⟨n, hn, rfl⟩ := wb_of x
  have h := wb_mask (k := 24) hn (by decide)
  have e : lN (2 ^ 24 - 1) = 16777215 := by decide
  rw [e] at h
  rw [h, pk_lT (by omega), lN_ti hn]
  split <;> omega
theorem q_lshr {x D : Int64} {d : Nat} (hD : (D.toBitVec.smod 64).toNat = d) : (x >>> D).toInt = x.toInt / ((2 ^ d : Nat) : Int) := by
  have e : (x >>> D).toInt = x.toInt >>> d := by
    rw [← hD]
    exact BitVec.toInt_sshiftRight ..
  rw [e, Int.shiftRight_eq_div_pow]
theorem q_shr30 (x : Int64) : (x >>> ((nI 30 : Int32).toInt64 &&& 63)).toInt = x.toInt / 1073741824 := q_lshr (d := 30) (by decide)
theorem q_shr24 (x : Int64) : (x >>> ((nI 24 : Int32).toInt64 &&& 63)).toInt = x.toInt / 16777216 := q_lshr (d := 24) (by decide)
theorem q_iinj {x y : Int32} (h : x.toInt = y.toInt) : x = y := Int32.toInt_inj.mp h
theorem q_linj {x y : Int64} (h : x.toInt = y.toInt) : x = y := Int64.toInt_inj.mp h
/-! the desk's numbers: limbs of 30 bits -/
def lm_u (f : Nat → Int32) : Nat → Int
  | 0 => 0
  | n + 1 => lm_u f n + (f n).toInt * 1073741824 ^ n
def lm_ok (f : Nat → Int32) (n : Nat) : Prop := ∀ j, j < n → 0 ≤ (f j).toInt ∧ (f j).toInt < 1073741824
/-- the first n limbs of f are x, up to multiples of the base to the n -/
def lm_is (f : Nat → Int32) (n : Nat) (x : Int) : Prop := lm_ok f n ∧ ∃ q : Int, x = lm_u f n + q * 1073741824 ^ n
theorem lm_u_congr {f g : Nat → Int32} : ∀ {n : Nat}, (∀ j, j < n → f j = g j) → lm_u f n = lm_u g n
  | 0, _ => rfl
  | n + 1, h => by rw [lm_u, lm_u, lm_u_congr (fun j hj => h j (by omega)), h n (by omega)]
theorem lm_ok_congr {f g : Nat → Int32} {n : Nat} (h : ∀ j, j < n → f j = g j) (k : lm_ok g n) : lm_ok f n := fun j hj => by rw [h j hj]; exact k j hj
theorem lm_ok_le {f : Nat → Int32} {n k : Nat} (h : lm_ok f n) (hk : k ≤ n) : lm_ok f k := fun j hj => h j (by omega)
theorem lm_is_congr {f g : Nat → Int32} {n : Nat} {x : Int} (h : ∀ j, j < n → f j = g j) (k : lm_is g n x) : lm_is f n x := ⟨lm_ok_congr h k.1, by rw [lm_u_congr h]; exact k.2⟩
theorem lm_u_upd {f : Nat → Int32} {k n : Nat} {x : Int32} (h : n ≤ k) : lm_u (upd f k x) n = lm_u f n := lm_u_congr fun j hj => by
  unfold upd
  rw [if_neg (by omega)]
theorem lm_B (n : Nat) : (0 : Int) < 1073741824 ^ n := Int.pow_pos (by decide)
theorem lm_u_range {f : Nat → Int32} : ∀ {n : Nat}, lm_ok f n → 0 ≤ lm_u f n ∧ lm_u f n < 1073741824 ^ n
  | 0, _ => by simp [lm_u]
  | n + 1, h => by
    have ⟨h1, h2⟩ := lm_u_range (lm_ok_le h (Nat.le_succ n))
    have ⟨h3, h4⟩ := h n (by omega)
    have hB := lm_B n
    have e1 : 0 ≤ (f n).toInt * 1073741824 ^ n := Int.mul_nonneg h3 (Int.le_of_lt hB)
    have e2 : ((f n).toInt + 1) * 1073741824 ^ n ≤ 1073741824 * 1073741824 ^ n := Int.mul_le_mul_of_nonneg_right (by omega) (Int.le_of_lt hB)
    rw [lm_u, Int.pow_succ]
    constructor
    · omega
    · have e3 : ((f n).toInt + 1) * 1073741824 ^ n = (f n).toInt * 1073741824 ^ n + 1073741824 ^ n := by rw [Int.add_mul, Int.one_mul]
      have e4 : (1073741824 : Int) ^ n * 1073741824 = 1073741824 * 1073741824 ^ n := Int.mul_comm _ _
      omega
/-- fewer limbs of the same number -/
theorem lm_u_split (f : Nat → Int32) (k : Nat) : ∀ n, lm_u f (k + n) = lm_u f k + 1073741824 ^ k * lm_u (fun j => f (k + j)) n
  | 0 => by simp [lm_u]
  | n + 1 => by
    rw [← Nat.add_assoc, lm_u, lm_u_split f k n, lm_u, Int.pow_add]
    grind
theorem lm_is_le {f : Nat → Int32} {n k : Nat} {x : Int} (h : lm_is f n x) (hk : k ≤ n) : lm_is f k x := by
  obtain ⟨h1, q, h2⟩ := h
  obtain ⟨d, rfl⟩ : ∃ d, n = k + d := ⟨n - k, by omega⟩
  refine ⟨lm_ok_le h1 hk, lm_u (fun j => f (k + j)) d + q * 1073741824 ^ d, ?_⟩
  rw [h2, lm_u_split, Int.pow_add]
  grind
/-- a limb of a sum: what is left, what is carried -/
theorem lm_carry {c d : Int64} {x y : Int32} (hc : -1073741824 ≤ c.toInt ∧ c.toInt ≤ 1073741824) (hd : -1073741824 ≤ d.toInt ∧ d.toInt ≤ 1073741824) (hx : 0 ≤ x.toInt ∧ x.toInt < 1073741824) (hy : 0 ≤ y.toInt ∧ y.toInt < 1073741824) :
    (c + (x.toInt64 + y.toInt64 * d)).toInt = c.toInt + (x.toInt + y.toInt * d.toInt) ∧ -1152921504606846976 ≤ (c + (x.toInt64 + y.toInt64 * d)).toInt ∧ (c + (x.toInt64 + y.toInt64 * d)).toInt < 1152921505680588800 := by
  have m1 : y.toInt * d.toInt ≤ 1073741823 * 1073741824 := by
    rcases Int.le_total 0 d.toInt with h | h
    · exact Int.le_trans (Int.mul_le_mul_of_nonneg_right (show y.toInt ≤ 1073741823 by omega) h) (Int.mul_le_mul_of_nonneg_left hd.2 (by decide))
    · have := Int.mul_nonneg hy.1 (show 0 ≤ -d.toInt by omega)
      rw [Int.mul_neg] at this
      omega
  have m2 : -(1073741823 * 1073741824) ≤ y.toInt * d.toInt := by
    rcases Int.le_total 0 d.toInt with h | h
    · have := Int.mul_nonneg hy.1 h
      omega
    · have h1 : y.toInt * (-d.toInt) ≤ 1073741823 * 1073741824 := Int.le_trans (Int.mul_le_mul_of_nonneg_right (show y.toInt ≤ 1073741823 by omega) (show 0 ≤ -d.toInt by omega)) (Int.mul_le_mul_of_nonneg_left (show -d.toInt ≤ 1073741824 by omega) (by decide))
      rw [Int.mul_neg] at h1
      omega
  have e1 : (y.toInt64 * d).toInt = y.toInt * d.toInt := by
    rw [q_lmul (by rw [q_i2l]; omega) (by rw [q_i2l]; omega), q_i2l]
  have e2 : (x.toInt64 + y.toInt64 * d).toInt = x.toInt + y.toInt * d.toInt := by
    rw [q_ladd (by rw [q_i2l, e1]; omega) (by rw [q_i2l, e1]; omega), q_i2l, e1]
  have e3 : (c + (x.toInt64 + y.toInt64 * d)).toInt = c.toInt + (x.toInt + y.toInt * d.toInt) := by
    rw [q_ladd (by rw [e2]; omega) (by rw [e2]; omega), e2]
  rw [e3]
  omega
theorem lm_limb {T : Int64} (h : -1152921504606846976 ≤ T.toInt ∧ T.toInt < 1152921505680588800) :
    ((T &&& 1073741823).toInt32).toInt = T.toInt % 1073741824 ∧ (T >>> ((nI 30 : Int32).toInt64 &&& 63)).toInt = T.toInt / 1073741824 ∧ -1073741824 ≤ (T >>> ((nI 30 : Int32).toInt64 &&& 63)).toInt ∧ (T >>> ((nI 30 : Int32).toInt64 &&& 63)).toInt ≤ 1073741824 := by
  have e : ((T &&& 1073741823).toInt32).toInt = T.toInt % 1073741824 := by
    rw [q_l2i (by rw [q_land30]; omega) (by rw [q_land30]; omega), q_land30]
  rw [e, q_shr30]
  omega
/-- the sum so far -/
theorem lm_step {f f' g : Nat → Int32} {off i : Nat} {d c c' : Int} {v : Int32} (hi : off ≤ i) (inv : lm_u f' i + c * 1073741824 ^ i = lm_u f i + d * 1073741824 ^ off * lm_u g (i - off))
    (hT : c + ((f i).toInt + (g (i - off)).toInt * d) = v.toInt + c' * 1073741824) : lm_u (upd f' i v) (i + 1) + c' * 1073741824 ^ (i + 1) = lm_u f (i + 1) + d * 1073741824 ^ off * lm_u g (i + 1 - off) := by
  obtain ⟨k, rfl⟩ : ∃ k, i = off + k := ⟨i - off, by omega⟩
  have e1 : off + k - off = k := by omega
  have e2 : off + k + 1 - off = k + 1 := by omega
  rw [e1] at inv hT
  rw [e2, lm_u, lm_u_upd (Nat.le_refl _), lm_u, lm_u]
  have e3 : upd f' (off + k) v (off + k) = v := by simp [upd]
  rw [e3, Int.pow_succ]
  have e4 : (1073741824 : Int) ^ (off + k) = 1073741824 ^ off * 1073741824 ^ k := Int.pow_add ..
  rw [e4] at inv ⊢
  grind
