/-! limbs: the steps of halving and of dividing by odd numbers -/
theorem q_neg30 {x : Int32} (h1 : 0 ≤ x.toInt) (h2 : x.toInt < 1073741824) : (-x).toInt64.toInt = -x.toInt := by
  rw [Int32.toInt_toInt64, Int32.toInt_neg]
  exact Int.bmod_eq_of_le (by omega) (by omega)
theorem lm_half {x : Int} {s b i hi lo t : Nat} (hb : b < 30) (ht : t = 30 * s + b) (h1 : (lo : Int) = x / 1073741824 ^ (i + s) % 1073741824) (h2 : (hi : Int) = x / 1073741824 ^ (i + s + 1) % 1073741824) : ((((hi * 1073741824 + lo) / 2 ^ b % 1073741824 : Nat)) : Int) = x / 2 ^ t / 1073741824 ^ i % 1073741824 := by
  have e1 : ((((hi * 1073741824 + lo) / 2 ^ b % 1073741824 : Nat)) : Int) = ((hi : Int) * 1073741824 + (lo : Int)) / 2 ^ b % 1073741824 := by
    rw [Int.natCast_emod, Int.natCast_ediv, Int.natCast_add, Int.natCast_mul, Int.natCast_pow]; rfl
  have e2 : x / 1073741824 ^ (i + s + 1) = x / 1073741824 ^ (i + s) / 1073741824 := by
    rw [Int.pow_succ, Int.ediv_ediv_of_nonneg (Int.le_of_lt (lm_B _))]
  have e3 : (1073741824 : Int) ^ s = 2 ^ (30 * s) := by
    rw [Int.pow_mul]; rfl
  have e4 : x / 2 ^ t / 1073741824 ^ i = x / 1073741824 ^ (i + s) / 2 ^ b := by
    rw [Int.ediv_ediv_of_nonneg (Int.le_of_lt (Int.pow_pos (by decide))), Int.ediv_ediv_of_nonneg (Int.le_of_lt (lm_B _)), ht, Int.pow_add, Int.pow_add, e3]
    congr 1
    grind
  rw [e1, h1, h2, e2, e4]
  exact lm_hv hb
/-- the first limb that isn't 0 -/
theorem lm_low {f : Nat → Int32} {n i k m : Nat} (hok : lm_ok f n) (hi : i < n) (hz : ∀ j, j < i → f j = 0) (hx : (f i).toInt = ((2 ^ k * (2 * m + 1) : Nat) : Int)) : ∃ y : Int, lm_u f n = 2 ^ (i * 30 + k) * (2 * y + 1) := by
  obtain ⟨r, rfl⟩ : ∃ r, n = i + (r + 1) := ⟨n - i - 1, by omega⟩
  have hk30 : k < 30 := by
    rcases Nat.lt_or_ge k 30 with h | h
    · exact h
    · have h1 : 2 ^ 30 ≤ 2 ^ k := Nat.pow_le_pow_right (by decide) h
      have h2 := Nat.mul_le_mul_left (2 ^ k) (show 1 ≤ 2 * m + 1 by omega)
      have := (hok i (by omega)).2
      omega
  have e0 : lm_u f i = 0 := lm_u_zero (lm_ok_le hok (by omega)) hz
  rw [lm_u_split, e0, Int.zero_add]
  have e1 : ∀ r, ∃ y, lm_u (fun j => f (i + j)) (r + 1) = (f i).toInt + 1073741824 * y := by
    intro r
    induction r with
    | zero => exact ⟨0, by rw [lm_u, lm_u]; simp⟩
    | succ r ih =>
      obtain ⟨y, hy⟩ := ih
      refine ⟨y + (f (i + (r + 1))).toInt * 1073741824 ^ r, ?_⟩
      rw [lm_u, hy, Int.pow_succ]
      grind
  obtain ⟨y, hy⟩ := e1 r
  rw [hy, hx]
  have e3 : (1073741824 : Int) ^ i = 2 ^ (i * 30) := by rw [Nat.mul_comm, Int.pow_mul]; rfl
  obtain ⟨q, hq⟩ : ∃ q, 30 = k + 1 + q := ⟨30 - k - 1, by omega⟩
  have e4 : (1073741824 : Int) = 2 ^ k * 2 * 2 ^ q := by
    have : (1073741824 : Int) = 2 ^ 30 := by decide
    rw [this, hq, Int.pow_add, Int.pow_succ]
  refine ⟨(m : Int) + 2 ^ q * y, ?_⟩
  rw [Int.natCast_mul, Int.natCast_pow, e3, Int.pow_add]
  have e5 : ((2 * m + 1 : Nat) : Int) = 2 * (m : Int) + 1 := by omega
  have e6 : (((2 : Nat) : Int)) = 2 := rfl
  rw [e5, e6]
  conv => lhs; rw [e4]
  grind
theorem lm_odd_0 {f : Nat → Int32} {n : Nat} {x y : Int} (h : lm_is f n x) : ∃ r : Int, lm_u f n - lm_u f 0 + y * lm_u f 0 = x + r * 1073741824 ^ n := by
  obtain ⟨_, q, rfl⟩ := h
  exact ⟨-q, by rw [lm_u]; grind⟩
/-- the digit: what is taken away makes the limb 0 -/
theorem lm_odd_dig {f g : Nat → Int32} {i m : Nat} {dg : Int32} (hodd : g 0 = nI (2 * m + 1)) (e : dg = (f i * ivF (g 0) 4) &&& nI 1073741823) : 0 ≤ dg.toInt ∧ dg.toInt < 1073741824 ∧ ∃ z : Int, (f i).toInt - dg.toInt * (g 0).toInt = 1073741824 * z := by
  have h1 : dg.toInt = (f i * ivF (g 0) 4).toInt % 1073741824 := by rw [e]; exact q_iand30 _
  have h2 : (g 0) * ivF (g 0) 4 = 1 := by rw [hodd]; exact iv_odd m
  have h3 : (f i * ivF (g 0) 4) * g 0 = f i := by
    have : (f i * ivF (g 0) 4) * g 0 = f i * (g 0 * ivF (g 0) 4) := by grind
    rw [this, h2]; grind
  have h4 := congrArg Int32.toInt h3
  rw [Int32.toInt_mul] at h4
  generalize (f i * ivF (g 0) 4).toInt = P at *
  refine ⟨by omega, by omega, ?_⟩
  obtain ⟨w, hw⟩ : ∃ w, (P * (g 0).toInt).bmod (2 ^ 32) = P * (g 0).toInt + w * 4294967296 := by
    have := Int.bmod_eq_self_sub_mul_bdiv (P * (g 0).toInt) (2 ^ 32)
    exact ⟨-((P * (g 0).toInt).bdiv (2 ^ 32)), by rw [this]; simp; omega⟩
  rw [hw] at h4
  have h5 := Int.mul_ediv_add_emod P 1073741824
  refine ⟨P / 1073741824 * (g 0).toInt + w * 4, ?_⟩
  rw [h1, ← h4]
  have h6 : P % 1073741824 = P - 1073741824 * (P / 1073741824) := by omega
  rw [h6]
  grind
theorem lm_mod_low {f f2 : Nat → Int32} {n i : Nat} (h1 : lm_ok f n) (h2 : lm_ok f2 n) (hi : i ≤ n) {z : Int} (e : lm_u f n = lm_u f2 n + z * 1073741824 ^ i) : ∀ j, j < i → f j = f2 j := fun j hj => by
  have a := lm_dig_u h1 (show j < n by omega)
  have b := lm_dig_u h2 (show j < n by omega)
  rw [← Int32.toInt_inj, a, b, e]
  obtain ⟨k, rfl⟩ : ∃ k, i = j + 1 + k := ⟨i - j - 1, by omega⟩
  have e2 : z * 1073741824 ^ (j + 1 + k) = z * 1073741824 ^ k * 1073741824 * 1073741824 ^ j := by
    rw [Int.pow_add, Int.pow_succ]; grind
  have := lm_B j
  rw [e2, Int.add_mul_ediv_right _ _ (by omega), Int.add_mul_emod_self_right]
theorem lm_odd_step {f2 f3 g : Nat → Int32} {n i : Nat} {x y : Int} {dg : Int32} (hok : lm_ok f2 n) (hg : lm_is g n y) (hi : i < n) (h4 : lm_is f3 n (lm_u f2 n + -dg.toInt * 1073741824 ^ i * y)) (d1 : 0 ≤ dg.toInt) (d2 : dg.toInt < 1073741824) (d3 : ∃ z : Int, (f2 i).toInt - dg.toInt * (g 0).toInt = 1073741824 * z) (inv : ∃ r : Int, lm_u f2 n - lm_u f2 i + y * lm_u f2 i = x + r * 1073741824 ^ n) :
    lm_ok (upd f3 i dg) n ∧ True ∧ ∃ r : Int, lm_u (upd f3 i dg) n - lm_u (upd f3 i dg) (i + 1) + y * lm_u (upd f3 i dg) (i + 1) = x + r * 1073741824 ^ n := by
  obtain ⟨hok3, q, h5⟩ := h4
  obtain ⟨z, hz⟩ := d3
  obtain ⟨r, hr⟩ := inv
  obtain ⟨k, rfl⟩ : ∃ k, n = i + 1 + k := ⟨n - i - 1, by omega⟩
  have hy0 : (g 0).toInt = y % 1073741824 := by
    have := lm_is_at hg (show 0 < i + 1 + k by omega)
    rwa [Int.pow_zero, Int.ediv_one] at this
  have hlow : ∀ j, j < i → f3 j = f2 j := by
    refine lm_mod_low hok3 hok (by omega) (z := -dg.toInt * y - q * 1073741824 ^ (1 + k)) ?_
    have : (1073741824 : Int) ^ (i + 1 + k) = 1073741824 ^ (1 + k) * 1073741824 ^ i := by rw [Nat.add_assoc, Int.pow_add, Int.mul_comm]
    rw [this] at h5
    grind
  have hzero : (f3 i).toInt = 0 := by
    have a := lm_dig_u hok3 hi
    have b := lm_dig_u hok hi
    have e : lm_u f3 (i + 1 + k) = lm_u f2 (i + 1 + k) + (-dg.toInt * y - q * 1073741824 ^ k * 1073741824) * 1073741824 ^ i := by
      have : (1073741824 : Int) ^ (i + 1 + k) = 1073741824 ^ k * 1073741824 * 1073741824 ^ i := by rw [Int.pow_add, Int.pow_succ]; grind
      rw [this] at h5
      grind
    have hB := lm_B i
    rw [e, Int.add_mul_ediv_right _ _ (by omega)] at a
    generalize lm_u f2 (i + 1 + k) / 1073741824 ^ i = U at *
    have h6 := Int.mul_ediv_add_emod y 1073741824
    have h7 := Int.mul_ediv_add_emod U 1073741824
    have e2 : U + (-dg.toInt * y - q * 1073741824 ^ k * 1073741824) = 1073741824 * (U / 1073741824 + z - dg.toInt * (y / 1073741824) - q * 1073741824 ^ k) := by
      rw [← b] at h7
      rw [← hy0] at h6
      grind
    rw [a, e2]
    exact Int.mul_emod_right _ _
  have hu3 : lm_u f3 i = lm_u f2 i := lm_u_congr hlow
  refine ⟨lm_ok_upd hok3 ⟨d1, d2⟩, trivial, ?_⟩
  have u1 : lm_u (upd f3 i dg) (i + 1 + k) = lm_u f3 (i + 1 + k) + dg.toInt * 1073741824 ^ i := by rw [lm_u_set hi, hzero]; grind
  have u2 : lm_u (upd f3 i dg) (i + 1) = lm_u f2 i + dg.toInt * 1073741824 ^ i := by rw [lm_u, lm_u_upd (Nat.le_refl _), upd_s, hu3]
  refine ⟨r - q, ?_⟩
  rw [u1, u2]
  grind
theorem odd_dvd {y a : Int} (hy : y = 2 * a + 1) : ∀ (k : Nat) (w : Int), (∃ r, y * w = 2 ^ k * r) → ∃ r, w = 2 ^ k * r
  | 0, w, _ => ⟨w, by rw [Int.pow_zero, Int.one_mul]⟩
  | k + 1, w, ⟨r, hr⟩ => by
    have e : (2 : Int) ^ (k + 1) * r = 2 * (2 ^ k * r) := by rw [Int.pow_succ]; grind
    rw [e] at hr
    have hw : w = 2 * (2 ^ k * r - a * w) := by rw [hy] at hr; grind
    generalize hv : 2 ^ k * r - a * w = v at hw
    obtain ⟨t, ht⟩ := odd_dvd hy k v ⟨r, by
      have : 2 * (y * v) = 2 * (2 ^ k * r) := by rw [← hr, hw]; grind
      omega⟩
    exact ⟨t, by rw [hw, ht, Int.pow_succ]; grind⟩
theorem lm_odd_end {f2 g : Nat → Int32} {n m : Nat} {x y q : Int} (hn : 0 < n) (hok : lm_ok f2 n) (hg : lm_is g n y) (hodd : g 0 = nI (2 * m + 1)) (hm : 2 * m + 1 < 1073741824) (hxy : x = y * q) (inv : ∃ r : Int, lm_u f2 n - lm_u f2 n + y * lm_u f2 n = x + r * 1073741824 ^ n) : lm_is f2 n q := by
  have hy0 := lm_is_at hg hn
  rw [Int.pow_zero, Int.ediv_one, hodd, nI_toInt (by omega)] at hy0
  have h6 := Int.mul_ediv_add_emod y 1073741824
  obtain ⟨r, hr⟩ := inv
  have e3 : (1073741824 : Int) ^ n = 2 ^ (30 * n) := by rw [Int.pow_mul]; rfl
  obtain ⟨t, ht⟩ := odd_dvd (y := y) (a := 536870912 * (y / 1073741824) + (m : Int)) (by omega) (30 * n) (lm_u f2 n - q) ⟨r, by rw [← e3]; rw [hxy] at hr; grind⟩
  refine ⟨hok, -t, ?_⟩
  rw [e3]
  grind
