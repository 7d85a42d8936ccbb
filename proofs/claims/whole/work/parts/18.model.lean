/-! the reference's fields and rows -/
abbrev mfs (ad : Nat → Nat) (th nn rws ps le eq : Int32) : List Value := [.ref (ad 184), .ref (ad 185), .ref (ad 186), .ref (ad 187), .int th, .int nn, .ref (ad 188), .ref (ad 189), .int rws, .ref (ad 190), .int ps, .ref (ad 191), .int le, .int eq]
theorem mfs_ok {ad : Nat → Nat} {th nn rws ps le eq : Int32} : mF ad (mfs ad th nn rws ps le eq) := ⟨rfl, rfl, rfl, rfl, rfl, rfl, rfl, rfl⟩
theorem r_o {σ0 : Nat → va_E} {ci : Nat} {cI cZ : ClassId} {fs : List Value} {P L M : Nat → Int32} {k : Nat} (h : k < 183 ∨ 186 < k) : rw3 σ0 ci cI cZ fs P L M k = σ0 k := by
  simp only [rw3]
  rw [if_neg (by omega), if_neg (by omega), if_neg (by omega), if_neg (by omega)]
theorem q_div8 {a : Nat} (h : a < 1000) : nI (8 * a) / nI 8 = nI a := by
  rw [pk_div (by omega) (by decide) (by decide)]
  congr 1
  omega
theorem nP_nlt {k c : Nat} (h : k < c) (hc : c < 2 ^ 31) : ¬ nP c < nI k := by
  obtain ⟨d, rfl⟩ : ∃ d, c = d + 1 := ⟨c - 1, by omega⟩
  rw [nP_succ]
  exact nI_nlt (by omega) (by omega)
/-- the numbers of the reference become X' -/
def RU (σ0 : Nat → va_E) (cI cZ : ClassId) (fs : List Value) (X' : Nat → Int) : (Nat → va_E) → Prop := fun σ' =>
  ∃ P' L' M' : Nat → Int32, σ' = rw3 σ0 ciM cI cZ fs P' L' M' ∧ RB P' L' M' X'
def cpX (X : Nat → Int) (r q c : Nat) : Nat → Int := fun k => if r ≤ k ∧ k < r + c then X (q + (k - r)) else X k
theorem cpX_0 {X : Nat → Int} {r q : Nat} : cpX X r q 0 = X := by
  funext k
  simp only [cpX]
  rw [if_neg (by omega)]
theorem cpX_s {X : Nat → Int} {r q c : Nat} : va_up (cpX X r q c) (r + c) (X (q + c)) = cpX X r q (c + 1) := by
  funext k
  simp only [cpX, va_up]
  by_cases h : k = r + c
  · rw [if_pos h, if_pos (by omega), h, show q + (r + c - r) = q + c by omega]
  · rw [if_neg h]
    by_cases h2 : r ≤ k ∧ k < r + c
    · rw [if_pos h2, if_pos (by omega)]
    · rw [if_neg h2, if_neg (by omega)]
/-- numbers that are small enough to be multiplied -/
def sBB : Int := 16777216 ^ 100
def sm (x : Int) : Prop := -sBB < x ∧ x < sBB
theorem sBB_pos : 0 < sBB := rg_B 100
theorem sm_rbd {x : Int} (h : sm x) : rbd x := by
  have e : rBB = sBB * 16777216 ^ 199 := Int.pow_add (16777216 : Int) 100 199
  have h1 := rg_B 199
  have h2 := sBB_pos
  have h3 := Int.mul_le_mul_of_nonneg_left (show (1 : Int) ≤ 16777216 ^ 199 by omega) (Int.le_of_lt h2)
  have h4 : -sBB < x := h.1
  have h5 : x < sBB := h.2
  constructor <;> omega
theorem sm_mul {x y : Int} (hx : sm x) (hy : sm y) : rbd (x * y) := by
  have e : rBB = sBB * (sBB * 16777216 ^ 99) := by
    have e1 : rBB = sBB * 16777216 ^ 199 := Int.pow_add (16777216 : Int) 100 199
    have e2 : (16777216 : Int) ^ 199 = sBB * 16777216 ^ 99 := Int.pow_add (16777216 : Int) 100 99
    rw [e1, e2]
  have h1 := rg_B 99
  have h2 := sBB_pos
  have hx1 : -sBB < x := hx.1
  have hx2 : x < sBB := hx.2
  have hy1 : -sBB < y := hy.1
  have hy2 : y < sBB := hy.2
  have h3 : sBB * sBB ≤ rBB := by
    rw [e]
    refine Int.mul_le_mul_of_nonneg_left ?_ (Int.le_of_lt h2)
    have := Int.mul_le_mul_of_nonneg_left (show (1 : Int) ≤ 16777216 ^ 99 by omega) (Int.le_of_lt h2)
    omega
  have hS : x * y < sBB * sBB ∧ -(sBB * sBB) < x * y := by
    generalize sBB = S at *
    have a1 : 0 ≤ (S - x) * (S + y) := Int.mul_nonneg (by omega) (by omega)
    have a2 : 0 ≤ (S + x) * (S - y) := Int.mul_nonneg (by omega) (by omega)
    have a3 : 0 ≤ (S - x) * (S - y) := Int.mul_nonneg (by omega) (by omega)
    have a4 : 0 ≤ (S + x) * (S + y) := Int.mul_nonneg (by omega) (by omega)
    have b1 : 0 < (S - x) * (S + y) := Int.mul_pos (by omega) (by omega)
    have b2 : 0 < (S + x) * (S - y) := Int.mul_pos (by omega) (by omega)
    have b3 : 0 < (S - x) * (S - y) := Int.mul_pos (by omega) (by omega)
    have b4 : 0 < (S + x) * (S + y) := Int.mul_pos (by omega) (by omega)
    constructor <;> grind
  constructor <;> omega
theorem rb_sm {P L M : Nat → Int32} {w : Nat} {x : Int} (h : rb P L M w x) (hx : sm x) : ∃ n, n ≤ 100 ∧ L w = nI n := by
  obtain ⟨n, h1, h2, h3, h4, h5⟩ := h
  have hr := (rg_range h3).1
  refine ⟨n, rb_len h3 h4 (show _ < sBB from ?_), h2⟩
  have hx1 : -sBB < x := hx.1
  have hx2 : x < sBB := hx.2
  omega
/-- agreement but for the number 106 -/
def eqX (X Y : Nat → Int) : Prop := ∀ w, w ≠ 106 → X w = Y w
def mvX (X : Nat → Int) (d : Nat) (f : Nat → Int) : Nat → Int := fun w => if 32 ≤ w ∧ w ≤ 32 + d then f (w - 32) else X w
theorem mvX_in {X : Nat → Int} {d k : Nat} {f : Nat → Int} (h : k ≤ d) : mvX X d f (32 + k) = f k := by
  simp only [mvX]
  rw [if_pos (by omega), show 32 + k - 32 = k by omega]
theorem mvX_out {X : Nat → Int} {d w : Nat} {f : Nat → Int} (h : w < 32 ∨ 32 + d < w) : mvX X d f w = X w := by
  simp only [mvX]
  rw [if_neg (by omega)]
theorem mvX_set {X Y : Nat → Int} {d k : Nat} {f : Nat → Int} {v z : Int} (hd : d ≤ 7) (h : k ≤ d) (e : eqX Y (mvX X d f)) : eqX (va_up (va_up Y 106 z) (32 + k) v) (mvX X d (va_up f k v)) := by
  intro w hw
  by_cases h1 : w = 32 + k
  · subst h1
    rw [va_up_self, mvX_in h, va_up_self]
  · rw [va_up_ne _ _ h1, va_up_ne _ _ hw, e w hw]
    simp only [mvX]
    by_cases h2 : 32 ≤ w ∧ w ≤ 32 + d
    · rw [if_pos h2, if_pos h2, va_up_ne _ _ (by omega)]
    · rw [if_neg h2, if_neg h2]
/-- k passes of the reference's products -/
def mA (b : Int) (p : Nat → Int) (k : Nat) : Nat → Int := fun j => if j < k then p j * b ^ (k - j) else p j
def mAe (b : Int) (p : Nat → Int) (k e : Nat) : Nat → Int := fun j => if j < e then mA b p (k + 1) j else mA b p k j
theorem mAe_0 {b : Int} {p : Nat → Int} {k : Nat} : mAe b p k 0 = mA b p k := by
  funext j
  simp [mAe]
theorem mAe_s {b : Int} {p : Nat → Int} {k e : Nat} (h : e ≤ k) : va_up (mAe b p k e) e (mAe b p k e e * b) = mAe b p k (e + 1) := by
  funext j
  simp only [va_up, mAe]
  by_cases h1 : j = e
  · subst h1
    rw [if_pos rfl, if_neg (Nat.lt_irrefl _), if_pos (Nat.lt_succ_self _)]
    simp only [mA]
    rw [if_pos (show j < k + 1 by omega)]
    by_cases h2 : j < k
    · rw [if_pos h2, show k + 1 - j = (k - j) + 1 by omega, Int.pow_succ, Int.mul_assoc]
    · rw [if_neg h2, show k + 1 - j = 1 by omega, Int.pow_one]
  · rw [if_neg h1]
    by_cases h2 : j < e
    · rw [if_pos h2, if_pos (by omega)]
    · rw [if_neg h2, if_neg (by omega)]
theorem mAe_e {b : Int} {p : Nat → Int} {k : Nat} : mAe b p k (k + 1) = mA b p (k + 1) := by
  funext j
  simp only [mAe]
  by_cases h : j < k + 1
  · rw [if_pos h]
  · rw [if_neg h]
    simp only [mA]
    rw [if_neg (by omega), if_neg (by omega)]
theorem mA_mulp {b : Int} {p : Nat → Int} {d : Nat} : mA b p d = mulp b d p d := rfl
/-- changes of sign from below: n numbers from k on, behind the sign bf -/
def fa (p : Nat → Int) (bf : Int32) (k : Nat) : Nat → Nat
  | 0 => 0
  | n + 1 => (if sg (p k) * bf < 0 then 1 else 0) + fa p (if sg (p k) = 0 then bf else sg (p k)) (k + 1) n
