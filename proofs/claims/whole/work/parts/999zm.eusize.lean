/-! sizes of what Euclid's algorithm meets -/
def kin {K : Type} [Lean.Grind.CommRing K] [LE K] [LT K] [Std.LawfulOrderLT K] [Std.IsLinearOrder K] [Lean.Grind.OrderedRing K] (c : Int) (x : K) : Prop := x ≤ iz c ∧ -iz c ≤ x
theorem kin_mul {K : Type} [Lean.Grind.CommRing K] [LE K] [LT K] [Std.LawfulOrderLT K] [Std.IsLinearOrder K] [Lean.Grind.OrderedRing K] {c d : Int} {x y : K} (h1 : kin c x) (h2 : kin d y) : kin (c * d) (x * y) := by
  have := k_bd h1.1 h1.2 h2.1 h2.2
  rw [← iz_mul] at this
  exact this
theorem kin_add {K : Type} [Lean.Grind.CommRing K] [LE K] [LT K] [Std.LawfulOrderLT K] [Std.IsLinearOrder K] [Lean.Grind.OrderedRing K] {c d : Int} {x y : K} (h1 : kin c x) (h2 : kin d y) : kin (c + d) (x + y) := by
  obtain ⟨a1, a2⟩ := h1
  obtain ⟨b1, b2⟩ := h2
  constructor <;> rw [iz_add] <;> grind
theorem kin_le {K : Type} [Lean.Grind.CommRing K] [LE K] [LT K] [Std.LawfulOrderLT K] [Std.IsLinearOrder K] [Lean.Grind.OrderedRing K] {c d : Int} {x : K} (h : c ≤ d) (h1 : kin c x) : kin d x := by
  have := iz_le (K := K).mpr h
  obtain ⟨a1, a2⟩ := h1
  constructor <;> grind
theorem kin_T {K : Type} [Lean.Grind.CommRing K] [LE K] [LT K] [Std.LawfulOrderLT K] [Std.IsLinearOrder K] [Lean.Grind.OrderedRing K] {B : Int} {x : K} (h : kin B x) (k : Nat) : kin (B ^ k) (kT x k) := by
  induction k with
  | zero =>
    have h01 : (0 : K) < 1 := Lean.Grind.OrderedRing.zero_lt_one
    constructor
    · rw [Int.pow_zero, iz_1]; show (1 : K) ≤ 1; grind
    · rw [Int.pow_zero, iz_1]; show -(1 : K) ≤ 1; grind
  | succ k ih =>
    have := kin_mul h ih
    rw [Int.mul_comm] at this
    rw [Int.pow_succ]
    exact this
theorem kin_sq {K : Type} [Lean.Grind.CommRing K] [LE K] [LT K] [Std.LawfulOrderLT K] [Std.IsLinearOrder K] [Lean.Grind.OrderedRing K] {c : Int} {x : K} (h : kin c x) : x * x ≤ iz (c * c) := (kin_mul h h).1
theorem kin_H {K : Type} [Lean.Grind.CommRing K] [LE K] [LT K] [Std.LawfulOrderLT K] [Std.IsLinearOrder K] [Lean.Grind.OrderedRing K] {n : Nat} {c : Nat → Int} {B : Int} (hB : 0 ≤ B) {x : K} (hx : kin B x) (hc : ∀ j, j ≤ n → bd (2 ^ n * B ^ (n - j)) (c j)) (q : Nat) : q ≤ n → kin ((((q : Nat) : Int) + 1) * 2 ^ n * B ^ q) (kH (fun j => iz (c j)) n x q) := by
  have hk : ∀ j, j ≤ n → kin (2 ^ n * B ^ (n - j)) (iz (c j) : K) := fun j hj => ⟨iz_le.mpr (hc j hj).2, by rw [← iz_neg]; exact iz_le.mpr (hc j hj).1⟩
  induction q with
  | zero =>
    intro _
    have := hk n (Nat.le_refl _)
    rw [Nat.sub_self] at this
    rw [kH_z]
    refine kin_le ?_ this
    show (2 : Int) ^ n * B ^ 0 ≤ (((0 : Nat) : Int) + 1) * 2 ^ n * B ^ 0
    rw [Int.pow_zero]; omega
  | succ q ih =>
    intro hq
    have h1 := kin_mul hx (ih (by omega))
    have h2 := hk (n - 1 - q) (by omega)
    rw [show n - (n - 1 - q) = q + 1 by omega] at h2
    rw [kH_s]
    refine kin_le ?_ (kin_add h1 h2)
    rw [Int.pow_succ]
    refine Int.le_of_eq ?_
    show B * ((((q : Nat) : Int) + 1) * 2 ^ n * B ^ q) + 2 ^ n * (B ^ q * B) = ((((q : Nat) : Int) + 1) + 1) * 2 ^ n * (B ^ q * B)
    grind
theorem hD_bd {K : Type} [Lean.Grind.CommRing K] [LE K] [LT K] [Std.LawfulOrderLT K] [Std.IsLinearOrder K] [Lean.Grind.OrderedRing K] {n r : Nat} (h6 : n ≤ 6) (hr : r ≤ n) {l : Nat → K} {s : Nat → Int} {B : Int} (hB : 0 ≤ B) (hl : ∀ i, i < n → kin B (l i)) (h : pws n l s) (hp : ∀ k, k ≤ r → 0 < hD (hA s) k) (k : Nat) : k ≤ r → hD (hA s) k ≤ 6 ^ k * B ^ (k * (k - 1)) := by
  induction k with
  | zero => intro _; rw [hD_0]; show (1 : Int) ≤ 6 ^ 0 * B ^ 0; rw [Int.pow_zero, Int.pow_zero]; decide
  | succ k ih =>
    intro hk
    have i1 := ih (by omega)
    have hp0 := hp k (by omega)
    have m := hD_min h (show k ≤ 5 by omega) (hp (k + 1) hk) (F := fun x => kT x k) (by
      have : ∀ k, pft k 1 (fun x : K => kT x k) := fun k => by
        induction k with
        | zero => exact pft_con 1
        | succ k ihk => exact pft_t ihk
      exact this k)
    have s1 : kS (fun i => kT (l i) k * kT (l i) k) n ≤ iz (n : Int) * iz (B ^ k * B ^ k) := by
      rw [← kS_1]
      exact kS_le (fun i hi => kin_sq (kin_T (hl i hi) k))
    have m2 := Lean.Grind.OrderedRing.mul_le_mul_of_nonneg_left s1 (Std.le_of_lt (iz_pos (K := K) hp0))
    rw [← iz_mul, ← iz_mul] at m2
    have m3 : hD (hA s) (k + 1) ≤ hD (hA s) k * ((n : Int) * (B ^ k * B ^ k)) := iz_le (K := K).mp (by grind)
    have hBk : 0 ≤ B ^ k := Int.pow_nonneg hB
    have hBB : 0 ≤ B ^ k * B ^ k := Int.mul_nonneg hBk hBk
    have m4 : hD (hA s) k * ((n : Int) * (B ^ k * B ^ k)) ≤ (6 ^ k * B ^ (k * (k - 1))) * (6 * (B ^ k * B ^ k)) := by
      have a1 : (n : Int) * (B ^ k * B ^ k) ≤ 6 * (B ^ k * B ^ k) := Int.mul_le_mul_of_nonneg_right (by omega) hBB
      have a2 : hD (hA s) k * ((n : Int) * (B ^ k * B ^ k)) ≤ hD (hA s) k * (6 * (B ^ k * B ^ k)) := Int.mul_le_mul_of_nonneg_left a1 (Int.le_of_lt hp0)
      have a3 : hD (hA s) k * (6 * (B ^ k * B ^ k)) ≤ (6 ^ k * B ^ (k * (k - 1))) * (6 * (B ^ k * B ^ k)) := Int.mul_le_mul_of_nonneg_right i1 (by omega)
      omega
    have e : (6 : Int) ^ (k + 1) * B ^ ((k + 1) * (k + 1 - 1)) = (6 ^ k * B ^ (k * (k - 1))) * (6 * (B ^ k * B ^ k)) := by
      have e1 : (k + 1) * (k + 1 - 1) = k * (k - 1) + (k + k) := by
        rcases (by omega : k = 0 ∨ k = 1 ∨ k = 2 ∨ k = 3 ∨ k = 4 ∨ k = 5) with rfl | rfl | rfl | rfl | rfl | rfl <;> rfl
      have s1 : (6 : Int) ^ (k + 1) = 6 ^ k * 6 := Int.pow_succ ..
      have s2 : B ^ (k * (k - 1) + (k + k)) = B ^ (k * (k - 1)) * (B ^ k * B ^ k) := by rw [Int.pow_add, Int.pow_add]
      rw [e1, s1, s2]
      generalize (6 : Int) ^ k = a
      generalize B ^ (k * (k - 1)) = b
      generalize B ^ k = c
      grind
    omega
theorem sq_le {x y : Int} (hy : 0 ≤ y) (h : x * x ≤ y * y) : bd y x := by
  constructor
  · refine Int.le_of_not_gt fun q => ?_
    have a1 := Int.mul_pos (show 0 < -x - y by omega) (show 0 < -x - y by omega)
    have a2 := Int.mul_nonneg hy (show 0 ≤ -x - y by omega)
    grind
  · refine Int.le_of_not_gt fun q => ?_
    have a1 := Int.mul_pos (show 0 < x - y by omega) (show 0 < x - y by omega)
    have a2 := Int.mul_nonneg hy (show 0 ≤ x - y by omega)
    grind
theorem tF_bd {K : Type} [Lean.Grind.CommRing K] [LE K] [LT K] [Std.LawfulOrderLT K] [Std.IsLinearOrder K] [Lean.Grind.OrderedRing K] {n : Nat} (h1 : 1 ≤ n) (h6 : n ≤ 6) {l : Nat → K} {s c : Nat → Int} {B : Int} (hB : 0 ≤ B) (hl : ∀ i, i < n → kin B (l i)) (h : pws n l s) (hcn : c n = 1) (hc : ∀ j, j ≤ n → bd (2 ^ n * B ^ (n - j)) (c j)) {k : Nat} (hk : k ≤ 5) (d0 : 0 ≤ hD (hA s) k) (d1 : hD (hA s) k ≤ 6 ^ k * B ^ (k * (k - 1))) (d2 : 0 ≤ hD (hA s) (k + 1)) (d3 : hD (hA s) (k + 1) ≤ 6 ^ (k + 1) * B ^ ((k + 1) * k)) {j : Nat} (hj : j ≤ n - 1) : bd (6 ^ (k + 1) * 384 * B ^ (k * k + (n - 1 - j))) (tF c s n (k + 1) j) := by
  obtain ⟨q, hq⟩ : ∃ q, q = n - 1 - j := ⟨_, rfl⟩
  have hBq : 0 ≤ B ^ q := Int.pow_nonneg hB
  have hH : ∀ i, i < n → kin (384 * B ^ q) (kH (fun j => iz (c j)) n (l i) (n - 1 - j)) := fun i hi => by
    rw [← hq]
    refine kin_le ?_ (kin_H hB (hl i hi) hc q (by omega))
    refine Int.mul_le_mul_of_nonneg_right ?_ hBq
    have e1 : (2 : Int) ^ n ≤ 2 ^ 6 := p2_le h6
    have e2 : (0 : Int) < 2 ^ n := Int.pow_pos (by decide)
    have e3 : (((q : Nat) : Int) + 1) * 2 ^ n ≤ 6 * 2 ^ n := Int.mul_le_mul_of_nonneg_right (by omega) (by omega)
    have e4 : (2 : Int) ^ 6 = 64 := by decide
    omega
  have cs := kD_cs n (fun i => kq s k (l i)) (fun i => kH (fun j => iz (c j)) n (l i) (n - 1 - j))
  have f1 : kD n (fun i => kq s k (l i)) (fun i => kH (fun j => iz (c j)) n (l i) (n - 1 - j)) = iz (tF c s n (k + 1) j) := (tF_k h hcn k j).symm
  have f2 : kD n (fun i => kq s k (l i)) (fun i => kq s k (l i)) = iz (hD (hA s) (k + 1)) * iz (hD (hA s) k) := kq_sq h hk
  have f3 : kD n (fun i => kH (fun j => iz (c j)) n (l i) (n - 1 - j)) (fun i => kH (fun j => iz (c j)) n (l i) (n - 1 - j)) ≤ iz (n : Int) * iz (384 * B ^ q * (384 * B ^ q)) := by
    rw [← kS_1]
    exact kS_le (fun i hi => kin_sq (hH i hi))
  rw [f1, f2, ← iz_mul, ← iz_mul] at cs
  rw [← iz_mul] at f3
  have f4 := Lean.Grind.OrderedRing.mul_le_mul_of_nonneg_left f3 (show (0 : K) ≤ iz (hD (hA s) (k + 1) * hD (hA s) k) by rw [← iz_0]; exact iz_le.mpr (Int.mul_nonneg d2 d0))
  rw [← iz_mul] at f4
  have g1 : tF c s n (k + 1) j * tF c s n (k + 1) j ≤ hD (hA s) (k + 1) * hD (hA s) k * ((n : Int) * (384 * B ^ q * (384 * B ^ q))) := iz_le (K := K).mp (by grind)
  obtain ⟨X, eX⟩ : ∃ X, X = 384 * B ^ q * (384 * B ^ q) := ⟨_, rfl⟩
  have hX : 0 ≤ X := by rw [eX]; exact Int.mul_nonneg (by omega) (by omega)
  rw [← eX] at g1
  have hD2 : hD (hA s) (k + 1) * hD (hA s) k ≤ 6 ^ (k + 1) * B ^ ((k + 1) * k) * (6 ^ k * B ^ (k * (k - 1))) := by
    have a1 := Int.mul_le_mul_of_nonneg_left d1 d2
    have a2 := Int.mul_le_mul_of_nonneg_right d3 (Int.le_trans d0 d1)
    omega
  have hn6 : (n : Int) * X ≤ 6 * X := Int.mul_le_mul_of_nonneg_right (by omega) hX
  have g2 : hD (hA s) (k + 1) * hD (hA s) k * ((n : Int) * X) ≤ 6 ^ (k + 1) * B ^ ((k + 1) * k) * (6 ^ k * B ^ (k * (k - 1))) * (6 * X) := by
    have a1 := Int.mul_le_mul_of_nonneg_left hn6 (Int.mul_nonneg d2 d0)
    have a2 := Int.mul_le_mul_of_nonneg_right hD2 (show 0 ≤ 6 * X by omega)
    omega
  have hBk : 0 ≤ B ^ (k * k + q) := Int.pow_nonneg hB
  have h6k : (0 : Int) < 6 ^ (k + 1) := Int.pow_pos (by decide)
  rw [← hq]
  refine sq_le (Int.mul_nonneg (by omega) hBk) ?_
  refine Int.le_trans g1 (Int.le_trans g2 (Int.le_of_eq ?_))
  have e1 : B ^ ((k + 1) * k) * B ^ (k * (k - 1)) = B ^ (k * k) * B ^ (k * k) := by
    rw [← Int.pow_add, ← Int.pow_add]
    congr 1
    rcases (by omega : k = 0 ∨ k = 1 ∨ k = 2 ∨ k = 3 ∨ k = 4 ∨ k = 5) with rfl | rfl | rfl | rfl | rfl | rfl <;> rfl
  have s1 : (6 : Int) ^ (k + 1) = 6 ^ k * 6 := Int.pow_succ ..
  have s2 : B ^ (k * k + q) = B ^ (k * k) * B ^ q := Int.pow_add ..
  rw [eX, s1, s2]
  clear g1 g2 hD2 hBk h6k cs f1 f2 f3 f4 hH hc d0 d1 d2 d3
  generalize (6 : Int) ^ k = x1 at *
  generalize B ^ ((k + 1) * k) = x2 at *
  generalize B ^ (k * (k - 1)) = x3 at *
  generalize B ^ (k * k) = x4 at *
  generalize B ^ q = x5 at *
  have e2 : x1 * 6 * x2 * (x1 * x3) * (6 * (384 * x5 * (384 * x5))) = x1 * 6 * (x1 * 6) * (384 * x5 * (384 * x5)) * (x2 * x3) := by grind
  rw [e2, e1]; grind
/-- what fits -/
theorem fit_of {B C x : Int} {b E W lbs : Nat} (hB : 0 ≤ B) (hb : 2 * B < 2 ^ b) (hE : E ≤ W) (hC : C < 2 ^ (E + 24)) (hl : W * b + 25 ≤ 30 * lbs) (h : bd (C * B ^ E) x) : fitL lbs x := by
  have e1 : (1073741824 : Int) ^ lbs = 2 ^ (30 * lbs) := by rw [Int.pow_mul]; rfl
  have e2 : (2 : Int) ^ (W * b + 25) ≤ 2 ^ (30 * lbs) := p2_le hl
  have e3 : (2 : Int) ^ (E * b + 25) ≤ 2 ^ (W * b + 25) := p2_le (by have := Nat.mul_le_mul_right b hE; omega)
  have p1 : (2 * B) ^ E ≤ (2 ^ b) ^ E := by
    obtain ⟨m, rfl⟩ := Int.eq_ofNat_of_zero_le hB
    have : (2 * m) ^ E ≤ (2 ^ b) ^ E := Nat.pow_le_pow_left (by
      have : ((2 ^ b : Nat) : Int) = (2 : Int) ^ b := by rw [Int.natCast_pow]; rfl
      omega) E
    have := Int.ofNat_le.mpr this
    rw [Int.natCast_pow, Int.natCast_pow, Int.natCast_pow, Int.natCast_mul] at this
    exact this
  have p2 : (2 * B) ^ E = 2 ^ E * B ^ E := Int.mul_pow ..
  have p3 : ((2 : Int) ^ b) ^ E = 2 ^ (E * b) := by rw [← Int.pow_mul, Nat.mul_comm]
  have p4 : (0 : Int) < 2 ^ E := Int.pow_pos (by decide)
  have p5 : (0 : Int) ≤ B ^ E := Int.pow_nonneg hB
  have p6 : (2 : Int) ^ (E + 24) = 2 ^ E * 16777216 := by rw [Int.pow_add]; rfl
  have p7 : (2 : Int) ^ (E * b + 25) = 2 ^ (E * b) * 33554432 := by rw [Int.pow_add]; rfl
  have p8 : (0 : Int) < 2 ^ (E * b) := Int.pow_pos (by decide)
  rw [p2, p3] at p1
  have key : C * B ^ E < 16777216 * 2 ^ (E * b) := by
    have a1 : 2 ^ E * (C * B ^ E) < 2 ^ E * (16777216 * 2 ^ (E * b)) := by
      rcases Int.lt_or_eq_of_le p5 with z | z
      · have a2 : C * (2 ^ E * B ^ E) < (2 ^ E * 16777216) * (2 ^ E * B ^ E) := Int.mul_lt_mul_of_pos_right (by omega) (Int.mul_pos p4 z)
        have a3 : (2 ^ E * 16777216) * (2 ^ E * B ^ E) ≤ (2 ^ E * 16777216) * 2 ^ (E * b) := Int.mul_le_mul_of_nonneg_left p1 (by omega)
        have a4 : (2 : Int) ^ E * (C * B ^ E) = C * (2 ^ E * B ^ E) := by grind
        have a5 : (2 : Int) ^ E * (16777216 * 2 ^ (E * b)) = (2 ^ E * 16777216) * 2 ^ (E * b) := by grind
        omega
      · rw [← z, Int.mul_zero, Int.mul_zero]
        exact Int.mul_pos p4 (by omega)
    exact Int.lt_of_mul_lt_mul_left a1 (Int.le_of_lt p4)
  have b1 := h.1
  have b2 := h.2
  rw [fitL, e1]
  constructor <;> omega
