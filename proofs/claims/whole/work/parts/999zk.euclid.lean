/-! Euclid's algorithm of the desk: what it meets -/
def wF (c s : Nat → Int) (n : Nat) : Nat → Nat → Int
  | 0, i => s i
  | q + 1, i => wF c s n q (i + 1) + c (n - 1 - q) * s i
def tF (c s : Nat → Int) (n k j : Nat) : Int := dot (hQ (hA s) (k - 1)) (fun i => wF c s n (n - 1 - j) i) k
theorem wF_k {K : Type} [Lean.Grind.CommRing K] {n : Nat} {l : Nat → K} {s c : Nat → Int} (h : pws n l s) (hc : c n = 1) (q : Nat) : ∀ i, (iz (wF c s n q i) : K) = kS (fun a => kT (l a) i * kH (fun j => iz (c j)) n (l a) q) n := by
  induction q with
  | zero => intro i; rw [wF, h i]; exact kS_cg (fun a _ => by rw [kH_z]; show _ = _ * iz (c n); rw [hc, iz_1]; grind)
  | succ q ih =>
    intro i
    rw [wF, iz_add, iz_mul, ih (i + 1), h i, ← kS_mul, ← kS_add]
    exact kS_cg (fun a _ => by rw [kH_s]; show l a * kT (l a) i * _ + _ = _; grind)
theorem tF_k {K : Type} [Lean.Grind.CommRing K] {n : Nat} {l : Nat → K} {s c : Nat → Int} (h : pws n l s) (hc : c n = 1) (k j : Nat) : (iz (tF c s n (k + 1) j) : K) = kS (fun a => kq s k (l a) * kH (fun j => iz (c j)) n (l a) (n - 1 - j)) n := by
  rw [tF, Nat.add_sub_cancel, iz_dot]
  have e1 : ∀ a, kq s k (l a) * kH (fun j => iz (c j)) n (l a) (n - 1 - j) = kS (fun i => iz (hQ (hA s) k i) * (kT (l a) i * kH (fun j => iz (c j)) n (l a) (n - 1 - j))) (k + 1) := fun a => by
    rw [kq, kV_sum, show ∀ x y : K, x * y = y * x from fun x y => by grind, ← kS_mul]
    exact kS_cg (fun i _ => by grind)
  rw [kS_cg (fun a _ => e1 a), kS_sw]
  exact kS_cg (fun i _ => by rw [kS_mul, ← wF_k h hc])
theorem tF_o {K : Type} [Lean.Grind.CommRing K] {n : Nat} {l : Nat → K} {s c : Nat → Int} (h : pws n l s) (hc : c n = 1) {k : Nat} (hk : k ≤ 5) (q : Nat) : ∀ a, a + q ≤ k → kS (fun i => kq s k (l i) * (kT (l i) a * kH (fun j => iz (c j)) n (l i) q)) n = if a + q < k then 0 else iz (hD (hA s) (k + 1)) := by
  induction q with
  | zero =>
    intro a ha
    rw [Nat.add_zero, ← kq_o h hk (show a ≤ k by omega)]
    exact kS_cg (fun i _ => by rw [kH_z]; show _ * (_ * iz (c n)) = _; rw [hc, iz_1]; grind)
  | succ q ih =>
    intro a ha
    have e : kS (fun i => kq s k (l i) * (kT (l i) a * kH (fun j => iz (c j)) n (l i) (q + 1))) n = kS (fun i => kq s k (l i) * (kT (l i) (a + 1) * kH (fun j => iz (c j)) n (l i) q)) n + iz (c (n - 1 - q)) * kS (fun i => kq s k (l i) * kT (l i) a) n := by
      rw [← kS_mul, ← kS_add]
      exact kS_cg (fun i _ => by rw [kH_s]; show _ = _ * (l i * kT (l i) a * _) + _; grind)
    rw [e, ih (a + 1) (by omega), kq_o h hk (show a ≤ k by omega), if_pos (show a < k by omega), show a + 1 + q = a + (q + 1) by omega]
    grind
/-- its degree and its first number -/
theorem tF_hi {K : Type} [Lean.Grind.CommRing K] [LE K] [LT K] [Std.LawfulOrderLT K] [Std.IsLinearOrder K] [Lean.Grind.OrderedRing K] {n : Nat} {l : Nat → K} {s c : Nat → Int} (h : pws n l s) (hc : c n = 1) {k j : Nat} (hk : k ≤ 5) (hj : j ≤ n - 1) (hn : n - 1 - j ≤ k) : tF c s n (k + 1) j = if n - 1 - j < k then 0 else hD (hA s) (k + 1) := by
  refine iz_inj (K := K) ?_
  have e := tF_o h hc hk (n - 1 - j) 0 (by omega)
  rw [tF_k h hc, kS_cg (fun a _ => show kq s k (l a) * kH (fun j => iz (c j)) n (l a) (n - 1 - j) = kq s k (l a) * (kT (l a) 0 * kH (fun j => iz (c j)) n (l a) (n - 1 - j)) by show _ = _ * (1 * _); grind), e, Nat.zero_add]
  split
  · exact iz_0.symm
  · rfl
/-- x times what is left of the polynomial -/
theorem kH_x {K : Type} [Lean.Grind.CommRing K] {n : Nat} {c : Nat → Int} {x : K} {q : Nat} (hq : q < n) : x * kH (fun j => iz (c j)) n x (n - 1 - q) = kH (fun j => iz (c j)) n x (n - q) - iz (c q) := by
  rw [show n - q = n - 1 - q + 1 by omega, kH_s, show n - 1 - (n - 1 - q) = q by omega]; grind
section EU
/-- what the algorithm holds: the polynomial, then the tF -/
def uF (c s : Nat → Int) (n k : Nat) : Nat → Int := if k = 0 then c else tF c s n k
theorem eu_id {K : Type} [Lean.Grind.CommRing K] [LE K] [LT K] [Std.LawfulOrderLT K] [Std.IsLinearOrder K] [Lean.Grind.OrderedRing K] {n r : Nat} (h1 : 1 ≤ n) (h6 : n ≤ 6) {l : Nat → K} {s c : Nat → Int} (h : pws n l s) (hc : ∀ j, j ≤ n → iz (c j) = kP l n j) (hp : ∀ k, k ≤ r → 0 < hD (hA s) k) {k : Nat} (hk : k + 1 ≤ r) (hkn : k + 2 ≤ n) : ∃ b : Int, ∀ q, q < n → hD (hA s) k * hD (hA s) k * tF c s n (k + 2) q = hD (hA s) k * hD (hA s) (k + 1) * (if q = 0 then 0 else tF c s n (k + 1) (q - 1)) + b * tF c s n (k + 1) q - hD (hA s) (k + 1) * hD (hA s) (k + 1) * uF c s n k q := by
  have hcn : c n = 1 := iz_inj (K := K) (by rw [hc n (Nat.le_refl _), kP_t, iz_1])
  have hH : ∀ x s', s' ≤ n → kH (fun j => iz (c j)) n x s' = kH (kP l n) n x s' := fun x s' => by
    induction s' with
    | zero => intro _; rw [kH_z, kH_z]; exact hc n (Nat.le_refl _)
    | succ s' ih => intro hs; rw [kH_s, kH_s, ih (by omega)]; congr 1; exact hc _ (by omega)
  have hroot : ∀ i, i < n → kH (fun j => iz (c j)) n (l i) n = 0 := fun i hi => by rw [hH _ n (Nat.le_refl _)]; exact kH_r l n i hi
  have hx : ∀ k q, k ≤ 5 → q < n → kS (fun i => l i * kq s k (l i) * kH (fun j => iz (c j)) n (l i) (n - 1 - q)) n = (if q = 0 then 0 else iz (tF c s n (k + 1) (q - 1))) - iz (c q) * (if k = 0 then iz (hD (hA s) 1) else 0) := fun k q hk5 hq => by
    have e1 : kS (fun i => l i * kq s k (l i) * kH (fun j => iz (c j)) n (l i) (n - 1 - q)) n = kS (fun i => kq s k (l i) * kH (fun j => iz (c j)) n (l i) (n - q)) n - iz (c q) * kS (fun i => kq s k (l i) * kT (l i) 0) n := by
      rw [← kS_mul, ← kS_sub]
      exact kS_cg (fun i _ => by have := kH_x (c := c) (x := l i) hq; show _ = _ - iz (c q) * (kq s k (l i) * 1); grind)
    have e2 : kS (fun i => kq s k (l i) * kT (l i) 0) n = if k = 0 then iz (hD (hA s) 1) else 0 := by
      rw [kq_o h hk5 (Nat.zero_le k)]
      by_cases z : k = 0
      · rw [if_pos z, if_neg (by omega), z]
      · rw [if_neg z, if_pos (by omega)]
    rw [e1, e2]
    congr 1
    by_cases z : q = 0
    · rw [if_pos z, z, Nat.sub_zero]
      exact kS_0 (fun i hi => by rw [hroot i hi]; grind)
    · rw [if_neg z, tF_k h hcn, show n - 1 - (q - 1) = n - q by omega]
  rcases k with _ | k
  · refine ⟨hQ (hA s) 1 0, fun q hq => iz_inj (K := K) ?_⟩
    have d1 : (iz (hD (hA s) 1) : K) = iz (n : Int) := by
      have := kq_o h (show 0 ≤ 5 by omega) (Nat.le_refl 0)
      rw [if_neg (by omega)] at this
      rw [← this, kS_cg (fun i _ => show kq s 0 (l i) * kT (l i) 0 = 1 by show iz (hQ (hA s) 0 0) * 1 = 1; rw [hQ_top, hD_0, iz_1]; grind), kS_1]; grind
    have e1 : (iz (tF c s n 2 q) : K) = iz (hD (hA s) 1) * kS (fun i => l i * kq s 0 (l i) * kH (fun j => iz (c j)) n (l i) (n - 1 - q)) n + iz (hQ (hA s) 1 0) * iz (tF c s n 1 q) := by
      rw [tF_k h hcn, tF_k h hcn, ← kS_mul, ← kS_mul, ← kS_add]
      refine kS_cg (fun i _ => ?_)
      have a1 : kq s 1 (l i) = iz (hQ (hA s) 1 0) + l i * iz (hD (hA s) 1) := by
        rw [kq, kV_s, kV_z, hQ_top]
      have a0 : kq s 0 (l i) = 1 := by rw [kq, kV_z, hQ_top, hD_0, iz_1]
      rw [a1, a0]; grind
    have e3 := hx 0 q (by omega) hq
    rw [if_pos rfl] at e3
    rw [e3] at e1
    show iz (hD (hA s) 0 * hD (hA s) 0 * tF c s n 2 q) = _
    rw [hD_0, Int.one_mul, Int.one_mul, e1, iz_sub, iz_add, iz_mul, iz_mul, iz_mul, iz_mul, iz_mul, iz_1, uF, if_pos rfl]
    have e4 : (iz (if q = 0 then 0 else tF c s n (0 + 1) (q - 1)) : K) = if q = 0 then 0 else iz (tF c s n (0 + 1) (q - 1)) := by
      split
      · exact iz_0
      · rfl
    rw [e4]
    grind
  · obtain ⟨b, hb⟩ := kq_3 h (show k + 2 ≤ 5 by omega) (show hD (hA s) (k + 1) ≠ 0 by have := hp (k + 1) (by omega); omega)
    refine ⟨b, fun q hq => iz_inj (K := K) ?_⟩
    have e3 := hx (k + 1) q (by omega) hq
    rw [if_neg (show ¬ k + 1 = 0 by omega)] at e3
    have e1 : iz (hD (hA s) (k + 1)) * iz (hD (hA s) (k + 1)) * (iz (tF c s n (k + 3) q) : K) + iz (hD (hA s) (k + 2)) * iz (hD (hA s) (k + 2)) * iz (tF c s n (k + 1) q) = iz (hD (hA s) (k + 1)) * iz (hD (hA s) (k + 2)) * kS (fun i => l i * kq s (k + 1) (l i) * kH (fun j => iz (c j)) n (l i) (n - 1 - q)) n + iz b * iz (tF c s n (k + 2) q) := by
      rw [tF_k h hcn, tF_k h hcn, tF_k h hcn, ← kS_mul, ← kS_mul, ← kS_mul, ← kS_mul, ← kS_add, ← kS_add]
      exact kS_cg (fun i hi => by have := hb i hi; grind)
    rw [e3] at e1
    have e4 : (iz (if q = 0 then 0 else tF c s n (k + 2) (q - 1)) : K) = if q = 0 then 0 else iz (tF c s n (k + 2) (q - 1)) := by
      split
      · exact iz_0
      · rfl
    show iz (hD (hA s) (k + 1) * hD (hA s) (k + 1) * tF c s n (k + 3) q) = iz (hD (hA s) (k + 1) * hD (hA s) (k + 2) * (if q = 0 then 0 else tF c s n (k + 2) (q - 1)) + b * tF c s n (k + 2) q - hD (hA s) (k + 2) * hD (hA s) (k + 2) * uF c s n (k + 1) q)
    rw [iz_sub, iz_add, iz_mul, iz_mul, iz_mul, iz_mul, iz_mul, iz_mul, iz_mul, uF, if_neg (show ¬ k + 1 = 0 by omega), e4]
    grind
/-- a step of the algorithm -/
theorem rdF_q {U L : Nat → Int} {j q : Nat} (hq : q ≤ j) : rdF U L (j + 2) (j + 1) q = L q * (U (j + 1) * L (j + 1) - L j * U (j + 2)) - (U q * L (j + 1) - (if q = 0 then 0 else L (q - 1) * U (j + 2))) * L (j + 1) := by
  simp only [rdF, ngF, cnF]
  rw [show j + 2 - 1 = j + 1 by omega, show j + 2 - (j + 1) = 1 by omega, show j + 1 - (j + 1) = 0 by omega, if_pos (show q < j + 1 by omega), if_pos (show q < j + 1 by omega), if_pos (show q < j + 2 by omega), if_pos (show j + 1 < j + 2 by omega), if_pos (show 1 ≤ j + 1 by omega), if_pos (Nat.zero_le _), Nat.add_sub_cancel, Nat.sub_zero]
  by_cases z : q = 0
  · rw [if_pos z, if_neg (show ¬ 1 ≤ q by omega)]; grind
  · rw [if_neg z, if_pos (show 1 ≤ q by omega)]; grind
theorem eu_step {K : Type} [Lean.Grind.CommRing K] [LE K] [LT K] [Std.LawfulOrderLT K] [Std.IsLinearOrder K] [Lean.Grind.OrderedRing K] {n r : Nat} (h1 : 1 ≤ n) (h6 : n ≤ 6) {l : Nat → K} {s c : Nat → Int} (h : pws n l s) (hc : ∀ j, j ≤ n → iz (c j) = kP l n j) (hp : ∀ k, k ≤ r → 0 < hD (hA s) k) {k j : Nat} (hk : k + 1 ≤ r) (hj : j + k + 2 = n) {U L : Nat → Int} (hU : ∀ q, q ≤ j + 2 → U q = uF c s n k q) (hL : ∀ q, q ≤ j + 1 → L q = tF c s n (k + 1) q) : U (j + 2) = hD (hA s) k ∧ L (j + 1) = hD (hA s) (k + 1) ∧ (∀ q, q ≤ j → rdF U L (j + 2) (j + 1) q = U (j + 2) * U (j + 2) * tF c s n (k + 2) q) ∧ (∀ q, q ≤ j → euR U L j q = tF c s n (k + 2) q) ∧ tF c s n (k + 2) j = hD (hA s) (k + 2) := by
  have hcn : c n = 1 := iz_inj (K := K) (by rw [hc n (Nat.le_refl _), kP_t, iz_1])
  obtain ⟨b, hb⟩ := eu_id h1 h6 h hc hp hk (by omega)
  have eL : L (j + 1) = hD (hA s) (k + 1) := by
    rw [hL (j + 1) (Nat.le_refl _), tF_hi h hcn (show k ≤ 5 by omega) (by omega) (by omega), if_neg (by omega)]
  have eU : U (j + 2) = hD (hA s) k := by
    rw [hU (j + 2) (Nat.le_refl _), uF]
    by_cases z : k = 0
    · rw [if_pos z, show j + 2 = n by omega, hcn, z, hD_0]
    · rw [if_neg z]
      obtain ⟨k, rfl⟩ : ∃ q, k = q + 1 := ⟨k - 1, by omega⟩
      rw [tF_hi h hcn (show k ≤ 5 by omega) (by omega) (by omega), if_neg (by omega)]
  have e0 : tF c s n (k + 2) (j + 1) = 0 := by
    rw [tF_hi h hcn (show k + 1 ≤ 5 by omega) (by omega) (by omega), if_pos (by omega)]
  have et : tF c s n (k + 2) j = hD (hA s) (k + 2) := by
    rw [tF_hi h hcn (show k + 1 ≤ 5 by omega) (by omega) (by omega), if_neg (by omega)]
  have bq := hb (j + 1) (by omega)
  rw [e0, if_neg (by omega), Nat.add_sub_cancel, ← hL (j + 1) (Nat.le_refl _), ← hL j (by omega), ← hU (j + 1) (by omega), eL, ← eU, Int.mul_zero] at bq
  have hD1 : hD (hA s) (k + 1) ≠ 0 := by have := hp (k + 1) hk; omega
  have hbv : b = U (j + 1) * L (j + 1) - L j * U (j + 2) := by
    rw [eL]
    have : hD (hA s) (k + 1) * b = hD (hA s) (k + 1) * (U (j + 1) * hD (hA s) (k + 1) - L j * U (j + 2)) := by grind
    exact Int.eq_of_mul_eq_mul_left hD1 this
  have hr : ∀ q, q ≤ j → rdF U L (j + 2) (j + 1) q = U (j + 2) * U (j + 2) * tF c s n (k + 2) q := fun q hq => by
    have b2 := hb q (by omega)
    rw [rdF_q hq, ← hbv, eU, b2, eL, hL q (by omega), hU q (by omega)]
    by_cases z : q = 0
    · rw [if_pos z, if_pos z]; grind
    · rw [if_neg z, if_neg z, hL (q - 1) (by omega)]; grind
  have hU0 : U (j + 2) ≠ 0 := by rw [eU]; have := hp k (by omega); omega
  refine ⟨eU, eL, hr, fun q hq => ?_, et⟩
  rw [euR, hr q hq, Int.mul_ediv_cancel_left _ (by intro z; rcases Int.mul_eq_zero.mp z with z | z <;> exact hU0 z)]
/-- the whole algorithm; sizes as they are given -/
theorem eu_all {K : Type} [Lean.Grind.CommRing K] [LE K] [LT K] [Std.LawfulOrderLT K] [Std.IsLinearOrder K] [Lean.Grind.OrderedRing K] {n r lbs : Nat} (h1 : 1 ≤ n) (h6 : n ≤ 6) {l : Nat → K} {s c : Nat → Int} (h : pws n l s) (hc : ∀ j, j ≤ n → iz (c j) = kP l n j) (hp : ∀ k, k ≤ r → 0 < hD (hA s) k) (hr : r ≤ n) (he : r < n → hD (hA s) (r + 1) = 0)
    (z1 : ∀ k, k ≤ r → fitL lbs (hD (hA s) k)) (z2 : ∀ k j, k + 1 ≤ r → j + k + 2 = n → ∀ q, q ≤ j → fitL lbs (hD (hA s) k * hD (hA s) k * tF c s n (k + 2) q) ∧ fitL lbs (tF c s n (k + 2) q)) (j : Nat) : ∀ (k : Nat) (U L : Nat → Int), j + k + 1 = n → k + 1 ≤ r → (∀ q, q ≤ j + 1 → U q = uF c s n k q) → (∀ q, q ≤ j → L q = tF c s n (k + 1) q) → (euF j U L).2 = n - r ∧ (∀ q, q ≤ n - r → (euF j U L).1 q = tF c s n r q) ∧ euOK lbs j U L := by
  induction j with
  | zero =>
    intro k U L hj hk hU hL
    obtain rfl : r = n := by omega
    refine ⟨by rw [Nat.sub_self]; rfl, fun q hq => ?_, trivial⟩
    show L q = _
    rw [hL q (by omega), hj.symm, Nat.zero_add]
  | succ j ih =>
    intro k U L hj hk hU hL
    obtain ⟨s1, s2, s3, s4, s5⟩ := eu_step h1 h6 h hc hp hk (show j + k + 2 = n by omega) hU hL
    have hU0 : U (j + 2) ≠ 0 := by rw [s1]; have := hp k (by omega); omega
    have f3 : pl_sz j lbs (rdF U L (j + 2) (j + 1)) := fun q hq => by
      rw [s3 q hq, s1]
      exact (z2 k j hk (by omega) q hq).1
    have f5 : pl_sz j lbs (euR U L j) := fun q hq => by
      rw [s4 q hq]
      exact (z2 k j hk (by omega) q hq).2
    rw [euF, euOK]
    by_cases z : euR U L j j = 0
    · rw [if_pos z]
      rw [s4 j (Nat.le_refl _), s5] at z
      have hkr : r = k + 1 := by
        refine Classical.byContradiction fun w => ?_
        have := hp (k + 2) (by omega)
        omega
      refine ⟨by show j + 1 = n - r; omega, fun q hq => ?_, hU0, by rw [s1]; exact z1 k (by omega), f3, fun q hq => by rw [s3 q hq, s4 q hq], f5, Or.inl (by rw [s4 j (Nat.le_refl _), s5]; exact z)⟩
      show L q = _
      rw [hL q (by omega), hkr]
    · rw [if_neg z]
      rw [s4 j (Nat.le_refl _), s5] at z
      have hk2 : k + 2 ≤ r := by
        refine Classical.byContradiction fun w => z ?_
        have := he (by omega)
        rw [show r + 1 = k + 2 by omega] at this
        exact this
      obtain ⟨i1, i2, i3⟩ := ih (k + 1) L (euR U L j) (by omega) hk2 (fun q hq => by rw [hL q hq, uF, if_neg (by omega)]) (fun q hq => s4 q hq)
      exact ⟨i1, i2, hU0, by rw [s1]; exact z1 k (by omega), f3, fun q hq => by rw [s3 q hq, s4 q hq], f5, Or.inr i3⟩
end EU
