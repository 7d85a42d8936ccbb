/-! the common divisors: all that is asked of them -/
theorem pw_a : ∀ n, n < 7 → ∀ k, k < 7 → k ≤ n → k * (k - 1) ≤ pwF n := by decide
theorem pw_b : ∀ k, k < 7 → (6 : Int) ^ k < 2 ^ (k * (k - 1) + 24) := by decide
theorem pw_c : ∀ n, n < 7 → ∀ k, k < 5 → ∀ q, q < 6 → q + k + 2 ≤ n → k * (k - 1) + k * (k - 1) + ((k + 1) * (k + 1) + (n - 1 - q)) ≤ pwF n := by decide
theorem pw_d : ∀ n, n < 7 → ∀ k, k < 5 → ∀ q, q < 6 → q + k + 2 ≤ n → (6 : Int) ^ k * 6 ^ k * (6 ^ (k + 1 + 1) * 384) < 2 ^ (k * (k - 1) + k * (k - 1) + ((k + 1) * (k + 1) + (n - 1 - q)) + 24) := by decide
theorem pw_e : ∀ n, n < 7 → ∀ r, r < 6 → ∀ q, q < 6 → q + r + 1 ≤ n → r * r + (n - 1 - q) ≤ pwF n := by decide
theorem pw_f : ∀ n, n < 7 → ∀ r, r < 6 → ∀ q, q < 6 → q + r + 1 ≤ n → (6 : Int) ^ (r + 1) * 384 < 2 ^ (r * r + (n - 1 - q) + 24) := by decide
theorem pw_g : ∀ n, n < 7 → 1 ≤ n → ∀ d, d < n → d ≤ pwF n := by decide
theorem ce_all {K : Type} [Lean.Grind.CommRing K] [LE K] [LT K] [Std.LawfulOrderLT K] [Std.IsLinearOrder K] [Lean.Grind.OrderedRing K] (hinv : ∀ x : K, x ≠ 0 → ∃ y, x * y = 1) {n : Nat} (h1 : 1 ≤ n) (h6 : n ≤ 6) {p : Nat → Int} {l : Nat → K} {s : Nat → Int} {B : Int} (hB : 0 ≤ B) (hB6 : B ≤ 6000000) (hl : rts n p l B) (h : pws n l s) : ∃ (r : Nat) (ρ γ : Nat → K) (N : K → K) (M : Nat → Int), gmn n l r ρ γ N ∧ 1 ≤ r ∧ ceD p n = n - r ∧ (∀ b : Nat, 2 * B < 2 ^ b → ceOK ((pwF n * b + 24) / 30 + 1) p n) ∧ pl_sz (n - r) 6 (ceF p n) ∧ cmC p n = n - r + 1 ∧ (∀ j, j ≤ n - r → cmF p n j = ceF p n j) ∧ (∀ j, j ≤ n - r → iz (ceF p n j) = kP γ (n - r) j) ∧ (∀ j, j ≤ r → iz (M j) = kP ρ r j) ∧ ∀ k, k ≤ r → 0 < hD (hA s) k := by
  obtain ⟨r, ρ, γ, N, hg⟩ := k_gmn l n hl.1
  have hg' := hg
  obtain ⟨g1, g2, g3, g4, g5, g6, g7, g8, g9, g10, g11, g12, g13, g14, g15⟩ := hg
  obtain ⟨hr1, _⟩ := g10 h1
  have hpn : p n = 1 := iz_inj (K := K) (by rw [hl.2.1 n (Nat.le_refl _), kP_t, iz_1])
  obtain ⟨cm1, M, hM⟩ := cm_one hinv h1 h6 h hl.2.1 hg'
  obtain ⟨c1, c2, c3, c4⟩ := gcd_of hinv h1 h6 hl.2.1 hg'
  have hkin : ∀ i, i < n → kin B (l i) := fun i hi => ⟨(hl.2.2 i hi).2, by rw [← iz_neg]; exact (hl.2.2 i hi).1⟩
  have hcb := q_bd hB hl.2.2 hl.2.1
  have hp : ∀ k, k ≤ r → 0 < hD (hA s) k := hD_pos h (by omega) g2 g13
  have he : r < n → hD (hA s) (r + 1) = 0 := fun w => (hD_end h (by omega) (hp r (Nat.le_refl _)) g12).1
  have hDb := hD_bd h6 g1 hB hkin h hp
  have hnn : ∀ (a e : Nat), (0 : Int) ≤ 6 ^ a * B ^ e := fun a e => Int.mul_nonneg (Int.le_of_lt (Int.pow_pos (by decide))) (Int.pow_nonneg hB)
  have hDb2 : ∀ k, k ≤ r + 1 → k ≤ n → 0 ≤ hD (hA s) k ∧ hD (hA s) k ≤ 6 ^ k * B ^ (k * (k - 1)) := fun k hk hkn => by
    by_cases w : k ≤ r
    · exact ⟨Int.le_of_lt (hp k w), hDb k w⟩
    · rw [show k = r + 1 by omega, he (by omega)]
      exact ⟨Int.le_refl _, hnn _ _⟩
  have hT : ∀ k q, k ≤ r → k + 1 ≤ n → q ≤ n - 1 → bd (6 ^ (k + 1) * 384 * B ^ (k * k + (n - 1 - q))) (tF p s n (k + 1) q) := fun k q hk hkn hq => by
    obtain ⟨a1, a2⟩ := hDb2 k (by omega) (by omega)
    obtain ⟨a3, a4⟩ := hDb2 (k + 1) (by omega) hkn
    exact tF_bd h1 h6 hB hkin h hpn hcb (by omega) a1 a2 a3 a4 hq
  have z1 : ∀ b lbs : Nat, 2 * B < 2 ^ b → pwF n * b + 25 ≤ 30 * lbs → ∀ k, k ≤ r → fitL lbs (hD (hA s) k) := fun b lbs hb hlb k hk => by
    have a1 := hp k hk
    have a2 := hDb k hk
    exact fit_of hB hb (pw_a n (by omega) k (by omega) (by omega)) (pw_b k (by omega)) hlb ⟨by have := hnn k (k * (k - 1)); omega, a2⟩
  have z2 : ∀ b lbs : Nat, 2 * B < 2 ^ b → pwF n * b + 25 ≤ 30 * lbs → ∀ k j, k + 1 ≤ r → j + k + 2 = n → ∀ q, q ≤ j → fitL lbs (hD (hA s) k * hD (hA s) k * tF p s n (k + 2) q) ∧ fitL lbs (tF p s n (k + 2) q) := fun b lbs hb hlb k j hk hj q hq => by
    have t := hT (k + 1) q hk (by omega) (by omega)
    have a1 := hp k (by omega)
    have a2 := hDb k (by omega)
    have d : bd (6 ^ k * B ^ (k * (k - 1))) (hD (hA s) k) := ⟨by have := hnn k (k * (k - 1)); omega, a2⟩
    constructor
    · refine fit_of hB hb (pw_c n (by omega) k (by omega) q (by omega) (by omega)) (pw_d n (by omega) k (by omega) q (by omega) (by omega)) hlb ?_
      have m := bd_mul (bd_mul d d) t
      rw [show (6 : Int) ^ k * 6 ^ k * (6 ^ (k + 1 + 1) * 384) * B ^ (k * (k - 1) + k * (k - 1) + ((k + 1) * (k + 1) + (n - 1 - q))) = 6 ^ k * B ^ (k * (k - 1)) * (6 ^ k * B ^ (k * (k - 1))) * (6 ^ (k + 1 + 1) * 384 * B ^ ((k + 1) * (k + 1) + (n - 1 - q))) by rw [Int.pow_add B (k * (k - 1) + k * (k - 1)), Int.pow_add B (k * (k - 1))]; grind]
      exact m
    · exact fit_of hB hb (pw_e n (by omega) (k + 1) (by omega) q (by omega) (by omega)) (pw_f n (by omega) (k + 1) (by omega) q (by omega) (by omega)) hlb t
  have run : ∀ b : Nat, 2 * B < 2 ^ b → (euF (n - 1) p (dF p)).2 = n - r ∧ (∀ q, q ≤ n - r → (euF (n - 1) p (dF p)).1 q = tF p s n r q) ∧ euOK ((pwF n * b + 24) / 30 + 1) (n - 1) p (dF p) := fun b hb =>
    eu_all h1 h6 h hl.2.1 hp g1 he (z1 b _ hb (by omega)) (z2 b _ hb (by omega)) (n - 1) 0 p (dF p) (by omega) (by omega) (fun q hq => by rw [uF, if_pos rfl]) (fun q hq => (tF_1 h hl.2.1 (by omega)).symm)
  have hb30 : 2 * B < 2 ^ 30 := by
    have : (2 : Int) ^ 30 = 1073741824 := by decide
    omega
  obtain ⟨x1, x2, _⟩ := run 30 hb30
  have eD : ceD p n = n - r := x1
  have hDr := hp r (Nat.le_refl _)
  have eT : ∀ q, q ≤ n - r → tF p s n r q = hD (hA s) r * cmF p n q := fun q hq => by
    refine iz_inj (K := K) ?_
    rw [k_G h6 h hl.2.1 hg' hr1 (by omega) q hq, iz_mul, c4 q hq, cm1, iz_1]; grind
  have etop : (euF (n - 1) p (dF p)).1 (ceD p n) = hD (hA s) r := by
    rw [eD, x2 _ (Nat.le_refl _), eT _ (Nat.le_refl _), cm1, Int.mul_one]
  have eF : ∀ q, q ≤ n - r → ceF p n q = cmF p n q := fun q hq => by
    rw [ceF, etop, x2 q hq, eT q hq, Int.mul_ediv_cancel_left _ (by omega)]
  have hγ : ∀ i, i < n - r → iz (-B) ≤ γ i ∧ γ i ≤ iz B := fun i hi => by
    obtain ⟨j, hj, e⟩ := g14 i hi
    rw [e]; exact hl.2.2 j hj
  have eK : ∀ j, j ≤ n - r → iz (ceF p n j) = kP γ (n - r) j := fun j hj => by rw [eF j hj, c4 j hj, cm1, iz_1]; grind
  have hcf := q_bd hB hγ eK
  refine ⟨r, ρ, γ, N, M, hg', hr1, eD, fun b hb => ?_, ?_, by omega, fun j hj => (eF j hj).symm, eK, hM, hp⟩
  · obtain ⟨y1, y2, y3⟩ := run b hb
    have hlb : pwF n * b + 25 ≤ 30 * ((pwF n * b + 24) / 30 + 1) := by omega
    refine ⟨y3, by rw [etop]; omega, fun q hq => ?_, fun q hq => ?_, fun q hq => ?_⟩
    · rw [eD] at hq
      rw [x2 q hq]
      obtain ⟨r, rfl⟩ : ∃ q, r = q + 1 := ⟨r - 1, by omega⟩
      exact fit_of hB hb (pw_e n (by omega) r (by omega) q (by omega) (by omega)) (pw_f n (by omega) r (by omega) q (by omega) (by omega)) hlb (hT r q (by omega) (by omega) (by omega))
    · rw [eD] at hq
      rw [etop, x2 q hq, eT q hq, eF q hq]
    · rw [eD] at hq
      refine fit_of (C := 2 ^ (n - r)) (E := n - r - q) hB hb ?_ ?_ hlb (hcf q hq)
      · have := pw_g n (by omega) h1 (n - r) (by omega)
        omega
      · exact p2_lt (by omega)
  · exact pl_of (by omega) hB (show 0 < 23 by decide) (by have : (2 : Int) ^ 23 = 8388608 := by decide
                                                          omega) (by have := Nat.mul_le_mul_right 23 (show n - r ≤ 5 by omega); omega) hcf
