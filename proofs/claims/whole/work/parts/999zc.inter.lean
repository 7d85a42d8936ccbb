/-! a block's zeros lie between the whole's, continued -/
/-- and from above -/
theorem k_cau2 {K : Type} [Lean.Grind.CommRing K] [LE K] [LT K] [Std.LawfulOrderLT K] [Std.IsLinearOrder K] [Lean.Grind.OrderedRing K] {n k : Nat} (hk : k ≤ n) {A : Nat → Nat → K} (hA : ∀ i j, i < n → j < n → A i j = A j i) {u w : Nat → Nat → K} {m g l q : Nat → K} (u1 : ∀ i, i < n → kD n (u i) (u i) * g i = 1) (u2 : ∀ i k, i < n → k < n → i ≠ k → kD n (u i) (u k) = 0) (u3 : ∀ i a, i < n → a < n → kM n A (u i) a = m i * u i a) (gp : ∀ i, i < n → 0 < g i) (w1 : ∀ i, i < k → kD k (w i) (w i) * q i = 1) (w2 : ∀ i l, i < k → l < k → i ≠ l → kD k (w i) (w l) = 0) (w3 : ∀ i a, i < k → a < k → kM k A (w i) a = l i * w i a) (qp : ∀ i, i < k → 0 < q i) (t x : K) {c : Nat} {J : Nat → Bool} (hc : c < kN J k) :
    (∀ j, j < k → J j = true → x ≤ t * l j) → (∀ i, c ≤ i → i < n → t * m i < x) → False := fun hJ hI => by
  obtain ⟨y, y1, y2, y3, j0, hj0, y4⟩ := k_vec hk (u := u) (J := J) w1 w2 hc
  obtain ⟨r1, r2⟩ := k_ray hA u1 u2 u3 y
  obtain ⟨s1, s2⟩ := k_ray (fun i j hi hj => hA i j (by omega) (by omega)) w1 w2 w3 y
  have e1 : kD n y y = kD k y y := by
    obtain ⟨d, rfl⟩ := Nat.le.dest hk
    exact kS_ext d (fun a h1 _ => by rw [y1 a h1]; grind)
  have e2 : kD n y (kM n A y) = kD k y (kM k A y) := by
    obtain ⟨d, rfl⟩ := Nat.le.dest hk
    have : kD (k + d) y (kM (k + d) A y) = kD k y (kM (k + d) A y) := kS_ext d (fun a h1 _ => by rw [y1 a h1]; grind)
    rw [this]
    refine kD_cg (fun a ha => ?_)
    exact kS_ext d (fun b h1 _ => by rw [y1 b h1]; grind)
  rw [r1, s1] at e1
  rw [r2, s2] at e2
  have yp : ∃ i, i < n ∧ kD n (u i) y ≠ 0 := Classical.byContradiction fun hno => by
    have z : kS (fun i => g i * (kD n (u i) y * kD n (u i) y)) n = 0 := kS_0 (fun i hi => by
      have : kD n (u i) y = 0 := Classical.byContradiction fun p => hno ⟨i, hi, p⟩
      rw [this]; grind)
    rw [z] at e1
    have h2 := kS_ge (f := fun i => q i * (kD k (w i) y * kD k (w i) y)) hj0 (fun j hj => Lean.Grind.OrderedRing.mul_nonneg (Std.le_of_lt (qp j hj)) (k_sq _))
    have h5 := Lean.Grind.OrderedRing.mul_pos (qp j0 hj0) (k_sqp y4)
    grind
  have a2 : 0 ≤ kS (fun j => (t * l j - x) * (q j * (kD k (w j) y * kD k (w j) y))) k := kS_nn (fun j hj => by
    cases p : J j with
    | false => rw [y3 j hj p]; grind
    | true =>
      have h1 := hJ j hj p
      exact Lean.Grind.OrderedRing.mul_nonneg (by grind) (Lean.Grind.OrderedRing.mul_nonneg (Std.le_of_lt (qp j hj)) (k_sq _)))
  have a1 : 0 < kS (fun i => (x - t * m i) * (g i * (kD n (u i) y * kD n (u i) y))) n := by
    obtain ⟨i0, hi0, y5⟩ := yp
    have nn : ∀ i, i < n → 0 ≤ (x - t * m i) * (g i * (kD n (u i) y * kD n (u i) y)) := fun i hi => by
      by_cases p : i < c
      · rw [y2 i p]; grind
      · have h1 := hI i (by omega) hi
        exact Lean.Grind.OrderedRing.mul_nonneg (by grind) (Lean.Grind.OrderedRing.mul_nonneg (Std.le_of_lt (gp i hi)) (k_sq _))
    have h2 := kS_ge hi0 nn
    have h3 : c ≤ i0 := Nat.le_of_not_lt (fun p => y5 (y2 i0 p))
    have h4 := hI i0 h3 hi0
    have h5 := Lean.Grind.OrderedRing.mul_pos (show 0 < x - t * m i0 by grind) (Lean.Grind.OrderedRing.mul_pos (gp i0 hi0) (k_sqp y5))
    grind
  have f1 : kS (fun i => (x - t * m i) * (g i * (kD n (u i) y * kD n (u i) y))) n = x * kS (fun i => g i * (kD n (u i) y * kD n (u i) y)) n - t * kS (fun i => m i * (g i * (kD n (u i) y * kD n (u i) y))) n := by
    rw [← kS_mul, ← kS_mul, ← kS_sub]
    exact kS_cg (fun i _ => by grind)
  have f2 : kS (fun j => (t * l j - x) * (q j * (kD k (w j) y * kD k (w j) y))) k = t * kS (fun i => l i * (q i * (kD k (w i) y * kD k (w i) y))) k - x * kS (fun i => q i * (kD k (w i) y * kD k (w i) y)) k := by
    rw [← kS_mul, ← kS_mul, ← kS_sub]
    exact kS_cg (fun i _ => by grind)
  rw [f1, e1, e2] at a1
  rw [f2] at a2
  grind
/-- the zeros of a matrix, in their order, with their vectors -/
def eb {K : Type} [Lean.Grind.CommRing K] [LE K] [LT K] [Std.LawfulOrderLT K] [Std.IsLinearOrder K] [Lean.Grind.OrderedRing K] (n : Nat) (A : Nat → Nat → K) (u : Nat → Nat → K) (m g : Nat → K) : Prop := (∀ i, i < n → kD n (u i) (u i) * g i = 1) ∧ (∀ i k, i < n → k < n → i ≠ k → kD n (u i) (u k) = 0) ∧ (∀ i a, i < n → a < n → kM n A (u i) a = m i * u i a) ∧ (∀ i, i < n → 0 < g i) ∧ (∀ i, i < n → 0 < kD n (u i) (u i)) ∧ ∀ i, i + 1 < n → m i ≤ m (i + 1)
theorem k_eb {K : Type} [Lean.Grind.CommRing K] [LE K] [LT K] [Std.LawfulOrderLT K] [Std.IsLinearOrder K] [Lean.Grind.OrderedRing K] (hinv : ∀ x : K, x ≠ 0 → ∃ y, x * y = 1) (hsup : ∀ S : K → Prop, (∃ s, S s) → (∃ b, ∀ s, S s → s ≤ b) → ∃ m, (∀ s, S s → s ≤ m) ∧ ∀ b, (∀ s, S s → s ≤ b) → m ≤ b) {k : Nat} (h1 : 1 ≤ k) (h6 : k ≤ 6) {A : Nat → Nat → Int} (hA : ∀ i j, i < k → j < k → A i j = A j i) : ∃ (u : Nat → Nat → K) (m g : Nat → K), eb k (fun i j => iz (A i j)) u m g ∧ ∀ j, j ≤ k → iz (pB A k j) = kP m k j := by
  obtain ⟨u, m, g, hE, hg, hp⟩ := k_char hinv hsup h1 h6 hA
  obtain ⟨a1, a2, a3, a4, _⟩ := hE
  refine ⟨fun i => u (k - 1 - i), fun i => m (k - 1 - i), fun i => g (k - 1 - i), ⟨fun i hi => hg _ (by omega), fun i j hi hj hij => a2 _ _ (by omega) (by omega) (by omega), fun i a hi ha => a3 _ a (by omega) ha, fun i hi => k_ip (a1 _ (by omega)) (hg _ (by omega)), fun i hi => a1 _ (by omega), fun i hi => ?_⟩, fun j hj => by rw [hp j hj, kP_rev]⟩
  have := a4 (k - 1 - (i + 1)) (by omega)
  rw [show k - 1 - (i + 1) + 1 = k - 1 - i by omega] at this
  exact this
theorem k_il {K : Type} [Lean.Grind.CommRing K] [LE K] [LT K] [Std.LawfulOrderLT K] [Std.IsLinearOrder K] [Lean.Grind.OrderedRing K] {n k : Nat} (hk : k ≤ n) {A : Nat → Nat → K} (hA : ∀ i j, i < n → j < n → A i j = A j i) {u w : Nat → Nat → K} {m g l q : Nat → K} (hu : eb n A u m g) (hw : eb k A w l q) {t : K} (ht : 0 < t) (x : K) : kL (fun i => t * l i) x k ≤ kL (fun i => t * m i) x n ∧ kL (fun i => t * m i) x n + k ≤ kL (fun i => t * l i) x k + n := by
  obtain ⟨u1, u2, u3, u4, u5, u6⟩ := hu
  obtain ⟨w1, w2, w3, w4, w5, w6⟩ := hw
  have um : ∀ i, i + 1 < n → t * m i ≤ t * m (i + 1) := fun i hi => Lean.Grind.OrderedRing.mul_le_mul_of_nonneg_left (u6 i hi) (Std.le_of_lt ht)
  have hle := kL_n1 (fun i => t * m i) x n
  have hle2 := kL_n1 (fun i => t * l i) x k
  constructor
  · refine Nat.le_of_not_lt fun hc => ?_
    refine k_cau hk hA u1 u2 u3 u4 w1 w2 w3 w4 t x (c := kL (fun i => t * m i) x n) (J := fun j => @decide (t * l j < x) (Classical.propDecidable _)) hc (fun j _ hj => dco hj) (fun i h1 h2 => ?_)
    have := (kL_iff (w := fun i => t * m i) um h2 x).mp h1
    grind
  · refine Nat.le_of_not_lt fun hc => ?_
    have hN : kN (fun j => !(@decide (t * l j < x) (Classical.propDecidable _))) k + kL (fun i => t * l i) x k = k := by
      have : ∀ c, kN (fun j => !(@decide (t * l j < x) (Classical.propDecidable _))) c + kL (fun i => t * l i) x c = c := fun c => by
        induction c with
        | zero => rfl
        | succ c ih =>
          by_cases p : t * l c < x
          · rw [kL_y (v := fun i => t * l i) p, kN_n (by simp [p])]; omega
          · rw [kL_n (v := fun i => t * l i) p, kN_y (by simp [p])]; omega
      exact this k
    refine k_cau2 hk hA (u := fun i => u (n - 1 - i)) (m := fun i => m (n - 1 - i)) (g := fun i => g (n - 1 - i)) (fun i hi => u1 _ (by omega)) (fun i j hi hj hij => u2 _ _ (by omega) (by omega) (by omega)) (fun i a hi ha => u3 _ a (by omega) ha) (fun i hi => u4 _ (by omega)) w1 w2 w3 w4 t x (c := n - kL (fun i => t * m i) x n) (J := fun j => !(@decide (t * l j < x) (Classical.propDecidable _))) (by omega) (fun j _ hj => ?_) (fun i h1 h2 => ?_)
    · have : ¬ t * l j < x := fun p => by simp [p] at hj
      grind
    · refine Classical.byContradiction fun p => ?_
      have := (kL_iff (w := fun i => t * m i) um (show n - 1 - i < n by omega) x).mpr p
      omega
