/-! no zero beyond the sums of the rows; a block's zeros lie between the whole's -/
theorem k_max {K : Type} [Lean.Grind.CommRing K] [LE K] [LT K] [Std.LawfulOrderLT K] [Std.IsLinearOrder K] [Lean.Grind.OrderedRing K] (u : Nat → K) (n : Nat) : 1 ≤ n → ∃ a, a < n ∧ ∀ b, b < n → u b * u b ≤ u a * u a := by
  induction n with
  | zero => intro h; omega
  | succ n ih =>
    intro _
    by_cases q : n = 0
    · subst q; exact ⟨0, by omega, fun b hb => by rw [show b = 0 by omega]; exact Std.le_refl _⟩
    · obtain ⟨a, ha, h⟩ := ih (by omega)
      rcases Std.le_total (a := u n * u n) (b := u a * u a) with c | c
      · exact ⟨a, by omega, fun b hb => by
          by_cases e : b = n
          · rw [e]; exact c
          · exact h b (by omega)⟩
      · exact ⟨n, by omega, fun b hb => by
          by_cases e : b = n
          · rw [e]; exact Std.le_refl _
          · have := h b (by omega); grind⟩
theorem iz_rs {K : Type} [Lean.Grind.CommRing K] (A : Nat → Nat → Int32) (a n : Nat) : (iz ((rsF A a n : Nat) : Int) : K) = kS (fun j => iz (((A a j).toInt.natAbs : Nat) : Int)) n := by
  induction n with
  | zero => exact iz_0
  | succ n ih => rw [rsF, Int.natCast_add, iz_add, ih, kS_s]
theorem k_gersh {K : Type} [Lean.Grind.CommRing K] [LE K] [LT K] [Std.LawfulOrderLT K] [Std.IsLinearOrder K] [Lean.Grind.OrderedRing K] {n : Nat} {A : Nat → Nat → Int32} {u : Nat → K} {l : K} (hn : 1 ≤ n) (hu : 0 < kD n u u) (he : ∀ a, a < n → kM n (fun i j => iz (iA A i j)) u a = l * u a) {B : Nat} (hB : ∀ a, a < n → rsF A a n ≤ B) : iz (-(B : Int)) ≤ l ∧ l ≤ iz (B : Int) := by
  obtain ⟨a, ha, hm⟩ := k_max u n hn
  have hp : 0 < u a * u a := by
    by_cases e : u a = 0
    · exfalso
      have : kD n u u = 0 := kS_0 (fun i hi => by
        have h1 := hm i hi
        have h2 := k_sq (u i)
        rw [e] at h1
        grind)
      grind
    · exact k_sqp e
  have e1 : l * (u a * u a) = kS (fun j => iz (iA A a j) * (u a * u j)) n := by
    have : l * (u a * u a) = u a * (l * u a) := by grind
    rw [this, ← he a ha, kM, ← kS_mul]
    exact kS_cg (fun j _ => by grind)
  have ht : ∀ j, j < n → iz (iA A a j) * (u a * u j) ≤ iz (((A a j).toInt.natAbs : Nat) : Int) * (u a * u a) ∧ -(iz (((A a j).toInt.natAbs : Nat) : Int) * (u a * u a)) ≤ iz (iA A a j) * (u a * u j) := fun j hj => by
    have h1 := hm j hj
    have h2 := k_sq (u a - u j)
    have h3 := k_sq (u a + u j)
    refine k_bd (iz_le.mpr (show iA A a j ≤ (((A a j).toInt.natAbs : Nat) : Int) by show (A a j).toInt ≤ _; omega)) (by rw [← iz_neg]; exact iz_le.mpr (show -(((A a j).toInt.natAbs : Nat) : Int) ≤ iA A a j by show _ ≤ (A a j).toInt; omega)) (by grind) (by grind)
  have s1 := kS_le (fun j hj => (ht j hj).1)
  have s2 := kS_le (fun j hj => (ht j hj).2)
  have e2 : kS (fun j => iz (((A a j).toInt.natAbs : Nat) : Int) * (u a * u a)) n = iz ((rsF A a n : Nat) : Int) * (u a * u a) := by
    rw [iz_rs, kS_cg (fun j _ => show iz (((A a j).toInt.natAbs : Nat) : Int) * (u a * u a) = (u a * u a) * iz (((A a j).toInt.natAbs : Nat) : Int) by grind), kS_mul]; grind
  have e3 : kS (fun j => -(iz (((A a j).toInt.natAbs : Nat) : Int) * (u a * u a))) n = -(iz ((rsF A a n : Nat) : Int) * (u a * u a)) := by
    rw [← e2, kS_cg (fun j _ => show -(iz (((A a j).toInt.natAbs : Nat) : Int) * (u a * u a)) = (-1) * (iz (((A a j).toInt.natAbs : Nat) : Int) * (u a * u a)) by grind), kS_mul]; grind
  rw [← e1, e2] at s1
  rw [← e1, e3] at s2
  have hb := Lean.Grind.OrderedRing.mul_le_mul_of_nonneg_right (iz_le (K := K).mpr (show ((rsF A a n : Nat) : Int) ≤ (B : Int) by have := hB a ha; omega)) (Std.le_of_lt hp)
  constructor
  · refine k_can hp ?_
    rw [iz_neg]; grind
  · refine k_can hp ?_
    grind
/-- the squares of a vector's parts -/
theorem k_ray {K : Type} [Lean.Grind.CommRing K] [LE K] [LT K] [Std.LawfulOrderLT K] [Std.IsLinearOrder K] [Lean.Grind.OrderedRing K] {n : Nat} {A : Nat → Nat → K} {u : Nat → Nat → K} {m g : Nat → K} (hA : ∀ i j, i < n → j < n → A i j = A j i) (h1 : ∀ i, i < n → kD n (u i) (u i) * g i = 1) (h2 : ∀ i k, i < n → k < n → i ≠ k → kD n (u i) (u k) = 0) (h3 : ∀ i a, i < n → a < n → kM n A (u i) a = m i * u i a) (y : Nat → K) : kD n y y = kS (fun i => g i * (kD n (u i) y * kD n (u i) y)) n ∧ kD n y (kM n A y) = kS (fun i => m i * (g i * (kD n (u i) y * kD n (u i) y))) n := by
  have hf := k_full h1 h2 y
  have gen : ∀ z : Nat → K, kD n z y = kS (fun i => g i * kD n (u i) y * kD n z (u i)) n := fun z => by
    have e1 : kD n z y = kS (fun a => z a * kS (fun i => g i * kD n (u i) y * u i a) n) n := kS_cg (fun a ha => by rw [← hf a ha])
    have e2 : kS (fun a => z a * kS (fun i => g i * kD n (u i) y * u i a) n) n = kS (fun a => kS (fun i => z a * (g i * kD n (u i) y * u i a)) n) n := kS_cg (fun a _ => (kS_mul (z a) _ n).symm)
    rw [e1, e2, kS_sw]
    refine kS_cg (fun i _ => ?_)
    have : kS (fun a => z a * (g i * kD n (u i) y * u i a)) n = g i * kD n (u i) y * kS (fun a => z a * u i a) n := by
      rw [← kS_mul]; exact kS_cg (fun a _ => by grind)
    rw [this]; rfl
  constructor
  · rw [gen y]
    exact kS_cg (fun i _ => by rw [kD_c n y (u i)]; grind)
  · rw [kD_c, gen (kM n A y)]
    refine kS_cg (fun i hi => ?_)
    have : kD n (kM n A y) (u i) = m i * kD n (u i) y := by
      rw [kD_c, kD_sy hA, kD_cg (fun a ha => h3 i a hi ha), kD_m, kD_c]
    rw [this]; grind
theorem kS_ext {K : Type} [Lean.Grind.CommRing K] {f : Nat → K} {k : Nat} (d : Nat) : (∀ a, k ≤ a → a < k + d → f a = 0) → kS f (k + d) = kS f k := by
  induction d with
  | zero => intro _; rfl
  | succ d ih =>
    intro h
    rw [show k + (d + 1) = k + d + 1 by omega, kS_s, ih (fun a h1 h2 => h a h1 (by omega)), h (k + d) (by omega) (by omega)]; grind
/-- a vector of the block: its parts along the block's marked vectors alone, none along c of the whole's -/
theorem k_vec {K : Type} [Lean.Grind.CommRing K] [LE K] [LT K] [Std.LawfulOrderLT K] [Std.IsLinearOrder K] [Lean.Grind.OrderedRing K] {n k c : Nat} (hk : k ≤ n) {u w : Nat → Nat → K} {q : Nat → K} {J : Nat → Bool} (w1 : ∀ i, i < k → kD k (w i) (w i) * q i = 1) (w2 : ∀ i l, i < k → l < k → i ≠ l → kD k (w i) (w l) = 0) (hc : c < kN J k) : ∃ y : Nat → K, (∀ a, k ≤ a → y a = 0) ∧ (∀ i, i < c → kD n (u i) y = 0) ∧ (∀ j, j < k → J j = false → kD k (w j) y = 0) ∧ ∃ j, j < k ∧ kD k (w j) y ≠ 0 := by
  have h01 : (0 : K) < 1 := Lean.Grind.OrderedRing.zero_lt_one
  obtain ⟨x, x1, ⟨j0, hj0, x2⟩, x3⟩ := kCL k (fun i j => kD k (u i) (w j)) c J hc
  obtain ⟨y, ey⟩ : ∃ y : Nat → K, ∀ a, y a = if a < k then kS (fun j => x j * w j a) k else 0 := ⟨_, fun _ => rfl⟩
  have hd : ∀ z : Nat → K, kD k z y = kS (fun j => kD k z (w j) * x j) k := fun z => by
    have e1 : kD k z y = kS (fun a => kS (fun j => z a * (x j * w j a)) k) k := kS_cg (fun a ha => by rw [ey, if_pos ha, kS_mul])
    rw [e1, kS_sw]
    refine kS_cg (fun j _ => ?_)
    have : kS (fun a => z a * (x j * w j a)) k = x j * kS (fun a => z a * w j a) k := by rw [← kS_mul]; exact kS_cg (fun a _ => by grind)
    rw [this]
    show x j * kD k z (w j) = _
    grind
  have hw : ∀ j, j < k → kD k (w j) y = kD k (w j) (w j) * x j := fun j hj => by
    rw [hd, kS_one hj (fun i hi e => by rw [w2 j i hj hi (fun p => e p.symm)]; grind)]
  refine ⟨y, fun a ha => by rw [ey, if_neg (by omega)], fun i hi => ?_, fun j hj hJ => by rw [hw j hj, x1 j hJ]; grind, j0, hj0, ?_⟩
  · have e : kD n (u i) y = kD k (u i) y := by
      obtain ⟨d, rfl⟩ := Nat.le.dest hk
      exact kS_ext d (fun a h1 _ => by rw [ey, if_neg (by omega)]; grind)
    rw [e, hd]
    exact x3 i hi
  · rw [hw j0 hj0]
    refine k_nz (fun p => ?_) x2
    have := w1 j0 hj0
    rw [p] at this
    grind
/-- Cauchy: t m - x -/
theorem k_cau {K : Type} [Lean.Grind.CommRing K] [LE K] [LT K] [Std.LawfulOrderLT K] [Std.IsLinearOrder K] [Lean.Grind.OrderedRing K] {n k : Nat} (hk : k ≤ n) {A : Nat → Nat → K} (hA : ∀ i j, i < n → j < n → A i j = A j i) {u w : Nat → Nat → K} {m g l q : Nat → K} (u1 : ∀ i, i < n → kD n (u i) (u i) * g i = 1) (u2 : ∀ i k, i < n → k < n → i ≠ k → kD n (u i) (u k) = 0) (u3 : ∀ i a, i < n → a < n → kM n A (u i) a = m i * u i a) (gp : ∀ i, i < n → 0 < g i) (w1 : ∀ i, i < k → kD k (w i) (w i) * q i = 1) (w2 : ∀ i l, i < k → l < k → i ≠ l → kD k (w i) (w l) = 0) (w3 : ∀ i a, i < k → a < k → kM k A (w i) a = l i * w i a) (qp : ∀ i, i < k → 0 < q i) (t x : K) {c : Nat} {J : Nat → Bool} (hc : c < kN J k) :
    (∀ j, j < k → J j = true → t * l j < x) → (∀ i, c ≤ i → i < n → x ≤ t * m i) → False := fun hJ hI => by
  obtain ⟨y, y1, y2, y3, j0, hj0, y4⟩ := k_vec hk (u := u) (J := J) w1 w2 hc
  obtain ⟨r1, r2⟩ := k_ray hA u1 u2 u3 y
  obtain ⟨s1, s2⟩ := k_ray (fun i j hi hj => hA i j (by omega) (by omega)) w1 w2 w3 y
  have e1 : kD n y y = kD k y y := by
    obtain ⟨d, rfl⟩ := Nat.le.dest hk
    exact kS_ext d (fun a h1 _ => by rw [y1 a h1]; grind)
  have e2 : kD n y (kM n A y) = kD k y (kM k A y) := by
    obtain ⟨d, rfl⟩ := Nat.le.dest hk
    have : kD (k + d) y (kM (k + d) A y) = kD k y (kM (k + d) A y) := kS_ext d (fun a h1 _ => by rw [y1 a h1]; grind)
    rw [this]
    refine kD_cg (fun a ha => ?_)
    exact kS_ext d (fun b h1 _ => by rw [y1 b h1]; grind)
  rw [r1, s1] at e1
  rw [r2, s2] at e2
  have a1 : 0 ≤ kS (fun i => (t * m i - x) * (g i * (kD n (u i) y * kD n (u i) y))) n := kS_nn (fun i hi => by
    by_cases p : i < c
    · rw [y2 i p]; grind
    · have h1 := hI i (by omega) hi
      exact Lean.Grind.OrderedRing.mul_nonneg (by grind) (Lean.Grind.OrderedRing.mul_nonneg (Std.le_of_lt (gp i hi)) (k_sq _)))
  have a2 : 0 < kS (fun j => (x - t * l j) * (q j * (kD k (w j) y * kD k (w j) y))) k := by
    have nn : ∀ j, j < k → 0 ≤ (x - t * l j) * (q j * (kD k (w j) y * kD k (w j) y)) := fun j hj => by
      cases p : J j with
      | false => rw [y3 j hj p]; grind
      | true =>
        have h1 := hJ j hj p
        exact Lean.Grind.OrderedRing.mul_nonneg (by grind) (Lean.Grind.OrderedRing.mul_nonneg (Std.le_of_lt (qp j hj)) (k_sq _))
    have h2 := kS_ge hj0 nn
    have h3 : J j0 = true := by
      cases p : J j0 with
      | true => rfl
      | false => exact absurd (y3 j0 hj0 p) y4
    have h4 := hJ j0 hj0 h3
    have h5 := Lean.Grind.OrderedRing.mul_pos (show 0 < x - t * l j0 by grind) (Lean.Grind.OrderedRing.mul_pos (qp j0 hj0) (k_sqp y4))
    grind
  have f1 : kS (fun i => (t * m i - x) * (g i * (kD n (u i) y * kD n (u i) y))) n = t * kS (fun i => m i * (g i * (kD n (u i) y * kD n (u i) y))) n - x * kS (fun i => g i * (kD n (u i) y * kD n (u i) y)) n := by
    rw [← kS_mul, ← kS_mul, ← kS_sub]
    exact kS_cg (fun i _ => by grind)
  have f2 : kS (fun j => (x - t * l j) * (q j * (kD k (w j) y * kD k (w j) y))) k = x * kS (fun i => q i * (kD k (w i) y * kD k (w i) y)) k - t * kS (fun i => l i * (q i * (kD k (w i) y * kD k (w i) y))) k := by
    rw [← kS_mul, ← kS_mul, ← kS_sub]
    exact kS_cg (fun i _ => by grind)
  rw [f1, e1, e2] at a1
  rw [f2] at a2
  grind
