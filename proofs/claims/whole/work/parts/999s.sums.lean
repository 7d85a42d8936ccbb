/-! sums, products of vectors, systems of equations, over any numbers that are ordered -/
def kS {K : Type} [Lean.Grind.CommRing K] (f : Nat → K) : Nat → K
  | 0 => 0
  | n + 1 => kS f n + f n
theorem kS_z {K : Type} [Lean.Grind.CommRing K] (f : Nat → K) : kS f 0 = 0 := rfl
theorem kS_s {K : Type} [Lean.Grind.CommRing K] (f : Nat → K) (n : Nat) : kS f (n + 1) = kS f n + f n := rfl
theorem kS_cg {K : Type} [Lean.Grind.CommRing K] {f g : Nat → K} {n : Nat} (h : ∀ i, i < n → f i = g i) : kS f n = kS g n := by
  induction n with
  | zero => rfl
  | succ n ih => rw [kS_s, kS_s, ih (fun i hi => h i (by omega)), h n (by omega)]
theorem kS_0 {K : Type} [Lean.Grind.CommRing K] {f : Nat → K} {n : Nat} (h : ∀ i, i < n → f i = 0) : kS f n = 0 := by
  induction n with
  | zero => rfl
  | succ n ih => rw [kS_s, ih (fun i hi => h i (by omega)), h n (by omega)]; grind
theorem kS_add {K : Type} [Lean.Grind.CommRing K] (f g : Nat → K) (n : Nat) : kS (fun i => f i + g i) n = kS f n + kS g n := by
  induction n with
  | zero => rw [kS_z, kS_z, kS_z]; grind
  | succ n ih => rw [kS_s, kS_s, kS_s, ih]; grind
theorem kS_sub {K : Type} [Lean.Grind.CommRing K] (f g : Nat → K) (n : Nat) : kS (fun i => f i - g i) n = kS f n - kS g n := by
  induction n with
  | zero => rw [kS_z, kS_z, kS_z]; grind
  | succ n ih => rw [kS_s, kS_s, kS_s, ih]; grind
theorem kS_mul {K : Type} [Lean.Grind.CommRing K] (c : K) (f : Nat → K) (n : Nat) : kS (fun i => c * f i) n = c * kS f n := by
  induction n with
  | zero => rw [kS_z, kS_z]; grind
  | succ n ih => rw [kS_s, kS_s, ih]; grind
theorem kS_lin {K : Type} [Lean.Grind.CommRing K] (a y z : Nat → K) (p q : K) (n : Nat) : kS (fun j => a j * (p * y j + q * z j)) n = p * kS (fun j => a j * y j) n + q * kS (fun j => a j * z j) n := by
  induction n with
  | zero => rw [kS_z, kS_z, kS_z]; grind
  | succ n ih => rw [kS_s, kS_s, kS_s, ih]; grind
theorem kS_sw {K : Type} [Lean.Grind.CommRing K] (f : Nat → Nat → K) (m n : Nat) : kS (fun i => kS (fun j => f i j) n) m = kS (fun j => kS (fun i => f i j) m) n := by
  induction m with
  | zero => exact (kS_0 (fun j _ => rfl)).symm
  | succ m ih => rw [kS_s, ih, ← kS_add]; rfl
theorem kS_one {K : Type} [Lean.Grind.CommRing K] {f : Nat → K} {n a : Nat} (ha : a < n) (h : ∀ i, i < n → i ≠ a → f i = 0) : kS f n = f a := by
  induction n with
  | zero => omega
  | succ n ih =>
    rw [kS_s]
    by_cases e : a = n
    · rw [kS_0 (fun i hi => h i (by omega) (by omega)), e]; grind
    · rw [ih (by omega) (fun i hi hn => h i (by omega) hn), h n (by omega) (fun q => e q.symm)]; grind
theorem kS_nn {K : Type} [Lean.Grind.CommRing K] [LE K] [LT K] [Std.LawfulOrderLT K] [Std.IsLinearOrder K] [Lean.Grind.OrderedRing K] {f : Nat → K} {n : Nat} (h : ∀ i, i < n → 0 ≤ f i) : 0 ≤ kS f n := by
  induction n with
  | zero => rw [kS_z]; grind
  | succ n ih =>
    have h1 := ih (fun i hi => h i (by omega))
    have h2 := h n (by omega)
    rw [kS_s]; grind
theorem kS_le {K : Type} [Lean.Grind.CommRing K] [LE K] [LT K] [Std.LawfulOrderLT K] [Std.IsLinearOrder K] [Lean.Grind.OrderedRing K] {f g : Nat → K} {n : Nat} (h : ∀ i, i < n → f i ≤ g i) : kS f n ≤ kS g n := by
  induction n with
  | zero => rw [kS_z, kS_z]; grind
  | succ n ih =>
    have h1 := ih (fun i hi => h i (by omega))
    have h2 := h n (by omega)
    rw [kS_s, kS_s]; grind
theorem kS_ge {K : Type} [Lean.Grind.CommRing K] [LE K] [LT K] [Std.LawfulOrderLT K] [Std.IsLinearOrder K] [Lean.Grind.OrderedRing K] {f : Nat → K} {n a : Nat} (ha : a < n) (h : ∀ i, i < n → 0 ≤ f i) : f a ≤ kS f n := by
  induction n with
  | zero => omega
  | succ n ih =>
    have h0 : 0 ≤ kS f n := kS_nn (fun i hi => h i (by omega))
    rw [kS_s]
    by_cases e : a = n
    · subst e; grind
    · have h1 := ih (by omega) (fun i hi => h i (by omega))
      have h2 := h n (by omega)
      grind
/-- order -/
theorem k_sq {K : Type} [Lean.Grind.CommRing K] [LE K] [LT K] [Std.LawfulOrderLT K] [Std.IsLinearOrder K] [Lean.Grind.OrderedRing K] (x : K) : 0 ≤ x * x := by
  have h := Lean.Grind.OrderedRing.sq_nonneg (a := x)
  rw [Lean.Grind.Semiring.pow_two] at h
  exact h
theorem k_sqp {K : Type} [Lean.Grind.CommRing K] [LE K] [LT K] [Std.LawfulOrderLT K] [Std.IsLinearOrder K] [Lean.Grind.OrderedRing K] {x : K} (hx : x ≠ 0) : 0 < x * x := by
  have h := Lean.Grind.OrderedRing.sq_pos hx
  rw [Lean.Grind.Semiring.pow_two] at h
  exact h
theorem k_nz {K : Type} [Lean.Grind.CommRing K] [LE K] [LT K] [Std.LawfulOrderLT K] [Std.IsLinearOrder K] [Lean.Grind.OrderedRing K] {x y : K} (hx : x ≠ 0) (hy : y ≠ 0) : x * y ≠ 0 := fun h => by
  have h1 := Lean.Grind.OrderedRing.mul_pos (k_sqp hx) (k_sqp hy)
  have h2 : x * x * (y * y) = x * y * (x * y) := by grind
  rw [h2, h] at h1
  grind
theorem k_bd {K : Type} [Lean.Grind.CommRing K] [LE K] [LT K] [Std.LawfulOrderLT K] [Std.IsLinearOrder K] [Lean.Grind.OrderedRing K] {x y c D : K} (h1 : x ≤ c) (h2 : -c ≤ x) (h3 : y ≤ D) (h4 : -D ≤ y) : x * y ≤ c * D ∧ -(c * D) ≤ x * y := by
  have a1 := Lean.Grind.OrderedRing.mul_nonneg (show 0 ≤ c - x by grind) (show 0 ≤ D + y by grind)
  have a2 := Lean.Grind.OrderedRing.mul_nonneg (show 0 ≤ c + x by grind) (show 0 ≤ D - y by grind)
  have a3 := Lean.Grind.OrderedRing.mul_nonneg (show 0 ≤ c - x by grind) (show 0 ≤ D - y by grind)
  have a4 := Lean.Grind.OrderedRing.mul_nonneg (show 0 ≤ c + x by grind) (show 0 ≤ D + y by grind)
  constructor <;> grind
theorem k_ab {K : Type} [Lean.Grind.CommRing K] [LE K] [LT K] [Std.LawfulOrderLT K] [Std.IsLinearOrder K] [Lean.Grind.OrderedRing K] (x : K) : x ≤ x * x + 1 ∧ -(x * x + 1) ≤ x := by
  have a1 := k_sq (x - 1)
  have a2 := k_sq (x + 1)
  have a3 := k_sq x
  constructor <;> grind
theorem k_can {K : Type} [Lean.Grind.CommRing K] [LE K] [LT K] [Std.LawfulOrderLT K] [Std.IsLinearOrder K] [Lean.Grind.OrderedRing K] {x y D : K} (hD : 0 < D) (h : x * D ≤ y * D) : x ≤ y := by
  rcases Std.le_total (a := x) (b := y) with q | q
  · exact q
  · by_cases e : x = y
    · rw [e]; exact Std.le_refl y
    · have : y < x := by grind
      have := Lean.Grind.OrderedRing.mul_lt_mul_of_pos_right this hD
      grind
theorem k_ip {K : Type} [Lean.Grind.CommRing K] [LE K] [LT K] [Std.LawfulOrderLT K] [Std.IsLinearOrder K] [Lean.Grind.OrderedRing K] {D i : K} (hD : 0 < D) (h : D * i = 1) : 0 < i := by
  have h1 : (0 : K) < 1 := Lean.Grind.OrderedRing.zero_lt_one
  rcases Std.le_total (a := i) (b := 0) with q | q
  · have := Lean.Grind.OrderedRing.mul_le_mul_of_nonneg_left q (Std.le_of_lt hD)
    rw [h] at this
    grind
  · by_cases e : i = 0
    · rw [e] at h; grind
    · grind
/-- how many of the first n are marked -/
def kN (J : Nat → Bool) : Nat → Nat
  | 0 => 0
  | n + 1 => kN J n + (if J n = true then 1 else 0)
theorem kN_s (J : Nat → Bool) (n : Nat) : kN J (n + 1) = kN J n + (if J n = true then 1 else 0) := rfl
theorem kN_ex {J : Nat → Bool} {n : Nat} (h : 0 < kN J n) : ∃ j, j < n ∧ J j = true := by
  induction n with
  | zero => exact absurd h (by simp [kN])
  | succ n ih =>
    by_cases e : J n = true
    · exact ⟨n, by omega, e⟩
    · rw [kN_s, if_neg e] at h
      obtain ⟨j, h1, h2⟩ := ih h
      exact ⟨j, by omega, h2⟩
theorem kN_cg {J J' : Nat → Bool} {n : Nat} (h : ∀ i, i < n → J i = J' i) : kN J n = kN J' n := by
  induction n with
  | zero => rfl
  | succ n ih => rw [kN_s, kN_s, ih (fun i hi => h i (by omega)), h n (by omega)]
theorem kN_off {J : Nat → Bool} {n a : Nat} (ha : a < n) (hJ : J a = true) : kN (fun i => J i && (i != a)) n + 1 = kN J n := by
  induction n with
  | zero => omega
  | succ n ih =>
    rw [kN_s, kN_s]
    by_cases e : n = a
    · subst e
      have e3 : kN (fun i => J i && (i != n)) n = kN J n := kN_cg (fun i hi => by
        have : i ≠ n := by omega
        simp [this])
      rw [e3, if_pos hJ, if_neg (by simp)]
    · have := ih (by omega)
      have e2 : (J n && (n != a)) = J n := by simp [e]
      rw [e2]
      omega
theorem kN_all (n : Nat) : kN (fun _ => true) n = n := by
  induction n with
  | zero => rfl
  | succ n ih => rw [kN_s, ih, if_pos rfl]
/-- fewer equations than unknowns -/
theorem kCL {K : Type} [Lean.Grind.CommRing K] [LE K] [LT K] [Std.LawfulOrderLT K] [Std.IsLinearOrder K] [Lean.Grind.OrderedRing K] (n : Nat) (a : Nat → Nat → K) (m : Nat) : ∀ J : Nat → Bool, m < kN J n → ∃ x : Nat → K, (∀ j, J j = false → x j = 0) ∧ (∃ j, j < n ∧ x j ≠ 0) ∧ ∀ i, i < m → kS (fun j => a i j * x j) n = 0 := by
  induction m with
  | zero =>
    intro J h
    obtain ⟨j, hj, hJ⟩ := kN_ex h
    have h1 : (0 : K) < 1 := Lean.Grind.OrderedRing.zero_lt_one
    refine ⟨fun i => if i = j then 1 else 0, fun i hi => ?_, ⟨j, hj, ?_⟩, fun i hi => absurd hi (Nat.not_lt_zero _)⟩
    · show (if i = j then (1 : K) else 0) = 0
      rw [if_neg]
      intro q
      rw [q, hJ] at hi
      exact absurd hi (by decide)
    · show (if j = j then (1 : K) else 0) ≠ 0
      rw [if_pos rfl]
      grind
  | succ m ih =>
    intro J h
    obtain ⟨y, y1, ⟨j0, hj0, y2⟩, y3⟩ := ih J (by omega)
    have hJ0 : J j0 = true := by
      cases q : J j0 with
      | true => rfl
      | false => exact absurd (y1 j0 q) y2
    obtain ⟨z, z1, ⟨j1, hj1, z2⟩, z3⟩ := ih (fun i => J i && (i != j0)) (by have := kN_off hj0 hJ0; omega)
    have hz : ∀ j, J j = false → z j = 0 := fun j hj => z1 j (by simp [hj])
    have hz0 : z j0 = 0 := z1 j0 (by simp)
    by_cases r1 : kS (fun j => a m j * y j) n = 0
    · exact ⟨y, y1, ⟨j0, hj0, y2⟩, fun i hi => by
        by_cases q : i = m
        · rw [q]; exact r1
        · exact y3 i (by omega)⟩
    · by_cases r2 : kS (fun j => a m j * z j) n = 0
      · exact ⟨z, hz, ⟨j1, hj1, z2⟩, fun i hi => by
          by_cases q : i = m
          · rw [q]; exact r2
          · exact z3 i (by omega)⟩
      · obtain ⟨p, hp⟩ : ∃ p, p = kS (fun j => a m j * z j) n := ⟨_, rfl⟩
        obtain ⟨q, hq⟩ : ∃ q, q = -kS (fun j => a m j * y j) n := ⟨_, rfl⟩
        refine ⟨fun j => p * y j + q * z j, fun j hj => ?_, ⟨j0, hj0, ?_⟩, fun i hi => ?_⟩
        · show p * y j + q * z j = 0
          rw [y1 j hj, hz j hj]; grind
        · show p * y j0 + q * z j0 ≠ 0
          rw [hz0]
          have := k_nz (show p ≠ 0 by rw [hp]; exact r2) y2
          grind
        · rw [kS_lin (a i) y z p q n]
          by_cases e : i = m
          · rw [e, ← hp, hq]; grind
          · rw [y3 i (by omega), z3 i (by omega)]; grind
/-- products of vectors -/
def kD {K : Type} [Lean.Grind.CommRing K] (n : Nat) (u v : Nat → K) : K := kS (fun i => u i * v i) n
def kM {K : Type} [Lean.Grind.CommRing K] (n : Nat) (A : Nat → Nat → K) (v : Nat → K) : Nat → K := fun i => kS (fun j => A i j * v j) n
theorem kD_c {K : Type} [Lean.Grind.CommRing K] (n : Nat) (u v : Nat → K) : kD n u v = kD n v u := kS_cg (fun i _ => by grind)
theorem kD_cg {K : Type} [Lean.Grind.CommRing K] {n : Nat} {u v w : Nat → K} (h : ∀ i, i < n → v i = w i) : kD n u v = kD n u w := kS_cg (fun i hi => by rw [h i hi])
theorem kD_cg1 {K : Type} [Lean.Grind.CommRing K] {n : Nat} {u v w : Nat → K} (h : ∀ i, i < n → v i = w i) : kD n v u = kD n w u := kS_cg (fun i hi => by rw [h i hi])
theorem kD_l {K : Type} [Lean.Grind.CommRing K] (n : Nat) (u v w : Nat → K) (p q : K) : kD n u (fun i => p * v i + q * w i) = p * kD n u v + q * kD n u w := kS_lin u v w p q n
theorem kD_l1 {K : Type} [Lean.Grind.CommRing K] (n : Nat) (u v w : Nat → K) (p q : K) : kD n (fun i => p * v i + q * w i) u = p * kD n v u + q * kD n w u := by
  rw [kD_c, kD_l, kD_c n u v, kD_c n u w]
theorem kD_m {K : Type} [Lean.Grind.CommRing K] (n : Nat) (u v : Nat → K) (p : K) : kD n u (fun i => p * v i) = p * kD n u v := by
  rw [kD, kD, ← kS_mul]; exact kS_cg (fun i _ => by grind)
theorem kM_l {K : Type} [Lean.Grind.CommRing K] (n : Nat) (A : Nat → Nat → K) (v w : Nat → K) (p q : K) (i : Nat) : kM n A (fun i => p * v i + q * w i) i = p * kM n A v i + q * kM n A w i := kS_lin (A i) v w p q n
theorem kD_nn {K : Type} [Lean.Grind.CommRing K] [LE K] [LT K] [Std.LawfulOrderLT K] [Std.IsLinearOrder K] [Lean.Grind.OrderedRing K] (n : Nat) (u : Nat → K) : 0 ≤ kD n u u := kS_nn (fun i _ => k_sq (u i))
theorem kD_sq {K : Type} [Lean.Grind.CommRing K] [LE K] [LT K] [Std.LawfulOrderLT K] [Std.IsLinearOrder K] [Lean.Grind.OrderedRing K] {n i : Nat} (u : Nat → K) (hi : i < n) : u i * u i ≤ kD n u u := kS_ge (f := fun i => u i * u i) hi (fun i _ => k_sq (u i))
theorem kD_z {K : Type} [Lean.Grind.CommRing K] [LE K] [LT K] [Std.LawfulOrderLT K] [Std.IsLinearOrder K] [Lean.Grind.OrderedRing K] {n : Nat} {u : Nat → K} (h : kD n u u = 0) : ∀ i, i < n → u i = 0 := fun i hi => by
  have h1 := kD_sq u hi
  rw [h] at h1
  by_cases e : u i = 0
  · exact e
  · have := k_sqp e
    grind
theorem kD_p {K : Type} [Lean.Grind.CommRing K] [LE K] [LT K] [Std.LawfulOrderLT K] [Std.IsLinearOrder K] [Lean.Grind.OrderedRing K] {n i : Nat} {u : Nat → K} (hi : i < n) (h : u i ≠ 0) : 0 < kD n u u := by
  have h1 := kD_sq u hi
  have h2 := k_sqp h
  grind
theorem kD_sy {K : Type} [Lean.Grind.CommRing K] {n : Nat} {A : Nat → Nat → K} (hA : ∀ i j, i < n → j < n → A i j = A j i) (u v : Nat → K) : kD n u (kM n A v) = kD n v (kM n A u) := by
  have e1 : kD n u (kM n A v) = kS (fun i => kS (fun j => u i * (A i j * v j)) n) n := kS_cg (fun i _ => (kS_mul (u i) _ n).symm)
  have e2 : kD n v (kM n A u) = kS (fun i => kS (fun j => v i * (A i j * u j)) n) n := kS_cg (fun i _ => (kS_mul (v i) _ n).symm)
  rw [e1, e2, kS_sw]
  exact kS_cg (fun i hi => kS_cg (fun j hj => by rw [hA i j hi hj]; grind))
/-- every matrix is bounded -/
theorem kB {K : Type} [Lean.Grind.CommRing K] [LE K] [LT K] [Std.LawfulOrderLT K] [Std.IsLinearOrder K] [Lean.Grind.OrderedRing K] (n : Nat) (A : Nat → Nat → K) : ∃ B : K, 0 < B ∧ ∀ v, kD n v (kM n A v) ≤ B * kD n v v ∧ -(B * kD n v v) ≤ kD n v (kM n A v) := by
  have h1 : (0 : K) < 1 := Lean.Grind.OrderedRing.zero_lt_one
  have hs : 0 ≤ kS (fun i => kS (fun j => A i j * A i j + 1) n) n := kS_nn (fun i _ => kS_nn (fun j _ => by have := k_sq (A i j); grind))
  refine ⟨kS (fun i => kS (fun j => A i j * A i j + 1) n) n + 1, by grind, fun v => ?_⟩
  have hD := kD_nn n v
  have ht : ∀ i j, i < n → j < n → v i * (A i j * v j) ≤ (A i j * A i j + 1) * kD n v v ∧ -((A i j * A i j + 1) * kD n v v) ≤ v i * (A i j * v j) := fun i j hi hj => by
    have a1 := k_ab (A i j)
    have a2 := kD_sq v hi
    have a3 := kD_sq v hj
    have a4 := k_sq (v i - v j)
    have a5 := k_sq (v i + v j)
    have b := k_bd a1.1 a1.2 (show v i * v j ≤ kD n v v by grind) (show -kD n v v ≤ v i * v j by grind)
    have e : v i * (A i j * v j) = A i j * (v i * v j) := by grind
    rw [e]; exact b
  have e1 : kD n v (kM n A v) = kS (fun i => kS (fun j => v i * (A i j * v j)) n) n := kS_cg (fun i _ => (kS_mul (v i) _ n).symm)
  have e2 : kS (fun i => kS (fun j => (A i j * A i j + 1) * kD n v v) n) n = kS (fun i => kS (fun j => A i j * A i j + 1) n) n * kD n v v := by
    have : ∀ i, kS (fun j => (A i j * A i j + 1) * kD n v v) n = kD n v v * kS (fun j => A i j * A i j + 1) n := fun i => by rw [← kS_mul]; exact kS_cg (fun j _ => by grind)
    rw [kS_cg (fun i _ => this i), kS_mul]; grind
  have e3 : kS (fun i => kS (fun j => -((A i j * A i j + 1) * kD n v v)) n) n = -(kS (fun i => kS (fun j => A i j * A i j + 1) n) n * kD n v v) := by
    rw [← e2]
    have : ∀ i, kS (fun j => -((A i j * A i j + 1) * kD n v v)) n = -1 * kS (fun j => (A i j * A i j + 1) * kD n v v) n := fun i => by rw [← kS_mul]; exact kS_cg (fun j _ => by grind)
    rw [kS_cg (fun i _ => this i), kS_mul]; grind
  have u1 := kS_le (fun i hi => kS_le (fun j hj => (ht i j hi hj).1) : ∀ i, i < n → kS (fun j => v i * (A i j * v j)) n ≤ kS (fun j => (A i j * A i j + 1) * kD n v v) n)
  have u2 := kS_le (fun i hi => kS_le (fun j hj => (ht i j hi hj).2) : ∀ i, i < n → kS (fun j => -((A i j * A i j + 1) * kD n v v)) n ≤ kS (fun j => v i * (A i j * v j)) n)
  rw [← e1, e2] at u1
  rw [← e1, e3] at u2
  generalize kS (fun i => kS (fun j => A i j * A i j + 1) n) n = T at *
  constructor <;> grind
