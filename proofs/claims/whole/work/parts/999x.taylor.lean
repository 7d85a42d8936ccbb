/-! values of polynomials; a polynomial without values has no numbers; moving a product -/
def kV {K : Type} [Lean.Grind.CommRing K] (f : Nat → K) : Nat → K → K
  | 0, _ => f 0
  | d + 1, t => f 0 + t * kV (fun j => f (j + 1)) d t
theorem kV_z {K : Type} [Lean.Grind.CommRing K] (f : Nat → K) (t : K) : kV f 0 t = f 0 := rfl
theorem kV_s {K : Type} [Lean.Grind.CommRing K] (f : Nat → K) (d : Nat) (t : K) : kV f (d + 1) t = f 0 + t * kV (fun j => f (j + 1)) d t := rfl
theorem kV_cg {K : Type} [Lean.Grind.CommRing K] (d : Nat) : ∀ (f g : Nat → K) (t : K), (∀ j, j ≤ d → f j = g j) → kV f d t = kV g d t := by
  induction d with
  | zero => intro f g t h; exact h 0 (Nat.le_refl _)
  | succ d ih => intro f g t h; rw [kV_s, kV_s, h 0 (by omega), ih _ (fun j => g (j + 1)) t (fun j hj => h (j + 1) (by omega))]
theorem kV_lin {K : Type} [Lean.Grind.CommRing K] (d : Nat) : ∀ (f g : Nat → K) (a b t : K), kV (fun j => a * f j + b * g j) d t = a * kV f d t + b * kV g d t := by
  induction d with
  | zero => intro f g a b t; rfl
  | succ d ih => intro f g a b t; rw [kV_s, kV_s, kV_s, ih (fun j => f (j + 1)) (fun j => g (j + 1))]; grind
theorem kV_hi {K : Type} [Lean.Grind.CommRing K] (d : Nat) : ∀ (f : Nat → K) (t : K), f (d + 1) = 0 → kV f (d + 1) t = kV f d t := by
  induction d with
  | zero => intro f t h; rw [kV_s, kV_z, kV_z, h]; grind
  | succ d ih => intro f t h; rw [kV_s, ih (fun j => f (j + 1)) t h, kV_s f d t]
theorem kV_two {K : Type} [Lean.Grind.CommRing K] (d : Nat) : ∀ (f : Nat → K) (t : K), kV (fun j => iz (2 ^ j) * f j) d t = kV f d (2 * t) := by
  induction d with
  | zero => intro f t; rw [kV_z, kV_z, show (2 : Int) ^ 0 = 1 from rfl, iz_1]; grind
  | succ d ih =>
    intro f t
    rw [kV_s, kV_s, show (2 : Int) ^ 0 = 1 from rfl, iz_1]
    have e2 : (iz 2 : K) = 2 := by
      rw [show (2 : Int) = 1 + 1 from rfl, iz_add, iz_1]; grind
    have e : kV (fun j => iz (2 ^ (j + 1)) * f (j + 1)) d t = 2 * kV (fun j => f (j + 1)) d (2 * t) := by
      rw [← ih]
      have := kV_lin d (fun j => iz (2 ^ j) * f (j + 1)) (fun j => iz (2 ^ j) * f (j + 1)) 2 0 t
      rw [kV_cg d (fun j => iz (2 ^ (j + 1)) * f (j + 1)) (fun j => 2 * (iz (2 ^ j) * f (j + 1)) + 0 * (iz (2 ^ j) * f (j + 1))) t (fun j _ => by
        rw [Int.pow_succ, iz_mul, e2]; grind), this]
      grind
    rw [e]; grind
theorem kV_one {K : Type} [Lean.Grind.CommRing K] (d : Nat) : ∀ (f : Nat → K), (∀ j, j < d → f j = 0) → kV f d 1 = f d := by
  induction d with
  | zero => intro f _; rfl
  | succ d ih => intro f h; rw [kV_s, h 0 (by omega), ih (fun j => f (j + 1)) (fun j hj => h (j + 1) (by omega))]; grind
theorem kV_pe {K : Type} [Lean.Grind.CommRing K] [LE K] [LT K] [Std.LawfulOrderLT K] [Std.IsLinearOrder K] [Lean.Grind.OrderedRing K] (d : Nat) : ∀ (f : Nat → K), (∀ t, kV f d t = 0) → ∀ j, j ≤ d → f j = 0 := by
  induction d with
  | zero => intro f h j hj; obtain rfl : j = 0 := by omega
            exact h 0
  | succ d ih =>
    intro f h
    have h1 : ∀ j, j ≤ d → f j = 0 := fun j hj => by
      have hv : ∀ t, kV (fun j => (iz (2 ^ j) - iz (2 ^ (d + 1))) * f j) d t = 0 := fun t => by
        rw [← kV_hi d (fun j => (iz (2 ^ j) - iz (2 ^ (d + 1))) * f j) t (by grind)]
        rw [kV_cg (d + 1) (fun j => (iz (2 ^ j) - iz (2 ^ (d + 1))) * f j) (fun j => 1 * (iz (2 ^ j) * f j) + (-iz (2 ^ (d + 1))) * f j) t (fun j _ => by grind), kV_lin (d + 1) (fun j => iz (2 ^ j) * f j) f, kV_two, h, h]
        grind
      have h2 := ih _ hv j hj
      have h3 : (2 : Int) ^ j < 2 ^ (d + 1) := p2_lt (by omega)
      refine Classical.byContradiction fun q => k_nz (x := iz (2 ^ j) - iz (2 ^ (d + 1))) (fun p => ?_) q h2
      have := iz_lt (K := K).mpr h3
      grind
    intro j hj
    by_cases q : j ≤ d
    · exact h1 j q
    · obtain rfl : j = d + 1 := by omega
      rw [← kV_one (d + 1) f (fun i hi => h1 i (by omega))]
      exact h 1
theorem kV_eq {K : Type} [Lean.Grind.CommRing K] [LE K] [LT K] [Std.LawfulOrderLT K] [Std.IsLinearOrder K] [Lean.Grind.OrderedRing K] {d : Nat} {f g : Nat → K} (h : ∀ t, kV f d t = kV g d t) : ∀ j, j ≤ d → f j = g j := fun j hj => by
  have := kV_pe d (fun j => 1 * f j + (-1) * g j) (fun t => by rw [kV_lin, h t]; grind) j hj
  grind
/-- a sweep -/
theorem kV_sw {K : Type} [Lean.Grind.CommRing K] (D : Nat) : ∀ (p S : Nat → K) (v t : K), (∀ j, j ≤ D → p j = S j - v * S (j + 1)) → p (D + 1) = S (D + 1) → kV p (D + 1) t = S 0 + (t - v) * kV (fun j => S (j + 1)) D t := by
  induction D with
  | zero => intro p S v t h h2; rw [kV_s, kV_z, kV_z, h 0 (Nat.le_refl _), h2]; grind
  | succ D ih =>
    intro p S v t h h2
    rw [kV_s, ih (fun j => p (j + 1)) (fun j => S (j + 1)) v t (fun j hj => h (j + 1) (by omega)) h2, h 0 (by omega), kV_s (fun j => S (j + 1)) D t]; grind
theorem kV_P {K : Type} [Lean.Grind.CommRing K] (m : Nat → K) (n : Nat) (t : K) : kV (kP m (n + 1)) (n + 1) t = (t - m n) * kV (kP m n) n t := by
  have h := kV_sw n (kP m (n + 1)) (fun j => if j = 0 then 0 else kP m n (j - 1)) (m n) t (fun j _ => by rw [kP_s, if_neg (Nat.succ_ne_zero j), Nat.add_sub_cancel]) (by
    show kP m (n + 1) (n + 1) = if n + 1 = 0 then 0 else kP m n (n + 1 - 1)
    rw [kP_t, if_neg (Nat.succ_ne_zero n), Nat.add_sub_cancel, kP_t])
  rw [h, kV_cg n (fun j => if j + 1 = 0 then 0 else kP m n (j + 1 - 1)) (kP m n) t (fun j _ => by rw [if_neg (Nat.succ_ne_zero j), Nat.add_sub_cancel]), if_pos rfl]; grind
/-- moving, a degree less -/
theorem swp_sh {v : Int} {d : Nat} (p : Nat → Int) (m : Nat) : m ≤ d → ∀ j, swp v (d + 1) p m (j + 1) = swp v d (fun j => p (j + 1)) m j := by
  induction m with
  | zero => intro _ j; rfl
  | succ m ih =>
    intro hm j
    rw [swp, swp]
    by_cases e : j = d - 1 - m
    · rw [show d + 1 - 1 - m = (d - 1 - m) + 1 by omega, e, va_up_self, va_up_self, ih (by omega) (d - 1 - m), show d + 1 - m = (d - m) + 1 by omega, ih (by omega) (d - m)]
    · rw [va_up_ne _ _ (by omega), va_up_ne _ _ e]
      exact ih (by omega) j
theorem low_sh {v : Int} {d : Nat} (p : Nat → Int) (i : Nat) : i ≤ d → ∀ j, low v (d + 1) p (i + 1) (j + 1) = low v d (fun j => swp v (d + 1) p (d + 1) (j + 1)) i j := by
  induction i with
  | zero => intro _ j; rfl
  | succ i ih =>
    intro hi j
    show swp v (d + 1) (low v (d + 1) p (i + 1)) (d + 1 - (i + 1)) (j + 1) = swp v d (low v d (fun j => swp v (d + 1) p (d + 1) (j + 1)) i) (d - i) j
    have e : (fun j => low v (d + 1) p (i + 1) (j + 1)) = low v d (fun j => swp v (d + 1) p (d + 1) (j + 1)) i := funext (ih (by omega))
    rw [← e, show d + 1 - (i + 1) = d - i by omega]
    exact swp_sh (v := v) (d := d) (low v (d + 1) p (i + 1)) (d - i) (by omega) j
theorem kV_low {K : Type} [Lean.Grind.CommRing K] (v : Int) (d : Nat) : ∀ (p : Nat → Int) (t : K), kV (fun j => iz (p j)) d t = kV (fun j => iz (low v d p d j)) d (t - iz v) := by
  induction d with
  | zero => intro p t; rfl
  | succ d ih =>
    intro p t
    have hS : ∀ j, j ≤ d → swp v (d + 1) p (d + 1) j = p j + v * swp v (d + 1) p (d + 1) (j + 1) := fun j hj => swp_rec (d + 1) (Nat.le_refl _) j (by omega) (by omega)
    have hT : swp v (d + 1) p (d + 1) (d + 1) = p (d + 1) := swp_hi (by omega) (d + 1) (d + 1) (Nat.le_refl _) (by omega)
    rw [kV_sw d (fun j => iz (p j)) (fun j => iz (swp v (d + 1) p (d + 1) j)) (iz v) t (fun j hj => by rw [hS j hj, iz_add, iz_mul]; grind) (by show iz (p (d + 1)) = iz (swp v (d + 1) p (d + 1) (d + 1)); rw [hT]), ih (fun j => swp v (d + 1) p (d + 1) (j + 1)) t, kV_s]
    have e0 : low v (d + 1) p (d + 1) 0 = swp v (d + 1) p (d + 1) 0 := by
      have := low_keep (v := v) (d := d + 1) (p := p) (i := 1) d (by omega) 0 (by omega)
      rw [show 1 + d = d + 1 by omega] at this
      rw [this]; rfl
    rw [e0]
    congr 2
    exact kV_cg d _ _ _ (fun j _ => by rw [low_sh p d (Nat.le_refl _) j])
/-- the product, its zeros multiplied and moved -/
theorem kP_cg {K : Type} [Lean.Grind.CommRing K] {m m' : Nat → K} (n : Nat) : (∀ i, i < n → m i = m' i) → ∀ j, kP m n j = kP m' n j := by
  induction n with
  | zero => intro _ j; rfl
  | succ n ih =>
    intro h j
    have := ih (fun i hi => h i (by omega))
    rw [kP_s, kP_s, h n (by omega), this j]
    congr 1
    split
    · rfl
    · exact this _
theorem kP_mul {K : Type} [Lean.Grind.CommRing K] (m : Nat → K) (b : Int) (n : Nat) : ∀ j, j ≤ n → kP (fun i => iz b * m i) n j = kP m n j * iz (b ^ (n - j)) := by
  induction n with
  | zero => intro j hj; rw [show 0 - j = 0 by omega, Int.pow_zero, iz_1]; show (if j = 0 then (1 : K) else 0) = (if j = 0 then 1 else 0) * 1; grind
  | succ n ih =>
    intro j hj
    by_cases q : j = n + 1
    · rw [q, kP_t, kP_t, Nat.sub_self, Int.pow_zero, iz_1]; grind
    · rcases j with _ | j
      · rw [kP_s, kP_s, if_pos rfl, if_pos rfl, ih 0 (by omega), show n + 1 - 0 = n - 0 + 1 by omega, Int.pow_succ, iz_mul]; grind
      · rw [kP_p, kP_p, ih j (by omega), ih (j + 1) (by omega), show n + 1 - (j + 1) = n - (j + 1) + 1 by omega, show n - j = n - (j + 1) + 1 by omega, Int.pow_succ, iz_mul]; grind
theorem kP_low {K : Type} [Lean.Grind.CommRing K] [LE K] [LT K] [Std.LawfulOrderLT K] [Std.IsLinearOrder K] [Lean.Grind.OrderedRing K] {n : Nat} {p : Nat → Int} {m : Nat → K} (h : ∀ j, j ≤ n → iz (p j) = kP m n j) (x : Int) : ∀ j, j ≤ n → iz (low x n p n j) = kP (fun i => m i - iz x) n j := by
  refine kV_eq (fun t => ?_)
  have e1 := kV_low x n p (t + iz x)
  rw [show t + iz x - iz x = t by grind] at e1
  rw [← e1, kV_cg n _ (kP m n) _ h]
  clear h e1
  induction n with
  | zero => rfl
  | succ n ih => rw [kV_P, kV_P, ih]; grind
theorem kP_mlow {K : Type} [Lean.Grind.CommRing K] [LE K] [LT K] [Std.LawfulOrderLT K] [Std.IsLinearOrder K] [Lean.Grind.OrderedRing K] {n : Nat} {p : Nat → Int} {m : Nat → K} (h : ∀ j, j ≤ n → iz (p j) = kP m n j) (x b : Int) : ∀ j, j ≤ n → iz (low x n (mulp b n p n) n j) = kP (fun i => iz b * m i - iz x) n j := by
  refine kP_low (m := fun i => iz b * m i) (fun j hj => ?_) x
  rw [kP_mul m b n j hj, ← h j hj, ← iz_mul]
  congr 1
  simp only [mulp]
  split
  · rfl
  · rw [show n - j = 0 by omega, Int.pow_zero, Int.mul_one]
