/-! numbers to calculate roots in: rational sequences that close in, up to sequences that go to 0 -/
def rlC (f : Nat → Rat) : Prop := ∀ e : Rat, 0 < e → ∃ N : Nat, ∀ m n : Nat, N ≤ m → N ≤ n → f m - f n < e
def rlZ (f : Nat → Rat) : Prop := ∀ e : Rat, 0 < e → ∃ N : Nat, ∀ n : Nat, N ≤ n → f n < e ∧ -e < f n
def rlP (f : Nat → Rat) : Prop := ∃ d : Rat, 0 < d ∧ ∃ N : Nat, ∀ n : Nat, N ≤ n → d < f n
theorem rq_sq (x : Rat) : 0 ≤ x * x := by
  rcases Rat.le_total (a := 0) (b := x) with h | h
  · exact Rat.mul_nonneg h h
  · have := Rat.mul_nonneg (show (0 : Rat) ≤ -x by grind) (show (0 : Rat) ≤ -x by grind)
    grind
theorem rq_mul {x y B d : Rat} (h1 : x < B) (h2 : -B < x) (h3 : y < d) (h4 : -d < y) : x * y < B * d ∧ -(B * d) < x * y := by
  have a1 := Rat.mul_pos (show 0 < B - x by grind) (show 0 < d + y by grind)
  have a2 := Rat.mul_pos (show 0 < B + x by grind) (show 0 < d - y by grind)
  have a3 := Rat.mul_pos (show 0 < B - x by grind) (show 0 < d - y by grind)
  have a4 := Rat.mul_pos (show 0 < B + x by grind) (show 0 < d + y by grind)
  constructor <;> grind
theorem rq_bd (x : Rat) : x < x * x + 1 ∧ -(x * x + 1) < x := by
  have a1 := rq_sq (x - 1 / 2)
  have a2 := rq_sq (x + 1 / 2)
  constructor <;> grind
theorem rq_half {e : Rat} (he : 0 < e) : 0 < e / 2 := by grind
theorem rq_sc {B e : Rat} (hB : 0 < B) (he : 0 < e) : ∃ d : Rat, 0 < d ∧ B * d = e := by
  refine ⟨e * B⁻¹, Rat.mul_pos he (Rat.inv_pos.mpr hB), ?_⟩
  have h := Rat.mul_inv_cancel B (fun q => by rw [q] at hB; exact absurd hB Rat.lt_irrefl)
  have : B * (e * B⁻¹) = e * (B * B⁻¹) := by grind
  rw [this, h, Rat.mul_one]
theorem rlC_two {f : Nat → Rat} (hf : rlC f) {e : Rat} (he : 0 < e) : ∃ N : Nat, ∀ m n : Nat, N ≤ m → N ≤ n → f m - f n < e ∧ -e < f m - f n := by
  obtain ⟨N, hN⟩ := hf e he
  exact ⟨N, fun m n hm hn => ⟨hN m n hm hn, by have := hN n m hn hm; grind⟩⟩
theorem rlC_bd {f : Nat → Rat} (hf : rlC f) : ∃ B : Rat, 0 < B ∧ ∃ N : Nat, ∀ n : Nat, N ≤ n → f n < B ∧ -B < f n := by
  obtain ⟨N, hN⟩ := rlC_two hf (show (0 : Rat) < 1 by decide)
  have hb := rq_bd (f N)
  have hs := rq_sq (f N)
  exact ⟨f N * f N + 2, by grind, N, fun n hn => by have := hN n N hn (Nat.le_refl _); constructor <;> grind⟩
theorem rlC_con (c : Rat) : rlC (fun _ => c) := fun e he => ⟨0, fun _ _ _ _ => by show c - c < e; grind⟩
theorem rlC_add {f g : Nat → Rat} (hf : rlC f) (hg : rlC g) : rlC (fun n => f n + g n) := fun e he => by
  obtain ⟨N, hN⟩ := hf (e / 2) (rq_half he)
  obtain ⟨M, hM⟩ := hg (e / 2) (rq_half he)
  refine ⟨N + M, fun m n hm hn => ?_⟩
  have h1 := hN m n (by omega) (by omega)
  have h2 := hM m n (by omega) (by omega)
  show f m + g m - (f n + g n) < e
  grind
theorem rlC_neg {f : Nat → Rat} (hf : rlC f) : rlC (fun n => -f n) := fun e he => by
  obtain ⟨N, hN⟩ := hf e he
  exact ⟨N, fun m n hm hn => by have := hN n m hn hm; show -f m - -f n < e; grind⟩
theorem rlC_mul {f g : Nat → Rat} (hf : rlC f) (hg : rlC g) : rlC (fun n => f n * g n) := fun e he => by
  obtain ⟨B, hB, N1, h1⟩ := rlC_bd hf
  obtain ⟨C, hC, N2, h2⟩ := rlC_bd hg
  obtain ⟨d1, p1, e1⟩ := rq_sc hB (rq_half he)
  obtain ⟨d2, p2, e2⟩ := rq_sc hC (rq_half he)
  obtain ⟨N3, h3⟩ := rlC_two hg p1
  obtain ⟨N4, h4⟩ := rlC_two hf p2
  refine ⟨N1 + N2 + N3 + N4, fun m n hm hn => ?_⟩
  have a1 := h1 m (by omega)
  have a2 := h2 n (by omega)
  have a3 := h3 m n (by omega) (by omega)
  have a4 := h4 m n (by omega) (by omega)
  have b1 := (rq_mul a1.1 a1.2 a3.1 a3.2).1
  have b2 := (rq_mul a2.1 a2.2 a4.1 a4.2).1
  rw [e1] at b1
  rw [e2] at b2
  show f m * g m - f n * g n < e
  have : f m * g m - f n * g n = f m * (g m - g n) + g n * (f m - f n) := by grind
  rw [this]
  clear a1 a2 a3 a4 this
  grind
theorem rlZ_cg {f g : Nat → Rat} (h : rlZ f) (e : ∀ n, f n = g n) : rlZ g := by rw [← funext e]; exact h
theorem rlZ_0 {f : Nat → Rat} (h : ∀ n, f n = 0) : rlZ f := fun e he => ⟨0, fun n _ => by rw [h n]; constructor <;> grind⟩
theorem rlZ_add {f g : Nat → Rat} (hf : rlZ f) (hg : rlZ g) : rlZ (fun n => f n + g n) := fun e he => by
  obtain ⟨N, hN⟩ := hf (e / 2) (rq_half he)
  obtain ⟨M, hM⟩ := hg (e / 2) (rq_half he)
  refine ⟨N + M, fun n hn => ?_⟩
  have h1 := hN n (by omega)
  have h2 := hM n (by omega)
  show f n + g n < e ∧ -e < f n + g n
  constructor <;> grind
theorem rlZ_neg {f : Nat → Rat} (hf : rlZ f) : rlZ (fun n => -f n) := fun e he => by
  obtain ⟨N, hN⟩ := hf e he
  exact ⟨N, fun n hn => by have := hN n hn; show -f n < e ∧ -e < -f n; constructor <;> grind⟩
theorem rlZ_mul {f g : Nat → Rat} (hf : rlC f) (hg : rlZ g) : rlZ (fun n => f n * g n) := fun e he => by
  obtain ⟨B, hB, N1, h1⟩ := rlC_bd hf
  obtain ⟨d1, p1, e1⟩ := rq_sc hB he
  obtain ⟨N2, h2⟩ := hg d1 p1
  refine ⟨N1 + N2, fun n hn => ?_⟩
  have a1 := h1 n (by omega)
  have a2 := h2 n (by omega)
  have b1 := rq_mul a1.1 a1.2 a2.1 a2.2
  rw [e1] at b1
  exact b1
def rlQ : Type := { f : Nat → Rat // rlC f }
theorem rl_eqv : Equivalence (fun f g : rlQ => rlZ (fun n => f.1 n - g.1 n)) := by
  refine ⟨fun f => rlZ_0 (fun n => by grind), fun {f g} h => rlZ_cg (rlZ_neg h) (fun n => by grind), fun {f g k} h1 h2 => rlZ_cg (rlZ_add h1 h2) (fun n => by grind)⟩
def rlS : Setoid rlQ := ⟨fun f g => rlZ (fun n => f.1 n - g.1 n), rl_eqv⟩
def RL : Type := Quotient rlS
def rl_mk (f : Nat → Rat) (h : rlC f) : RL := Quotient.mk rlS ⟨f, h⟩
theorem rl_rep (x : RL) : ∃ (f : Nat → Rat) (hf : rlC f), rl_mk f hf = x := Quotient.ind (motive := fun x => ∃ (f : Nat → Rat) (hf : rlC f), rl_mk f hf = x) (fun q => ⟨q.1, q.2, rfl⟩) x
theorem rl_eq {f g : Nat → Rat} {hf : rlC f} {hg : rlC g} : rl_mk f hf = rl_mk g hg ↔ rlZ (fun n => f n - g n) := ⟨fun h => Quotient.exact h, fun h => Quotient.sound h⟩
theorem rl_cg {f g : Nat → Rat} {hf : rlC f} {hg : rlC g} (h : ∀ n, f n = g n) : rl_mk f hf = rl_mk g hg := rl_eq.mpr (rlZ_0 (fun n => by rw [h n]; grind))
def rl_con (c : Rat) : RL := rl_mk (fun _ => c) (rlC_con c)
def rl_add : RL → RL → RL := Quotient.lift₂ (s₁ := rlS) (s₂ := rlS) (fun f g => rl_mk (fun n => f.1 n + g.1 n) (rlC_add f.2 g.2)) (fun a b c d h1 h2 => by
  have h1 : rlZ (fun n => a.1 n - c.1 n) := h1
  have h2 : rlZ (fun n => b.1 n - d.1 n) := h2
  exact rl_eq.mpr (rlZ_cg (rlZ_add h1 h2) (fun n => by grind)))
def rl_neg : RL → RL := Quotient.lift (s := rlS) (fun f => rl_mk (fun n => -f.1 n) (rlC_neg f.2)) (fun a b h => by
  have h : rlZ (fun n => a.1 n - b.1 n) := h
  exact rl_eq.mpr (rlZ_cg (rlZ_neg h) (fun n => by grind)))
def rl_mul : RL → RL → RL := Quotient.lift₂ (s₁ := rlS) (s₂ := rlS) (fun f g => rl_mk (fun n => f.1 n * g.1 n) (rlC_mul f.2 g.2)) (fun a b c d h1 h2 => by
  have h1 : rlZ (fun n => a.1 n - c.1 n) := h1
  have h2 : rlZ (fun n => b.1 n - d.1 n) := h2
  exact rl_eq.mpr (rlZ_cg (rlZ_add (rlZ_mul a.2 h2) (rlZ_mul d.2 h1)) (fun n => by grind)))
def rl_pow (x : RL) : Nat → RL
  | 0 => rl_con 1
  | n + 1 => rl_mul (rl_pow x n) x
theorem rl_add_mk {f g : Nat → Rat} {hf : rlC f} {hg : rlC g} : rl_add (rl_mk f hf) (rl_mk g hg) = rl_mk (fun n => f n + g n) (rlC_add hf hg) := rfl
theorem rl_mul_mk {f g : Nat → Rat} {hf : rlC f} {hg : rlC g} : rl_mul (rl_mk f hf) (rl_mk g hg) = rl_mk (fun n => f n * g n) (rlC_mul hf hg) := rfl
theorem rl_neg_mk {f : Nat → Rat} {hf : rlC f} : rl_neg (rl_mk f hf) = rl_mk (fun n => -f n) (rlC_neg hf) := rfl
theorem rl_add_zero (a : RL) : rl_add a (rl_con 0) = a := by
  obtain ⟨f0, h0, rfl⟩ := rl_rep a
  simp only [rl_con, rl_add_mk, rl_neg_mk, rl_mul_mk]
  exact rl_cg (fun n => by grind)
theorem rl_add_comm (a b : RL) : rl_add a b = rl_add b a := by
  obtain ⟨f0, h0, rfl⟩ := rl_rep a
  obtain ⟨f1, h1, rfl⟩ := rl_rep b
  simp only [rl_con, rl_add_mk, rl_neg_mk, rl_mul_mk]
  exact rl_cg (fun n => by grind)
theorem rl_add_assoc (a b c : RL) : rl_add (rl_add a b) c = rl_add a (rl_add b c) := by
  obtain ⟨f0, h0, rfl⟩ := rl_rep a
  obtain ⟨f1, h1, rfl⟩ := rl_rep b
  obtain ⟨f2, h2, rfl⟩ := rl_rep c
  simp only [rl_con, rl_add_mk, rl_neg_mk, rl_mul_mk]
  exact rl_cg (fun n => by grind)
theorem rl_mul_assoc (a b c : RL) : rl_mul (rl_mul a b) c = rl_mul a (rl_mul b c) := by
  obtain ⟨f0, h0, rfl⟩ := rl_rep a
  obtain ⟨f1, h1, rfl⟩ := rl_rep b
  obtain ⟨f2, h2, rfl⟩ := rl_rep c
  simp only [rl_con, rl_add_mk, rl_neg_mk, rl_mul_mk]
  exact rl_cg (fun n => by grind)
theorem rl_mul_comm (a b : RL) : rl_mul a b = rl_mul b a := by
  obtain ⟨f0, h0, rfl⟩ := rl_rep a
  obtain ⟨f1, h1, rfl⟩ := rl_rep b
  simp only [rl_con, rl_add_mk, rl_neg_mk, rl_mul_mk]
  exact rl_cg (fun n => by grind)
theorem rl_mul_one (a : RL) : rl_mul a (rl_con 1) = a := by
  obtain ⟨f0, h0, rfl⟩ := rl_rep a
  simp only [rl_con, rl_add_mk, rl_neg_mk, rl_mul_mk]
  exact rl_cg (fun n => by grind)
theorem rl_mul_zero (a : RL) : rl_mul a (rl_con 0) = rl_con 0 := by
  obtain ⟨f0, h0, rfl⟩ := rl_rep a
  simp only [rl_con, rl_add_mk, rl_neg_mk, rl_mul_mk]
  exact rl_cg (fun n => by grind)
theorem rl_distrib (a b c : RL) : rl_mul a (rl_add b c) = rl_add (rl_mul a b) (rl_mul a c) := by
  obtain ⟨f0, h0, rfl⟩ := rl_rep a
  obtain ⟨f1, h1, rfl⟩ := rl_rep b
  obtain ⟨f2, h2, rfl⟩ := rl_rep c
  simp only [rl_con, rl_add_mk, rl_neg_mk, rl_mul_mk]
  exact rl_cg (fun n => by grind)
theorem rl_neg_add (a : RL) : rl_add (rl_neg a) a = rl_con 0 := by
  obtain ⟨f0, h0, rfl⟩ := rl_rep a
  simp only [rl_con, rl_add_mk, rl_neg_mk, rl_mul_mk]
  exact rl_cg (fun n => by grind)
theorem rl_con_add (x y : Rat) : rl_con (x + y) = rl_add (rl_con x) (rl_con y) := rfl
theorem rl_con_neg (x : Rat) : rl_con (-x) = rl_neg (rl_con x) := rfl
theorem rl_neg_mul (a b : RL) : rl_mul (rl_neg a) b = rl_neg (rl_mul a b) := by
  obtain ⟨f0, h0, rfl⟩ := rl_rep a
  obtain ⟨f1, h1, rfl⟩ := rl_rep b
  simp only [rl_con, rl_add_mk, rl_neg_mk, rl_mul_mk]
  exact rl_cg (fun n => by grind)
def rl_ring : Lean.Grind.CommRing RL := {
  add := rl_add
  mul := rl_mul
  neg := rl_neg
  sub := fun x y => rl_add x (rl_neg y)
  natCast := ⟨fun n => rl_con (n : Rat)⟩
  ofNat := fun n => ⟨rl_con (n : Rat)⟩
  nsmul := ⟨fun n x => rl_mul (rl_con (n : Rat)) x⟩
  npow := ⟨rl_pow⟩
  intCast := ⟨fun z => rl_con (z : Rat)⟩
  zsmul := ⟨fun z x => rl_mul (rl_con (z : Rat)) x⟩
  add_zero := rl_add_zero
  add_comm := rl_add_comm
  add_assoc := rl_add_assoc
  mul_assoc := rl_mul_assoc
  mul_comm := rl_mul_comm
  mul_one := rl_mul_one
  one_mul := fun a => (rl_mul_comm _ a).trans (rl_mul_one a)
  left_distrib := rl_distrib
  right_distrib := fun a b c => by
    show rl_mul (rl_add a b) c = rl_add (rl_mul a c) (rl_mul b c)
    rw [rl_mul_comm, rl_distrib, rl_mul_comm c a, rl_mul_comm c b]
  zero_mul := fun a => (rl_mul_comm _ a).trans (rl_mul_zero a)
  mul_zero := rl_mul_zero
  pow_zero := fun _ => rfl
  pow_succ := fun _ _ => rfl
  ofNat_succ := fun a => by
    show rl_con ((a + 1 : Nat) : Rat) = rl_add (rl_con (a : Rat)) (rl_con ((1 : Nat) : Rat))
    rw [Rat.natCast_add]; rfl
  ofNat_eq_natCast := fun _ => rfl
  nsmul_eq_natCast_mul := fun _ _ => rfl
  neg_add_cancel := rl_neg_add
  sub_eq_add_neg := fun _ _ => rfl
  neg_zsmul := fun i a => by
    show rl_mul (rl_con ((-i : Int) : Rat)) a = rl_neg (rl_mul (rl_con (i : Rat)) a)
    rw [Rat.intCast_neg, rl_con_neg, rl_neg_mul]
  zsmul_natCast_eq_nsmul := fun _ _ => rfl
  intCast_ofNat := fun _ => rfl
  intCast_neg := fun i => by
    show rl_con ((-i : Int) : Rat) = rl_neg (rl_con (i : Rat))
    rw [Rat.intCast_neg, rl_con_neg] }
