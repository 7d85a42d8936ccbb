/-! their order, their inverses, their upper ends -/
theorem rlP_cg {f g : Nat → Rat} (h : rlZ (fun n => f n - g n)) (hf : rlP f) : rlP g := by
  obtain ⟨d, hd, N, hN⟩ := hf
  obtain ⟨M, hM⟩ := h (d / 2) (rq_half hd)
  refine ⟨d / 2, rq_half hd, N + M, fun n hn => ?_⟩
  have h1 := hN n (by omega)
  have h2 : f n - g n < d / 2 ∧ -(d / 2) < f n - g n := hM n (by omega)
  grind
def rl_p : RL → Prop := Quotient.lift (s := rlS) (fun f => rlP f.1) (fun a b h => by
  have h : rlZ (fun n => a.1 n - b.1 n) := h
  exact propext ⟨rlP_cg h, rlP_cg (rlZ_cg (rlZ_neg h) (fun n => by grind))⟩)
theorem rl_p_mk {f : Nat → Rat} {hf : rlC f} : rl_p (rl_mk f hf) ↔ rlP f := Iff.rfl
theorem rl_tri (x : RL) : rl_p x ∨ x = rl_con 0 ∨ rl_p (rl_neg x) := by
  obtain ⟨f, hf, rfl⟩ := rl_rep x
  by_cases hz : rlZ f
  · exact Or.inr (Or.inl (rl_eq.mpr (rlZ_cg hz (fun n => by grind))))
  · have hz : ∃ e : Rat, 0 < e ∧ ∀ N : Nat, ∃ n : Nat, N ≤ n ∧ ¬ (f n < e ∧ -e < f n) := by
      refine Classical.byContradiction (fun q => hz (fun e he => ?_))
      refine Classical.byContradiction (fun q2 => q ⟨e, he, fun N => ?_⟩)
      refine Classical.byContradiction (fun q3 => q2 ⟨N, fun n hn => ?_⟩)
      exact Classical.byContradiction (fun q4 => q3 ⟨n, hn, q4⟩)
    obtain ⟨e, he, hn⟩ := hz
    obtain ⟨N, hN⟩ := rlC_two hf (rq_half he)
    obtain ⟨n0, h0, h1⟩ := hn N
    by_cases hp : f n0 < e
    · have h2 : ¬ -e < f n0 := fun q => h1 ⟨hp, q⟩
      have : rlP (fun n => -f n) := ⟨e / 2, rq_half he, N, fun n hn => by
        have := hN n n0 hn h0
        show e / 2 < -f n
        grind⟩
      exact Or.inr (Or.inr this)
    · have : rlP f := ⟨e / 2, rq_half he, N, fun n hn => by
        have := hN n n0 hn h0
        grind⟩
      exact Or.inl this
theorem rl_p_0 : ¬ rl_p (rl_con 0) := fun h => by
  have h : rlP (fun _ => 0) := h
  obtain ⟨d, hd, N, hN⟩ := h
  have : d < 0 := hN N (Nat.le_refl _)
  grind
theorem rl_p_1 : rl_p (rl_con 1) := by
  have : rlP (fun _ => 1) := ⟨1 / 2, by grind, 0, fun _ _ => by show (1 : Rat) / 2 < 1; grind⟩
  exact this
theorem rl_p_add (x y : RL) (hx : rl_p x) (hy : rl_p y) : rl_p (rl_add x y) := by
  obtain ⟨f, hf, rfl⟩ := rl_rep x
  obtain ⟨g, hg, rfl⟩ := rl_rep y
  have hx : rlP f := hx
  have hy : rlP g := hy
  obtain ⟨d, hd, N, hN⟩ := hx
  obtain ⟨d2, hd2, N2, hN2⟩ := hy
  have : rlP (fun n => f n + g n) := ⟨d, hd, N + N2, fun n hn => by
    have h1 := hN n (by omega)
    have h2 := hN2 n (by omega)
    show d < f n + g n
    grind⟩
  exact this
theorem rl_p_mul (x y : RL) (hx : rl_p x) (hy : rl_p y) : rl_p (rl_mul x y) := by
  obtain ⟨f, hf, rfl⟩ := rl_rep x
  obtain ⟨g, hg, rfl⟩ := rl_rep y
  have hx : rlP f := hx
  have hy : rlP g := hy
  obtain ⟨d, hd, N, hN⟩ := hx
  obtain ⟨d2, hd2, N2, hN2⟩ := hy
  have : rlP (fun n => f n * g n) := ⟨d * d2, Rat.mul_pos hd hd2, N + N2, fun n hn => by
    have h1 := hN n (by omega)
    have h2 := hN2 n (by omega)
    show d * d2 < f n * g n
    have a1 := Rat.mul_pos (show 0 < f n - d by grind) (show 0 < g n - d2 by grind)
    have a2 := Rat.mul_pos (show 0 < f n - d by grind) hd2
    have a3 := Rat.mul_pos hd (show 0 < g n - d2 by grind)
    grind⟩
  exact this
/-- x - y -/
def rl_s (x y : RL) : RL := rl_add x (rl_neg y)
theorem rl_s_self (a : RL) : rl_s a a = rl_con 0 := by
  obtain ⟨f0, h0, rfl⟩ := rl_rep a
  simp only [rl_s, rl_con, rl_add_mk, rl_neg_mk, rl_mul_mk]
  exact rl_cg (fun n => by grind)
theorem rl_s_0 (a : RL) : rl_s a (rl_con 0) = a := by
  obtain ⟨f0, h0, rfl⟩ := rl_rep a
  simp only [rl_s, rl_con, rl_add_mk, rl_neg_mk, rl_mul_mk]
  exact rl_cg (fun n => by grind)
theorem rl_s_neg (a b : RL) : rl_neg (rl_s a b) = rl_s b a := by
  obtain ⟨f0, h0, rfl⟩ := rl_rep a
  obtain ⟨f1, h1, rfl⟩ := rl_rep b
  simp only [rl_s, rl_con, rl_add_mk, rl_neg_mk, rl_mul_mk]
  exact rl_cg (fun n => by grind)
theorem rl_s_tr (a b c : RL) : rl_add (rl_s a b) (rl_s b c) = rl_s a c := by
  obtain ⟨f0, h0, rfl⟩ := rl_rep a
  obtain ⟨f1, h1, rfl⟩ := rl_rep b
  obtain ⟨f2, h2, rfl⟩ := rl_rep c
  simp only [rl_s, rl_con, rl_add_mk, rl_neg_mk, rl_mul_mk]
  exact rl_cg (fun n => by grind)
theorem rl_s_add (a b c : RL) : rl_s (rl_add a c) (rl_add b c) = rl_s a b := by
  obtain ⟨f0, h0, rfl⟩ := rl_rep a
  obtain ⟨f1, h1, rfl⟩ := rl_rep b
  obtain ⟨f2, h2, rfl⟩ := rl_rep c
  simp only [rl_s, rl_con, rl_add_mk, rl_neg_mk, rl_mul_mk]
  exact rl_cg (fun n => by grind)
theorem rl_s_mul (a b c : RL) : rl_s (rl_mul c a) (rl_mul c b) = rl_mul c (rl_s a b) := by
  obtain ⟨f0, h0, rfl⟩ := rl_rep a
  obtain ⟨f1, h1, rfl⟩ := rl_rep b
  obtain ⟨f2, h2, rfl⟩ := rl_rep c
  simp only [rl_s, rl_con, rl_add_mk, rl_neg_mk, rl_mul_mk]
  exact rl_cg (fun n => by grind)
theorem rl_s_eq {x y : RL} (h : rl_s x y = rl_con 0) : x = y := by
  have h2 := rl_s_tr x y (rl_con 0)
  rw [h, rl_s_0, rl_s_0, rl_add_comm, rl_add_zero] at h2
  exact h2.symm
def rl_lt (x y : RL) : Prop := rl_p (rl_s y x)
def rl_le (x y : RL) : Prop := ¬ rl_p (rl_s x y)
theorem rl_asym {x y : RL} (h : rl_p (rl_s x y)) : ¬ rl_p (rl_s y x) := fun q => rl_p_0 (by rw [← rl_s_self x, ← rl_s_tr x y x]; exact rl_p_add _ _ h q)
theorem rl_le_trans (x y z : RL) (h1 : rl_le x y) (h2 : rl_le y z) : rl_le x z := fun h => by
  rcases rl_tri (rl_s x y) with q | q | q
  · exact h1 q
  · rw [rl_s_eq q] at h; exact h2 h
  · rw [rl_s_neg] at q
    exact h2 (by rw [← rl_s_tr y x z]; exact rl_p_add _ _ q h)
theorem rl_le_anti (x y : RL) (h1 : rl_le x y) (h2 : rl_le y x) : x = y := by
  rcases rl_tri (rl_s x y) with q | q | q
  · exact absurd q h1
  · exact rl_s_eq q
  · rw [rl_s_neg] at q; exact absurd q h2
theorem rl_le_total (x y : RL) : rl_le x y ∨ rl_le y x := by
  by_cases q : rl_p (rl_s x y)
  · exact Or.inr (rl_asym q)
  · exact Or.inl q
/-- inverses -/
theorem rl_inv1 {f : Nat → Rat} (hf : rlC f) (hp : rlP f) : ∃ y, rl_mul (rl_mk f hf) y = rl_con 1 := by
  obtain ⟨d, hd, N, hN⟩ := hp
  have hi : ∀ n, N ≤ n → f n * (f n)⁻¹ = 1 ∧ 0 < (f n)⁻¹ ∧ d * (f n)⁻¹ < 1 := fun n hn => by
    have h1 := hN n hn
    have h2 : 0 < f n := by grind
    have h3 := Rat.mul_inv_cancel (f n) (fun q => by rw [q] at h2; exact absurd h2 Rat.lt_irrefl)
    have h4 : 0 < (f n)⁻¹ := Rat.inv_pos.mpr h2
    refine ⟨h3, h4, ?_⟩
    have := Rat.mul_lt_mul_of_pos_right h1 h4
    rw [h3] at this
    exact this
  have hg : rlC (fun n => (f n)⁻¹) := fun e he => by
    obtain ⟨M, hM⟩ := hf (e * (d * d)) (Rat.mul_pos he (Rat.mul_pos hd hd))
    refine ⟨N + M, fun m n hm hn => ?_⟩
    obtain ⟨a1, a2, a3⟩ := hi m (by omega)
    obtain ⟨b1, b2, b3⟩ := hi n (by omega)
    have h1 := hM n m (by omega) (by omega)
    show (f m)⁻¹ - (f n)⁻¹ < e
    generalize (f m)⁻¹ = u at *
    generalize (f n)⁻¹ = v at *
    have e1 : (f n - f m) * (u * v) = u - v := by
      have : (f n - f m) * (u * v) = u * (f n * v) - f m * u * v := by grind
      rw [this, a1, b1]; grind
    have h2 := Rat.mul_lt_mul_of_pos_right h1 (Rat.mul_pos a2 b2)
    rw [e1] at h2
    have c1 := Rat.mul_pos hd a2
    have c2 := Rat.mul_pos hd b2
    have h3 : d * u * (d * v) < 1 := by
      have := Rat.mul_lt_mul_of_pos_right a3 c2
      grind
    have h4 := Rat.mul_lt_mul_of_pos_left h3 he
    have e2 : e * (d * d) * (u * v) = e * (d * u * (d * v)) := by grind
    rw [e2] at h2
    grind
  refine ⟨rl_mk _ hg, rl_eq.mpr (fun e he => ⟨N, fun n hn => ?_⟩)⟩
  obtain ⟨a1, _, _⟩ := hi n hn
  show f n * (f n)⁻¹ - 1 < e ∧ -e < f n * (f n)⁻¹ - 1
  rw [a1]
  constructor <;> grind
theorem rl_inv (x : RL) (hx : x ≠ rl_con 0) : ∃ y, rl_mul x y = rl_con 1 := by
  obtain ⟨f, hf, rfl⟩ := rl_rep x
  rcases rl_tri (rl_mk f hf) with q | q | q
  · exact rl_inv1 hf q
  · exact absurd q hx
  · obtain ⟨y, hy⟩ := rl_inv1 (rlC_neg hf) q
    refine ⟨rl_neg y, ?_⟩
    rw [← hy, ← rl_neg_mk, rl_neg_mul, rl_mul_comm, rl_neg_mul, rl_mul_comm]
/-- halving -/
noncomputable def rl_bs (U : Rat → Prop) (lo hi : Rat) : Nat → Rat × Rat
  | 0 => (lo, hi)
  | n + 1 => @ite _ (U (((rl_bs U lo hi n).1 + (rl_bs U lo hi n).2) / 2)) (Classical.propDecidable _) ((rl_bs U lo hi n).1, ((rl_bs U lo hi n).1 + (rl_bs U lo hi n).2) / 2) (((rl_bs U lo hi n).1 + (rl_bs U lo hi n).2) / 2, (rl_bs U lo hi n).2)
theorem rl_bs_1 {U : Rat → Prop} {lo hi : Rat} (n : Nat) : (U (((rl_bs U lo hi n).1 + (rl_bs U lo hi n).2) / 2) ∧ rl_bs U lo hi (n + 1) = ((rl_bs U lo hi n).1, ((rl_bs U lo hi n).1 + (rl_bs U lo hi n).2) / 2)) ∨ (¬ U (((rl_bs U lo hi n).1 + (rl_bs U lo hi n).2) / 2) ∧ rl_bs U lo hi (n + 1) = (((rl_bs U lo hi n).1 + (rl_bs U lo hi n).2) / 2, (rl_bs U lo hi n).2)) := by
  by_cases h : U (((rl_bs U lo hi n).1 + (rl_bs U lo hi n).2) / 2)
  · exact Or.inl ⟨h, by rw [rl_bs]; exact if_pos h⟩
  · exact Or.inr ⟨h, by rw [rl_bs]; exact if_neg h⟩
theorem rl_bs_U {U : Rat → Prop} {lo hi : Rat} (h1 : ¬ U lo) (h2 : U hi) (n : Nat) : ¬ U (rl_bs U lo hi n).1 ∧ U (rl_bs U lo hi n).2 := by
  induction n with
  | zero => exact ⟨h1, h2⟩
  | succ n ih =>
    rcases rl_bs_1 (U := U) (lo := lo) (hi := hi) n with ⟨a, e⟩ | ⟨a, e⟩
    · rw [e]; exact ⟨ih.1, a⟩
    · rw [e]; exact ⟨a, ih.2⟩
theorem rl_bs_w {U : Rat → Prop} {lo hi : Rat} (h : lo ≤ hi) (n : Nat) : (rl_bs U lo hi n).1 ≤ (rl_bs U lo hi n).2 ∧ ((rl_bs U lo hi n).2 - (rl_bs U lo hi n).1) * ((n : Rat) + 1) ≤ hi - lo := by
  induction n with
  | zero =>
    refine ⟨h, ?_⟩
    show (hi - lo) * (((0 : Nat) : Rat) + 1) ≤ hi - lo
    have e : ((0 : Nat) : Rat) = 0 := rfl
    rw [e]
    grind
  | succ n ih =>
    have hn : (0 : Rat) ≤ (n : Rat) := Rat.natCast_nonneg
    have e1 : ((n + 1 : Nat) : Rat) = (n : Rat) + 1 := Rat.natCast_add n 1
    rw [e1]
    rcases rl_bs_1 (U := U) (lo := lo) (hi := hi) n with ⟨a, e⟩ | ⟨a, e⟩ <;> rw [e] <;> clear e a <;> generalize (rl_bs U lo hi n).1 = x at * <;> generalize (rl_bs U lo hi n).2 = y at *
    · have q := Rat.mul_nonneg (show 0 ≤ y - x by grind) hn
      constructor
      · show x ≤ (x + y) / 2
        grind
      · show ((x + y) / 2 - x) * ((n : Rat) + 1 + 1) ≤ hi - lo
        have : ((x + y) / 2 - x) * ((n : Rat) + 1 + 1) = (y - x) * ((n : Rat) + 1) - (y - x) * (n : Rat) / 2 := by grind
        rw [this]
        grind
    · have q := Rat.mul_nonneg (show 0 ≤ y - x by grind) hn
      constructor
      · show (x + y) / 2 ≤ y
        grind
      · show (y - (x + y) / 2) * ((n : Rat) + 1 + 1) ≤ hi - lo
        have : (y - (x + y) / 2) * ((n : Rat) + 1 + 1) = (y - x) * ((n : Rat) + 1) - (y - x) * (n : Rat) / 2 := by grind
        rw [this]
        grind
theorem rl_bs_m {U : Rat → Prop} {lo hi : Rat} (h : lo ≤ hi) (n k : Nat) : (rl_bs U lo hi n).1 ≤ (rl_bs U lo hi (n + k)).1 ∧ (rl_bs U lo hi (n + k)).2 ≤ (rl_bs U lo hi n).2 := by
  induction k with
  | zero => exact ⟨Rat.le_refl, Rat.le_refl⟩
  | succ k ih =>
    have hw := (rl_bs_w (U := U) h (n + k)).1
    rcases rl_bs_1 (U := U) (lo := lo) (hi := hi) (n + k) with ⟨a, e⟩ | ⟨a, e⟩
    · rw [show n + (k + 1) = n + k + 1 by omega, e]
      exact ⟨ih.1, by show ((rl_bs U lo hi (n + k)).1 + (rl_bs U lo hi (n + k)).2) / 2 ≤ (rl_bs U lo hi n).2; grind⟩
    · rw [show n + (k + 1) = n + k + 1 by omega, e]
      exact ⟨by show (rl_bs U lo hi n).1 ≤ ((rl_bs U lo hi (n + k)).1 + (rl_bs U lo hi (n + k)).2) / 2; grind, ih.2⟩
theorem rq_arch {W e : Rat} (he : 0 < e) : ∃ n : Nat, W < e * ((n : Rat) + 1) := by
  obtain ⟨d, hd⟩ : ∃ d : Rat, e * d = W := ⟨W * e⁻¹, by
    have h := Rat.mul_inv_cancel e (fun q => by rw [q] at he; exact absurd he Rat.lt_irrefl)
    have : e * (W * e⁻¹) = W * (e * e⁻¹) := by grind
    rw [this, h, Rat.mul_one]⟩
  have h1 := Rat.lt_floor_add_one d
  refine ⟨(d.floor + 1).toNat, ?_⟩
  have h2 : ((d.floor + 1 : Int) : Rat) ≤ (((d.floor + 1).toNat : Int) : Rat) := Rat.intCast_le_intCast.mpr (Int.self_le_toNat _)
  rw [Rat.intCast_natCast] at h2
  have h3 := Rat.mul_lt_mul_of_pos_left (show d < ((d.floor + 1).toNat : Rat) + 1 by grind) he
  rw [hd] at h3
  exact h3
theorem rl_bs_s {U : Rat → Prop} {lo hi : Rat} (h : lo ≤ hi) {e : Rat} (he : 0 < e) : ∃ n : Nat, (rl_bs U lo hi n).2 - (rl_bs U lo hi n).1 < e := by
  obtain ⟨n, hn⟩ := rq_arch (W := hi - lo) he
  refine ⟨n, ?_⟩
  have h1 := (rl_bs_w (U := U) h n).2
  have h2 : (0 : Rat) < (n : Rat) + 1 := by have : (0 : Rat) ≤ (n : Rat) := Rat.natCast_nonneg; grind
  exact Rat.lt_of_mul_lt_mul_right (c := (n : Rat) + 1) (by grind) (Rat.le_of_lt h2)
theorem rl_bs_C {U : Rat → Prop} {lo hi : Rat} (h : lo ≤ hi) : rlC (fun n => (rl_bs U lo hi n).2) := fun e he => by
  obtain ⟨N, hN⟩ := rl_bs_s (U := U) h he
  refine ⟨N, fun m n hm hn => ?_⟩
  obtain ⟨k, rfl⟩ := Nat.le.dest hm
  obtain ⟨j, rfl⟩ := Nat.le.dest hn
  have a1 := rl_bs_m (U := U) h N k
  have a2 := rl_bs_m (U := U) h N j
  have a3 := (rl_bs_w (U := U) h (N + j)).1
  show (rl_bs U lo hi (N + k)).2 - (rl_bs U lo hi (N + j)).2 < e
  grind
theorem rl_sup (S : RL → Prop) (h1 : ∃ s, S s) (h2 : ∃ b, ∀ s, S s → rl_le s b) : ∃ m, (∀ s, S s → rl_le s m) ∧ ∀ b, (∀ s, S s → rl_le s b) → rl_le m b := by
  obtain ⟨s0, hs0⟩ := h1
  obtain ⟨b0, hb0⟩ := h2
  obtain ⟨hi, hhi⟩ : ∃ hi : Rat, ∀ s, S s → rl_le s (rl_con hi) := by
    obtain ⟨f, hf, rfl⟩ := rl_rep b0
    obtain ⟨B, hB, N, hN⟩ := rlC_bd hf
    refine ⟨B, fun s hs => rl_le_trans _ _ _ (hb0 s hs) (fun h => ?_)⟩
    have h : rlP (fun n => f n + -B) := h
    obtain ⟨d, hd, M, hM⟩ := h
    have a1 := hN (N + M) (by omega)
    have a2 : d < f (N + M) + -B := hM (N + M) (by omega)
    grind
  obtain ⟨lo, hlo⟩ : ∃ lo : Rat, rl_p (rl_s s0 (rl_con lo)) := by
    obtain ⟨f, hf, rfl⟩ := rl_rep s0
    obtain ⟨B, hB, N, hN⟩ := rlC_bd hf
    have : rlP (fun n => f n + -(-B - 1)) := ⟨1 / 2, by grind, N, fun n hn => by
      have a1 := hN n hn
      show 1 / 2 < f n + -(-B - 1)
      grind⟩
    exact ⟨-B - 1, this⟩
  obtain ⟨U, eU⟩ : ∃ U : Rat → Prop, ∀ q, U q ↔ ∀ s, S s → rl_le s (rl_con q) := ⟨fun q => ∀ s, S s → rl_le s (rl_con q), fun _ => Iff.rfl⟩
  have u1 : ¬ U lo := fun q => (eU lo).mp q s0 hs0 hlo
  have u2 : U hi := (eU hi).mpr hhi
  have hle : lo ≤ hi := by
    rcases Rat.le_total (a := lo) (b := hi) with q | q
    · exact q
    · exfalso
      refine u1 ((eU lo).mpr (fun s hs => rl_le_trans _ _ _ (hhi s hs) (fun h => ?_)))
      have h : rlP (fun _ => hi + -lo) := h
      obtain ⟨d, hd, M, hM⟩ := h
      have : d < hi + -lo := hM M (Nat.le_refl _)
      grind
  refine ⟨rl_mk (fun n => (rl_bs U lo hi n).2) (rl_bs_C (U := U) hle), fun s hs => ?_, fun b hb => ?_⟩
  · obtain ⟨f, hf, rfl⟩ := rl_rep s
    intro h
    have h : rlP (fun n => f n + -(rl_bs U lo hi n).2) := h
    obtain ⟨d, hd, N, hN⟩ := h
    obtain ⟨k, hk⟩ := rl_bs_s (U := U) hle (rq_half hd)
    have hu := (eU _).mp (rl_bs_U u1 u2 k).2 _ hs
    have : rlP (fun n => f n + -(rl_bs U lo hi k).2) := ⟨d / 2, rq_half hd, N + k, fun n hn => by
      have a1 : d < f n + -(rl_bs U lo hi n).2 := hN n (by omega)
      obtain ⟨j, rfl⟩ := Nat.le.dest (show k ≤ n by omega)
      have a2 := rl_bs_m (U := U) hle k j
      have a3 := (rl_bs_w (U := U) hle (k + j)).1
      show d / 2 < f (k + j) + -(rl_bs U lo hi k).2
      grind⟩
    exact hu this
  · obtain ⟨g, hg, rfl⟩ := rl_rep b
    intro h
    have h : rlP (fun n => (rl_bs U lo hi n).2 + -g n) := h
    obtain ⟨d, hd, N, hN⟩ := h
    obtain ⟨k, hk⟩ := rl_bs_s (U := U) hle (rq_half hd)
    refine (rl_bs_U u1 u2 k).1 ((eU _).mpr (fun s hs hp => hb s hs ?_))
    obtain ⟨f, hf, rfl⟩ := rl_rep s
    have hp : rlP (fun n => f n + -(rl_bs U lo hi k).1) := hp
    obtain ⟨d2, hd2, M, hM⟩ := hp
    have : rlP (fun n => f n + -g n) := ⟨d2, hd2, N + M + k, fun n hn => by
      have a0 : d2 < f n + -(rl_bs U lo hi k).1 := hM n (by omega)
      have a1 : d < (rl_bs U lo hi n).2 + -g n := hN n (by omega)
      obtain ⟨j, rfl⟩ := Nat.le.dest (show k ≤ n by omega)
      have a2 := rl_bs_m (U := U) hle k j
      show d2 < f (k + j) + -g (k + j)
      grind⟩
    exact this
theorem rl_exists : ∃ (K : Type) (cr : Lean.Grind.CommRing K) (le : LE K) (lt : LT K) (lo : Std.LawfulOrderLT K) (io : Std.IsLinearOrder K) (od : Lean.Grind.OrderedRing K), (∀ x : K, x ≠ 0 → ∃ y, x * y = 1) ∧ ∀ S : K → Prop, (∃ s, S s) → (∃ b, ∀ s, S s → s ≤ b) → ∃ m, (∀ s, S s → s ≤ m) ∧ ∀ b, (∀ s, S s → s ≤ b) → m ≤ b := by
  letI cr : Lean.Grind.CommRing RL := rl_ring
  letI le : LE RL := ⟨rl_le⟩
  letI lt : LT RL := ⟨rl_lt⟩
  have lo : Std.LawfulOrderLT RL := ⟨fun a b => by
    show rl_p (rl_s b a) ↔ ¬ rl_p (rl_s a b) ∧ ¬ ¬ rl_p (rl_s b a)
    exact ⟨fun h => ⟨rl_asym h, fun q => q h⟩, fun h => Classical.byContradiction h.2⟩⟩
  have i1 : ∀ a : RL, rl_le a a := fun a => by
    show ¬ rl_p (rl_s a a)
    rw [rl_s_self]; exact rl_p_0
  have io : Std.IsLinearOrder RL := { le_refl := i1, le_trans := rl_le_trans, le_antisymm := rl_le_anti, le_total := rl_le_total }
  have o1 : ∀ {a b : RL} (c : RL), rl_le a b ↔ rl_le (rl_add a c) (rl_add b c) := fun {a b} c => by
    show ¬ rl_p (rl_s a b) ↔ ¬ rl_p (rl_s (rl_add a c) (rl_add b c))
    rw [rl_s_add]
  have o2 : rl_lt (rl_con 0) (rl_con 1) := by
    show rl_p (rl_s (rl_con 1) (rl_con 0))
    rw [rl_s_0]; exact rl_p_1
  have o3 : ∀ {a b c : RL}, rl_lt a b → rl_lt (rl_con 0) c → rl_lt (rl_mul c a) (rl_mul c b) := fun {a b c} h hc => by
    show rl_p (rl_s (rl_mul c b) (rl_mul c a))
    have hc : rl_p (rl_s c (rl_con 0)) := hc
    rw [rl_s_0] at hc
    rw [rl_s_mul]; exact rl_p_mul _ _ hc h
  have o4 : ∀ {a b c : RL}, rl_lt a b → rl_lt (rl_con 0) c → rl_lt (rl_mul a c) (rl_mul b c) := fun {a b c} h hc => by
    rw [rl_mul_comm b c, rl_mul_comm a c]; exact o3 h hc
  have od : Lean.Grind.OrderedRing RL := { add_le_left_iff := o1, zero_lt_one := o2, mul_lt_mul_of_pos_left := o3, mul_lt_mul_of_pos_right := o4 }
  exact ⟨RL, cr, le, lt, lo, io, od, rl_inv, rl_sup⟩
