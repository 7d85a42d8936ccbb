/-! products of polynomials of whole numbers: Gauss -/
def cv (g : Nat → Int) : Nat → (Nat → Int) → Nat → Int
  | 0, f, j => f 0 * g j
  | a + 1, f, j => f 0 * g j + (if j = 0 then 0 else cv g a (fun i => f (i + 1)) (j - 1))
theorem cv_s (g : Nat → Int) (a : Nat) (f : Nat → Int) (j : Nat) : cv g (a + 1) f j = f 0 * g j + (if j = 0 then 0 else cv g a (fun i => f (i + 1)) (j - 1)) := rfl
theorem cv_V {K : Type} [Lean.Grind.CommRing K] {g : Nat → Int} {b : Nat} (hg : ∀ j, b < j → g j = 0) (t : K) (a : Nat) : ∀ f : Nat → Int, kV (fun j => iz (cv g a f j)) (a + b) t = kV (fun j => iz (f j)) a t * kV (fun j => iz (g j)) b t := by
  have hpad : ∀ k, kV (fun j => iz (g j)) (b + k) t = kV (fun j => iz (g j)) b t := fun k => by
    induction k with
    | zero => rfl
    | succ k ih => rw [show b + (k + 1) = b + k + 1 by omega, kV_hi (b + k) _ t (by rw [hg _ (by omega), iz_0]), ih]
  induction a with
  | zero =>
    intro f
    rw [Nat.zero_add, kV_z]
    have := kV_lin b (fun j => iz (g j)) (fun j => iz (g j)) (iz (f 0)) 0 t
    rw [kV_cg b (fun j => iz (cv g 0 f j)) (fun j => iz (f 0) * iz (g j) + 0 * iz (g j)) t (fun j _ => by show iz (f 0 * g j) = _; rw [iz_mul]; grind), this]; grind
  | succ a ih =>
    intro f
    have e := kV_lin (a + 1 + b) (fun j => iz (g j)) (fun j => if j = 0 then 0 else iz (cv g a (fun i => f (i + 1)) (j - 1))) (iz (f 0)) 1 t
    rw [kV_cg (a + 1 + b) (fun j => iz (cv g (a + 1) f j)) (fun j => iz (f 0) * iz (g j) + 1 * (if j = 0 then 0 else iz (cv g a (fun i => f (i + 1)) (j - 1)))) t (fun j _ => by
      rw [cv_s, iz_add, iz_mul]
      by_cases z : j = 0
      · rw [if_pos z, if_pos z, iz_0]; grind
      · rw [if_neg z, if_neg z]; grind), e, show a + 1 + b = b + (a + 1) by omega, hpad, show b + (a + 1) = a + b + 1 by omega, kV_s (fun j => if j = 0 then 0 else iz (cv g a (fun i => f (i + 1)) (j - 1))), if_pos rfl, kV_cg (a + b) (fun j => if j + 1 = 0 then 0 else iz (cv g a (fun i => f (i + 1)) (j + 1 - 1))) (fun j => iz (cv g a (fun i => f (i + 1)) j)) t (fun j _ => by rw [if_neg (Nat.succ_ne_zero j), Nat.add_sub_cancel]), ih, kV_s]
    grind
theorem cv_top {g : Nat → Int} {b : Nat} (hg : ∀ j, b < j → g j = 0) (a : Nat) : ∀ f : Nat → Int, cv g a f (a + b) = f a * g b := by
  induction a with
  | zero => intro f; rw [Nat.zero_add]; rfl
  | succ a ih => intro f; rw [cv_s, hg (a + 1 + b) (by omega), if_neg (by omega), show a + 1 + b - 1 = a + b by omega, ih]; grind
theorem cv_mul {g g1 : Nat → Int} {c : Int} (h : ∀ j, g j = c * g1 j) (a : Nat) : ∀ (f : Nat → Int) (j : Nat), cv g a f j = c * cv g1 a f j := by
  induction a with
  | zero => intro f j; show f 0 * g j = c * (f 0 * g1 j); rw [h]; grind
  | succ a ih =>
    intro f j
    rw [cv_s, cv_s, h]
    by_cases z : j = 0
    · rw [if_pos z, if_pos z]; grind
    · rw [if_neg z, if_neg z, ih]; grind
/-- a number above 1 that no product escapes -/
theorem ex_prime (k : Nat) (hk : 1 < k) : ∃ q : Nat, 1 < q ∧ q ∣ k ∧ ∀ x y : Int, (q : Int) ∣ x * y → (q : Int) ∣ x ∨ (q : Int) ∣ y := by
  have hex : ∀ m, (∃ q, q ≤ m ∧ 1 < q ∧ q ∣ k) → ∃ q, 1 < q ∧ q ∣ k ∧ ∀ d, 1 < d → d ∣ k → q ≤ d := fun m => by
    induction m with
    | zero => rintro ⟨q, h1, h2, _⟩; omega
    | succ m ih =>
      rintro ⟨q, h1, h2, h3⟩
      by_cases w : ∃ q, q ≤ m ∧ 1 < q ∧ q ∣ k
      · exact ih w
      · exact ⟨q, h2, h3, fun d d1 d2 => Nat.le_of_not_lt fun w2 => w ⟨d, by omega, d1, d2⟩⟩
  obtain ⟨q, q1, q2, q3⟩ := hex k ⟨k, Nat.le_refl _, hk, Nat.dvd_refl _⟩
  refine ⟨q, q1, q2, fun x y h => ?_⟩
  have h : q ∣ x.natAbs * y.natAbs := by
    rw [← Int.natAbs_mul]
    exact Int.ofNat_dvd_left.mp h
  have g1 : Nat.gcd q x.natAbs ∣ q := Nat.gcd_dvd_left _ _
  have g2 : Nat.gcd q x.natAbs ∣ x.natAbs := Nat.gcd_dvd_right _ _
  by_cases z : Nat.gcd q x.natAbs = 1
  · exact Or.inr (Int.ofNat_dvd_left.mpr (Nat.Coprime.dvd_of_dvd_mul_left z h))
  · have hpos : 0 < Nat.gcd q x.natAbs := Nat.gcd_pos_of_pos_left _ (by omega)
    have hle := q3 (Nat.gcd q x.natAbs) (by omega) (Nat.dvd_trans g1 q2)
    have hle2 := Nat.le_of_dvd (by omega) g1
    have : Nat.gcd q x.natAbs = q := by omega
    rw [this] at g2
    exact Or.inl (Int.ofNat_dvd_left.mpr g2)
theorem cv_lo {g : Nat → Int} {q : Int} {j0 : Nat} (hg : ∀ j, j < j0 → q ∣ g j) (a : Nat) : ∀ (f : Nat → Int) (j : Nat), j < j0 → q ∣ cv g a f j := by
  induction a with
  | zero => intro f j hj; exact Int.dvd_mul_of_dvd_right (hg j hj)
  | succ a ih =>
    intro f j hj
    rw [cv_s]
    refine Int.dvd_add (Int.dvd_mul_of_dvd_right (hg j hj)) ?_
    by_cases z : j = 0
    · rw [if_pos z]; exact Int.dvd_zero _
    · rw [if_neg z]; exact ih _ _ (by omega)
theorem cv_pr {g : Nat → Int} {q : Int} (hq : ∀ x y : Int, q ∣ x * y → q ∣ x ∨ q ∣ y) {b j0 : Nat} (hj0 : j0 ≤ b) (h1 : ∀ j, j < j0 → q ∣ g j) (h2 : ¬ q ∣ g j0) (a : Nat) : ∀ f : Nat → Int, (∀ j, j ≤ a + b → q ∣ cv g a f j) → ∀ i, i ≤ a → q ∣ f i := by
  induction a with
  | zero =>
    intro f h i hi
    obtain rfl : i = 0 := by omega
    exact (hq _ _ (h j0 (by omega))).resolve_right h2
  | succ a ih =>
    intro f h
    have f0 : q ∣ f 0 := by
      have x := h j0 (by omega)
      rw [cv_s] at x
      have y : q ∣ (if j0 = 0 then 0 else cv g a (fun i => f (i + 1)) (j0 - 1)) := by
        by_cases z : j0 = 0
        · rw [if_pos z]; exact Int.dvd_zero _
        · rw [if_neg z]; exact cv_lo h1 a _ _ (by omega)
      exact (hq _ _ ((Int.dvd_iff_dvd_of_dvd_add x).mpr y)).resolve_right h2
    have rest := ih (fun i => f (i + 1)) (fun j hj => by
      have x := h (j + 1) (by omega)
      rw [cv_s, if_neg (Nat.succ_ne_zero j), Nat.add_sub_cancel] at x
      exact (Int.dvd_iff_dvd_of_dvd_add x).mp (Int.dvd_mul_of_dvd_left f0))
    intro i hi
    rcases i with _ | i
    · exact f0
    · exact rest i (by omega)
theorem gcN_gr {f : Nat → Int} {d : Nat} (n : Nat) : (∀ k, k < n → d ∣ (f k).natAbs) → d ∣ gcN f n := by
  induction n with
  | zero => intro _; exact Nat.dvd_zero _
  | succ n ih => intro h; rw [gcN]; exact Nat.dvd_gcd (ih (fun k hk => h k (by omega))) (h n (by omega))
theorem gcN_one {f : Nat → Int} {c : Nat} (h : gcN f c ≠ 0) : gcN (fun k => f k / (gcN f c : Int)) c = 1 := by
  obtain ⟨g, eg⟩ : ∃ g, g = gcN (fun k => f k / (gcN f c : Int)) c := ⟨_, rfl⟩
  have h1 : g * gcN f c ∣ gcN f c := gcN_gr c (fun k hk => by
    have a1 : g ∣ (f k / (gcN f c : Int)).natAbs := by rw [eg]; exact gcN_dvd (f := fun k => f k / (gcN f c : Int)) hk
    have a2 := gcN_q (f := f) hk
    rw [a2, Int.natAbs_mul, Int.natAbs_natCast, Nat.mul_comm]
    exact Nat.mul_dvd_mul_left _ a1)
  have h2 := Nat.le_of_dvd (by omega) h1
  have h3 : g ≠ 0 := fun z => by rw [z, Nat.zero_mul] at h1; exact h (Nat.eq_zero_of_zero_dvd h1)
  rw [← eg]
  rcases Nat.lt_or_ge 1 g with w | w
  · exfalso
    have := Nat.mul_le_mul_right (gcN f c) (show 2 ≤ g by omega)
    omega
  · omega
/-- Gauss -/
theorem gauss {f p : Nat → Int} {a b : Nat} (hf : gcN f (a + 1) = 1) (k : Nat) : ∀ (g : Nat → Int), 0 < k → (∀ j, b < j → g j = 0) → (∀ j, j ≤ a + b → cv g a f j = (k : Int) * p j) → ∃ g' : Nat → Int, (∀ j, g j = (k : Int) * g' j) ∧ (∀ j, b < j → g' j = 0) ∧ ∀ j, j ≤ a + b → cv g' a f j = p j := by
  induction k using Nat.strongRecOn with
  | ind k ih =>
    intro g hk hg h
    by_cases k1 : k = 1
    · subst k1
      exact ⟨g, fun j => by omega, hg, fun j hj => by rw [h j hj]; omega⟩
    · obtain ⟨q, q1, ⟨m, hm⟩, q3⟩ := ex_prime k (by omega)
      have hall : ∀ j, j ≤ b → (q : Int) ∣ g j := Classical.byContradiction fun w => by
        have w : ∃ j, j ≤ b ∧ ¬ (q : Int) ∣ g j := Classical.byContradiction fun w2 => w fun j hj => Classical.byContradiction fun w3 => w2 ⟨j, hj, w3⟩
        have hmin : ∀ c, (∃ j, j ≤ c ∧ j ≤ b ∧ ¬ (q : Int) ∣ g j) → ∃ j0, j0 ≤ b ∧ ¬ (q : Int) ∣ g j0 ∧ ∀ j, j < j0 → (q : Int) ∣ g j := fun c => by
          induction c with
          | zero => rintro ⟨j, h1, h2, h3⟩; exact ⟨j, h2, h3, fun i hi => by omega⟩
          | succ c ihc =>
            rintro ⟨j, h1, h2, h3⟩
            by_cases w3 : ∃ j, j ≤ c ∧ j ≤ b ∧ ¬ (q : Int) ∣ g j
            · exact ihc w3
            · exact ⟨j, h2, h3, fun i hi => Classical.byContradiction fun w4 => w3 ⟨i, by omega, by omega, w4⟩⟩
        obtain ⟨j, hj, hw⟩ := w
        obtain ⟨j0, a1, a2, a3⟩ := hmin b ⟨j, hj, hj, hw⟩
        have hfa := cv_pr (q := (q : Int)) q3 a1 a3 a2 a f (fun j hj => by
          rw [h j hj, hm, Int.natCast_mul, Int.mul_assoc]
          exact Int.dvd_mul_right _ _)
        have := gcN_gr (f := f) (d := q) (a + 1) (fun i hi => Int.ofNat_dvd_left.mp (hfa i (by omega)))
        rw [hf] at this
        have := Nat.le_of_dvd (by decide) this
        omega
      have hall2 : ∀ j, (q : Int) ∣ g j := fun j => by
        by_cases w : j ≤ b
        · exact hall j w
        · rw [hg j (by omega)]; exact Int.dvd_zero _
      obtain ⟨g1, e1⟩ : ∃ g1 : Nat → Int, ∀ j, g j = (q : Int) * g1 j := ⟨fun j => g j / (q : Int), fun j => (Int.mul_ediv_cancel' (hall2 j)).symm⟩
      have hqz : (q : Int) ≠ 0 := by omega
      have hm0 : 0 < m := Nat.pos_of_ne_zero fun z => by rw [z, Nat.mul_zero] at hm; omega
      have hlt : m < k := by
        rw [hm]
        have := Nat.mul_le_mul_right m (show 2 ≤ q by omega)
        omega
      obtain ⟨g', b1, b2, b3⟩ := ih m hlt g1 hm0 (fun j hj => by
        have x := e1 j
        rw [hg j hj] at x
        exact (Int.mul_eq_zero.mp x.symm).resolve_left hqz) (fun j hj => by
        have x := h j hj
        rw [cv_mul e1 a f j, hm, Int.natCast_mul, Int.mul_assoc] at x
        exact Int.eq_of_mul_eq_mul_left hqz x)
      exact ⟨g', fun j => by rw [e1, b1, hm, Int.natCast_mul, Int.mul_assoc], b2, b3⟩
/-- the rows of the reference are without common factors -/
def prm (f : Nat → Int) (c : Nat) : Prop := c = 0 ∨ gcN f c = 1
theorem st_prm (f : Nat → Int) (c : Nat) (g : Nat → Int) (d : Nat) : prm (stF f c g d) (stC f c g d) := by
  by_cases z : stC f c g d = 0
  · exact Or.inl z
  · have h1 := (dgt_ne (f := lwF f c g d) c).resolve_left z
    exact Or.inr (gcN_one (f := lwF f c g d) (c := stC f c g d) (gcN_ne (k := stC f c g d - 1) (by omega) h1))
theorem in_prm {g : Nat → Int} {d : Nat} (n : Nat) : ∀ (f : Nat → Int) (c : Nat), prm f c → prm (inR g d n f c).1 (inR g d n f c).2 := by
  induction n with
  | zero => intro f c h; exact h
  | succ n ih =>
    intro f c h
    rw [inR]
    by_cases q : c < d
    · rw [if_pos q]; exact h
    · rw [if_neg q]; exact ih _ _ (st_prm f c g d)
theorem ou_prm (n : Nat) : ∀ (f : Nat → Int) (c : Nat) (g : Nat → Int) (d : Nat), prm f c → prm g d → prm (ouR n f c g d).1.1 (ouR n f c g d).1.2 := by
  induction n with
  | zero => intro f c g d h1 _; exact h1
  | succ n ih =>
    intro f c g d h1 h2
    rw [ouR]
    by_cases q : d ≤ 1
    · rw [if_pos q]; exact h1
    · rw [if_neg q]; exact ih g d _ _ h2 (in_prm (c + 1) f c h1)
theorem gcN_neg {f : Nat → Int} (n : Nat) : gcN (fun k => -f k) n = gcN f n := by
  induction n with
  | zero => rfl
  | succ n ih => rw [gcN, gcN, ih, Int.natAbs_neg]
theorem cm_prm {p : Nat → Int} {n : Nat} (h1 : 1 ≤ n) (hp : p n = 1) (hc : 1 ≤ cmC p n) : gcN (cmF p n) (cmC p n) = 1 := by
  have hdn : dF p (n - 1) ≠ 0 := by
    show (((n - 1 : Nat) : Int) + 1) * p (n - 1 + 1) ≠ 0
    rw [show n - 1 + 1 = n by omega, hp]; omega
  have a1 : prm p (n + 1) := Or.inr (by
    have := gcN_dvd (f := p) (n := n + 1) (k := n) (by omega)
    rw [hp] at this
    exact Nat.eq_one_of_dvd_one this)
  have a2 : prm (sF (dF p) n) n := Or.inr (gcN_one (gcN_ne (k := n - 1) (by omega) hdn))
  have a3 : prm (prs p n).1.1 (prs p n).1.2 := ou_prm 7 p (n + 1) (sF (dF p) n) n a1 a2
  have base : gcN (cm0 p n) (cmC p n) = 1 := by
    by_cases z : (prs p n).2.2 = 1
    · rw [show cmC p n = 1 by rw [cmC, if_pos z], show cm0 p n = fun _ => 1 by rw [cm0, if_pos z]]; rfl
    · have e1 : cmC p n = (prs p n).1.2 := by rw [cmC, if_neg z]
      have e2 : cm0 p n = (prs p n).1.1 := by rw [cm0, if_neg z]
      rw [e1] at hc ⊢
      rw [e2]
      exact a3.resolve_left (by omega)
  rw [cmF]
  split
  · rw [gcN_neg]; exact base
  · exact base
