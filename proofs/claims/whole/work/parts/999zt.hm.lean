/-! how many are the same: the desk's way -/
theorem sep_rep {K : Type} [Lean.Grind.CommRing K] [LE K] [LT K] [Std.LawfulOrderLT K] [Std.IsLinearOrder K] [Lean.Grind.OrderedRing K] {n r : Nat} (h1 : 1 ≤ n) (h6 : n ≤ 6) {l ρ γ : Nat → K} {N : K → K} {s M q1 : Nat → Int} {B : Int} (hB : 0 ≤ B) (hB6 : B ≤ 6000000) (hkin : ∀ i, i < n → kin B (l i)) (h : pws n l s) (hg : gmn n l r ρ γ N) (hp : ∀ k, k ≤ r → 0 < hD (hA s) k) (hM : ∀ j, j ≤ r → iz (M j) = kP ρ r j) (hq1 : ∀ j, j ≤ n - r → iz (q1 j) = kP γ (n - r) j) {b j : Nat} (hb : b < r) (hj : j < n - r) (e : γ j = ρ b) : ∀ c, c < r → c ≠ b → 1 ≤ iz (2 ^ 72) * (ρ c - ρ b) ∨ 1 ≤ iz (2 ^ 72) * (ρ b - ρ c) := fun c hc hcb => by
  have hg' := hg
  obtain ⟨g1, g2, g3, g4, g5, g6, g7, g8, g9, g10, g11, g12, g13, g14, g15⟩ := hg
  have hne : ∀ s c, s < r → c < r → s ≠ c → ρ s ≠ ρ c := fun s c hs hc hsc => by
    rcases Nat.lt_or_gt_of_ne hsc with w | w
    · have := k_str g2 s (c - s - 1) (by omega)
      rw [show s + (c - s - 1 + 1) = c by omega] at this
      grind
    · have := k_str g2 c (s - c - 1) (by omega)
      rw [show c + (s - c - 1 + 1) = s by omega] at this
      grind
  have hρ : ∀ s, s < r → kin B (ρ s) := fun s hs => by
    obtain ⟨i, hi, e⟩ := g13 s hs
    rw [e]; exact hkin i hi
  have fin : (1 : K) ≤ iz (2 ^ 72) * (ρ b - ρ c) ∨ 1 ≤ iz (2 ^ 72) * (ρ c - ρ b) := by
    by_cases r3 : r ≤ 3
    · have d := sep_D h1 h6 hB hkin h hg' hp hc hb hcb
      exact sep_of d (Int.le_trans (num_c hB hB6 r) (num_b r (by omega)))
    · have k0 : kP γ 1 0 = -γ 0 := by
        show (if (0 : Nat) = 0 then (0 : K) else _) - γ 0 * kP γ 0 0 = -γ 0
        rw [if_pos rfl, kP_t]; grind
      by_cases d1 : n - r = 1
      · rw [d1] at hq1 hj
        have e0 := hq1 0 (by omega)
        rw [k0] at e0
        refine sep_z (by omega) hB hB6 hρ hne hM hc hb hcb (z := -q1 0) ?_
        rw [← e, show j = 0 by omega, iz_neg, e0]; grind
      · have d2 : n - r = 2 := by omega
        obtain rfl : r = 4 := by omega
        rw [d2] at hq1 hj g14
        have e0 := hq1 0 (by omega)
        have e1 := hq1 1 (by omega)
        have k20 : kP γ 2 0 = γ 1 * γ 0 := by
          rw [kP_s, if_pos rfl, k0]; grind
        have k21 : kP γ 2 1 = -γ 0 - γ 1 := by
          rw [kP_p, k0, kP_t]; grind
        rw [k20] at e0
        rw [k21] at e1
        by_cases w : γ 0 = γ 1
        · have ej : γ j = γ 0 := by
            rcases (by omega : j = 0 ∨ j = 1) with z | z
            · rw [z]
            · rw [z, w]
          have sq : q1 1 * q1 1 = 4 * q1 0 := iz_inj (K := K) (by
            rw [iz_mul, iz_mul, e0, e1, ← w, show (4 : Int) = 1 + 1 + 1 + 1 from rfl, iz_add, iz_add, iz_add, iz_1]; grind)
          have ev : ∃ z, q1 1 = 2 * z := by
            rcases Int.emod_two_eq (q1 1) with z | z
            · exact ⟨q1 1 / 2, by omega⟩
            · exfalso
              obtain ⟨k, hk⟩ : ∃ k, q1 1 = 2 * k + 1 := ⟨q1 1 / 2, by omega⟩
              rw [hk] at sq
              have : (2 * k + 1) * (2 * k + 1) = 4 * (k * k + k) + 1 := by grind
              omega
          obtain ⟨z, hz⟩ := ev
          refine sep_z (by omega) hB hB6 hρ hne hM hc hb hcb (z := -z) ?_
          rw [hz, show (2 : Int) * z = z + z by omega, iz_add, ← w] at e1
          rw [← e, ej, iz_neg]
          refine Classical.byContradiction fun q => k_nz (x := (iz 2 : K)) (y := γ 0 - -iz z) (iz_ne (by decide)) (fun y => q (by grind)) ?_
          rw [show (2 : Int) = 1 + 1 from rfl, iz_add, iz_1]; grind
        · obtain ⟨j2, hj2, ej2⟩ : ∃ j2, j2 < 2 ∧ j2 ≠ j := by
            rcases (by omega : j = 0 ∨ j = 1) with z | z
            · exact ⟨1, by omega, by omega⟩
            · exact ⟨0, by omega, by omega⟩
          obtain ⟨i2, hi2, x1⟩ := g14 j2 hj2
          obtain ⟨c2, hc2, x2⟩ := g12 i2 hi2
          have hcb2 : c2 ≠ b := fun z => w (by
            have : γ j2 = γ j := by rw [x1, x2, z, e]
            rcases (by omega : j = 0 ∨ j = 1) with y | y
            · rw [show j2 = 1 by omega, y] at this; exact this.symm
            · rw [show j2 = 0 by omega, y] at this; exact this)
          have s0 : (iz (q1 0) : K) = ρ b * ρ c2 := by
            rw [e0, ← e, ← x2, ← x1]
            rcases (by omega : j = 0 ∨ j = 1) with y | y
            · rw [show j2 = 1 by omega, y]; grind
            · rw [show j2 = 0 by omega, y]
          have s1 : (iz (q1 1) : K) = -(ρ b + ρ c2) := by
            rw [e1, ← e, ← x2, ← x1]
            rcases (by omega : j = 0 ∨ j = 1) with y | y
            · rw [show j2 = 1 by omega, y]; grind
            · rw [show j2 = 0 by omega, y]; grind
          exact sep_22 hB hB6 hρ hne hM hc hb hc2 hcb hcb2 s0 s1
  exact fin.symm
/-- the counts of a moved polynomial -/
theorem hm_L {K : Type} [Lean.Grind.CommRing K] [LE K] [LT K] [Std.LawfulOrderLT K] [Std.IsLinearOrder K] [Lean.Grind.OrderedRing K] {d : Nat} {v : Nat → K} (hs : ∀ i, i + 1 < d → v i ≤ v (i + 1)) {b x : Int} (hb : 0 < b) {q : Nat → Int} (hq : ∀ j, j ≤ d → iz (q j) = kP (fun i => iz b * v i - iz x) d j) : lessI q d = nI (kL (fun i => iz b * v i) (iz x) d) := by
  rw [(k_less (fun i hi => by
    have := Lean.Grind.OrderedRing.mul_le_mul_of_nonneg_left (hs i hi) (Std.le_of_lt (iz_pos (K := K) hb))
    grind) hq).1]
  congr 1
  exact kN_cg (fun i _ => dcc ⟨fun w => by grind, fun w => by grind⟩)
theorem hm_low {K : Type} [Lean.Grind.CommRing K] [LE K] [LT K] [Std.LawfulOrderLT K] [Std.IsLinearOrder K] [Lean.Grind.OrderedRing K] {d : Nat} {v : Nat → K} {b x : Int} {q : Nat → Int} (hq : ∀ j, j ≤ d → iz (q j) = kP (fun i => iz b * v i - iz x) d j) : ∀ j, j ≤ d → iz (low 1 d q d j) = kP (fun i => iz b * v i - iz (x + 1)) d j := fun j hj => by
  rw [kP_low hq 1 j hj]
  exact kP_cg d (fun i _ => by rw [iz_add]; grind) j
theorem hm_mul {K : Type} [Lean.Grind.CommRing K] [LE K] [LT K] [Std.LawfulOrderLT K] [Std.IsLinearOrder K] [Lean.Grind.OrderedRing K] {d : Nat} {v : Nat → K} {b x : Int} {q : Nat → Int} (hq : ∀ j, j ≤ d → iz (q j) = kP (fun i => iz b * v i - iz x) d j) : ∀ j, j ≤ d → iz (mulp 2 d q d j) = kP (fun i => iz (b + b) * v i - iz (x + x)) d j := fun j hj => by
  have e2 : (iz 2 : K) = 2 := by rw [show (2 : Int) = 1 + 1 from rfl, iz_add, iz_1]; grind
  rw [kP_cg d (m' := fun i => iz 2 * (iz b * v i - iz x)) (fun i _ => by rw [iz_add, iz_add, e2]; grind) j, kP_mul (fun i => iz b * v i - iz x) 2 d j hj, ← hq j hj, ← iz_mul]
  congr 1
  simp only [mulp]
  split
  · rfl
  · rw [show d - j = 0 by omega, Int.pow_zero, Int.mul_one]
theorem hm_R {K : Type} [Lean.Grind.CommRing K] [LE K] [LT K] [Std.LawfulOrderLT K] [Std.IsLinearOrder K] [Lean.Grind.OrderedRing K] {d : Nat} {v : Nat → K} (hs : ∀ i, i + 1 < d → v i ≤ v (i + 1)) {b x : Int} (hb : 0 < b) {q : Nat → Int} (hq : ∀ j, j ≤ d → iz (q j) = kP (fun i => iz b * v i - iz x) d j) : hmR d q = nI (kC v b x d) := by
  rw [hmR, hm_L hs hb hq, hm_L hs hb (hm_low hq), kC_L, ← nI_add]; grind
/-- the next half -/
theorem hm_N {K : Type} [Lean.Grind.CommRing K] [LE K] [LT K] [Std.LawfulOrderLT K] [Std.IsLinearOrder K] [Lean.Grind.OrderedRing K] {n dr : Nat} (h6 : n ≤ 6) {l γ : Nat → K} (hs : ∀ i, i + 1 < n → l i ≤ l (i + 1)) {b x : Int} (hb : 0 < b) {q rr : Nat → Int} (hq : ∀ j, j ≤ n → iz (q j) = kP (fun i => iz b * l i - iz x) n j) (hr : ∀ j, j ≤ dr → iz (rr j) = kP (fun i => iz b * γ i - iz x) dr j) {i : Nat} (hi : i < n) (hc : cel b x (l i)) : ∃ x' : Int, cel (b + b) x' (l i) ∧ (∀ j, j ≤ n → iz ((hmN n dr (nI i) q rr).1 j) = kP (fun i => iz (b + b) * l i - iz x') n j) ∧ ∀ j, j ≤ dr → iz ((hmN n dr (nI i) q rr).2 j) = kP (fun i => iz (b + b) * γ i - iz x') dr j := by
  obtain ⟨c1, c2⟩ := hc
  have e0 : (iz (b + b) : K) * l i = iz b * l i + iz b * l i := by rw [iz_add]; grind
  have e1 : (iz (x + 1) : K) = iz x + 1 := by rw [iz_add, iz_1]
  rw [e1] at c2
  have key : nI i < lessI (low 1 n (mulp 2 n q n) n) n ↔ iz (b + b) * l i < iz (x + x + 1) := by
    rw [hm_L hs (show 0 < b + b by omega) (hm_low (hm_mul hq)), nI_ltI (by omega) (by have := kL_n1 (fun i => iz (b + b) * l i) (iz (x + x + 1)) n; omega)]
    have := kL_iff (w := fun i => iz (b + b) * l i) (fun i hi => Lean.Grind.OrderedRing.mul_le_mul_of_nonneg_left (hs i hi) (Std.le_of_lt (iz_pos (by omega)))) hi (iz (x + x + 1))
    constructor
    · intro w
      exact Classical.byContradiction fun z => by have := this.mpr z; omega
    · intro w
      exact Nat.lt_of_not_le fun z => this.mp z w
  have e2 : (iz (x + x + 1) : K) = iz x + iz x + 1 := by rw [iz_add, iz_add, iz_1]
  have e3 : (iz (x + x + 1 + 1) : K) = iz x + iz x + 1 + 1 := by rw [iz_add, iz_add, iz_add, iz_1]
  have e4 : (iz (x + x) : K) = iz x + iz x := iz_add _ _
  rw [hmN]
  by_cases w : nI i < lessI (low 1 n (mulp 2 n q n) n) n
  · rw [if_pos w]
    have t := key.mp w
    rw [e0, e2] at t
    refine ⟨x + x, ⟨by rw [e0, e4]; grind, by rw [e0, e2]; grind⟩, hm_mul hq, hm_mul hr⟩
  · rw [if_neg w]
    have t : ¬ iz (b + b) * l i < iz (x + x + 1) := fun z => w (key.mpr z)
    rw [e0, e2] at t
    refine ⟨x + x + 1, ⟨by rw [e0, e2]; grind, by rw [e0, e3]; grind⟩, hm_low (hm_mul hq), hm_low (hm_mul hr)⟩
theorem kQ_one {K : Type} [Lean.Grind.CommRing K] [LE K] [LT K] [Std.LawfulOrderLT K] [Std.IsLinearOrder K] [Lean.Grind.OrderedRing K] {r : Nat} {ρ : Nat → K} (h : ∀ s c, s < r → c < r → s ≠ c → ρ s ≠ ρ c) {a : Nat} (ha : a < r) : kQ ρ (ρ a) r = 1 := by
  have e := kN_off (J := fun i => @decide (ρ i = ρ a) (Classical.propDecidable _)) ha (dct rfl)
  have z : kN (fun i => (@decide (ρ i = ρ a) (Classical.propDecidable _)) && (i != a)) r = 0 := by
    refine Nat.eq_zero_of_not_pos fun w => ?_
    obtain ⟨j, hj, hJ⟩ := kN_ex w
    have hJ : (@decide (ρ j = ρ a) (Classical.propDecidable _) && (j != a)) = true := hJ
    rw [Bool.and_eq_true] at hJ
    have c1 : ρ j = ρ a := dco hJ.1
    have c2 : j ≠ a := by simpa using hJ.2
    exact h j a hj ha c2 c1
  have e2 : kN (fun i => @decide (ρ i = ρ a) (Classical.propDecidable _)) r = kQ ρ (ρ a) r := rfl
  omega
theorem k_hm {K : Type} [Lean.Grind.CommRing K] [LE K] [LT K] [Std.LawfulOrderLT K] [Std.IsLinearOrder K] [Lean.Grind.OrderedRing K] (hinv : ∀ x : K, x ≠ 0 → ∃ y, x * y = 1) {n r : Nat} (h6 : n ≤ 6) {l ρ γ : Nat → K} {N : K → K} (hg : gmn n l r ρ γ N) (hs : asc n l) (hsep : ∀ a j, a < r → j < n - r → γ j = ρ a → ∀ c, c < r → c ≠ a → 1 ≤ iz (2 ^ 72) * (ρ c - ρ a) ∨ 1 ≤ iz (2 ^ 72) * (ρ a - ρ c)) {i : Nat} (hi : i < n) (f : Nat) : ∀ (k : Nat) (x : Int) (q rr : Nat → Int), k + f = 72 → cel (2 ^ k) x (l i) → (∀ j, j ≤ n → iz (q j) = kP (fun i => iz (2 ^ k) * l i - iz x) n j) → (∀ j, j ≤ n - r → iz (rr j) = kP (fun i => iz (2 ^ k) * γ i - iz x) (n - r) j) → hmS n (n - r) (nI i) (f + 1) q rr = nI (kQ l (l i) n) := by
  have hg' := hg
  obtain ⟨g1, g2, g3, g4, g5, g6, g7, g8, g9, g10, g11, g12, g13, g14, g15⟩ := hg
  have hne : ∀ s c, s < r → c < r → s ≠ c → ρ s ≠ ρ c := fun s c hs hc hsc => by
    rcases Nat.lt_or_gt_of_ne hsc with w | w
    · have := k_str g2 s (c - s - 1) (by omega)
      rw [show s + (c - s - 1 + 1) = c by omega] at this
      grind
    · have := k_str g2 c (s - c - 1) (by omega)
      rw [show c + (s - c - 1 + 1) = s by omega] at this
      grind
  obtain ⟨a, ha, ea⟩ := g12 i hi
  have hq1 : kQ ρ (l i) r = 1 := by rw [ea]; exact kQ_one hne ha
  have hCle : ∀ (v : Nat → K) (b x : Int) d, kC v b x d ≤ d := fun v b x d => by
    induction d with
    | zero => exact Nat.le_refl _
    | succ d ih =>
      have e : kC v b x (d + 1) = kC v b x d + (if @decide (cel b x (v d)) (Classical.propDecidable _) = true then 1 else 0) := rfl
      rw [e]; split <;> omega
  induction f with
  | zero =>
    intro k x q rr hk hc hq hr
    obtain rfl : k = 72 := by omega
    have hb : (0 : Int) < 2 ^ 72 := Int.pow_pos (by decide)
    have c3 := kC_s hinv hg' hb x
    have r1 := hm_R hs hb hq
    have r2 := hm_R g3 hb hr
    have l1 := hCle l (2 ^ 72) x n
    obtain ⟨k1, k2⟩ := kC_1 hg' hi hc
    rw [hmS, r1, r2]
    by_cases z : nI (kC γ (2 ^ 72) x (n - r)) = 0
    · rw [if_pos z]
      have z0 : kC γ (2 ^ 72) x (n - r) = 0 := (nI_eq (by omega) (by decide)).mp (z.trans (show (0 : Int32) = nI 0 from rfl))
      have : kQ γ (l i) (n - r) = 0 := Nat.eq_zero_of_not_pos fun w => by
        obtain ⟨j, hj, hJ⟩ := kN_ex w
        have e : γ j = l i := dco hJ
        have := kN_pos (J := fun j => @decide (cel (2 ^ 72) x (γ j)) (Classical.propDecidable _)) hj (dct (by rw [e]; exact hc))
        have e2 : kN (fun j => @decide (cel (2 ^ 72) x (γ j)) (Classical.propDecidable _)) (n - r) = kC γ (2 ^ 72) x (n - r) := rfl
        omega
      rw [g9, this, hq1]
    · rw [if_neg z, nI_sb (by omega)]
      by_cases y : nI (kC l (2 ^ 72) x n - kC γ (2 ^ 72) x (n - r)) = nI 1
      · rw [if_pos y]
        rw [nI_eq (by omega) (by decide)] at y
        rw [k2 (by omega)]
      · rw [if_neg y]
        show nI 1 = _
        have : kQ γ (l i) (n - r) = 0 := Nat.eq_zero_of_not_pos fun w => by
          obtain ⟨j, hj, hJ⟩ := kN_ex w
          have e : γ j = l i := dco hJ
          have h1 := kC_sep (b := 2 ^ 72) (x := x) ha (by rw [← ea]; exact hc) (hsep a j ha hj (e.trans ea))
          exact y (by rw [show kC l (2 ^ 72) x n - kC γ (2 ^ 72) x (n - r) = 1 by omega])
        rw [g9, this, hq1]
  | succ f ih =>
    intro k x q rr hk hc hq hr
    have hb : (0 : Int) < 2 ^ k := Int.pow_pos (by decide)
    have c3 := kC_s hinv hg' hb x
    have r1 := hm_R hs hb hq
    have r2 := hm_R g3 hb hr
    have l1 := hCle l (2 ^ k) x n
    obtain ⟨k1, k2⟩ := kC_1 hg' hi hc
    rw [hmS, r1, r2]
    by_cases z : nI (kC γ (2 ^ k) x (n - r)) = 0
    · rw [if_pos z]
      have z0 : kC γ (2 ^ k) x (n - r) = 0 := (nI_eq (by omega) (by decide)).mp (z.trans (show (0 : Int32) = nI 0 from rfl))
      have : kQ γ (l i) (n - r) = 0 := Nat.eq_zero_of_not_pos fun w => by
        obtain ⟨j, hj, hJ⟩ := kN_ex w
        have e : γ j = l i := dco hJ
        have := kN_pos (J := fun j => @decide (cel (2 ^ k) x (γ j)) (Classical.propDecidable _)) hj (dct (by rw [e]; exact hc))
        have e2 : kN (fun j => @decide (cel (2 ^ k) x (γ j)) (Classical.propDecidable _)) (n - r) = kC γ (2 ^ k) x (n - r) := rfl
        omega
      rw [g9, this, hq1]
    · rw [if_neg z, nI_sb (by omega)]
      by_cases y : nI (kC l (2 ^ k) x n - kC γ (2 ^ k) x (n - r)) = nI 1
      · rw [if_pos y]
        rw [nI_eq (by omega) (by decide)] at y
        rw [k2 (by omega)]
      · rw [if_neg y]
        obtain ⟨x', c', q', r'⟩ := hm_N h6 hs hb hq hr hi hc
        rw [show (2 : Int) ^ k + 2 ^ k = 2 ^ (k + 1) by rw [Int.pow_succ]; omega] at c' q' r'
        exact ih (k + 1) x' _ _ (by omega) c' q' r'
/-- and its sizes -/
theorem sz20 {K : Type} [Lean.Grind.CommRing K] [LE K] [LT K] [Std.LawfulOrderLT K] [Std.IsLinearOrder K] [Lean.Grind.OrderedRing K] {d : Nat} (h6 : d ≤ 6) {w : Nat → K} {c : Int} (hc : 0 ≤ c) (hc2 : c < 2 ^ 97) (hw : ∀ i, i < d → kin c (w i)) {q : Nat → Int} (hq : ∀ j, j ≤ d → iz (q j) = kP w d j) : pl_sz d 20 q :=
  pl_of h6 hc (show 0 < 97 by decide) hc2 (by have := Nat.mul_le_mul_right 97 h6; omega) (q_bd hc (fun i hi => by obtain ⟨a, b⟩ := hw i hi; rw [iz_neg]; exact ⟨b, a⟩) hq)
theorem hm_in {K : Type} [Lean.Grind.CommRing K] [LE K] [LT K] [Std.LawfulOrderLT K] [Std.IsLinearOrder K] [Lean.Grind.OrderedRing K] {B b x : Int} (hB : 0 ≤ B) (hb : 0 < b) {y z : K} (hy : kin B y) (hz : kin B z) (hc : cel b x z) : kin (b * B + b * B + 1) (iz b * y - iz x) := by
  have hbk : kin b (iz b : K) := ⟨Std.le_refl _, by have := iz_pos (K := K) hb; grind⟩
  obtain ⟨a1, a2⟩ := kin_mul hbk hy
  obtain ⟨b1, b2⟩ := kin_mul hbk hz
  obtain ⟨c1, c2⟩ := hc
  have e1 : (iz (x + 1) : K) = iz x + 1 := by rw [iz_add, iz_1]
  have e2 : (iz (b * B + b * B + 1) : K) = iz (b * B) + iz (b * B) + 1 := by rw [iz_add, iz_add, iz_1]
  rw [e1] at c2
  constructor <;> rw [e2] <;> grind
theorem k_hmZ {K : Type} [Lean.Grind.CommRing K] [LE K] [LT K] [Std.LawfulOrderLT K] [Std.IsLinearOrder K] [Lean.Grind.OrderedRing K] {n dr : Nat} (h6 : n ≤ 6) (hdr : dr ≤ 6) {l γ : Nat → K} {B : Int} (hB : 0 ≤ B) (hB6 : B ≤ 6000000) (hl : ∀ i, i < n → kin B (l i)) (hγ : ∀ i, i < dr → kin B (γ i)) (hs : ∀ i, i + 1 < n → l i ≤ l (i + 1)) {i : Nat} (hi : i < n) (f : Nat) : ∀ (k : Nat) (x : Int) (q rr : Nat → Int), k + f ≤ 73 → cel (2 ^ k) x (l i) → (∀ j, j ≤ n → iz (q j) = kP (fun i => iz (2 ^ k) * l i - iz x) n j) → (∀ j, j ≤ dr → iz (rr j) = kP (fun i => iz (2 ^ k) * γ i - iz x) dr j) → hmZ n dr (nI i) f q rr := by
  induction f with
  | zero => intro k x q rr _ _ _ _; trivial
  | succ f ih =>
    intro k x q rr hk hc hq hr
    have hb : (0 : Int) < 2 ^ k := Int.pow_pos (by decide)
    have hb72 : (2 : Int) ^ k ≤ 2 ^ 72 := p2_le (by omega)
    have hbB : (2 : Int) ^ k * B ≤ 2 ^ 72 * 6000000 := Int.mul_le_mul hb72 hB6 hB (Int.le_of_lt (Int.pow_pos (by decide)))
    have hbB0 := Int.mul_nonneg (Int.le_of_lt hb) hB
    have e97 : (2 : Int) ^ 97 = 158456325028528675187087900672 := by decide
    have e72 : (2 : Int) ^ 72 = 4722366482869645213696 := by decide
    have k1 : ∀ (v : Nat → K) (d j : Nat), (∀ i, i < d → kin B (v i)) → j < d → kin (2 ^ k * B + 2 ^ k * B + 1) (iz (2 ^ k) * v j - iz x) := fun v d j hv hj => hm_in hB hb (hv j hj) (hl i hi) hc
    have one : kin 1 (-1 : K) := by
      have h01 : (0 : K) < 1 := Lean.Grind.OrderedRing.zero_lt_one
      exact ⟨by rw [iz_1]; grind, by rw [iz_1]; grind⟩
    have k2 : ∀ (v : Nat → K) (d j : Nat), (∀ i, i < d → kin B (v i)) → j < d → kin (2 ^ k * B + 2 ^ k * B + 1 + 1) (iz (2 ^ k) * v j - iz (x + 1)) := fun v d j hv hj => by
      have := kin_add (k1 v d j hv hj) one
      rw [show iz (2 ^ k) * v j - iz (x + 1) = iz (2 ^ k) * v j - iz x + -1 by rw [iz_add, iz_1]; grind]
      exact this
    have k3 : ∀ (v : Nat → K) (d j : Nat), (∀ i, i < d → kin B (v i)) → j < d → kin (2 ^ k * B + 2 ^ k * B + 1 + (2 ^ k * B + 2 ^ k * B + 1)) (iz (2 ^ k + 2 ^ k) * v j - iz (x + x)) := fun v d j hv hj => by
      have := kin_add (k1 v d j hv hj) (k1 v d j hv hj)
      rw [show iz (2 ^ k + 2 ^ k) * v j - iz (x + x) = iz (2 ^ k) * v j - iz x + (iz (2 ^ k) * v j - iz x) by rw [iz_add, iz_add]; grind]
      exact this
    have k4 : ∀ (v : Nat → K) (d j : Nat), (∀ i, i < d → kin B (v i)) → j < d → kin (2 ^ k * B + 2 ^ k * B + 1 + (2 ^ k * B + 2 ^ k * B + 1) + 1) (iz (2 ^ k + 2 ^ k) * v j - iz (x + x + 1)) := fun v d j hv hj => by
      have := kin_add (k3 v d j hv hj) one
      rw [show iz (2 ^ k + 2 ^ k) * v j - iz (x + x + 1) = iz (2 ^ k + 2 ^ k) * v j - iz (x + x) + -1 by rw [iz_add (x + x), iz_1]; grind]
      exact this
    refine ⟨⟨sz20 h6 (by omega) (by omega) (fun j hj => k1 l n j hl hj) hq, sz20 h6 (by omega) (by omega) (fun j hj => k2 l n j hl hj) (hm_low hq), sz20 hdr (by omega) (by omega) (fun j hj => k1 γ dr j hγ hj) hr, sz20 hdr (by omega) (by omega) (fun j hj => k2 γ dr j hγ hj) (hm_low hr), sz20 h6 (by omega) (by omega) (fun j hj => k3 l n j hl hj) (hm_mul hq), sz20 h6 (by omega) (by omega) (fun j hj => k4 l n j hl hj) (hm_low (hm_mul hq))⟩, ?_⟩
    obtain ⟨x', c', q', r'⟩ := hm_N h6 hs hb hq hr hi hc
    rw [show (2 : Int) ^ k + 2 ^ k = 2 ^ (k + 1) by rw [Int.pow_succ]; omega] at c' q' r'
    exact ih (k + 1) x' _ _ (by omega) c' q' r'
