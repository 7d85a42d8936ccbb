/-! what lies in a cell -/
def cel {K : Type} [Lean.Grind.CommRing K] [LE K] [LT K] [Std.LawfulOrderLT K] [Std.IsLinearOrder K] [Lean.Grind.OrderedRing K] (b x : Int) (y : K) : Prop := iz x ≤ iz b * y ∧ iz b * y < iz (x + 1)
noncomputable def kC {K : Type} [Lean.Grind.CommRing K] [LE K] [LT K] [Std.LawfulOrderLT K] [Std.IsLinearOrder K] [Lean.Grind.OrderedRing K] (v : Nat → K) (b x : Int) (d : Nat) : Nat := kN (fun j => @decide (cel b x (v j)) (Classical.propDecidable _)) d
theorem kC_L {K : Type} [Lean.Grind.CommRing K] [LE K] [LT K] [Std.LawfulOrderLT K] [Std.IsLinearOrder K] [Lean.Grind.OrderedRing K] (v : Nat → K) (b x : Int) (d : Nat) : kL (fun i => iz b * v i) (iz (x + 1)) d = kL (fun i => iz b * v i) (iz x) d + kC v b x d := by
  have h0 : (iz x : K) < iz (x + 1) := iz_lt.mpr (by omega)
  induction d with
  | zero => rfl
  | succ d ih =>
    have cy : cel b x (v d) → kC v b x (d + 1) = kC v b x d + 1 := fun w => kN_y (dct w)
    have cn : ¬ cel b x (v d) → kC v b x (d + 1) = kC v b x d := fun w => kN_n (dcf w)
    by_cases a : iz b * v d < iz x
    · rw [kL_y (v := fun i => iz b * v i) (show iz b * v d < iz (x + 1) by grind), kL_y (v := fun i => iz b * v i) a, ih, cn (fun w => by have := w.1; grind)]; omega
    · by_cases c : iz b * v d < iz (x + 1)
      · rw [kL_y (v := fun i => iz b * v i) c, kL_n (v := fun i => iz b * v i) a, ih, cy ⟨by grind, c⟩]; omega
      · rw [kL_n (v := fun i => iz b * v i) c, kL_n (v := fun i => iz b * v i) a, ih, cn (fun w => c w.2)]
theorem kN_pos {J : Nat → Bool} {n a : Nat} (ha : a < n) (hJ : J a = true) : 1 ≤ kN J n := by have := kN_off ha hJ; omega
theorem kN_two {J : Nat → Bool} {n a b : Nat} (hab : a ≠ b) (ha : a < n) (hb : b < n) (h1 : J a = true) (h2 : J b = true) : 2 ≤ kN J n := by
  have e := kN_off ha h1
  have hba : b ≠ a := fun q => hab q.symm
  have := kN_pos (J := fun i => J i && (i != a)) hb (by simp [h2, hba])
  omega
theorem kN_sub {J J' : Nat → Bool} (n : Nat) : (∀ i, i < n → J i = true → J' i = true) → kN J n ≤ kN J' n ∧ (kN J n = kN J' n → ∀ i, i < n → J' i = true → J i = true) := by
  induction n with
  | zero => intro _; exact ⟨Nat.le_refl _, fun _ i hi => absurd hi (Nat.not_lt_zero _)⟩
  | succ n ih =>
    intro h
    obtain ⟨i1, i2⟩ := ih (fun i hi => h i (by omega))
    cases a : J n with
    | true =>
      rw [kN_y a, kN_y (h n (by omega) a)]
      refine ⟨by omega, fun e i hi hJ => ?_⟩
      by_cases w : i = n
      · rw [w]; exact a
      · exact i2 (by omega) i (by omega) hJ
    | false =>
      rw [kN_n a]
      cases b : J' n with
      | true =>
        rw [kN_y b]
        exact ⟨by omega, fun e => by omega⟩
      | false =>
        rw [kN_n b]
        refine ⟨i1, fun e i hi hJ => ?_⟩
        by_cases w : i = n
        · rw [w, b] at hJ; exact absurd hJ (by decide)
        · exact i2 e i (by omega) hJ
/-- scaled counts -/
theorem g8s {K : Type} [Lean.Grind.CommRing K] [LE K] [LT K] [Std.LawfulOrderLT K] [Std.IsLinearOrder K] [Lean.Grind.OrderedRing K] (hinv : ∀ x : K, x ≠ 0 → ∃ y, x * y = 1) {n r : Nat} {l ρ γ : Nat → K} {N : K → K} (hg : gmn n l r ρ γ N) {b : Int} (hb : 0 < b) (x : K) : kL (fun i => iz b * l i) x n = kL (fun i => iz b * γ i) x (n - r) + kL (fun i => iz b * ρ i) x r := by
  have hbp := iz_pos (K := K) hb
  obtain ⟨t, ht⟩ := hinv (iz b) (fun w => by rw [w] at hbp; grind)
  have key : ∀ (v : Nat → K) (d : Nat), kL (fun i => iz b * v i) x d = kL v (t * x) d := fun v d => kN_cg (fun i _ => dcc ⟨fun w => by
    have h1 := Lean.Grind.OrderedRing.mul_lt_mul_of_pos_left w (k_ip hbp ht)
    have : t * (iz b * v i) = (iz b * t) * v i := by grind
    rw [this, ht] at h1
    grind, fun w => by
    have h1 := Lean.Grind.OrderedRing.mul_lt_mul_of_pos_left w hbp
    have : iz b * (t * x) = (iz b * t) * x := by grind
    rw [this, ht] at h1
    grind⟩)
  rw [key, key, key]
  exact hg.2.2.2.2.2.2.2.1 (t * x)
theorem kC_s {K : Type} [Lean.Grind.CommRing K] [LE K] [LT K] [Std.LawfulOrderLT K] [Std.IsLinearOrder K] [Lean.Grind.OrderedRing K] (hinv : ∀ x : K, x ≠ 0 → ∃ y, x * y = 1) {n r : Nat} {l ρ γ : Nat → K} {N : K → K} (hg : gmn n l r ρ γ N) {b : Int} (hb : 0 < b) (x : Int) : kC l b x n = kC γ b x (n - r) + kC ρ b x r := by
  have a1 := g8s hinv hg hb (iz x)
  have a2 := g8s hinv hg hb (iz (x + 1))
  rw [kC_L, kC_L, kC_L] at a2
  omega
/-- alone in its cell -/
theorem kC_1 {K : Type} [Lean.Grind.CommRing K] [LE K] [LT K] [Std.LawfulOrderLT K] [Std.IsLinearOrder K] [Lean.Grind.OrderedRing K] {n r : Nat} {l ρ γ : Nat → K} {N : K → K} (hg : gmn n l r ρ γ N) {b x : Int} {i : Nat} (hi : i < n) (hc : cel b x (l i)) : 1 ≤ kC ρ b x r ∧ (kC ρ b x r ≤ 1 → kC l b x n = kQ l (l i) n) := by
  obtain ⟨a, ha, ea⟩ := hg.2.2.2.2.2.2.2.2.2.2.2.1 i hi
  have h1 : @decide (cel b x (ρ a)) (Classical.propDecidable _) = true := dct (by rw [← ea]; exact hc)
  refine ⟨kN_pos ha h1, fun h => kN_cg (fun j hj => dcc ⟨fun w => ?_, fun w => by rw [w]; exact hc⟩)⟩
  obtain ⟨c, hc9, ec⟩ := hg.2.2.2.2.2.2.2.2.2.2.2.1 j hj
  by_cases z : c = a
  · rw [ec, ea, z]
  · have := kN_two (J := fun j => @decide (cel b x (ρ j)) (Classical.propDecidable _)) z hc9 ha (dct (by rw [← ec]; exact w)) h1
    have e : kN (fun j => @decide (cel b x (ρ j)) (Classical.propDecidable _)) r = kC ρ b x r := rfl
    omega
/-- far apart, alone -/
theorem kC_sep {K : Type} [Lean.Grind.CommRing K] [LE K] [LT K] [Std.LawfulOrderLT K] [Std.IsLinearOrder K] [Lean.Grind.OrderedRing K] {r : Nat} {ρ : Nat → K} {b x : Int} {a : Nat} (ha : a < r) (hc : cel b x (ρ a)) (hs : ∀ c, c < r → c ≠ a → 1 ≤ iz b * (ρ c - ρ a) ∨ 1 ≤ iz b * (ρ a - ρ c)) : kC ρ b x r ≤ 1 := by
  have e := kN_off (J := fun j => @decide (cel b x (ρ j)) (Classical.propDecidable _)) ha (dct hc)
  have z : kN (fun i => (@decide (cel b x (ρ i)) (Classical.propDecidable _)) && (i != a)) r = 0 := by
    refine Nat.eq_zero_of_not_pos fun w => ?_
    obtain ⟨j, hj, hJ⟩ := kN_ex w
    have hJ : (@decide (cel b x (ρ j)) (Classical.propDecidable _) && (j != a)) = true := hJ
    rw [Bool.and_eq_true] at hJ
    have c1 : cel b x (ρ j) := dco hJ.1
    have c2 : j ≠ a := by simpa using hJ.2
    have e1 : (iz (x + 1) : K) = iz x + 1 := by rw [iz_add, iz_1]
    obtain ⟨p1, p2⟩ := c1
    obtain ⟨q1, q2⟩ := hc
    rw [e1] at p2 q2
    rcases hs j hj c2 with w | w <;> grind
  have e2 : kN (fun j => @decide (cel b x (ρ j)) (Classical.propDecidable _)) r = kC ρ b x r := rfl
  omega
/-- the reference's counts -/
theorem wL_any {K : Type} [Lean.Grind.CommRing K] [LE K] [LT K] [Std.LawfulOrderLT K] [Std.IsLinearOrder K] [Lean.Grind.OrderedRing K] {d : Nat} {P q : Nat → Int} {v : Nat → K} (hs : ∀ i, i + 1 < d → v i ≤ v (i + 1)) (hq : ∀ j, j ≤ d → iz (q j) = kP v d j) (hP : ∀ k, k ≤ d → P k = q k) {b : Int} (hb : 0 < b) (t : Int) : wL t b d P = nI (kL (fun i => iz b * v i) (iz t) d) := by
  have hq1 : q d = 1 := iz_inj (K := K) (by rw [hq d (Nat.le_refl _), kP_t, iz_1])
  rcases Nat.eq_zero_or_pos d with z | z
  · subst z
    have p1 : wR t b 0 P 0 = 1 := by
      show mulp b 0 P 0 0 = 1
      rw [mulp, if_neg (by omega), hP 0 (Nat.le_refl _), hq1]
    have e0 : wE t b 0 P = 0 := by
      show (if wR t b 0 P 0 = 0 then _ else 0) = 0
      rw [p1, if_neg (by decide)]
    have e1 : fa (wR t b 0 P) 0 0 (0 + 1 - 0) = ra (wR t b 0 P) (nI 1) (0 + 1) := fa_ra (fun j hj => absurd hj (Nat.not_lt_zero _)) (Nat.le_refl _) (by rw [p1]; rfl)
    have e2 : ra (wR t b 0 P) (nI 1) (0 + 1) = 0 := by
      rw [ra_s, p1]; rfl
    rw [wL, e0, e1, e2]
    show nI 0 - nI 0 - nI 0 = nI 0
    decide
  · rw [(count_eq z hP hq1).1]
    exact (k_cnt hs hq hb t).1
theorem nI_sb {a b : Nat} (h : b ≤ a) : nI a - nI b = nI (a - b) := by
  have := nI_add (a - b) b
  rw [show a - b + b = a by omega] at this
  rw [← this]; grind
section MLT
theorem cel_nxt {K : Type} [Lean.Grind.CommRing K] [LE K] [LT K] [Std.LawfulOrderLT K] [Std.IsLinearOrder K] [Lean.Grind.OrderedRing K] {n : Nat} (h6 : n ≤ 6) {P q : Nat → Int} {v : Nat → K} (hs : ∀ i, i + 1 < n → v i ≤ v (i + 1)) (hq : ∀ j, j ≤ n → iz (q j) = kP v n j) (hP : ∀ k, k ≤ n → P k = q k) {g pl : Int} (hg : 0 < g) {i : Nat} (hi : i < n) (hc : cel g pl (v i)) : cel (g + g) (nxt P n (nI i) pl g) (v i) := by
  obtain ⟨c1, c2⟩ := hc
  have e0 : (iz (g + g) : K) * v i = iz g * v i + iz g * v i := by rw [iz_add]; grind
  have e1 : (iz (pl + 1) : K) = iz pl + 1 := by rw [iz_add, iz_1]
  rw [e1] at c2
  have key : wL (pl + pl + 1) (g + g) n P ≤ nI i ↔ ¬ iz (g + g) * v i < iz (pl + pl + 1) := by
    rw [wL_any hs hq hP (show 0 < g + g by omega), nI_leI (by have := kL_n1 (fun i => iz (g + g) * v i) (iz (pl + pl + 1)) n; omega) (by omega)]
    exact kL_iff (w := fun i => iz (g + g) * v i) (fun i hi => Lean.Grind.OrderedRing.mul_le_mul_of_nonneg_left (hs i hi) (Std.le_of_lt (iz_pos (by omega)))) hi _
  have e2 : (iz (pl + pl + 1) : K) = iz pl + iz pl + 1 := by rw [iz_add, iz_add, iz_1]
  have e3 : (iz (pl + pl + 1 + 1) : K) = iz pl + iz pl + 1 + 1 := by rw [iz_add, iz_add, iz_add, iz_1]
  have e4 : (iz (pl + pl) : K) = iz pl + iz pl := iz_add _ _
  rw [nxt]
  by_cases w : wL (pl + pl + 1) (g + g) n P ≤ nI i
  · rw [if_pos w]
    have := key.mp w
    rw [e0, e2] at this
    constructor
    · rw [e0, e2]; grind
    · rw [e0, e3]; grind
  · rw [if_neg w]
    have : iz (g + g) * v i < iz (pl + pl + 1) := Classical.byContradiction fun z => w (key.mpr z)
    rw [e0, e2] at this
    constructor
    · rw [e0, e4]; grind
    · rw [e0, e2]; grind
theorem k_win {K : Type} [Lean.Grind.CommRing K] [LE K] [LT K] [Std.LawfulOrderLT K] [Std.IsLinearOrder K] [Lean.Grind.OrderedRing K] (hinv : ∀ x : K, x ≠ 0 → ∃ y, x * y = 1) {n r : Nat} {l ρ γ : Nat → K} {N : K → K} (hg : gmn n l r ρ γ N) (hs : asc n l) {P q P1 q1 : Nat → Int} (hq : ∀ j, j ≤ n → iz (q j) = kP l n j) (hP : ∀ k, k ≤ n → P k = q k) (hq1 : ∀ j, j ≤ n - r → iz (q1 j) = kP γ (n - r) j) (hP1 : ∀ k, k ≤ n - r → P1 k = q1 k) {g : Int} (hgp : 0 < g) (pl : Int) : win1 pl g n (n - r) P P1 = nI (kC ρ g pl r) ∧ win0 pl g n P = nI (kC l g pl n) := by
  have a1 := wL_any hs hq hP hgp pl
  have a2 := wL_any hs hq hP hgp (pl + 1)
  have b1 := wL_any hg.2.2.1 hq1 hP1 hgp pl
  have b2 := wL_any hg.2.2.1 hq1 hP1 hgp (pl + 1)
  have c1 := kC_L l g pl n
  have c2 := kC_L γ g pl (n - r)
  have c3 := kC_s hinv hg hgp pl
  rw [win1, win0, a1, a2, b1, b2, c1, c2, c3, ← nI_add, ← nI_add, ← nI_add]
  constructor
  · grind
  · rw [show nI 0 = 0 from rfl]; grind
theorem k_mlt {K : Type} [Lean.Grind.CommRing K] [LE K] [LT K] [Std.LawfulOrderLT K] [Std.IsLinearOrder K] [Lean.Grind.OrderedRing K] (hinv : ∀ x : K, x ≠ 0 → ∃ y, x * y = 1) {n r : Nat} (h6 : n ≤ 6) {l ρ γ : Nat → K} {N : K → K} (hg : gmn n l r ρ γ N) (hs : asc n l) {P q P1 q1 : Nat → Int} (hq : ∀ j, j ≤ n → iz (q j) = kP l n j) (hP : ∀ k, k ≤ n → P k = q k) (hq1 : ∀ j, j ≤ n - r → iz (q1 j) = kP γ (n - r) j) (hP1 : ∀ k, k ≤ n - r → P1 k = q1 k) {F : Nat} (hsep : ∀ a c, a < r → c < r → c ≠ a → 1 ≤ iz (2 ^ F) * (ρ c - ρ a) ∨ 1 ≤ iz (2 ^ F) * (ρ a - ρ c)) {i : Nat} (hi : i < n) (f : Nat) : ∀ (k : Nat) (pl : Int), k + f = F → cel (2 ^ k) pl (l i) → mlOK P P1 n (n - r) (nI i) f pl (2 ^ k) ∧ mltF P P1 n (n - r) (nI i) f pl (2 ^ k) = nI (kQ l (l i) n) := by
  have hr6 : r ≤ 6 := by have := hg.1; omega
  have hCr : ∀ g x, kC ρ g x r ≤ 6 := fun g x => by
    have : ∀ k, kC ρ g x k ≤ k := fun k => by
      induction k with
      | zero => exact Nat.le_refl _
      | succ k ih =>
        have e : kC ρ g x (k + 1) = kC ρ g x k + (if @decide (cel g x (ρ k)) (Classical.propDecidable _) = true then 1 else 0) := rfl
        rw [e]; split <;> omega
    have := this r
    omega
  induction f with
  | zero =>
    intro k pl hk hc
    obtain rfl : k = F := by omega
    have hgp : (0 : Int) < 2 ^ k := Int.pow_pos (by decide)
    obtain ⟨w1, w0⟩ := k_win hinv hg hs hq hP hq1 hP1 hgp pl
    obtain ⟨a, ha, ea⟩ := hg.2.2.2.2.2.2.2.2.2.2.2.1 i hi
    have h1 := kC_sep (b := 2 ^ k) (x := pl) ha (by rw [← ea]; exact hc) (fun c hc9 hca => hsep a c ha hc9 hca)
    refine ⟨?_, ?_⟩
    · show win1 pl (2 ^ k) n (n - r) P P1 ≤ nI 1
      rw [w1]; exact nI_le h1 (by decide)
    · show win0 pl (2 ^ k) n P = _
      rw [w0, (kC_1 hg hi hc).2 h1]
  | succ f ih =>
    intro k pl hk hc
    have hgp : (0 : Int) < 2 ^ k := Int.pow_pos (by decide)
    obtain ⟨w1, w0⟩ := k_win hinv hg hs hq hP hq1 hP1 hgp pl
    have e2 : (2 : Int) ^ k + 2 ^ k = 2 ^ (k + 1) := by rw [Int.pow_succ]; omega
    rw [mlOK, mltF]
    by_cases w : win1 pl (2 ^ k) n (n - r) P P1 ≤ nI 1
    · rw [if_pos w]
      refine ⟨Or.inl w, ?_⟩
      rw [w1, nI_leI (by have := hCr (2 ^ k) pl; omega) (by decide)] at w
      rw [w0, (kC_1 hg hi hc).2 w]
    · rw [if_neg w]
      have nx := cel_nxt h6 hs hq hP hgp hi hc
      rw [e2] at nx ⊢
      obtain ⟨i1, i2⟩ := ih (k + 1) _ (by omega) nx
      exact ⟨Or.inr i1, i2⟩
end MLT
