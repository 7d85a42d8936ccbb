/-! the grid on which all are alone -/
theorem ct_N {V : Nat → Int} {w : Nat} (j : Nat) : ctF V w j = kN (fun i => decide (i = 0 ∨ ¬ V i / 2 ^ (30 - w) = V (i - 1) / 2 ^ (30 - w))) (j + 1) := by
  induction j with
  | zero => rfl
  | succ j ih =>
    rw [ctF, ih, kN_s _ (j + 1)]
    congr 1
    by_cases e : V (j + 1) / 2 ^ (30 - w) = V j / 2 ^ (30 - w)
    · rw [if_pos e, if_neg]
      intro h
      have := of_decide_eq_true h
      rcases this with x | x
      · omega
      · exact x (by rw [Nat.add_sub_cancel]; exact e)
    · rw [if_neg e, if_pos]
      exact decide_eq_true (Or.inr (by rw [Nat.add_sub_cancel]; exact e))
theorem flo_cel {K : Type} [Lean.Grind.CommRing K] [LE K] [LT K] [Std.LawfulOrderLT K] [Std.IsLinearOrder K] [Lean.Grind.OrderedRing K] {l : K} {V : Int} {w : Nat} (hw : w ≤ 30) (h1 : iz V ≤ iz 1073741824 * l) (h2 : iz 1073741824 * l < iz (V + 1)) : cel (2 ^ w) (V / 2 ^ (30 - w)) l := by
  have hp : (0 : Int) < 2 ^ (30 - w) := Int.pow_pos (by decide)
  have e : (1073741824 : Int) = 2 ^ (30 - w) * 2 ^ w := by rw [← Int.pow_add, show 30 - w + w = 30 by omega]; rfl
  have hk := iz_pos (K := K) hp
  have d1 : V / 2 ^ (30 - w) * 2 ^ (30 - w) ≤ V := Int.ediv_mul_le _ (by omega)
  have d2 : V + 1 ≤ (V / 2 ^ (30 - w) + 1) * 2 ^ (30 - w) := by
    have := Int.lt_ediv_add_one_mul_self V hp
    omega
  have f1 := iz_le (K := K).mpr d1
  have f2 := iz_le (K := K).mpr d2
  rw [iz_mul] at f1 f2
  rw [e, iz_mul] at h1 h2
  constructor
  · refine k_can hk ?_
    grind
  · refine Classical.byContradiction fun q => ?_
    have := Lean.Grind.OrderedRing.mul_le_mul_of_nonneg_right (show iz (V / 2 ^ (30 - w) + 1) ≤ iz (2 ^ w) * l by grind) (Std.le_of_lt hk)
    grind
theorem cel_one {K : Type} [Lean.Grind.CommRing K] [LE K] [LT K] [Std.LawfulOrderLT K] [Std.IsLinearOrder K] [Lean.Grind.OrderedRing K] {b x y : Int} {z : K} (h1 : cel b x z) (h2 : cel b y z) : x = y := by
  obtain ⟨a1, a2⟩ := h1
  obtain ⟨b1, b2⟩ := h2
  have c1 : x < y + 1 := iz_lt (K := K).mp (by grind)
  have c2 : y < x + 1 := iz_lt (K := K).mp (by grind)
  omega
theorem cel_mid {K : Type} [Lean.Grind.CommRing K] [LE K] [LT K] [Std.LawfulOrderLT K] [Std.IsLinearOrder K] [Lean.Grind.OrderedRing K] {b x : Int} (hb : 0 < b) {y z w : K} (h1 : cel b x y) (h2 : cel b x z) (a : y ≤ w) (c : w ≤ z) : cel b x w := by
  have hp := Std.le_of_lt (iz_pos (K := K) hb)
  have m1 := Lean.Grind.OrderedRing.mul_le_mul_of_nonneg_left a hp
  have m2 := Lean.Grind.OrderedRing.mul_le_mul_of_nonneg_left c hp
  obtain ⟨a1, a2⟩ := h1
  obtain ⟨b1, b2⟩ := h2
  constructor <;> grind
theorem kN_ex2 {J : Nat → Bool} {n : Nat} (h : 2 ≤ kN J n) : ∃ a b, a < n ∧ b < n ∧ a ≠ b ∧ J a = true ∧ J b = true := by
  obtain ⟨a, ha, hJ⟩ := kN_ex (show 0 < kN J n by omega)
  have e := kN_off ha hJ
  obtain ⟨b, hb, hJ2⟩ := kN_ex (J := fun i => J i && (i != a)) (n := n) (by omega)
  have hJ2 : (J b && (b != a)) = true := hJ2
  rw [Bool.and_eq_true] at hJ2
  exact ⟨a, b, ha, hb, fun q => by have := hJ2.2; rw [q] at this; simp at this, hJ, hJ2.1⟩
theorem k_ap {K : Type} [Lean.Grind.CommRing K] [LE K] [LT K] [Std.LawfulOrderLT K] [Std.IsLinearOrder K] [Lean.Grind.OrderedRing K] (hinv : ∀ x : K, x ≠ 0 → ∃ y, x * y = 1) {n r : Nat} (h1 : 1 ≤ n) (h6 : n ≤ 6) {l ρ γ : Nat → K} {N : K → K} (hg : gmn n l r ρ γ N) (hs : asc n l) {P q P1 q1 : Nat → Int} (hq : ∀ j, j ≤ n → iz (q j) = kP l n j) (hP : ∀ k, k ≤ n → P k = q k) (hq1 : ∀ j, j ≤ n - r → iz (q1 j) = kP γ (n - r) j) (hP1 : ∀ k, k ≤ n - r → P1 k = q1 k) {V : Nat → Int} (hV : flo n l V) {v : Nat} (hv : v ≤ 30) : nI (ctF V v (n - 1)) = nI n - nI (n - r) ↔ ∀ i, i < n → win1 (V i / 2 ^ (30 - v)) (2 ^ v) n (n - r) P P1 = nI 1 := by
  have hg' := hg
  obtain ⟨g1, g2, g3, g4, g5, g6, g7, g8, g9, g10, g11, g12, g13, g14, g15⟩ := hg
  have hb : (0 : Int) < 2 ^ v := Int.pow_pos (by decide)
  have hc : ∀ i, i < n → cel (2 ^ v) (V i / 2 ^ (30 - v)) (l i) := fun i hi => flo_cel hv (hV i hi).1 (hV i hi).2
  have hne : ∀ s c, s < r → c < r → s ≠ c → ρ s ≠ ρ c := fun s c hs hc hsc => by
    rcases Nat.lt_or_gt_of_ne hsc with w | w
    · have := k_str g2 s (c - s - 1) (by omega)
      rw [show s + (c - s - 1 + 1) = c by omega] at this
      grind
    · have := k_str g2 c (s - c - 1) (by omega)
      rw [show c + (s - c - 1 + 1) = s by omega] at this
      grind
  have hCle : ∀ (x : Int) d, kC ρ (2 ^ v) x d ≤ d := fun x d => by
    induction d with
    | zero => exact Nat.le_refl _
    | succ d ih =>
      have e : kC ρ (2 ^ v) x (d + 1) = kC ρ (2 ^ v) x d + (if @decide (cel (2 ^ v) x (ρ d)) (Classical.propDecidable _) = true then 1 else 0) := rfl
      rw [e]; split <;> omega
  have hw : ∀ i, i < n → (win1 (V i / 2 ^ (30 - v)) (2 ^ v) n (n - r) P P1 = nI 1 ↔ kC ρ (2 ^ v) (V i / 2 ^ (30 - v)) r ≤ 1) := fun i hi => by
    rw [(k_win hinv hg' hs hq hP hq1 hP1 hb _).1, nI_eq (by have := hCle (V i / 2 ^ (30 - v)) r; omega) (by decide)]
    have := (kC_1 hg' hi (hc i hi)).1
    omega
  have ect := ct_N (V := V) (w := v) (n - 1)
  rw [show n - 1 + 1 = n by omega] at ect
  have hsub : ∀ i, i < n → decide (i = 0 ∨ ¬ V i / 2 ^ (30 - v) = V (i - 1) / 2 ^ (30 - v)) = true → @decide (i = 0 ∨ ¬ l i = l (i - 1)) (Classical.propDecidable _) = true := fun i hi h => by
    refine dct ?_
    rcases of_decide_eq_true h with x | x
    · exact Or.inl x
    · refine Or.inr fun y => x ?_
      have c1 := hc i hi
      rw [y] at c1
      exact cel_one c1 (hc (i - 1) (by omega))
  obtain ⟨s1, s2⟩ := kN_sub n hsub
  rw [← ect, ← g15] at s1 s2
  rw [nI_sb (by omega), show n - (n - r) = r by omega, nI_eq (by omega) (by omega)]
  constructor
  · intro e i hi
    rw [hw i hi]
    refine Nat.le_of_not_lt fun w => ?_
    obtain ⟨a, b, ha, hb9, hab, ja, jb⟩ := kN_ex2 (J := fun j => @decide (cel (2 ^ v) (V i / 2 ^ (30 - v)) (ρ j)) (Classical.propDecidable _)) (n := r) w
    have key : ∀ a b, a < r → b < r → a < b → cel (2 ^ v) (V i / 2 ^ (30 - v)) (ρ a) → cel (2 ^ v) (V i / 2 ^ (30 - v)) (ρ b) → False := fun a b ha hb9 hab ca cb => by
      obtain ⟨j, hj, ej⟩ := g13 a ha
      obtain ⟨k, hk, ek⟩ := g13 b hb9
      have hlt : ρ a < ρ b := by
        have := k_str g2 a (b - a - 1) (by omega)
        rw [show a + (b - a - 1 + 1) = b by omega] at this
        exact this
      have hjk : j < k := Nat.lt_of_not_le fun z => by
        have := k_mono hs k (j - k) (by omega)
        rw [show k + (j - k) = j by omega, ← ej, ← ek] at this
        grind
      have hall : ∀ m, j + m ≤ k → l (j + m) = l j := fun m => by
        induction m with
        | zero => intro _; rfl
        | succ m ih =>
          intro hm
          have i1 := ih (by omega)
          refine Classical.byContradiction fun z => ?_
          have t := s2 e (j + (m + 1)) (by omega) (dct (Or.inr (by
            rw [show j + (m + 1) - 1 = j + m by omega, i1]; exact z)))
          rcases of_decide_eq_true t with x | x
          · omega
          · refine x ?_
            have m1 := k_mono hs j (m + 1) (by omega)
            have m2 := k_mono hs (j + (m + 1)) (k - (j + (m + 1))) (by omega)
            rw [show j + (m + 1) + (k - (j + (m + 1))) = k by omega] at m2
            have c1 : cel (2 ^ v) (V i / 2 ^ (30 - v)) (l (j + (m + 1))) := cel_mid hb ca cb (by rw [ej]; exact m1) (by rw [ek]; exact m2)
            have c2 : cel (2 ^ v) (V i / 2 ^ (30 - v)) (l (j + (m + 1) - 1)) := by
              rw [show j + (m + 1) - 1 = j + m by omega, i1, ← ej]; exact ca
            rw [cel_one (hc _ (by omega)) c1, cel_one (hc _ (by omega)) c2]
      have := hall (k - j) (by omega)
      rw [show j + (k - j) = k by omega, ← ej, ← ek] at this
      grind
    rcases Nat.lt_or_gt_of_ne hab with z | z
    · exact key a b ha hb9 z (dco ja) (dco jb)
    · exact key b a hb9 ha z (dco jb) (dco ja)
  · intro hall
    have s3 := kN_sub (J := fun i => @decide (i = 0 ∨ ¬ l i = l (i - 1)) (Classical.propDecidable _)) (J' := fun i => decide (i = 0 ∨ ¬ V i / 2 ^ (30 - v) = V (i - 1) / 2 ^ (30 - v))) n (fun i hi h => by
      refine decide_eq_true ?_
      rcases dco h with x | x
      · exact Or.inl x
      · by_cases i0 : i = 0
        · exact Or.inl i0
        · refine Or.inr fun y => ?_
          have h1 := (hw i hi).mp (hall i hi)
          obtain ⟨a, ha, ea⟩ := g12 i hi
          obtain ⟨b, hb9, eb⟩ := g12 (i - 1) (by omega)
          have hab : a ≠ b := fun z => x (by rw [ea, eb, z])
          have ca : cel (2 ^ v) (V i / 2 ^ (30 - v)) (ρ a) := by rw [← ea]; exact hc i hi
          have cb : cel (2 ^ v) (V i / 2 ^ (30 - v)) (ρ b) := by rw [← eb, y]; exact hc (i - 1) (by omega)
          have := kN_two (J := fun j => @decide (cel (2 ^ v) (V i / 2 ^ (30 - v)) (ρ j)) (Classical.propDecidable _)) hab ha hb9 (dct ca) (dct cb)
          have e2 : kN (fun j => @decide (cel (2 ^ v) (V i / 2 ^ (30 - v)) (ρ j)) (Classical.propDecidable _)) r = kC ρ (2 ^ v) (V i / 2 ^ (30 - v)) r := rfl
          omega)
    rw [← ect, ← g15] at s3
    omega
