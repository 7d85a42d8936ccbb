/-! different zeros, and what is left of each once it is taken away -/
/-- the product of r s - r q, q below n, q not s -/
def kX {K : Type} [Lean.Grind.CommRing K] (r : Nat → K) : Nat → Nat → K
  | 0, _ => 1
  | n + 1, s => (if n = s then 1 else r s - r n) * kX r n s
theorem kX_s {K : Type} [Lean.Grind.CommRing K] (r : Nat → K) (n s : Nat) : kX r (n + 1) s = (if n = s then 1 else r s - r n) * kX r n s := rfl
theorem kX_W {K : Type} [Lean.Grind.CommRing K] (r : Nat → K) (n : Nat) : ∀ s, n ≤ s → kX r n s = kW r n (r s) := by
  induction n with
  | zero => intro s _; rfl
  | succ n ih => intro s hs; rw [kX_s, if_neg (by omega), ih s (by omega), kW_s]
theorem kX_cg {K : Type} [Lean.Grind.CommRing K] {r q : Nat → K} (n : Nat) : ∀ s, (∀ i, i < n → r i = q i) → r s = q s → kX r n s = kX q n s := by
  induction n with
  | zero => intro s _ _; rfl
  | succ n ih => intro s h hs; rw [kX_s, kX_s, ih s (fun i hi => h i (by omega)) hs, h n (by omega), hs]
/-- r different zeros ρ, the rest γ, N the derivative without γ -/
def gmn {K : Type} [Lean.Grind.CommRing K] [LE K] [LT K] [Std.LawfulOrderLT K] [Std.IsLinearOrder K] [Lean.Grind.OrderedRing K] (n : Nat) (l : Nat → K) (r : Nat) (ρ γ : Nat → K) (N : K → K) : Prop :=
  r ≤ n ∧ (∀ s, s + 1 < r → ρ s < ρ (s + 1)) ∧ (∀ i, i + 1 < n - r → γ i ≤ γ (i + 1)) ∧ (∀ t, kW l n t = kW γ (n - r) t * kW ρ r t) ∧ (∀ t, kU l n t = kW γ (n - r) t * N t) ∧ pf N ∧ (∀ s, s < r → 0 < N (ρ s) * kX ρ r s) ∧ (∀ x, kL l x n = kL γ x (n - r) + kL ρ x r) ∧ (∀ x, kQ l x n = kQ γ x (n - r) + kQ ρ x r) ∧ (1 ≤ n → 1 ≤ r ∧ ρ (r - 1) = l (n - 1)) ∧ (∀ i, i < n - r → γ i ≤ l (n - 1)) ∧ (∀ i, i < n → ∃ s, s < r ∧ l i = ρ s) ∧ (∀ s, s < r → ∃ i, i < n ∧ ρ s = l i) ∧ (∀ i, i < n - r → ∃ j, j < n ∧ γ i = l j) ∧ r = kN (fun i => @decide (i = 0 ∨ ¬ l i = l (i - 1)) (Classical.propDecidable _)) n
theorem k_str {K : Type} [Lean.Grind.CommRing K] [LE K] [LT K] [Std.LawfulOrderLT K] [Std.IsLinearOrder K] [Lean.Grind.OrderedRing K] {ρ : Nat → K} {r : Nat} (h : ∀ s, s + 1 < r → ρ s < ρ (s + 1)) (i k : Nat) : i + (k + 1) < r → ρ i < ρ (i + (k + 1)) := by
  induction k with
  | zero => intro hk; exact h i hk
  | succ k ih =>
    intro hk
    have h1 := ih (by omega)
    have h2 := h (i + (k + 1)) (by omega)
    rw [show i + (k + 1 + 1) = i + (k + 1) + 1 by omega]
    grind
theorem k_ext {K : Type} [Lean.Grind.CommRing K] [LE K] [LT K] [Std.LawfulOrderLT K] [Std.IsLinearOrder K] [Lean.Grind.OrderedRing K] (γ : Nat → K) (c : Nat) (x y : K) : kL (fun i => if i = c then x else γ i) y c = kL γ y c ∧ kQ (fun i => if i = c then x else γ i) y c = kQ γ y c ∧ ∀ t, kW (fun i => if i = c then x else γ i) c t = kW γ c t :=
  ⟨kN_cg (fun i hi => dcc (by show (if i = c then x else γ i) < y ↔ γ i < y; rw [if_neg (show ¬ i = c by omega)])), kN_cg (fun i hi => dcc (by show (if i = c then x else γ i) = y ↔ γ i = y; rw [if_neg (show ¬ i = c by omega)])), kW_cg c (fun i hi => if_neg (show ¬ i = c by omega))⟩
theorem k_gmn {K : Type} [Lean.Grind.CommRing K] [LE K] [LT K] [Std.LawfulOrderLT K] [Std.IsLinearOrder K] [Lean.Grind.OrderedRing K] (l : Nat → K) (n : Nat) : (∀ i, i + 1 < n → l i ≤ l (i + 1)) → ∃ r ρ γ N, gmn n l r ρ γ N := by
  have h01 : (0 : K) < 1 := Lean.Grind.OrderedRing.zero_lt_one
  induction n with
  | zero =>
    intro _
    exact ⟨0, l, l, fun _ => 0, Nat.le_refl _, fun s hs => absurd hs (Nat.not_lt_zero _), fun s hs => absurd hs (Nat.not_lt_zero _), fun t => by show (1 : K) = 1 * 1; grind, fun t => by show (0 : K) = 1 * 0; grind, pf_con 0, fun s hs => absurd hs (Nat.not_lt_zero _), fun x => rfl, fun x => rfl, fun h => absurd h (by decide), fun i hi => absurd hi (Nat.not_lt_zero _), fun i hi => absurd hi (Nat.not_lt_zero _), fun i hi => absurd hi (Nat.not_lt_zero _), fun i hi => absurd hi (Nat.not_lt_zero _), rfl⟩
  | succ n ih =>
    intro hs
    obtain ⟨r, ρ, γ, N, g1, g2, g3, g4, g5, g6, g7, g8, g9, g10, g11, g12, g13, g14, g15⟩ := ih (fun i hi => hs i (by omega))
    have hlast : 1 ≤ n → l (n - 1) ≤ l n := fun h => by
      have := hs (n - 1) (by omega)
      rw [show n - 1 + 1 = n by omega] at this
      exact this
    by_cases q : 1 ≤ n ∧ l n = l (n - 1)
    · obtain ⟨q1, q2⟩ := q
      obtain ⟨r1, r2⟩ := g10 q1
      have ex := k_ext γ (n - r) (l n)
      have hn : n + 1 - r = n - r + 1 := by omega
      refine ⟨r, ρ, fun i => if i = n - r then l n else γ i, fun t => N t + kW ρ (r - 1) t, by omega, g2, ?_, ?_, ?_, pf_add g6 ⟨_, _, pft_W ρ (r - 1)⟩, ?_, ?_, ?_, fun _ => ⟨r1, by rw [Nat.add_sub_cancel, r2, q2]⟩, ?_, ?_, ?_, ?_, ?_⟩
      · intro i hi
        rw [hn] at hi
        show (if i = n - r then l n else γ i) ≤ (if i + 1 = n - r then l n else γ (i + 1))
        rw [if_neg (show ¬ i = n - r by omega)]
        by_cases e : i + 1 = n - r
        · rw [if_pos e, q2]; exact g11 i (by omega)
        · rw [if_neg e]; exact g3 i (by omega)
      · intro t
        rw [hn, kW_s, kW_s, if_pos rfl, (ex 0).2.2, g4]; grind
      · intro t
        have e1 : kW ρ r t = (t - ρ (r - 1)) * kW ρ (r - 1) t := by
          have := kW_s ρ (r - 1) t
          rw [show r - 1 + 1 = r by omega] at this
          exact this
        rw [hn, kU_s, kW_s, if_pos rfl, (ex 0).2.2, g4, g5, e1, r2, q2]; grind
      · intro s hs9
        have h7 := g7 s hs9
        by_cases e : s = r - 1
        · have e2 : kX ρ r s = kW ρ (r - 1) (ρ s) := by
            have := kX_s ρ (r - 1) s
            rw [show r - 1 + 1 = r by omega, if_pos e.symm, kX_W ρ (r - 1) s (by omega)] at this
            rw [this]; grind
          have := k_sq (kW ρ (r - 1) (ρ s))
          rw [e2] at h7 ⊢
          grind
        · have : kW ρ (r - 1) (ρ s) = 0 := kW_r ρ (r - 1) s (by omega)
          show 0 < (N (ρ s) + kW ρ (r - 1) (ρ s)) * kX ρ r s
          rw [this]
          grind
      · intro x
        rw [hn]
        by_cases e : l n < x
        · rw [kL_y e, kL_y (v := fun i => if i = n - r then l n else γ i) (by show (if n - r = n - r then l n else γ (n - r)) < x; rw [if_pos rfl]; exact e), (ex x).1, g8]; omega
        · rw [kL_n e, kL_n (v := fun i => if i = n - r then l n else γ i) (by show ¬ (if n - r = n - r then l n else γ (n - r)) < x; rw [if_pos rfl]; exact e), (ex x).1, g8]
      · intro x
        rw [hn]
        by_cases e : l n = x
        · rw [kQ_y e, kQ_y (v := fun i => if i = n - r then l n else γ i) (by show (if n - r = n - r then l n else γ (n - r)) = x; rw [if_pos rfl]; exact e), (ex x).2.1, g9]; omega
        · rw [kQ_n e, kQ_n (v := fun i => if i = n - r then l n else γ i) (by show ¬ (if n - r = n - r then l n else γ (n - r)) = x; rw [if_pos rfl]; exact e), (ex x).2.1, g9]
      · intro i hi
        rw [Nat.add_sub_cancel]
        show (if i = n - r then l n else γ i) ≤ l n
        by_cases e : i = n - r
        · rw [if_pos e]; exact Std.le_refl _
        · rw [if_neg e]
          have := g11 i (by omega)
          have := hlast q1
          grind
      · intro i hi
        by_cases e : i = n
        · exact ⟨r - 1, by omega, by rw [e, q2, r2]⟩
        · exact g12 i (by omega)
      · intro s hs9
        obtain ⟨i, a, b⟩ := g13 s hs9
        exact ⟨i, by omega, b⟩
      · intro i hi
        by_cases e : i = n - r
        · exact ⟨n, by omega, if_pos e⟩
        · obtain ⟨j, a, b⟩ := g14 i (by omega)
          exact ⟨j, by omega, (if_neg e).trans b⟩
      · rw [kN_n (dcf (fun w => w.elim (fun w => by omega) (fun w => w q2)))]; exact g15
    · have hnew : 1 ≤ r → ρ (r - 1) < l n := fun h => by
        have hn1 : 1 ≤ n := by omega
        obtain ⟨_, r2⟩ := g10 hn1
        have := hlast hn1
        rw [r2]
        by_cases e : l n = l (n - 1)
        · exact absurd ⟨hn1, e⟩ q
        · grind
      have hall : ∀ s, s < r → ρ s < l n := fun s hs9 => by
        by_cases e : s = r - 1
        · rw [e]; exact hnew (by omega)
        · have := k_str g2 s (r - 1 - s - 1) (by omega)
          rw [show s + (r - 1 - s - 1 + 1) = r - 1 by omega] at this
          have := hnew (by omega)
          grind
      have ex := k_ext ρ r (l n)
      have hn : n + 1 - (r + 1) = n - r := by omega
      refine ⟨r + 1, fun s => if s = r then l n else ρ s, γ, fun t => kW ρ r t + (t - l n) * N t, by omega, ?_, by rw [hn]; exact g3, ?_, ?_, pf_add ⟨_, _, pft_W ρ r⟩ (pf_mul (pf_x _) g6), ?_, ?_, ?_, fun _ => ⟨by omega, by show (if r + 1 - 1 = r then l n else ρ (r + 1 - 1)) = l (n + 1 - 1); rw [Nat.add_sub_cancel, if_pos rfl, Nat.add_sub_cancel]⟩, ?_, ?_, ?_, ?_, ?_⟩
      · intro s hs9
        show (if s = r then l n else ρ s) < (if s + 1 = r then l n else ρ (s + 1))
        rw [if_neg (show ¬ s = r by omega)]
        by_cases e : s + 1 = r
        · rw [if_pos e]; exact hall s (by omega)
        · rw [if_neg e]; exact g2 s (by omega)
      · intro t
        rw [hn, kW_s, kW_s, if_pos rfl, (ex 0).2.2, g4]; grind
      · intro t
        rw [hn, kU_s, g4, g5]; grind
      · intro s hs9
        by_cases e : s = r
        · have e2 : kX (fun s => if s = r then l n else ρ s) (r + 1) s = kW ρ r (l n) := by
            rw [kX_s, if_pos e.symm, kX_W _ r s (by omega), (ex 0).2.2, if_pos e]; grind
          have hne := kW_ne ρ r (l n) (fun i hi z => by have := hall i hi; rw [z] at this; grind)
          have := k_sqp hne
          show 0 < (kW ρ r (if s = r then l n else ρ s) + ((if s = r then l n else ρ s) - l n) * N (if s = r then l n else ρ s)) * _
          rw [e2, if_pos e]
          grind
        · have h7 := g7 s (by omega)
          have e2 : kX (fun s => if s = r then l n else ρ s) (r + 1) s = (ρ s - l n) * kX ρ r s := by
            rw [kX_s, if_neg (fun z => e z.symm), if_neg e, if_pos rfl, kX_cg (q := ρ) r s (fun i hi => by rw [if_neg (show ¬ i = r by omega)]) (by rw [if_neg e])]
          have hz := kW_r ρ r s (by omega)
          have hne : ρ s - l n ≠ 0 := fun z => by have := hall s (by omega); grind
          have := k_sqp hne
          have h8 := Lean.Grind.OrderedRing.mul_pos this h7
          show 0 < (kW ρ r (if s = r then l n else ρ s) + ((if s = r then l n else ρ s) - l n) * N (if s = r then l n else ρ s)) * _
          rw [e2, if_neg e, hz]
          grind
      · intro x
        rw [hn]
        by_cases e : l n < x
        · rw [kL_y e, kL_y (v := fun i => if i = r then l n else ρ i) (by show (if r = r then l n else ρ r) < x; rw [if_pos rfl]; exact e), (ex x).1, g8]; omega
        · rw [kL_n e, kL_n (v := fun i => if i = r then l n else ρ i) (by show ¬ (if r = r then l n else ρ r) < x; rw [if_pos rfl]; exact e), (ex x).1, g8]
      · intro x
        rw [hn]
        by_cases e : l n = x
        · rw [kQ_y e, kQ_y (v := fun i => if i = r then l n else ρ i) (by show (if r = r then l n else ρ r) = x; rw [if_pos rfl]; exact e), (ex x).2.1, g9]; omega
        · rw [kQ_n e, kQ_n (v := fun i => if i = r then l n else ρ i) (by show ¬ (if r = r then l n else ρ r) = x; rw [if_pos rfl]; exact e), (ex x).2.1, g9]
      · intro i hi
        rw [hn] at hi
        rw [Nat.add_sub_cancel]
        have h1 := g11 i hi
        have h2 := hlast (by omega)
        grind
      · intro i hi
        by_cases e : i = n
        · exact ⟨r, by omega, by show l i = (if r = r then l n else ρ r); rw [if_pos rfl, e]⟩
        · obtain ⟨s, a, b⟩ := g12 i (by omega)
          exact ⟨s, by omega, b.trans (if_neg (show ¬ s = r by omega)).symm⟩
      · intro s hs9
        by_cases e : s = r
        · exact ⟨n, by omega, if_pos e⟩
        · obtain ⟨i, a, b⟩ := g13 s (by omega)
          exact ⟨i, by omega, (if_neg e).trans b⟩
      · intro i hi
        rw [hn] at hi
        obtain ⟨j, a, b⟩ := g14 i hi
        exact ⟨j, by omega, b⟩
      · rw [kN_y (dct (by
          by_cases w : n = 0
          · exact Or.inl w
          · exact Or.inr (fun w2 => q ⟨by omega, w2⟩))), ← g15]
