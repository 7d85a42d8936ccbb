/-! the order of the factors is of no matter; less and equal count zeros -/
theorem kP_first {K : Type} [Lean.Grind.CommRing K] (n : Nat) : ∀ (m : Nat → K) (j : Nat), kP m (n + 1) j = (if j = 0 then 0 else kP (fun i => m (i + 1)) n (j - 1)) - m 0 * kP (fun i => m (i + 1)) n j := by
  induction n with
  | zero => intro m j; rfl
  | succ n ih =>
    intro m j
    rw [kP_s m (n + 1) j]
    rcases j with _ | _ | j
    · rw [if_pos rfl, if_pos rfl, ih m 0, if_pos rfl, kP_s (fun i => m (i + 1)) n 0, if_pos rfl]; grind
    · rw [if_neg (by omega), if_neg (by omega), ih m (0 + 1), show 0 + 1 - 1 = 0 from rfl, ih m 0, if_pos rfl, if_neg (by omega), kP_s (fun i => m (i + 1)) n 0, if_pos rfl, kP_p (fun i => m (i + 1)) n 0]; grind
    · rw [if_neg (by omega), if_neg (by omega), show j + 1 + 1 - 1 = j + 1 by omega, ih m (j + 1), ih m (j + 1 + 1), if_neg (by omega), if_neg (by omega), show j + 1 - 1 = j by omega, show j + 1 + 1 - 1 = j + 1 by omega, kP_p (fun i => m (i + 1)) n j, kP_p (fun i => m (i + 1)) n (j + 1)]; grind
theorem kP_rev {K : Type} [Lean.Grind.CommRing K] (n : Nat) : ∀ (m : Nat → K) (j : Nat), kP (fun i => m (n - 1 - i)) n j = kP m n j := by
  induction n with
  | zero => intro m j; rfl
  | succ n ih =>
    intro m j
    rw [kP_first, kP_s]
    have e : ∀ j, kP (fun i => m (n + 1 - 1 - (i + 1))) n j = kP m n j := fun j => by
      rw [← ih m j]
      exact kP_cg n (fun i hi => by rw [show n + 1 - 1 - (i + 1) = n - 1 - i by omega]) j
    rw [show n + 1 - 1 - 0 = n by omega, e j]
    congr 1
    split
    · rfl
    · exact e _
theorem kN_first (n : Nat) : ∀ J : Nat → Bool, kN J (n + 1) = kN (fun i => J (i + 1)) n + (if J 0 = true then 1 else 0) := by
  induction n with
  | zero => intro J; rfl
  | succ n ih => intro J; rw [kN_s, ih J, kN_s (fun i => J (i + 1)) n]; omega
theorem kN_rev (n : Nat) : ∀ J : Nat → Bool, kN (fun i => J (n - 1 - i)) n = kN J n := by
  induction n with
  | zero => intro J; rfl
  | succ n ih =>
    intro J
    rw [kN_first, kN_s, ← ih J, show n + 1 - 1 - 0 = n by omega]
    congr 1
    exact kN_cg (fun i hi => by rw [show n + 1 - 1 - (i + 1) = n - 1 - i by omega])
theorem kP_zer {K : Type} [Lean.Grind.CommRing K] [LE K] [LT K] [Std.LawfulOrderLT K] [Std.IsLinearOrder K] [Lean.Grind.OrderedRing K] (v : Nat → K) (n : Nat) : ∀ j, j < kQ v 0 n → kP v n j = 0 := by
  induction n with
  | zero => intro j hj; exact absurd hj (Nat.not_lt_zero _)
  | succ n ih =>
    intro j hj
    by_cases q : v n = 0
    · rw [kQ_y q] at hj
      rw [kP_s, q]
      by_cases z : j = 0
      · rw [if_pos z]; grind
      · rw [if_neg z, ih (j - 1) (by omega)]; grind
    · rw [kQ_n q] at hj
      rw [kP_s, ih j hj]
      by_cases z : j = 0
      · rw [if_pos z]; grind
      · rw [if_neg z, ih (j - 1) (by omega)]; grind
theorem ez_of {q : Nat → Int} (k : Nat) : ∀ a z, a ≤ z → z ≤ a + k → (∀ j, a ≤ j → j < z → q j = 0) → (z < a + k → q z ≠ 0) → ez q a k = z := by
  induction k with
  | zero => intro a z h1 h2 _ _; show a = z; omega
  | succ k ih =>
    intro a z h1 h2 h3 h4
    rw [ez]
    by_cases e : a = z
    · rw [if_neg (by rw [e]; exact h4 (by omega))]; exact e
    · rw [if_pos (h3 a (Nat.le_refl _) (by omega))]
      exact ih (a + 1) z (by omega) (by omega) (fun j hj => h3 j (by omega)) (fun hz => h4 (by omega))
/-- Descartes, where all zeros are there -/
theorem k_desc {K : Type} [Lean.Grind.CommRing K] [LE K] [LT K] [Std.LawfulOrderLT K] [Std.IsLinearOrder K] [Lean.Grind.OrderedRing K] {n : Nat} {v : Nat → K} {q : Nat → Int} (hs : ∀ i, i + 1 < n → v i ≤ v (i + 1)) (hq : ∀ j, j ≤ n → iz (q j) = kP v n j) : ra q (nI 1) (n + 1) = kG v 0 n ∧ ez q 0 n = kQ v 0 n := by
  have h01 : (0 : K) < 1 := Lean.Grind.OrderedRing.zero_lt_one
  have e0 : ra q (nI 1) (n + 1) = rK (kP v n) 1 (n + 1) := rK_iz (n + 1) (fun j hj => hq j (by omega)) 1
  have hz : ∀ j, j < kQ v 0 n → kP v n j = 0 := kP_zer v n
  have hall := k_all v 0 n
  have h1 := rK_pos v n hs
  have h2 : kL v 0 n ≤ rK (rf (kP v n)) (sn n 1) (n + 1) := by
    have h := rK_min (fun i => v (n - 1 - i)) n (fun i hi => by
      have := hs (n - 1 - (i + 1)) (by omega)
      rw [show n - 1 - (i + 1) + 1 = n - 1 - i by omega] at this
      exact this)
    have e1 : kL (fun i => v (n - 1 - i)) 0 n = kL v 0 n := kN_rev n (fun i => @decide (v i < 0) (Classical.propDecidable _))
    rw [e1, rK_cg (n + 1) (p := rf (kP (fun i => v (n - 1 - i)) n)) (q := rf (kP v n)) (fun j _ => by rw [rf, rf, kP_rev n v j])] at h
    exact h
  have key : ∀ e, e ≤ n → (∀ j, j < e → kP v n j = 0) → e ≤ kQ v 0 n := fun e he hz => by
    have h3 := rK_sum (e := e) hz n he n 1 (Nat.le_refl _) (Or.inl rfl)
    have t1 : rK (kP v n) 1 (n + 1) = rK (kP v n) 1 n := rK_same (Or.inl rfl) (by rw [kP_t]; exact sK_pos h01)
    have t2 : rK (rf (kP v n)) (sn n 1) (n + 1) = rK (rf (kP v n)) (sn n 1) n := rK_same (sn_pm (Or.inl rfl)) (by
      unfold sn rf
      rw [kP_t]
      split
      · exact sK_pos h01
      · exact sK_neg (by grind))
    omega
  have h4 := rK_sum (e := kQ v 0 n) hz n (by omega) n 1 (Nat.le_refl _) (Or.inl rfl)
  have t1 : rK (kP v n) 1 (n + 1) = rK (kP v n) 1 n := rK_same (Or.inl rfl) (by rw [kP_t]; exact sK_pos h01)
  have t2 : rK (rf (kP v n)) (sn n 1) (n + 1) = rK (rf (kP v n)) (sn n 1) n := rK_same (sn_pm (Or.inl rfl)) (by
    unfold sn rf
    rw [kP_t]
    split
    · exact sK_pos h01
    · exact sK_neg (by grind))
  refine ⟨by rw [e0]; omega, ez_of n 0 (kQ v 0 n) (Nat.zero_le _) (by omega) (fun j _ hj => ?_) (fun hj hc => ?_)⟩
  · exact iz_inj (K := K) (by rw [hq j (by omega), hz j hj, iz_0])
  · have := key (kQ v 0 n + 1) (by omega) (fun j hj => by
      by_cases x : j < kQ v 0 n
      · exact hz j x
      · rw [show j = kQ v 0 n by omega, ← hq _ (by omega), hc, iz_0])
    omega
theorem k_less {K : Type} [Lean.Grind.CommRing K] [LE K] [LT K] [Std.LawfulOrderLT K] [Std.IsLinearOrder K] [Lean.Grind.OrderedRing K] {n : Nat} {v : Nat → K} {q : Nat → Int} (hs : ∀ i, i + 1 < n → v i ≤ v (i + 1)) (hq : ∀ j, j ≤ n → iz (q j) = kP v n j) : lessI q n = nI (kL v 0 n) ∧ ez q 0 n = kQ v 0 n := by
  obtain ⟨h1, h2⟩ := k_desc hs hq
  refine ⟨?_, h2⟩
  have hall := k_all v 0 n
  have e : nI n = nI (kL v 0 n) + nI (kQ v 0 n) + nI (kG v 0 n) := by
    rw [nI_add, nI_add, hall]
  rw [lessI, h1, h2, e]
  grind
/-- for a polynomial with the zeros m: the counts at the place x of the grid b -/
theorem k_cnt {K : Type} [Lean.Grind.CommRing K] [LE K] [LT K] [Std.LawfulOrderLT K] [Std.IsLinearOrder K] [Lean.Grind.OrderedRing K] {n : Nat} {m : Nat → K} {p : Nat → Int} (hs : ∀ i, i + 1 < n → m i ≤ m (i + 1)) (hp : ∀ j, j ≤ n → iz (p j) = kP m n j) {b : Int} (hb : 0 < b) (x : Int) : lessI (low x n (mulp b n p n) n) n = nI (kL (fun i => iz b * m i) (iz x) n) ∧ ez (low x n (mulp b n p n) n) 0 n = kQ (fun i => iz b * m i) (iz x) n := by
  have hbp := iz_pos (K := K) hb
  have h := k_less (v := fun i => iz b * m i - iz x) (fun i hi => by
    have := Lean.Grind.OrderedRing.mul_le_mul_of_nonneg_left (hs i hi) (Std.le_of_lt hbp)
    grind) (kP_mlow hp x b)
  have e1 : kL (fun i => iz b * m i - iz x) 0 n = kL (fun i => iz b * m i) (iz x) n := kN_cg (fun i _ => dcc ⟨fun q => by grind, fun q => by grind⟩)
  have e2 : kQ (fun i => iz b * m i - iz x) 0 n = kQ (fun i => iz b * m i) (iz x) n := kN_cg (fun i _ => dcc ⟨fun q => by grind, fun q => by grind⟩)
  rw [e1, e2] at h
  exact h
