/-! sorted zeros: counts, cells, sizes -/
theorem kN_lo {J : Nat → Bool} {c : Nat} (h : ∀ j, j < c → J j = true) (n : Nat) : c ≤ n → c ≤ kN J n := by
  induction n with
  | zero => intro hc; omega
  | succ n ih =>
    intro hc
    by_cases e : c = n + 1
    · have h1 : n ≤ kN J n := by
        clear ih
        have : ∀ k, k ≤ n → k ≤ kN J k := fun k => by
          induction k with
          | zero => intro _; exact Nat.le_refl _
          | succ k ihk => intro hk; rw [kN_y (h k (by omega))]; have := ihk (by omega); omega
        exact this n (Nat.le_refl _)
      rw [kN_y (h n (by omega))]; omega
    · have := ih (by omega)
      rw [kN_s]; omega
theorem kN_hi {J : Nat → Bool} {i : Nat} (n : Nat) : (∀ j, i ≤ j → j < n → J j = false) → kN J n ≤ i := by
  induction n with
  | zero => intro _; exact Nat.zero_le _
  | succ n ih =>
    intro h
    have h1 := ih (fun j h1 h2 => h j h1 (by omega))
    by_cases e : i ≤ n
    · rw [kN_n (h n e (by omega))]; exact h1
    · have : ∀ k, kN J k ≤ k := fun k => by
        induction k with
        | zero => exact Nat.le_refl _
        | succ k ihk => rw [kN_s]; split <;> omega
      have := this (n + 1)
      omega
theorem kL_iff {K : Type} [Lean.Grind.CommRing K] [LE K] [LT K] [Std.LawfulOrderLT K] [Std.IsLinearOrder K] [Lean.Grind.OrderedRing K] {w : Nat → K} {n i : Nat} (hs : ∀ i, i + 1 < n → w i ≤ w (i + 1)) (hi : i < n) (x : K) : kL w x n ≤ i ↔ ¬ w i < x := by
  constructor
  · intro h q
    have := kN_lo (J := fun i => @decide (w i < x) (Classical.propDecidable _)) (c := i + 1) (fun j hj => dct (by
      have := k_mono hs j (i - j) (by omega)
      rw [show j + (i - j) = i by omega] at this
      grind)) n (by omega)
    have e : kN (fun i => @decide (w i < x) (Classical.propDecidable _)) n = kL w x n := rfl
    omega
  · intro h
    exact kN_hi n (fun j h1 h2 => dcf (fun q => h (by
      have := k_mono hs i (j - i) (by omega)
      rw [show i + (j - i) = j by omega] at this
      grind)))
theorem kL_n1 {K : Type} [Lean.Grind.CommRing K] [LE K] [LT K] [Std.LawfulOrderLT K] [Std.IsLinearOrder K] [Lean.Grind.OrderedRing K] (w : Nat → K) (x : K) (n : Nat) : kL w x n ≤ n := by have := k_all w x n; omega
theorem k_floor {K : Type} [Lean.Grind.CommRing K] [LE K] [LT K] [Std.LawfulOrderLT K] [Std.IsLinearOrder K] [Lean.Grind.OrderedRing K] (N : Nat) : ∀ (a : Int) (y : K), iz a ≤ y → y < iz (a + N) → ∃ z, iz z ≤ y ∧ y < iz (z + 1) := by
  induction N with
  | zero => intro a y h1 h2; rw [show a + ((0 : Nat) : Int) = a by omega] at h2; grind
  | succ N ih =>
    intro a y h1 h2
    by_cases q : y < iz (a + 1)
    · exact ⟨a, h1, q⟩
    · refine ih (a + 1) y (by grind) ?_
      rw [show a + 1 + (N : Int) = a + ((N + 1 : Nat) : Int) by omega]; exact h2
theorem k_V {K : Type} [Lean.Grind.CommRing K] [LE K] [LT K] [Std.LawfulOrderLT K] [Std.IsLinearOrder K] [Lean.Grind.OrderedRing K] {n : Nat} {w : Nat → K} {last : Int} (h0 : 0 ≤ last) (hw : ∀ i, i < n → iz (-last) ≤ w i ∧ w i ≤ iz last) : ∃ V : Nat → Int, (∀ i, i < n → iz (V i) ≤ w i ∧ w i < iz (V i + 1)) ∧ ∀ i, i < n → -last ≤ V i ∧ V i ≤ last := by
  have h : ∀ i, ∃ z : Int, i < n → (iz z ≤ w i ∧ w i < iz (z + 1)) ∧ (-last ≤ z ∧ z ≤ last) := fun i => by
    by_cases q : i < n
    · obtain ⟨h1, h2⟩ := hw i q
      obtain ⟨z, z1, z2⟩ := k_floor (2 * last + 1).toNat (-last) (w i) h1 (by
        have : (iz last : K) < iz (last + 1) := iz_lt.mpr (by omega)
        rw [show -last + ((2 * last + 1).toNat : Int) = last + 1 by omega]
        grind)
      refine ⟨z, fun _ => ⟨⟨z1, z2⟩, ?_, ?_⟩⟩
      · have : (iz (-last) : K) < iz (z + 1) := by grind
        have := iz_lt.mp this
        omega
      · have : (iz z : K) ≤ iz last := by grind
        exact iz_le.mp this
    · exact ⟨0, fun p => absurd p q⟩
  obtain ⟨V, hV⟩ := Classical.axiomOfChoice h
  exact ⟨V, fun i hi => (hV i hi).1, fun i hi => (hV i hi).2⟩
section FC
theorem k_key {K : Type} [Lean.Grind.CommRing K] [LE K] [LT K] [Std.LawfulOrderLT K] [Std.IsLinearOrder K] [Lean.Grind.OrderedRing K] {n : Nat} (h6 : n ≤ 6) {w : Nat → K} (hs : ∀ i, i + 1 < n → w i ≤ w (i + 1)) {V : Nat → Int} (hV : ∀ i, i < n → iz (V i) ≤ w i ∧ w i < iz (V i + 1)) {i : Nat} (hi : i < n) (x : Int) : kL w (iz x) n ≤ i ↔ x ≤ V i := by
  rw [kL_iff hs hi]
  obtain ⟨h1, h2⟩ := hV i hi
  constructor
  · intro q
    have : (iz x : K) < iz (V i + 1) := by grind
    have := iz_lt.mp this
    omega
  · intro q
    have := iz_le (K := K).mpr q
    grind
theorem k_keyI {K : Type} [Lean.Grind.CommRing K] [LE K] [LT K] [Std.LawfulOrderLT K] [Std.IsLinearOrder K] [Lean.Grind.OrderedRing K] {n : Nat} (h6 : n ≤ 6) {w : Nat → K} (hs : ∀ i, i + 1 < n → w i ≤ w (i + 1)) {V : Nat → Int} (hV : ∀ i, i < n → iz (V i) ≤ w i ∧ w i < iz (V i + 1)) {i : Nat} (hi : i < n) (x : Int) : nI (kL w (iz x) n) ≤ nI i ↔ x ≤ V i := by
  have := kL_n1 w (iz x) n
  rw [nI_leI (by omega) (by omega)]
  exact k_key h6 hs hV hi x
theorem fcS_V {L : Int → Int32} {last : Int} {i : Nat} {v : Int} (key : ∀ x, L x ≤ nI i ↔ x ≤ v) (hl : v ≤ last) (b : Nat) : ∀ e, e ≤ v → v < e + 2 ^ b → fcS L last (nI i) b e = v := by
  induction b with
  | zero => intro e h1 h2; rw [Int.pow_zero] at h2; show e = v; omega
  | succ b ih =>
    intro e h1 h2
    rw [Int.pow_succ] at h2
    rw [fcS]
    by_cases q : e + 2 ^ b ≤ v
    · rw [if_pos ⟨by omega, (key _).mpr q⟩]
      exact ih _ q (by omega)
    · rw [if_neg (fun p => q ((key _).mp p.2))]
      exact ih e h1 (by omega)
theorem k_fc {K : Type} [Lean.Grind.CommRing K] [LE K] [LT K] [Std.LawfulOrderLT K] [Std.IsLinearOrder K] [Lean.Grind.OrderedRing K] {n : Nat} (h6 : n ≤ 6) {w : Nat → K} (hs : ∀ i, i + 1 < n → w i ≤ w (i + 1)) {L : Int → Int32} (hL : ∀ x, L x = nI (kL w (iz x) n)) {V : Nat → Int} (hV : ∀ i, i < n → iz (V i) ≤ w i ∧ w i < iz (V i + 1)) {last : Int} (h0 : 0 ≤ last) (hb : ∀ i, i < n → -last ≤ V i ∧ V i ≤ last) : fcH L n last V := by
  refine ⟨fun x _ _ => ⟨_, kL_n1 w (iz x) n, hL x⟩, fun i B hi h1 h2 => ?_, fun i m m2 j hi e1 e2 hm hm2 h1 h2 => ?_⟩
  · obtain ⟨b1, b2⟩ := hb i hi
    refine fcS_V (v := V i) (fun x => by rw [hL]; exact k_keyI h6 hs hV hi x) b2 (B + 1) (-last) b1 ?_
    rw [Int.pow_succ]
    have : (0 : Int) < 2 ^ B := Int.pow_pos (by decide)
    omega
  · rw [hL, nI_eq (by have := kL_n1 w (iz (V i)) n; omega) (by omega)] at e1
    rw [hL, nI_eq (by have := kL_n1 w (iz (V i + 1)) n; omega) (by omega)] at e2
    have hj : j < n := by omega
    have k1 := (k_key h6 hs hV hj (V i)).mp (by omega)
    have k2 : ¬ V i + 1 ≤ V j := fun q => by
      have := (k_key h6 hs hV hj (V i + 1)).mpr q
      omega
    omega
end FC
/-- sizes -/
theorem kP_bd {K : Type} [Lean.Grind.CommRing K] [LE K] [LT K] [Std.LawfulOrderLT K] [Std.IsLinearOrder K] [Lean.Grind.OrderedRing K] {v : Nat → K} {c : Int} (hc : 0 ≤ c) (n : Nat) : (∀ i, i < n → iz (-c) ≤ v i ∧ v i ≤ iz c) → ∀ j, j ≤ n → iz (-(2 ^ n * c ^ (n - j))) ≤ kP v n j ∧ kP v n j ≤ iz (2 ^ n * c ^ (n - j)) := by
  have h01 : (0 : K) < 1 := Lean.Grind.OrderedRing.zero_lt_one
  induction n with
  | zero =>
    intro _ j hj
    obtain rfl : j = 0 := by omega
    show iz (-(2 ^ 0 * c ^ 0)) ≤ (1 : K) ∧ (1 : K) ≤ iz (2 ^ 0 * c ^ 0)
    rw [Int.pow_zero, Int.pow_zero, Int.mul_one, iz_neg, iz_1]
    constructor <;> grind
  | succ n ih =>
    intro hv j hj
    have ih := ih (fun i hi => hv i (by omega))
    have hp : ∀ k : Nat, (0 : Int) ≤ 2 ^ n * c ^ k := fun k => Int.mul_nonneg (Int.le_of_lt (Int.pow_pos (by decide))) (Int.pow_nonneg hc)
    by_cases q : j = n + 1
    · rw [q, kP_t, Nat.sub_self, Int.pow_zero, Int.mul_one, iz_neg, ← iz_1]
      have h1 : (1 : Int) ≤ 2 ^ (n + 1) := by have : (0 : Int) < 2 ^ (n + 1) := Int.pow_pos (by decide); omega
      have h2 := iz_le (K := K).mpr h1
      rw [iz_1] at h2 ⊢
      constructor <;> grind
    · obtain ⟨a1, a2⟩ := ih j (by omega)
      obtain ⟨b1, b2⟩ := hv n (by omega)
      rw [iz_neg] at a1 b1
      have m := k_bd b2 b1 a2 a1
      rw [← iz_mul] at m
      have e : (2 : Int) ^ (n + 1) * c ^ (n + 1 - j) = 2 ^ n * c ^ (n - j + 1) + c * (2 ^ n * c ^ (n - j)) := by
        rw [show n + 1 - j = n - j + 1 by omega, Int.pow_succ, Int.pow_succ]; grind
      rw [e, iz_neg, iz_add]
      have hpp := iz_le (K := K).mpr (hp (n - j + 1))
      rw [iz_0] at hpp
      rw [kP_s]
      by_cases z : j = 0
      · rw [if_pos z]
        constructor <;> grind
      · rw [if_neg z]
        obtain ⟨c1, c2⟩ := ih (j - 1) (by omega)
        rw [iz_neg, show n - (j - 1) = n - j + 1 by omega] at c1
        rw [show n - (j - 1) = n - j + 1 by omega] at c2
        constructor <;> grind
theorem q_bd {K : Type} [Lean.Grind.CommRing K] [LE K] [LT K] [Std.LawfulOrderLT K] [Std.IsLinearOrder K] [Lean.Grind.OrderedRing K] {v : Nat → K} {c : Int} (hc : 0 ≤ c) {n : Nat} (hv : ∀ i, i < n → iz (-c) ≤ v i ∧ v i ≤ iz c) {q : Nat → Int} (hq : ∀ j, j ≤ n → iz (q j) = kP v n j) : ∀ j, j ≤ n → bd (2 ^ n * c ^ (n - j)) (q j) := fun j hj => by
  have h := kP_bd hc n hv j hj
  rw [← hq j hj] at h
  exact ⟨iz_le.mp h.1, iz_le.mp h.2⟩
/-- a polynomial that is small enough for its limbs -/
theorem pl_of {n lf e : Nat} {c : Int} {q : Nat → Int} (h6 : n ≤ 6) (hc : 0 ≤ c) (he1 : 0 < e) (he : c < 2 ^ e) (hl : n * e + 7 ≤ 30 * lf) (h : ∀ j, j ≤ n → bd (2 ^ n * c ^ (n - j)) (q j)) : pl_sz n lf q := fun j hj => by
  have hb := h j hj
  have e1 : (1073741824 : Int) ^ lf = 2 ^ (30 * lf) := by rw [Int.pow_mul]; rfl
  have e2 : (2 : Int) ^ (n * e + 7) ≤ 2 ^ (30 * lf) := p2_le hl
  have e3 : 2 * ((2 : Int) ^ n * c ^ (n - j)) < 2 ^ (n * e + 7) := by
    obtain ⟨c, rfl⟩ := Int.eq_ofNat_of_zero_le hc
    have he : c < 2 ^ e := by
      have : ((2 ^ e : Nat) : Int) = (2 : Int) ^ e := by rw [Int.natCast_pow]; rfl
      omega
    have k1 : c ^ (n - j) ≤ (2 ^ e) ^ (n - j) := Nat.pow_le_pow_left (Nat.le_of_lt he) _
    have k2 : (2 ^ e) ^ (n - j) = 2 ^ (e * (n - j)) := (Nat.pow_mul ..).symm
    have k3 : 2 ^ (e * (n - j)) ≤ 2 ^ (n * e) := Nat.pow_le_pow_right (by decide) (by rw [Nat.mul_comm n e]; exact Nat.mul_le_mul_left _ (by omega))
    have k4 : 2 ^ n ≤ 2 ^ 6 := Nat.pow_le_pow_right (by decide) h6
    have k7 : 2 * (2 ^ n * c ^ (n - j)) < 2 ^ (n * e + 7) := by
      rcases Nat.eq_zero_or_pos (n - j) with z | z
      · rw [z, Nat.pow_zero, Nat.mul_one]
        by_cases w : n = 0
        · subst w
          simp only [Nat.zero_mul, Nat.zero_add]
          decide
        · have : 2 ^ 8 ≤ 2 ^ (n * e + 7) := Nat.pow_le_pow_right (by decide) (by have := Nat.mul_pos (Nat.pos_of_ne_zero w) he1; omega)
          omega
      · have k5 : c ^ (n - j) < 2 ^ (e * (n - j)) := by rw [← k2]; exact Nat.pow_lt_pow_left he (by omega)
        have k6 : 2 ^ n * c ^ (n - j) < 2 ^ 6 * 2 ^ (n * e) := Nat.lt_of_lt_of_le (Nat.mul_lt_mul_of_pos_left (Nat.lt_of_lt_of_le k5 k3) (Nat.pow_pos (by decide))) (Nat.mul_le_mul_right _ k4)
        rw [Nat.pow_add]
        omega
    have e4 : ((2 * (2 ^ n * c ^ (n - j)) : Nat) : Int) = 2 * ((2 : Int) ^ n * (c : Int) ^ (n - j)) := by
      rw [Int.natCast_mul, Int.natCast_mul, Int.natCast_pow, Int.natCast_pow]; rfl
    have e5 : ((2 ^ (n * e + 7) : Nat) : Int) = (2 : Int) ^ (n * e + 7) := by rw [Int.natCast_pow]; rfl
    rw [← e4, ← e5]
    exact Int.ofNat_lt.mpr k7
  have b1 := hb.1
  have b2 := hb.2
  rw [e1]
  constructor <;> omega
