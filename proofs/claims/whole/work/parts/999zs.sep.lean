/-! how near two different zeros may be -/
/-- the product of t - r q, q below n, q not b -/
def kF {K : Type} [Lean.Grind.CommRing K] (r : Nat → K) (b : Nat) : Nat → K → K
  | 0, _ => 1
  | n + 1, t => (if n = b then 1 else t - r n) * kF r b n t
theorem kF_s {K : Type} [Lean.Grind.CommRing K] (r : Nat → K) (b n : Nat) (t : K) : kF r b (n + 1) t = (if n = b then 1 else t - r n) * kF r b n t := rfl
theorem kF_lo {K : Type} [Lean.Grind.CommRing K] (r : Nat → K) (b n : Nat) (t : K) : n ≤ b → kF r b n t = kW r n t := by
  induction n with
  | zero => intro _; rfl
  | succ n ih => intro h; rw [kF_s, if_neg (by omega), ih (by omega), kW_s]
theorem kF_W {K : Type} [Lean.Grind.CommRing K] (r : Nat → K) (b n : Nat) (t : K) : b < n → kW r n t = (t - r b) * kF r b n t := by
  induction n with
  | zero => intro h; omega
  | succ n ih =>
    intro h
    rw [kF_s, kW_s]
    by_cases e : n = b
    · rw [if_pos e, kF_lo r b n t (by omega), e]; grind
    · rw [if_neg e, ih (by omega)]; grind
theorem kF_pft {K : Type} [Lean.Grind.CommRing K] (r : Nat → K) (b : Nat) (n : Nat) : b ≤ n → pft n 1 (kF r b (n + 1)) := by
  induction n with
  | zero => intro h; exact pft_cg (pft_con 1) (fun t => by rw [kF_s, if_pos (by omega)]; show (1 : K) = 1 * 1; grind)
  | succ n ih =>
    intro h
    by_cases e : n + 1 = b
    · exact pft_cg (pft_W r (n + 1)) (fun t => by rw [kF_s, if_pos e, kF_lo r b (n + 1) t (by omega)]; grind)
    · have h1 := ih (by omega)
      have h2 := pft_t h1
      have h3 := pft_up h1 0
      have h4 := pft_lin 1 (-r (n + 1)) h2 h3
      rw [show 1 * (1 : K) + -r (n + 1) * 0 = 1 by grind] at h4
      exact pft_cg h4 (fun t => by rw [kF_s r b (n + 1), if_neg e]; grind)
theorem kF_z {K : Type} [Lean.Grind.CommRing K] [LE K] [LT K] [Std.LawfulOrderLT K] [Std.IsLinearOrder K] [Lean.Grind.OrderedRing K] {r : Nat → K} {n b s : Nat} (hb : b < n) (hs : s < n) (hne : r s ≠ r b) : kF r b n (r s) = 0 := by
  have h1 := kF_W r b n (r s) hb
  rw [kW_r r n s hs] at h1
  exact Classical.byContradiction fun w => k_nz (x := r s - r b) (fun z => hne (by grind)) w h1.symm
theorem kF_ne {K : Type} [Lean.Grind.CommRing K] [LE K] [LT K] [Std.LawfulOrderLT K] [Std.IsLinearOrder K] [Lean.Grind.OrderedRing K] {r : Nat → K} {b : Nat} (n : Nat) : (∀ s, s < n → s ≠ b → r s ≠ r b) → kF r b n (r b) ≠ 0 := by
  have h01 : (0 : K) < 1 := Lean.Grind.OrderedRing.zero_lt_one
  induction n with
  | zero => intro _; show (1 : K) ≠ 0; grind
  | succ n ih =>
    intro h
    rw [kF_s]
    refine k_nz ?_ (ih (fun s hs => h s (by omega)))
    by_cases e : n = b
    · rw [if_pos e]; grind
    · rw [if_neg e]
      exact fun z => h n (by omega) e (by grind)
/-- without a, too -/
def kY {K : Type} [Lean.Grind.CommRing K] (r : Nat → K) (a b : Nat) : Nat → K
  | 0 => 1
  | n + 1 => (if n = b ∨ n = a then 1 else r b - r n) * kY r a b n
theorem kY_s {K : Type} [Lean.Grind.CommRing K] (r : Nat → K) (a b n : Nat) : kY r a b (n + 1) = (if n = b ∨ n = a then 1 else r b - r n) * kY r a b n := rfl
theorem kF_Y {K : Type} [Lean.Grind.CommRing K] (r : Nat → K) {a b : Nat} (hab : a ≠ b) (n : Nat) : kF r b n (r b) = (if a < n then r b - r a else 1) * kY r a b n := by
  induction n with
  | zero => rw [if_neg (by omega)]; show (1 : K) = 1 * 1; grind
  | succ n ih =>
    rw [kF_s, kY_s, ih]
    by_cases e : n = b
    · have h1 : (if a < n then r b - r a else (1 : K)) = (if a < n + 1 then r b - r a else 1) := by
        by_cases w : a < n
        · rw [if_pos w, if_pos (by omega)]
        · rw [if_neg w, if_neg (by omega)]
      rw [if_pos e, if_pos (show n = b ∨ n = a from Or.inl e), h1]
      all_goals grind
    · rw [if_neg e]
      by_cases z : n = a
      · rw [if_pos (show n = b ∨ n = a from Or.inr z), if_neg (show ¬ a < n by omega), if_pos (show a < n + 1 by omega), z]
        all_goals grind
      · have h1 : (if a < n then r b - r a else (1 : K)) = (if a < n + 1 then r b - r a else 1) := by
          by_cases w : a < n
          · rw [if_pos w, if_pos (by omega)]
          · rw [if_neg w, if_neg (by omega)]
        rw [if_neg (show ¬ (n = b ∨ n = a) by omega), h1]
        all_goals grind
def cnt2 (a b n : Nat) : Nat := n - (if a < n then 1 else 0) - (if b < n then 1 else 0)
theorem kY_bd {K : Type} [Lean.Grind.CommRing K] [LE K] [LT K] [Std.LawfulOrderLT K] [Std.IsLinearOrder K] [Lean.Grind.OrderedRing K] {r : Nat → K} {B : Int} (hB : 0 ≤ B) {a b R : Nat} (hab : a ≠ b) (hb : b < R) (hr : ∀ s, s < R → kin B (r s)) (n : Nat) : n ≤ R → kin ((2 * B) ^ cnt2 a b n) (kY r a b n) := by
  have h01 : (0 : K) < 1 := Lean.Grind.OrderedRing.zero_lt_one
  have k1 : kin 1 (1 : K) := ⟨by rw [iz_1]; grind, by rw [iz_1]; grind⟩
  induction n with
  | zero =>
    intro _
    have e0 : cnt2 a b 0 = 0 := by unfold cnt2; omega
    rw [e0, Int.pow_zero]
    exact k1
  | succ n ih =>
    intro hn
    have i1 := ih (by omega)
    rw [kY_s]
    by_cases e : n = b ∨ n = a
    · rw [if_pos e]
      have ec : cnt2 a b (n + 1) = cnt2 a b n := by
        unfold cnt2
        rcases e with e | e
        · rw [e]
          by_cases w : a < b
          · rw [if_pos (by omega), if_pos (by omega), if_pos w, if_neg (by omega)]; omega
          · rw [if_neg (by omega), if_pos (by omega), if_neg w, if_neg (by omega)]; omega
        · rw [e]
          by_cases w : b < a
          · rw [if_pos (by omega), if_pos (by omega), if_neg (by omega), if_pos w]; omega
          · rw [if_pos (by omega), if_neg (by omega), if_neg (by omega), if_neg w]; omega
      rw [ec, show (1 : K) * kY r a b n = kY r a b n by grind]
      exact i1
    · rw [if_neg e]
      have ec : cnt2 a b (n + 1) = cnt2 a b n + 1 := by
        unfold cnt2
        have w1 : (if a < n + 1 then 1 else 0) = (if a < n then 1 else 0) := by
          by_cases w : a < n
          · rw [if_pos w, if_pos (by omega)]
          · rw [if_neg w, if_neg (by omega)]
        have w2 : (if b < n + 1 then 1 else 0) = (if b < n then 1 else 0) := by
          by_cases w : b < n
          · rw [if_pos w, if_pos (by omega)]
          · rw [if_neg w, if_neg (by omega)]
        rw [w1, w2]
        by_cases x : a < n
        · by_cases y : b < n
          · rw [if_pos x, if_pos y]; omega
          · rw [if_pos x, if_neg y]; omega
        · by_cases y : b < n
          · rw [if_neg x, if_pos y]; omega
          · rw [if_neg x, if_neg y]; omega
      have d : kin (2 * B) (r b - r n) := by
        obtain ⟨x1, x2⟩ := hr b hb
        obtain ⟨y1, y2⟩ := hr n (by omega)
        have e2 : (iz (2 * B) : K) = iz B + iz B := by rw [show 2 * B = B + B by omega, iz_add]
        constructor <;> rw [e2] <;> grind
      have := kin_mul d i1
      rw [ec, Int.pow_succ, Int.mul_comm]
      exact this
/-- the first distance: by the determinant of all different zeros -/
theorem sep_D {K : Type} [Lean.Grind.CommRing K] [LE K] [LT K] [Std.LawfulOrderLT K] [Std.IsLinearOrder K] [Lean.Grind.OrderedRing K] {n r : Nat} (h1 : 1 ≤ n) (h6 : n ≤ 6) {l ρ γ : Nat → K} {N : K → K} {s : Nat → Int} {B : Int} (hB : 0 ≤ B) (hkin : ∀ i, i < n → kin B (l i)) (h : pws n l s) (hg : gmn n l r ρ γ N) (hp : ∀ k, k ≤ r → 0 < hD (hA s) k) {a b : Nat} (ha : a < r) (hb : b < r) (hab : a ≠ b) : (1 : K) ≤ iz (6 ^ r * B ^ ((r - 1) * (r - 2)) * ((2 * B) ^ (r - 2) * (2 * B) ^ (r - 2))) * ((ρ b - ρ a) * (ρ b - ρ a)) := by
  obtain ⟨g1, g2, g3, g4, g5, g6, g7, g8, g9, g10, g11, g12, g13, g14⟩ := hg
  have hne : ∀ s c, s < r → c < r → s ≠ c → ρ s ≠ ρ c := fun s c hs hc hsc => by
    rcases Nat.lt_or_gt_of_ne hsc with w | w
    · have := k_str g2 s (c - s - 1) (by omega)
      rw [show s + (c - s - 1 + 1) = c by omega] at this
      grind
    · have := k_str g2 c (s - c - 1) (by omega)
      rw [show c + (s - c - 1 + 1) = s by omega] at this
      grind
  have hρ : ∀ s, s < r → kin B (ρ s) := fun s hs => by
    obtain ⟨i, hi, e⟩ := g13 s hs
    rw [e]; exact hkin i hi
  obtain ⟨q, rfl⟩ : ∃ q, r = q + 1 := ⟨r - 1, by omega⟩
  have m := hD_min h (show q ≤ 5 by omega) (hp (q + 1) (Nat.le_refl _)) (kF_pft ρ b q (by omega))
  have hY := kY_bd hB hab hb hρ (q + 1) (Nat.le_refl _)
  have ec : cnt2 a b (q + 1) = q - 1 := by unfold cnt2; rw [if_pos ha, if_pos hb]; omega
  rw [ec] at hY
  have eF := kF_Y ρ hab (q + 1)
  rw [if_pos ha] at eF
  have sumb : kS (fun i => kF ρ b (q + 1) (l i) * kF ρ b (q + 1) (l i)) n ≤ iz (n : Int) * (kF ρ b (q + 1) (ρ b) * kF ρ b (q + 1) (ρ b)) := by
    rw [← kS_1]
    refine kS_le (fun i hi => ?_)
    obtain ⟨c, hc, e⟩ := g12 i hi
    by_cases w : c = b
    · rw [e, w]; exact Std.le_refl _
    · rw [e, kF_z hb hc (hne c b hc hb w)]
      have := k_sq (kF ρ b (q + 1) (ρ b))
      grind
  have one : (1 : K) ≤ iz (hD (hA s) (q + 1)) := by
    rw [← iz_1]; exact iz_le.mpr (by have := hp (q + 1) (Nat.le_refl _); omega)
  have d0 := hp q (by omega)
  have db := hD_bd h6 g1 hB hkin h hp q (by omega)
  have yy := kin_sq hY
  have dn := Std.le_of_lt (iz_pos (K := K) d0)
  have sq1 := k_sq (ρ b - ρ a)
  have s1 := Lean.Grind.OrderedRing.mul_le_mul_of_nonneg_left sumb dn
  have n6 : (iz (n : Int) : K) ≤ iz 6 := iz_le.mpr (by omega)
  have n0 : (0 : K) ≤ iz (n : Int) := by rw [← iz_0]; exact iz_le.mpr (by omega)
  obtain ⟨X, eX⟩ : ∃ X, X = kF ρ b (q + 1) (ρ b) * kF ρ b (q + 1) (ρ b) := ⟨_, rfl⟩
  obtain ⟨Z, eZ⟩ : ∃ Z, Z = (ρ b - ρ a) * (ρ b - ρ a) := ⟨_, rfl⟩
  have hX : X ≤ Z * iz ((2 * B) ^ (q - 1) * (2 * B) ^ (q - 1)) := by
    have t := Lean.Grind.OrderedRing.mul_le_mul_of_nonneg_left yy sq1
    rw [eX, eZ, eF]
    grind
  have hX0 : 0 ≤ X := by rw [eX]; exact k_sq _
  rw [← eX] at s1
  have s2 : iz (n : Int) * X ≤ iz 6 * (Z * iz ((2 * B) ^ (q - 1) * (2 * B) ^ (q - 1))) := by
    have t1 := Lean.Grind.OrderedRing.mul_le_mul_of_nonneg_right n6 hX0
    have t2 := Lean.Grind.OrderedRing.mul_le_mul_of_nonneg_left hX (Std.le_trans n0 n6)
    grind
  have dbk := iz_le (K := K).mpr db
  have s3 := Lean.Grind.OrderedRing.mul_le_mul_of_nonneg_left s2 dn
  have big0 : 0 ≤ iz 6 * (Z * iz ((2 * B) ^ (q - 1) * (2 * B) ^ (q - 1))) := by
    have := Lean.Grind.OrderedRing.mul_nonneg n0 hX0
    grind
  have s4 := Lean.Grind.OrderedRing.mul_le_mul_of_nonneg_right dbk big0
  have fin : iz (6 ^ q * B ^ (q * (q - 1))) * (iz 6 * (Z * iz ((2 * B) ^ (q - 1) * (2 * B) ^ (q - 1)))) = iz (6 ^ (q + 1) * B ^ ((q + 1 - 1) * (q + 1 - 2)) * ((2 * B) ^ (q + 1 - 2) * (2 * B) ^ (q + 1 - 2))) * Z := by
    rw [show q + 1 - 1 = q by omega, show q + 1 - 2 = q - 1 by omega, iz_mul (6 ^ (q + 1) * B ^ (q * (q - 1))), iz_mul (6 ^ (q + 1)), iz_mul (6 ^ q), Int.pow_succ, iz_mul (6 ^ q) 6]
    grind
  rw [fin] at s4
  rw [← eZ]
  exact Std.le_trans one (Std.le_trans m (Std.le_trans s1 (Std.le_trans s3 s4)))
theorem num_a : ∀ r, r < 7 → (6 : Int) ^ r * 6000000 ^ ((r - 1) * (r - 2)) * (12000000 ^ (r - 2) * 12000000 ^ (r - 2)) ≤ 2 ^ 332 * 2 ^ 332 := by decide
theorem num_b : ∀ r, r < 4 → (6 : Int) ^ r * 6000000 ^ ((r - 1) * (r - 2)) * (12000000 ^ (r - 2) * 12000000 ^ (r - 2)) ≤ 2 ^ 72 * 2 ^ 72 := by decide
theorem ipow_le {a b : Int} (ha : 0 ≤ a) (h : a ≤ b) (k : Nat) : a ^ k ≤ b ^ k := by
  induction k with
  | zero => rw [Int.pow_zero, Int.pow_zero]; exact Int.le_refl _
  | succ k ih =>
    rw [Int.pow_succ, Int.pow_succ]
    exact Int.mul_le_mul ih h ha (Int.pow_nonneg (Int.le_trans ha h))
theorem num_c {B : Int} (hB : 0 ≤ B) (hB6 : B ≤ 6000000) (r : Nat) : 6 ^ r * B ^ ((r - 1) * (r - 2)) * ((2 * B) ^ (r - 2) * (2 * B) ^ (r - 2)) ≤ (6 : Int) ^ r * 6000000 ^ ((r - 1) * (r - 2)) * (12000000 ^ (r - 2) * 12000000 ^ (r - 2)) := by
  have a1 := ipow_le hB hB6 ((r - 1) * (r - 2))
  have a2 := ipow_le (show 0 ≤ 2 * B by omega) (show 2 * B ≤ 12000000 by omega) (r - 2)
  have p1 : (0 : Int) ≤ B ^ ((r - 1) * (r - 2)) := Int.pow_nonneg hB
  have p2 : (0 : Int) ≤ (2 * B) ^ (r - 2) := Int.pow_nonneg (by omega)
  have p6 : (0 : Int) ≤ 6 ^ r := Int.pow_nonneg (by decide)
  have b1 := Int.mul_le_mul_of_nonneg_left a1 p6
  have b2 := Int.mul_le_mul a2 a2 p2 (Int.le_trans p2 a2)
  exact Int.mul_le_mul b1 b2 (Int.mul_nonneg p2 p2) (Int.mul_nonneg p6 (Int.le_trans p1 a1))
theorem sep_of {K : Type} [Lean.Grind.CommRing K] [LE K] [LT K] [Std.LawfulOrderLT K] [Std.IsLinearOrder K] [Lean.Grind.OrderedRing K] {C : Int} {F : Nat} {y z : K} (h : 1 ≤ iz C * ((y - z) * (y - z))) (hC : C ≤ 2 ^ F * 2 ^ F) : 1 ≤ iz (2 ^ F) * (y - z) ∨ 1 ≤ iz (2 ^ F) * (z - y) := by
  have h1 := Lean.Grind.OrderedRing.mul_le_mul_of_nonneg_right (iz_le (K := K).mpr hC) (k_sq (y - z))
  rw [iz_mul] at h1
  rcases Std.le_total (a := iz (2 ^ F) * (y - z)) (b := 0) with q | q
  · refine Or.inr (Classical.byContradiction fun w => ?_)
    have a := Lean.Grind.OrderedRing.mul_nonneg (show 0 ≤ iz (2 ^ F) * (z - y) by grind) (show 0 ≤ 1 - iz (2 ^ F) * (z - y) by grind)
    grind
  · refine Or.inl (Classical.byContradiction fun w => ?_)
    have a := Lean.Grind.OrderedRing.mul_nonneg q (show 0 ≤ 1 - iz (2 ^ F) * (y - z) by grind)
    grind
theorem sep_end {K : Type} [Lean.Grind.CommRing K] [LE K] [LT K] [Std.LawfulOrderLT K] [Std.IsLinearOrder K] [Lean.Grind.OrderedRing K] {w : Int} {y z Y : K} (hw : w ≠ 0) (e : iz w = (y - z) * Y) (hY : kin (2 ^ 72) Y) : (1 : K) ≤ iz (2 ^ 72) * (y - z) ∨ 1 ≤ iz (2 ^ 72) * (z - y) := by
  obtain ⟨y1, y2⟩ := hY
  have w1 : (iz w : K) ≤ -1 ∨ (1 : K) ≤ iz w := by
    rcases Int.lt_or_gt_of_ne hw with q | q
    · left
      have := iz_le (K := K).mpr (show w ≤ -1 by omega)
      rw [iz_neg, iz_1] at this
      exact this
    · right
      rw [← iz_1]; exact iz_le.mpr (by omega)
  rcases Std.le_total (a := y - z) (b := 0) with q | q
  · right
    have m1 := Lean.Grind.OrderedRing.mul_le_mul_of_nonneg_left y1 (show 0 ≤ z - y by grind)
    have m2 := Lean.Grind.OrderedRing.mul_le_mul_of_nonneg_left y2 (show 0 ≤ z - y by grind)
    rcases w1 with w1 | w1 <;> grind
  · left
    have m1 := Lean.Grind.OrderedRing.mul_le_mul_of_nonneg_left y1 q
    have m2 := Lean.Grind.OrderedRing.mul_le_mul_of_nonneg_left y2 q
    rcases w1 with w1 | w1 <;> grind
/-- values at whole places are whole -/
def evI (z : Int) : Nat → (Nat → Int) → Int
  | 0, f => f 0
  | d + 1, f => f 0 + z * evI z d (fun j => f (j + 1))
theorem evI_k {K : Type} [Lean.Grind.CommRing K] (z : Int) (d : Nat) : ∀ f : Nat → Int, kV (fun j => iz (f j)) d (iz z) = (iz (evI z d f) : K) := by
  induction d with
  | zero => intro f; rfl
  | succ d ih => intro f; rw [kV_s, ih (fun j => f (j + 1)), evI, iz_add, iz_mul]
theorem kU_F {K : Type} [Lean.Grind.CommRing K] (r : Nat → K) (b : Nat) (n : Nat) : b < n → kU r n (r b) = kF r b n (r b) := by
  induction n with
  | zero => intro h; omega
  | succ n ih =>
    intro h
    rw [kU_s, kF_s]
    by_cases e : n = b
    · rw [if_pos e, kF_lo r b n _ (by omega), e]; grind
    · rw [if_neg e, ih (by omega), kW_r r n b (by omega)]; grind
/-- a whole repeated zero -/
theorem sep_z {K : Type} [Lean.Grind.CommRing K] [LE K] [LT K] [Std.LawfulOrderLT K] [Std.IsLinearOrder K] [Lean.Grind.OrderedRing K] {r : Nat} (hr : r ≤ 5) {ρ : Nat → K} {M : Nat → Int} {B : Int} (hB : 0 ≤ B) (hB6 : B ≤ 6000000) (hρ : ∀ s, s < r → kin B (ρ s)) (hne : ∀ s c, s < r → c < r → s ≠ c → ρ s ≠ ρ c) (hM : ∀ j, j ≤ r → iz (M j) = kP ρ r j) {a b : Nat} (ha : a < r) (hb : b < r) (hab : a ≠ b) {z : Int} (hz : ρ b = iz z) : (1 : K) ≤ iz (2 ^ 72) * (ρ b - ρ a) ∨ 1 ≤ iz (2 ^ 72) * (ρ a - ρ b) := by
  have h01 : (0 : K) < 1 := Lean.Grind.OrderedRing.zero_lt_one
  have e1 : kF ρ b r (ρ b) = iz (evI z r (fun j => ((j : Int) + 1) * (if j + 1 ≤ r then M (j + 1) else 0))) := by
    rw [← kU_F ρ b r hb, ← kU_d, ← evI_k, ← hz]
    refine kV_cg r _ _ _ (fun j hj => ?_)
    rw [iz_mul]
    by_cases w : j + 1 ≤ r
    · rw [if_pos w, hM (j + 1) w]
    · rw [if_neg w, iz_0, kP_hi ρ r (j + 1) (by omega)]
  obtain ⟨w, ew⟩ : ∃ w, w = evI z r (fun j => ((j : Int) + 1) * (if j + 1 ≤ r then M (j + 1) else 0)) := ⟨_, rfl⟩
  rw [← ew] at e1
  have hw : w ≠ 0 := fun q => kF_ne (r := ρ) (b := b) r (fun s hs hsb => hne s b hs hb hsb) (by rw [e1, q, iz_0])
  have eF := kF_Y ρ hab r
  rw [if_pos ha, e1] at eF
  have hY := kY_bd hB hab hb hρ r (Nat.le_refl _)
  have ec : cnt2 a b r = r - 2 := by unfold cnt2; rw [if_pos ha, if_pos hb]; omega
  rw [ec] at hY
  have hC : (2 * B) ^ (r - 2) ≤ 2 ^ 72 := by
    have a1 := ipow_le (show 0 ≤ 2 * B by omega) (show 2 * B ≤ 12000000 by omega) (r - 2)
    have a2 : (12000000 : Int) ^ (r - 2) ≤ 2 ^ 72 := by
      have : ∀ k, k < 4 → (12000000 : Int) ^ k ≤ 2 ^ 72 := by decide
      exact this (r - 2) (by omega)
    omega
  have hY := kin_le hC hY
  exact sep_end hw eF hY
/-- two repeated zeros, two others -/
theorem sep_22 {K : Type} [Lean.Grind.CommRing K] [LE K] [LT K] [Std.LawfulOrderLT K] [Std.IsLinearOrder K] [Lean.Grind.OrderedRing K] {ρ : Nat → K} {M : Nat → Int} {B a0 a1 : Int} (hB : 0 ≤ B) (hB6 : B ≤ 6000000) (hρ : ∀ s, s < 4 → kin B (ρ s)) (hne : ∀ s c, s < 4 → c < 4 → s ≠ c → ρ s ≠ ρ c) (hM : ∀ j, j ≤ 4 → iz (M j) = kP ρ 4 j) {a b c : Nat} (ha : a < 4) (hb : b < 4) (hc : c < 4) (hab : a ≠ b) (hcb : c ≠ b) (h0 : (iz a0 : K) = ρ b * ρ c) (h1 : (iz a1 : K) = -(ρ b + ρ c)) : (1 : K) ≤ iz (2 ^ 72) * (ρ b - ρ a) ∨ 1 ≤ iz (2 ^ 72) * (ρ a - ρ b) := by
  have h01 : (0 : K) < 1 := Lean.Grind.OrderedRing.zero_lt_one
  have nbc := hne b c hb hc (fun q => hcb q.symm)
  by_cases hac : a = c
  · refine sep_of (C := 1) ?_ (by decide)
    have e : (iz (a1 * a1 - 4 * a0) : K) = (ρ b - ρ a) * (ρ b - ρ a) := by
      rw [iz_sub, iz_mul, iz_mul, h0, h1, hac, show (4 : Int) = 1 + 1 + 1 + 1 from rfl, iz_add, iz_add, iz_add, iz_1]; grind
    have p : (0 : K) < (ρ b - ρ a) * (ρ b - ρ a) := k_sqp (fun z => hne b a hb ha (fun q => hab q.symm) (by grind))
    rw [← e, ← iz_0] at p
    have := iz_le (K := K).mpr (show (1 : Int) ≤ a1 * a1 - 4 * a0 by have := iz_lt.mp p; omega)
    rw [e] at this
    rw [iz_1] at this ⊢
    grind
  · obtain ⟨c1, ec1⟩ : ∃ x : Int, x = M 3 - a1 := ⟨_, rfl⟩
    obtain ⟨e1, ee1⟩ : ∃ x : Int, x = M 2 - a0 - a1 * c1 := ⟨_, rfl⟩
    have m3 : (iz (M 3) : K) = iz a1 + iz c1 := by rw [← iz_add]; congr 1; omega
    have m2 : (iz (M 2) : K) = iz a0 + iz a1 * iz c1 + iz e1 := by rw [← iz_mul, ← iz_add, ← iz_add]; congr 1; omega
    obtain ⟨S, eS⟩ : ∃ S : K → K, ∀ t, S t = t * t + iz c1 * t + iz e1 := ⟨_, fun _ => rfl⟩
    have hW : ∀ t, kW ρ 4 t = iz (M 0) + t * (iz (M 1) + t * (iz (M 2) + t * (iz (M 3) + t * 1))) := fun t => by
      rw [← kW_P, kV_s, kV_s, kV_s, kV_s, kV_z, ← hM 0 (by decide), hM 1 (by decide), hM 2 (by decide), hM 3 (by decide)]
      show _ + t * (kP ρ 4 1 + t * (kP ρ 4 2 + t * (kP ρ 4 3 + t * kP ρ 4 4))) = _
      rw [kP_t]
    have wb : kW ρ 4 (ρ b) = 0 := kW_r ρ 4 b hb
    have wc : kW ρ 4 (ρ c) = 0 := kW_r ρ 4 c hc
    have wa : kW ρ 4 (ρ a) = 0 := kW_r ρ 4 a ha
    have d1 : iz (M 1) - iz a0 * iz c1 - iz a1 * iz e1 = (0 : K) := by
      rw [hW, m2, m3] at wb wc
      refine Classical.byContradiction fun w => k_nz (x := ρ b - ρ c) (fun z => nbc (by grind)) w ?_
      rw [h0, h1] at wb wc ⊢
      grind
    have d0 : iz (M 0) - iz a0 * iz e1 = (0 : K) := by
      rw [hW, m2, m3] at wb
      rw [h0, h1] at wb d1
      rw [h0]
      grind
    have hRS : ∀ t, kW ρ 4 t = (t - ρ b) * ((t - ρ c) * S t) := fun t => by
      rw [hW, m2, m3, eS]
      rw [h0] at d0
      rw [h0, h1] at d1 ⊢
      grind
    have sS : S (ρ a) = 0 := Classical.byContradiction fun w => by
      rw [hRS] at wa
      exact k_nz (x := ρ a - ρ b) (fun z => hne a b ha hb hab (by grind)) (k_nz (x := ρ a - ρ c) (fun z => hne a c ha hc hac (by grind)) w) wa
    obtain ⟨σ, eσ⟩ : ∃ σ : K, σ = -iz c1 - ρ a := ⟨_, rfl⟩
    have hS : ∀ t, S t = (t - ρ a) * (t - σ) := fun t => by
      rw [eS] at sS ⊢
      rw [eσ]; grind
    have kσ : kin B σ := by
      have z : kW ρ 4 σ = 0 := by rw [hRS, hS]; grind
      obtain ⟨s, hs, e⟩ : ∃ s, s < 4 ∧ ρ s = σ := Classical.byContradiction fun w => kW_ne ρ 4 σ (fun i hi q => w ⟨i, hi, q⟩) z
      rw [← e]; exact hρ s hs
    have pS : pf S := pf_cg (pf_mul (pf_x (ρ a)) (pf_x σ)) (fun t => (hS t).symm)
    have fb : ∀ t, kF ρ b 4 t = (t - ρ c) * S t := by
      obtain ⟨f, x1, x2⟩ := kF_pft ρ b 3 (by omega)
      exact pf_can (pf_x (ρ b)) ⟨3, 1, f, x1, x2⟩ (pf_mul (pf_x (ρ c)) pS) ⟨ρ b + 1, by grind⟩ (fun t => by rw [← kF_W ρ b 4 t hb, hRS])
    have fc : ∀ t, kF ρ c 4 t = (t - ρ b) * S t := by
      obtain ⟨f, x1, x2⟩ := kF_pft ρ c 3 (by omega)
      exact pf_can (pf_x (ρ c)) ⟨3, 1, f, x1, x2⟩ (pf_mul (pf_x (ρ b)) pS) ⟨ρ c + 1, by grind⟩ (fun t => by rw [← kF_W ρ c 4 t hc, hRS]; grind)
    have nb : S (ρ b) ≠ 0 := fun z => kF_ne (r := ρ) (b := b) 4 (fun s hs hsb => hne s b hs hb hsb) (by rw [fb, z]; grind)
    have nc : S (ρ c) ≠ 0 := fun z => kF_ne (r := ρ) (b := c) 4 (fun s hs hsc => hne s c hs hc hsc) (by rw [fc, z]; grind)
    obtain ⟨w, ew⟩ : ∃ w : Int, w = a0 * a0 - a1 * c1 * a0 + e1 * (a1 * a1 - a0 - a0) + c1 * c1 * a0 - a1 * c1 * e1 + e1 * e1 := ⟨_, rfl⟩
    have hw : (iz w : K) = S (ρ b) * S (ρ c) := by
      rw [ew, eS, eS]
      simp only [iz_add, iz_sub, iz_mul]
      rw [h0, h1]; grind
    have w0 : w ≠ 0 := fun z => k_nz nb nc (by rw [← hw, z, iz_0])
    have dif : ∀ x y : K, kin B x → kin B y → kin (2 * B) (x - y) := fun x y hx hy => by
      obtain ⟨x1, x2⟩ := hx
      obtain ⟨y1, y2⟩ := hy
      have e2 : (iz (2 * B) : K) = iz B + iz B := by rw [show 2 * B = B + B by omega, iz_add]
      constructor <;> rw [e2] <;> grind
    have kY := kin_mul (dif _ _ (hρ b hb) kσ) (kin_mul (dif _ _ (hρ c hc) (hρ a ha)) (dif _ _ (hρ c hc) kσ))
    refine sep_end (Y := (ρ b - σ) * ((ρ c - ρ a) * (ρ c - σ))) w0 (by rw [hw, hS, hS]; grind) (kin_le ?_ kY)
    have a1 := ipow_le (show 0 ≤ 2 * B by omega) (show 2 * B ≤ 12000000 by omega) 3
    have e3 : (2 * B) ^ 3 = 2 * B * (2 * B * (2 * B)) := by grind
    have e4 : (12000000 : Int) ^ 3 ≤ 2 ^ 72 := by decide
    omega
