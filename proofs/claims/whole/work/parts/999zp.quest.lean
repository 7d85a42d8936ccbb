/-! what the questions answer: cells of every grid, whole numbers -/
theorem kLQ_iff {K : Type} [Lean.Grind.CommRing K] [LE K] [LT K] [Std.LawfulOrderLT K] [Std.IsLinearOrder K] [Lean.Grind.OrderedRing K] {w : Nat → K} {n i : Nat} (hs : ∀ i, i + 1 < n → w i ≤ w (i + 1)) (hi : i < n) (x : K) : i < kL w x n + kQ w x n ↔ ¬ x < w i := by
  have e : ∀ c, kL w x c + kQ w x c = kN (fun i => !(@decide (x < w i) (Classical.propDecidable _))) c := fun c => by
    induction c with
    | zero => rfl
    | succ c ih =>
      rcases k_tri (w c - x) with q | q | q
      · rw [kL_y (by grind), kQ_n (by grind), kN_y (by simp [show ¬ x < w c by grind])]; omega
      · rw [kL_n (by grind), kQ_y (by grind), kN_y (by simp [show ¬ x < w c by grind])]; omega
      · rw [kL_n (by grind), kQ_n (by grind), kN_n (by simp [show x < w c by grind])]; omega
  rw [e]
  constructor
  · intro h q
    have := kN_hi (J := fun i => !(@decide (x < w i) (Classical.propDecidable _))) (i := i) n (fun j h1 h2 => by
      have := k_mono hs i (j - i) (by omega)
      rw [show i + (j - i) = j by omega] at this
      simp [show x < w j by grind])
    omega
  · intro h
    have := kN_lo (J := fun i => !(@decide (x < w i) (Classical.propDecidable _))) (c := i + 1) (fun j hj => by
      have := k_mono hs j (i - j) (by omega)
      rw [show j + (i - j) = i by omega] at this
      simp [show ¬ x < w j by grind]) n (by omega)
    omega
/-- the cell of grid w -/
theorem k_cell {K : Type} [Lean.Grind.CommRing K] [LE K] [LT K] [Std.LawfulOrderLT K] [Std.IsLinearOrder K] [Lean.Grind.OrderedRing K] {n : Nat} (h6 : n ≤ 6) {p : Nat → Int} {l : Nat → K} {B : Int} (hl : rts n p l B) (hB : B ≤ 6000000) {b E : Int} (hb : 0 < b) (hE : E = 8000000 * b) {L : Int → Int32} (hL : ∀ x, L x = nI (kL (fun i => iz b * l i) (iz x) n)) {i : Nat} (hi : i < n) {x : Int} (h3 : x = -E ∨ L x ≤ nI i) (h4 : x + 1 = E ∨ ¬ L (x + 1) ≤ nI i) : iz x ≤ iz b * l i ∧ iz b * l i < iz (x + 1) := by
  obtain ⟨b1, b2⟩ := hl.2.2 i hi
  have hbp := Std.le_of_lt (iz_pos (K := K) hb)
  have a1 := Lean.Grind.OrderedRing.mul_le_mul_of_nonneg_left b1 hbp
  have a2 := Lean.Grind.OrderedRing.mul_le_mul_of_nonneg_left b2 hbp
  rw [← iz_mul] at a1 a2
  have hB2 : b * B ≤ b * 6000000 := Int.mul_le_mul_of_nonneg_left hB (Int.le_of_lt hb)
  have hkey : ∀ y : Int, L y ≤ nI i ↔ ¬ iz b * l i < iz y := fun y => by
    rw [hL, nI_leI (by have := kL_n1 (fun i => iz b * l i) (iz y) n; omega) (by omega)]
    exact kL_iff (w := fun i => iz b * l i) (asc_m hl.1 hb) hi (iz y)
  constructor
  · rcases h3 with q | q
    · have : (iz x : K) ≤ iz (b * -B) := iz_le.mpr (by rw [q, hE, Int.mul_neg]; omega)
      grind
    · have := (hkey x).mp q
      grind
  · rcases h4 with q | q
    · have : (iz (b * B) : K) < iz (x + 1) := iz_lt.mpr (by rw [q, hE]; omega)
      grind
    · exact Classical.byContradiction fun z => q ((hkey (x + 1)).mpr z)
theorem k_div {K : Type} [Lean.Grind.CommRing K] [LE K] [LT K] [Std.LawfulOrderLT K] [Std.IsLinearOrder K] [Lean.Grind.OrderedRing K] {l : K} {V x : Int} {w : Nat} (hw : w ≤ 30) (h1 : iz V ≤ iz 1073741824 * l) (h2 : iz 1073741824 * l < iz (V + 1)) (h3 : iz x ≤ iz (2 ^ w) * l) (h4 : iz (2 ^ w) * l < iz (x + 1)) : x = V / 2 ^ (30 - w) := by
  have hp : (0 : Int) < 2 ^ (30 - w) := Int.pow_pos (by decide)
  have e : (1073741824 : Int) = 2 ^ w * 2 ^ (30 - w) := by rw [← Int.pow_add, show w + (30 - w) = 30 by omega]; rfl
  have hk := iz_pos (K := K) hp
  have a3 := Lean.Grind.OrderedRing.mul_le_mul_of_nonneg_left h3 (Std.le_of_lt hk)
  have a4 := Lean.Grind.OrderedRing.mul_lt_mul_of_pos_left h4 hk
  have e2 : iz (2 ^ (30 - w)) * (iz (2 ^ w) * l) = iz 1073741824 * l := by rw [e, iz_mul]; grind
  rw [e2, ← iz_mul] at a3 a4
  have c1 : 2 ^ (30 - w) * x < V + 1 := iz_lt (K := K).mp (by grind)
  have c2 : V < 2 ^ (30 - w) * (x + 1) := iz_lt (K := K).mp (by grind)
  have d1 : x ≤ V / 2 ^ (30 - w) := by
    rw [Int.le_ediv_iff_mul_le hp, Int.mul_comm]; omega
  have d2 : V / 2 ^ (30 - w) < x + 1 := by
    rw [Int.ediv_lt_iff_lt_mul hp, Int.mul_comm]; exact c2
  omega
theorem ex_B (m : Nat) (c : Nat) : m < 2 ^ c → ∃ B, m < 2 ^ B ∧ ∀ k, k < B → 2 ^ k ≤ m := by
  induction c with
  | zero => intro h; exact ⟨0, h, fun k hk => absurd hk (Nat.not_lt_zero _)⟩
  | succ c ih =>
    intro h
    by_cases q : m < 2 ^ c
    · exact ih q
    · refine ⟨c + 1, h, fun k hk => ?_⟩
      have : 2 ^ k ≤ 2 ^ c := Nat.pow_le_pow_right (by decide) (by omega)
      omega
theorem fcH_one {L : Int → Int32} {n : Nat} {last : Int} (h0 : 0 ≤ last) {V W : Nat → Int} (h1 : fcH L n last V) (h2 : fcH L n last W) : ∀ i, i < n → V i = W i := fun i hi => by
  obtain ⟨m, hm⟩ := Int.eq_ofNat_of_zero_le (show 0 ≤ 2 * last by omega)
  obtain ⟨B, b1, b2⟩ := ex_B m m Nat.lt_two_pow_self
  have e : ∀ k : Nat, ((2 ^ k : Nat) : Int) = (2 : Int) ^ k := fun k => by rw [Int.natCast_pow]; rfl
  have c1 : 2 * last < 2 ^ B := by rw [hm, ← e]; exact Int.ofNat_lt.mpr b1
  have c2 : ∀ k, k < B → (2 : Int) ^ k ≤ 2 * last := fun k hk => by rw [hm, ← e]; exact Int.ofNat_le.mpr (b2 k hk)
  rw [← h1.2.1 i B hi c1 c2, ← h2.2.1 i B hi c1 c2]
/-- whole -/
theorem k_wh {K : Type} [Lean.Grind.CommRing K] [LE K] [LT K] [Std.LawfulOrderLT K] [Std.IsLinearOrder K] [Lean.Grind.OrderedRing K] {n : Nat} (h6 : n ≤ 6) {p : Nat → Int} {l : Nat → K} {B : Int} (hl : rts n p l B) {V : Nat → Int} (hV : flo n l V) {i : Nat} (hi : i < n) {x : Int} (x1 : iz x ≤ l i) (x2 : l i < iz (x + 1)) : ((¬ nI i < nI (kL l (iz x) n) ∧ nI i < nI (kL l (iz x) n) + nI (kQ l (iz x) n)) ↔ (V i % 1073741824 = 0 ∧ nI i < nI (kL (fun i => iz 1073741824 * l i) (iz (V i)) n) + nI (kQ (fun i => iz 1073741824 * l i) (iz (V i)) n))) := by
  have h30 : (0 : Int) < 1073741824 := by decide
  have hk := iz_pos (K := K) h30
  obtain ⟨v1, v2⟩ := hV i hi
  have t1 := k_all l (iz x) n
  have t2 := k_all (fun i => iz 1073741824 * l i) (iz (V i)) n
  rw [nI_add, nI_add, nI_ltI (by omega) (by omega), nI_ltI (by omega) (by omega), nI_ltI (by omega) (by omega), kLQ_iff hl.1 hi, kLQ_iff (w := fun i => iz 1073741824 * l i) (asc_m hl.1 h30) hi]
  have e0 : ¬ i < kL l (iz x) n ↔ ¬ l i < iz x := by rw [← kL_iff hl.1 hi (iz x)]; omega
  rw [e0]
  constructor
  · rintro ⟨a, b⟩
    have e : l i = iz x := by grind
    have e2 : iz 1073741824 * l i = iz (1073741824 * x) := by rw [e, iz_mul]
    rw [e2] at v1 v2
    have c1 := iz_le (K := K).mp v1
    have c2 := iz_lt (K := K).mp v2
    have c3 : V i = 1073741824 * x := by omega
    refine ⟨by omega, ?_⟩
    show ¬ iz (V i) < iz 1073741824 * l i
    rw [e2, c3]; grind
  · rintro ⟨a, b⟩
    have b : ¬ iz (V i) < iz 1073741824 * l i := b
    have e : iz 1073741824 * l i = iz (V i) := by grind
    have e3 : V i = 1073741824 * (V i / 1073741824) := by omega
    rw [e3, iz_mul] at e
    have e4 : l i = iz (V i / 1073741824) := by
      refine Classical.byContradiction fun q => k_nz (x := iz 1073741824) (y := l i - iz (V i / 1073741824)) (fun z => by rw [z] at hk; grind) (fun z => q (by grind)) ?_
      grind
    rw [e4] at x1 x2 ⊢
    have c1 := iz_le (K := K).mp x1
    have c2 := iz_lt (K := K).mp x2
    have c3 : V i / 1073741824 = x := by omega
    rw [c3]
    constructor <;> grind
