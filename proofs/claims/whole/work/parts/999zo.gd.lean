/-! what the questions rest on: sizes, cells, trace, blocks -/
theorem kP_tr {K : Type} [Lean.Grind.CommRing K] (m : Nat → K) (n : Nat) : kP m (n + 1) n = -kS m (n + 1) := by
  induction n with
  | zero => show (if (0 : Nat) = 0 then (0 : K) else _) - m 0 * kP m 0 0 = -(0 + m 0); rw [if_pos rfl, kP_t]; grind
  | succ n ih => rw [kP_p, ih, kP_t, kS_s m (n + 1)]; grind
theorem pB_tr (A : Nat → Nat → Int32) (k : Nat) : pB (iA A) (k + 1) k = -trF A (k + 1) := by
  induction k with
  | zero => rw [pB, grF, if_neg (by omega), tlF, if_pos rfl, if_pos (Nat.le_refl _), pB_top, trF, trF]; show 0 + -(A 0 0).toInt * 1 = -(0 + (A 0 0).toInt); omega
  | succ k ih => rw [pB, grF, if_neg (by omega), tlF, if_neg (by omega), if_pos (Nat.le_refl _), Nat.add_sub_cancel, ih, pB_top]; show -trF A (k + 1) + -(A (k + 1) (k + 1)).toInt * 1 = -(trF A (k + 1) + (A (k + 1) (k + 1)).toInt); omega
theorem iz_sm {K : Type} [Lean.Grind.CommRing K] (V : Nat → Int) (n : Nat) : (iz (smF V n) : K) = kS (fun i => iz (V i)) n := by
  induction n with
  | zero => exact iz_0
  | succ n ih => rw [smF, iz_add, ih, kS_s]
theorem kS_lt {K : Type} [Lean.Grind.CommRing K] [LE K] [LT K] [Std.LawfulOrderLT K] [Std.IsLinearOrder K] [Lean.Grind.OrderedRing K] {f g : Nat → K} {n : Nat} (hn : 1 ≤ n) (h : ∀ i, i < n → f i < g i) : kS f n < kS g n := by
  obtain ⟨n, rfl⟩ : ∃ q, n = q + 1 := ⟨n - 1, by omega⟩
  have h1 := kS_le (fun i hi => Std.le_of_lt (h i (show i < n + 1 by omega)) : ∀ i, i < n → f i ≤ g i)
  have h2 := h n (by omega)
  rw [kS_s, kS_s]; grind
theorem bdF_ge {A : Nat → Nat → Int32} {n : Nat} (m : Nat) : ∀ i, i < m → rsF A i n ≤ bdF A n m := by
  induction m with
  | zero => intro i hi; omega
  | succ m ih =>
    intro i hi
    rw [bdF]
    by_cases e : i = m
    · rw [e]; omega
    · have := ih i (by omega); omega
theorem bdF_le6 {A : Nat → Nat → Int32} (hA : smA A) {n : Nat} (h6 : n ≤ 6) (m : Nat) : m ≤ 6 → bdF A n m ≤ 6000000 := by
  induction m with
  | zero => intro _; exact Nat.zero_le _
  | succ m ih =>
    intro hm
    have h1 := ih (by omega)
    have h2 := rsF_le hA (show m < 6 by omega) n h6
    rw [bdF]; omega
/-- zeros in their order -/
def asc {K : Type} [Lean.Grind.CommRing K] [LE K] [LT K] [Std.LawfulOrderLT K] [Std.IsLinearOrder K] [Lean.Grind.OrderedRing K] (n : Nat) (l : Nat → K) : Prop := ∀ i, i + 1 < n → l i ≤ l (i + 1)
def rts {K : Type} [Lean.Grind.CommRing K] [LE K] [LT K] [Std.LawfulOrderLT K] [Std.IsLinearOrder K] [Lean.Grind.OrderedRing K] (n : Nat) (p : Nat → Int) (l : Nat → K) (B : Int) : Prop := asc n l ∧ (∀ j, j ≤ n → iz (p j) = kP l n j) ∧ ∀ i, i < n → iz (-B) ≤ l i ∧ l i ≤ iz B
theorem k_pw {K : Type} [Lean.Grind.CommRing K] [LE K] [LT K] [Std.LawfulOrderLT K] [Std.IsLinearOrder K] [Lean.Grind.OrderedRing K] {n : Nat} (h1 : 1 ≤ n) {A : Nat → Nat → Int} {u : Nat → Nat → K} {m g : Nat → K} (hu : eb n (fun i j => iz (A i j)) u m g) : ∃ s : Nat → Int, pws n m s := by
  refine ⟨fun q => dot (fun _ => 1) (fun i => nwF A (fun j => if j = n then 1 else 0) n q i i) n, fun q => ?_⟩
  have hT : ∀ (x : K) q, kH (fun j => iz (if j = n then 1 else 0)) n x q = kT x q := fun x q => by
    induction q with
    | zero => show iz (if n = n then 1 else 0) = (1 : K); rw [if_pos rfl, iz_1]
    | succ q ih => rw [kH_s, ih, if_neg (show ¬ n - 1 - q = n by omega), iz_0]; show x * kT x q + 0 = x * kT x q; grind
  have hn := k_new (p := fun j => if j = n then 1 else 0) (if_pos rfl) hu.1 hu.2.1 hu.2.2.1 q
  show iz (dot (fun _ => 1) (fun i => nwF A (fun j => if j = n then 1 else 0) n q i i) n) = _
  rw [iz_dot]
  have e1 : kS (fun j => iz 1 * iz (nwF A (fun j => if j = n then 1 else 0) n q j j)) n = kS (fun j => kS (fun l => g l * kH (fun j => iz (if j = n then 1 else 0)) n (m l) q * u l j * u l j) n) n := kS_cg (fun j hj => by rw [hn j j hj hj, iz_1]; grind)
  rw [e1, kS_sw]
  refine kS_cg (fun l hl => ?_)
  have e2 : kS (fun j => g l * kH (fun j => iz (if j = n then 1 else 0)) n (m l) q * u l j * u l j) n = g l * kH (fun j => iz (if j = n then 1 else 0)) n (m l) q * kD n (u l) (u l) := by
    rw [kD, ← kS_mul]
    exact kS_cg (fun j _ => by grind)
  rw [e2, hT]
  have e3 : g l * kT (m l) q * kD n (u l) (u l) = (kD n (u l) (u l) * g l) * kT (m l) q := by grind
  rw [e3, hu.1 l hl]; grind
theorem gd_a {K : Type} [Lean.Grind.CommRing K] [LE K] [LT K] [Std.LawfulOrderLT K] [Std.IsLinearOrder K] [Lean.Grind.OrderedRing K] (hinv : ∀ x : K, x ≠ 0 → ∃ y, x * y = 1) (hsup : ∀ S : K → Prop, (∃ s, S s) → (∃ b, ∀ s, S s → s ≤ b) → ∃ m, (∀ s, S s → s ≤ m) ∧ ∀ b, (∀ s, S s → s ≤ b) → m ≤ b) {n : Nat} (h1 : 1 ≤ n) (h6 : n ≤ 6) {A : Nat → Nat → Int32} (hs : smA A) (hA : ∀ i j, i < n → j < n → A i j = A j i) : ∃ (l : Nat → K) (s : Nat → Int), rts n (pB (iA A) n) l (bdF A n n : Int) ∧ pws n l s ∧ ∀ k, 1 ≤ k → k ≤ n → ∃ q : Nat → K, rts k (pB (iA A) k) q 6000000 ∧ ∀ (b : Int) (x : K), 0 < b → kL (fun i => iz b * q i) x k ≤ kL (fun i => iz b * l i) x n ∧ kL (fun i => iz b * l i) x n + k ≤ kL (fun i => iz b * q i) x k + n := by
  have hAi : ∀ i j, i < n → j < n → iA A i j = iA A j i := fun i j hi hj => by show (A i j).toInt = (A j i).toInt; rw [hA i j hi hj]
  obtain ⟨u, m, g, hu, hp⟩ := k_eb hinv hsup h1 h6 hAi
  obtain ⟨s, hps⟩ := k_pw h1 hu
  refine ⟨m, s, ⟨hu.2.2.2.2.2, hp, fun i hi => k_gersh h1 (hu.2.2.2.2.1 i hi) (fun a ha => hu.2.2.1 i a hi ha) (fun a ha => bdF_ge n a ha)⟩, hps, fun k k1 k2 => ?_⟩
  obtain ⟨w, q, r, hw, hq⟩ := k_eb hinv hsup k1 (by omega) (A := iA A) (fun i j hi hj => hAi i j (by omega) (by omega))
  refine ⟨q, ⟨hw.2.2.2.2.2, hq, fun i hi => ?_⟩, fun b x hb => k_il k2 (fun i j hi hj => by show iz (iA A i j) = iz (iA A j i); rw [hAi i j hi hj]) hu hw (iz_pos hb) x⟩
  exact k_gersh (B := 6000000) k1 (hw.2.2.2.2.1 i hi) (fun a ha => hw.2.2.1 i a hi ha) (fun a ha => by
    have := rsF_le hs (show a < 6 by omega) k (by omega)
    omega)
/-- moved zeros -/
theorem rts_mv {K : Type} [Lean.Grind.CommRing K] [LE K] [LT K] [Std.LawfulOrderLT K] [Std.IsLinearOrder K] [Lean.Grind.OrderedRing K] {n : Nat} {p : Nat → Int} {l : Nat → K} {B : Int} (h : rts n p l B) (hB : 0 ≤ B) {b : Int} (hb : 0 < b) (x : Int) : ∀ j, j ≤ n → bd (2 ^ n * (b * B + (x.natAbs : Int)) ^ (n - j)) (low x n (mulp b n p n) n j) := by
  refine q_bd (v := fun i => iz b * l i - iz x) (by have := Int.mul_nonneg (Int.le_of_lt hb) hB; omega) (fun i hi => ?_) (kP_mlow h.2.1 x b)
  obtain ⟨h1, h2⟩ := h.2.2 i hi
  have hp := Std.le_of_lt (iz_pos (K := K) hb)
  have a1 := Lean.Grind.OrderedRing.mul_le_mul_of_nonneg_left h1 hp
  have a2 := Lean.Grind.OrderedRing.mul_le_mul_of_nonneg_left h2 hp
  rw [← iz_mul] at a1 a2
  have x1 := iz_le (K := K).mpr (show x ≤ (x.natAbs : Int) by omega)
  have x2 := iz_le (K := K).mpr (show -(x.natAbs : Int) ≤ x by omega)
  rw [Int.mul_neg, iz_neg] at a1
  rw [iz_neg] at x2
  rw [iz_neg, iz_add]
  constructor <;> grind
theorem rts_mu {K : Type} [Lean.Grind.CommRing K] [LE K] [LT K] [Std.LawfulOrderLT K] [Std.IsLinearOrder K] [Lean.Grind.OrderedRing K] {n : Nat} {p : Nat → Int} {l : Nat → K} {B : Int} (h : rts n p l B) (hB : 0 ≤ B) {b : Int} (hb : 0 < b) : ∀ j, j ≤ n → bd (2 ^ n * (b * B) ^ (n - j)) (mulp b n p n j) := by
  refine q_bd (v := fun i => iz b * l i) (Int.mul_nonneg (Int.le_of_lt hb) hB) (fun i hi => ?_) (fun j hj => ?_)
  · obtain ⟨h1, h2⟩ := h.2.2 i hi
    have hp := Std.le_of_lt (iz_pos (K := K) hb)
    have a1 := Lean.Grind.OrderedRing.mul_le_mul_of_nonneg_left h1 hp
    have a2 := Lean.Grind.OrderedRing.mul_le_mul_of_nonneg_left h2 hp
    rw [← iz_mul] at a1 a2
    rw [Int.mul_neg] at a1
    exact ⟨a1, a2⟩
  · rw [kP_mul l b n j hj, ← h.2.1 j hj, ← iz_mul]
    congr 1
    simp only [mulp]
    split
    · rfl
    · rw [show n - j = 0 by omega, Int.pow_zero, Int.mul_one]
theorem rts_cnt {K : Type} [Lean.Grind.CommRing K] [LE K] [LT K] [Std.LawfulOrderLT K] [Std.IsLinearOrder K] [Lean.Grind.OrderedRing K] {n : Nat} {p : Nat → Int} {l : Nat → K} {B : Int} (h : rts n p l B) {b : Int} (hb : 0 < b) (x : Int) : lessI (low x n (mulp b n p n) n) n = nI (kL (fun i => iz b * l i) (iz x) n) ∧ ez (low x n (mulp b n p n) n) 0 n = kQ (fun i => iz b * l i) (iz x) n := k_cnt h.1 h.2.1 hb x
/-- the cells of the finest grid -/
def flo {K : Type} [Lean.Grind.CommRing K] [LE K] [LT K] [Std.LawfulOrderLT K] [Std.IsLinearOrder K] [Lean.Grind.OrderedRing K] (n : Nat) (l : Nat → K) (V : Nat → Int) : Prop := ∀ i, i < n → iz (V i) ≤ iz 1073741824 * l i ∧ iz 1073741824 * l i < iz (V i + 1)
theorem asc_m {K : Type} [Lean.Grind.CommRing K] [LE K] [LT K] [Std.LawfulOrderLT K] [Std.IsLinearOrder K] [Lean.Grind.OrderedRing K] {n : Nat} {l : Nat → K} (h : asc n l) {b : Int} (hb : 0 < b) : ∀ i, i + 1 < n → iz b * l i ≤ iz b * l (i + 1) := fun i hi => Lean.Grind.OrderedRing.mul_le_mul_of_nonneg_left (h i hi) (Std.le_of_lt (iz_pos hb))
theorem gd_b {K : Type} [Lean.Grind.CommRing K] [LE K] [LT K] [Std.LawfulOrderLT K] [Std.IsLinearOrder K] [Lean.Grind.OrderedRing K] (hinv : ∀ x : K, x ≠ 0 → ∃ y, x * y = 1) (hsup : ∀ S : K → Prop, (∃ s, S s) → (∃ b, ∀ s, S s → s ≤ b) → ∃ m, (∀ s, S s → s ≤ m) ∧ ∀ b, (∀ s, S s → s ≤ b) → m ≤ b) {n : Nat} (h1 : 1 ≤ n) (h6 : n ≤ 6) {A : Nat → Nat → Int32} (hs : smA A) (hA : ∀ i j, i < n → j < n → A i j = A j i) : ∃ (l : Nat → K) (s V : Nat → Int), rts n (pB (iA A) n) l (bdF A n n : Int) ∧ pws n l s ∧ flo n l V ∧ (∀ lf, lfOK n (bdF A n n) lf → pl_sz n lf (pfF A n) ∧ ∀ x : Int, -((bdF A n n : Int) * 1073741824) ≤ x → x ≤ (bdF A n n : Int) * 1073741824 + 1 → pl_sz n lf (low x n (pfF A n) n)) ∧
  fcH (fun x => lessI (low x n (pfF A n) n) n) n ((bdF A n n : Int) * 1073741824) V ∧ (∀ i, i < n → -((bdF A n n : Int) * 1073741824) ≤ V i ∧ V i ≤ (bdF A n n : Int) * 1073741824) ∧
  (∀ k (tp bt : Int64), k ≤ n → 0 < bt.toInt → pl_sz k 20 (low tp.toInt k (mulp bt.toInt k (pB (iA A) k) k) k)) ∧ (smF V n ≤ trF A n * 1073741824 ∧ trF A n * 1073741824 < smF V n + n) ∧
  (∀ i k, i < n → 1 ≤ k → k < n → ¬ lessI (low (V i) n (pfF A n) n) n < lessI (low (V i) k (mulp 1073741824 k (pB (iA A) k) k) k) k ∧ lessI (low (V i) n (pfF A n) n) n - lessI (low (V i) k (mulp 1073741824 k (pB (iA A) k) k) k) k ≤ nI n - nI k) := by
  obtain ⟨l, s, hl, hps, hb⟩ := gd_a (K := K) hinv hsup h1 h6 hs hA
  have hB0 : (0 : Int) ≤ (bdF A n n : Int) := by omega
  have h30 : (0 : Int) < 1073741824 := by decide
  have h30p := Std.le_of_lt (iz_pos (K := K) h30)
  obtain ⟨V, hV, hVb⟩ := k_V (n := n) (w := fun i => iz 1073741824 * l i) (last := (bdF A n n : Int) * 1073741824) (by omega) (fun i hi => by
    obtain ⟨b1, b2⟩ := hl.2.2 i hi
    have a1 := Lean.Grind.OrderedRing.mul_le_mul_of_nonneg_left b1 h30p
    have a2 := Lean.Grind.OrderedRing.mul_le_mul_of_nonneg_left b2 h30p
    rw [← iz_mul] at a1 a2
    rw [show (1073741824 : Int) * -(bdF A n n : Int) = -((bdF A n n : Int) * 1073741824) by omega] at a1
    rw [show (1073741824 : Int) * (bdF A n n : Int) = (bdF A n n : Int) * 1073741824 by omega] at a2
    exact ⟨a1, a2⟩)
  have hL : ∀ x : Int, lessI (low x n (pfF A n) n) n = nI (kL (fun i => iz 1073741824 * l i) (iz x) n) := fun x => (rts_cnt hl h30 x).1
  refine ⟨l, s, V, hl, hps, hV, fun lf hlf => ?_, k_fc h6 (asc_m hl.1 h30) hL hV (by omega) hVb, hVb, fun k tp bt hk hbt => ?_, ?_, fun i k hi k1 k2 => ?_⟩
  · obtain ⟨b, b1, b2, b3, b4, b5⟩ := hlf
    have e0 : ((2 ^ b : Nat) : Int) = (2 : Int) ^ b := by rw [Int.natCast_pow]; rfl
    have e1 : (2 : Int) ^ (b + 31) = 2 ^ b * 2147483648 := by rw [Int.pow_add]; rfl
    have hlf : n * (b + 31) + 7 ≤ 30 * lf := by
      rw [show b + 30 + 1 = b + 31 by omega] at b3
      omega
    refine ⟨pl_of h6 (c := 1073741824 * (bdF A n n : Int)) (by omega) (show 0 < b + 31 by omega) (by rw [e1]; omega) hlf (rts_mu hl hB0 h30), fun x x1 x2 => ?_⟩
    exact pl_of h6 (c := 1073741824 * (bdF A n n : Int) + (x.natAbs : Int)) (by omega) (show 0 < b + 31 by omega) (by rw [e1]; omega) hlf (rts_mv hl hB0 h30 x)
  · rcases Nat.eq_zero_or_pos k with z | z
    · subst z
      intro j hj
      obtain rfl : j = 0 := by omega
      show -(1073741824 ^ 20) ≤ 2 * pB (iA A) 0 0 ∧ 2 * pB (iA A) 0 0 < 1073741824 ^ 20
      rw [pB_top]
      decide
    · obtain ⟨q, hq, _⟩ := hb k z hk
      have t1 := Int64.le_toInt tp
      have t2 := Int64.toInt_lt tp
      have t3 := Int64.toInt_lt bt
      exact pl_of (by omega) (c := bt.toInt * 6000000 + (tp.toInt.natAbs : Int)) (e := 86) (by omega) (by decide) (by
        have : (2 : Int) ^ 86 = 77371252455336267181195264 := by decide
        have : (2 : Int) ^ 63 = 9223372036854775808 := by decide
        omega) (by have := Nat.mul_le_mul_right 86 (show k ≤ 6 by omega); omega) (rts_mv hq (by decide) hbt tp.toInt)
  · obtain ⟨n, rfl⟩ : ∃ q, n = q + 1 := ⟨n - 1, by omega⟩
    have e1 : (kS l (n + 1) : K) = iz (trF A (n + 1)) := by
      have := hl.2.1 n (by omega)
      rw [pB_tr, kP_tr, iz_neg] at this
      grind
    have e2 : (iz (trF A (n + 1) * 1073741824) : K) = kS (fun i => iz 1073741824 * l i) (n + 1) := by
      rw [kS_mul, e1, iz_mul]; grind
    constructor
    · refine iz_le (K := K).mp ?_
      rw [e2, iz_sm]
      exact kS_le (fun i hi => (hV i hi).1)
    · refine iz_lt (K := K).mp ?_
      rw [e2, iz_add, iz_sm]
      have := kS_lt (by omega) (fun i hi => (hV i hi).2)
      have e3 : kS (fun i => iz (V i + 1)) (n + 1) = kS (fun i => iz (V i)) (n + 1) + iz ((n + 1 : Nat) : Int) * (1 : K) := by
        rw [← kS_1, ← kS_add]
        exact kS_cg (fun i _ => by rw [iz_add, iz_1])
      rw [e3] at this
      grind
  · obtain ⟨q, hq, hc⟩ := hb k k1 (by omega)
    obtain ⟨c1, c2⟩ := hc 1073741824 (iz (V i)) h30
    rw [hL, (rts_cnt hq h30 (V i)).1]
    have n1 := kL_n1 (fun i => iz 1073741824 * l i) (iz (V i)) n
    have n2 := kL_n1 (fun i => iz 1073741824 * q i) (iz (V i)) k
    generalize kL (fun i => iz 1073741824 * l i) (iz (V i)) n = a at *
    generalize kL (fun i => iz 1073741824 * q i) (iz (V i)) k = b at *
    refine ⟨nI_nlt (by omega) (by omega), ?_⟩
    have s1 : nI a - nI b = nI (a - b) := by
      have := nI_add (a - b) b
      rw [show a - b + b = a by omega] at this
      rw [← this]; grind
    have s2 : nI n - nI k = nI (n - k) := by
      have := nI_add (n - k) k
      rw [show n - k + k = n by omega] at this
      rw [← this]; grind
    rw [s1, s2]
    exact nI_le (by omega) (by omega)
