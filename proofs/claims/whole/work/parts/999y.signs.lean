/-! changes of sign of a product of t - v: as many as there are v above 0 -/
theorem dct {p : Prop} (h : p) : @decide p (Classical.propDecidable p) = true := @decide_eq_true p (Classical.propDecidable p) h
theorem dcf {p : Prop} (h : ¬ p) : @decide p (Classical.propDecidable p) = false := @decide_eq_false p (Classical.propDecidable p) h
theorem dco {p : Prop} (h : @decide p (Classical.propDecidable p) = true) : p := @of_decide_eq_true p (Classical.propDecidable p) h
theorem dcc {p q : Prop} (h : p ↔ q) : @decide p (Classical.propDecidable p) = @decide q (Classical.propDecidable q) := by rw [propext h]
noncomputable def sK {K : Type} [Lean.Grind.CommRing K] [LE K] [LT K] [Std.LawfulOrderLT K] [Std.IsLinearOrder K] [Lean.Grind.OrderedRing K] (x : K) : Int32 := @ite _ (x < 0) (Classical.propDecidable _) (-1) (@ite _ (x = 0) (Classical.propDecidable _) 0 1)
theorem sK_neg {K : Type} [Lean.Grind.CommRing K] [LE K] [LT K] [Std.LawfulOrderLT K] [Std.IsLinearOrder K] [Lean.Grind.OrderedRing K] {x : K} (h : x < 0) : sK x = -1 := by unfold sK; exact if_pos h
theorem sK_zero {K : Type} [Lean.Grind.CommRing K] [LE K] [LT K] [Std.LawfulOrderLT K] [Std.IsLinearOrder K] [Lean.Grind.OrderedRing K] : sK (0 : K) = 0 := by unfold sK; rw [if_neg (by grind)]; exact if_pos rfl
theorem sK_pos {K : Type} [Lean.Grind.CommRing K] [LE K] [LT K] [Std.LawfulOrderLT K] [Std.IsLinearOrder K] [Lean.Grind.OrderedRing K] {x : K} (h : 0 < x) : sK x = 1 := by unfold sK; rw [if_neg (by grind)]; exact if_neg (by grind)
theorem k_tri {K : Type} [Lean.Grind.CommRing K] [LE K] [LT K] [Std.LawfulOrderLT K] [Std.IsLinearOrder K] [Lean.Grind.OrderedRing K] (x : K) : x < 0 ∨ x = 0 ∨ 0 < x := by
  rcases Std.le_total (a := x) (b := 0) with q | q <;> by_cases e : x = 0 <;> grind
theorem sK_n {K : Type} [Lean.Grind.CommRing K] [LE K] [LT K] [Std.LawfulOrderLT K] [Std.IsLinearOrder K] [Lean.Grind.OrderedRing K] {x : K} : sK x = -1 ↔ x < 0 := ⟨fun h => by
  rcases k_tri x with q | q | q
  · exact q
  · rw [q, sK_zero] at h; exact absurd h (by decide)
  · rw [sK_pos q] at h; exact absurd h (by decide), sK_neg⟩
theorem sK_p {K : Type} [Lean.Grind.CommRing K] [LE K] [LT K] [Std.LawfulOrderLT K] [Std.IsLinearOrder K] [Lean.Grind.OrderedRing K] {x : K} : sK x = 1 ↔ 0 < x := ⟨fun h => by
  rcases k_tri x with q | q | q
  · rw [sK_neg q] at h; exact absurd h (by decide)
  · rw [q, sK_zero] at h; exact absurd h (by decide)
  · exact q, sK_pos⟩
theorem sK_z {K : Type} [Lean.Grind.CommRing K] [LE K] [LT K] [Std.LawfulOrderLT K] [Std.IsLinearOrder K] [Lean.Grind.OrderedRing K] {x : K} : sK x = 0 ↔ x = 0 := ⟨fun h => by
  rcases k_tri x with q | q | q
  · rw [sK_neg q] at h; exact absurd h (by decide)
  · exact q
  · rw [sK_pos q] at h; exact absurd h (by decide), fun h => by rw [h]; exact sK_zero⟩
theorem sK_iz {K : Type} [Lean.Grind.CommRing K] [LE K] [LT K] [Std.LawfulOrderLT K] [Std.IsLinearOrder K] [Lean.Grind.OrderedRing K] (x : Int) : sK (iz x : K) = sg x := by
  rcases Int.lt_trichotomy x 0 with h | h | h
  · rw [sg_neg1.mpr h]; exact sK_neg (by rw [← iz_0]; exact iz_lt.mpr h)
  · rw [h, iz_0, sK_zero]; rfl
  · rw [sg_pos1.mpr h]; exact sK_pos (iz_pos h)
theorem sK_mi {K : Type} [Lean.Grind.CommRing K] [LE K] [LT K] [Std.LawfulOrderLT K] [Std.IsLinearOrder K] [Lean.Grind.OrderedRing K] (x : K) : sK (-x) = -sK x := by
  rcases k_tri x with q | q | q
  · rw [sK_neg q, sK_pos (by grind)]; decide
  · rw [q, show -(0 : K) = 0 by grind, sK_zero]; decide
  · rw [sK_pos q, sK_neg (by grind)]
theorem sK_3 {K : Type} [Lean.Grind.CommRing K] [LE K] [LT K] [Std.LawfulOrderLT K] [Std.IsLinearOrder K] [Lean.Grind.OrderedRing K] (x : K) {lt : Int32} (hlt : lt = 1 ∨ lt = -1) : x = 0 ∨ sK x = lt ∨ sK x = -lt := by
  rcases k_tri x with q | q | q
  · rcases hlt with h | h
    · exact Or.inr (Or.inr (by rw [sK_neg q, h]))
    · exact Or.inr (Or.inl (by rw [sK_neg q, h]))
  · exact Or.inl q
  · rcases hlt with h | h
    · exact Or.inr (Or.inl (by rw [sK_pos q, h]))
    · exact Or.inr (Or.inr (by rw [sK_pos q, h]; decide))
theorem lt_nz {lt : Int32} (h : lt = 1 ∨ lt = -1) : ¬ (0 : Int32) = -lt := by rcases h with h | h <;> rw [h] <;> decide
theorem lt_nn {lt : Int32} (h : lt = 1 ∨ lt = -1) : ¬ lt = -lt := by rcases h with h | h <;> rw [h] <;> decide
noncomputable def rK {K : Type} [Lean.Grind.CommRing K] [LE K] [LT K] [Std.LawfulOrderLT K] [Std.IsLinearOrder K] [Lean.Grind.OrderedRing K] (p : Nat → K) (lt : Int32) : Nat → Nat
  | 0 => 0
  | k + 1 => if sK (p k) = -lt then rK p (sK (p k)) k + 1 else rK p lt k
theorem rK_s {K : Type} [Lean.Grind.CommRing K] [LE K] [LT K] [Std.LawfulOrderLT K] [Std.IsLinearOrder K] [Lean.Grind.OrderedRing K] (p : Nat → K) (lt : Int32) (k : Nat) : rK p lt (k + 1) = if sK (p k) = -lt then rK p (sK (p k)) k + 1 else rK p lt k := rfl
theorem rK_0 {K : Type} [Lean.Grind.CommRing K] [LE K] [LT K] [Std.LawfulOrderLT K] [Std.IsLinearOrder K] [Lean.Grind.OrderedRing K] {p : Nat → K} {lt : Int32} {k : Nat} (hlt : lt = 1 ∨ lt = -1) (h : p k = 0) : rK p lt (k + 1) = rK p lt k := by
  rw [rK_s, h, sK_zero, if_neg (lt_nz hlt)]
theorem rK_same {K : Type} [Lean.Grind.CommRing K] [LE K] [LT K] [Std.LawfulOrderLT K] [Std.IsLinearOrder K] [Lean.Grind.OrderedRing K] {p : Nat → K} {lt : Int32} {k : Nat} (hlt : lt = 1 ∨ lt = -1) (h : sK (p k) = lt) : rK p lt (k + 1) = rK p lt k := by
  rw [rK_s, h, if_neg (lt_nn hlt)]
theorem rK_ch {K : Type} [Lean.Grind.CommRing K] [LE K] [LT K] [Std.LawfulOrderLT K] [Std.IsLinearOrder K] [Lean.Grind.OrderedRing K] {p : Nat → K} {lt : Int32} {k : Nat} (h : sK (p k) = -lt) : rK p lt (k + 1) = rK p (-lt) k + 1 := by
  rw [rK_s, if_pos h, h]
theorem rK_iz {K : Type} [Lean.Grind.CommRing K] [LE K] [LT K] [Std.LawfulOrderLT K] [Std.IsLinearOrder K] [Lean.Grind.OrderedRing K] {p : Nat → K} {q : Nat → Int} (k : Nat) : (∀ j, j < k → iz (q j) = p j) → ∀ lt, ra q lt k = rK p lt k := by
  induction k with
  | zero => intro _ _; rfl
  | succ k ih => intro h lt; rw [ra_s, rK_s, ih (fun j hj => h j (by omega)), ih (fun j hj => h j (by omega)), ← h k (by omega), sK_iz]
theorem rK_cg {K : Type} [Lean.Grind.CommRing K] [LE K] [LT K] [Std.LawfulOrderLT K] [Std.IsLinearOrder K] [Lean.Grind.OrderedRing K] {p q : Nat → K} (k : Nat) : (∀ j, j < k → p j = q j) → ∀ lt, rK p lt k = rK q lt k := by
  induction k with
  | zero => intro _ _; rfl
  | succ k ih => intro h lt; rw [rK_s, rK_s, ih (fun j hj => h j (by omega)), ih (fun j hj => h j (by omega)), h k (by omega)]
theorem rK_zero {K : Type} [Lean.Grind.CommRing K] [LE K] [LT K] [Std.LawfulOrderLT K] [Std.IsLinearOrder K] [Lean.Grind.OrderedRing K] {p : Nat → K} (k : Nat) : (∀ j, j < k → p j = 0) → ∀ lt, (lt = 1 ∨ lt = -1) → rK p lt k = 0 := by
  induction k with
  | zero => intro _ _ _; rfl
  | succ k ih => intro h lt hlt; rw [rK_0 hlt (h k (by omega))]; exact ih (fun j hj => h j (by omega)) lt hlt
theorem rK_flip {K : Type} [Lean.Grind.CommRing K] [LE K] [LT K] [Std.LawfulOrderLT K] [Std.IsLinearOrder K] [Lean.Grind.OrderedRing K] (p : Nat → K) (k : Nat) : ∀ lt, (lt = 1 ∨ lt = -1) → rK p lt k ≤ rK p (-lt) k + 1 := by
  induction k with
  | zero => intro lt _; exact Nat.zero_le _
  | succ k ih =>
    intro lt hlt
    rcases sK_3 (p k) hlt with e | e | e
    · rw [rK_0 hlt e, rK_0 (pm_neg hlt) e]; exact ih lt hlt
    · rw [rK_same hlt e, rK_ch (lt := -lt) (e.trans (neg_neg9 hlt).symm), neg_neg9 hlt]; omega
    · rw [rK_ch e, rK_same (pm_neg hlt) e]; omega
theorem rK_up {K : Type} [Lean.Grind.CommRing K] [LE K] [LT K] [Std.LawfulOrderLT K] [Std.IsLinearOrder K] [Lean.Grind.OrderedRing K] (p : Nat → K) (lt : Int32) (n : Nat) (hlt : lt = 1 ∨ lt = -1) : rK p lt n ≤ rK p lt (n + 1) := by
  rcases sK_3 (p n) hlt with e | e | e
  · rw [rK_0 hlt e]; exact Nat.le_refl _
  · rw [rK_same hlt e]; exact Nat.le_refl _
  · rw [rK_ch e]; exact rK_flip p n lt hlt
theorem rK_mi {K : Type} [Lean.Grind.CommRing K] [LE K] [LT K] [Std.LawfulOrderLT K] [Std.IsLinearOrder K] [Lean.Grind.OrderedRing K] (p : Nat → K) (k : Nat) : ∀ lt, (lt = 1 ∨ lt = -1) → rK (fun j => -p j) lt k = rK p (-lt) k := by
  induction k with
  | zero => intro _ _; rfl
  | succ k ih =>
    intro lt hlt
    rcases sK_3 (p k) hlt with e | e | e
    · rw [rK_0 hlt (show -p k = 0 by rw [e]; grind), rK_0 (pm_neg hlt) e]; exact ih lt hlt
    · rw [rK_ch (show sK (-p k) = -lt by rw [sK_mi, e]), rK_ch (lt := -lt) (e.trans (neg_neg9 hlt).symm), ih (-lt) (pm_neg hlt)]
    · rw [rK_same hlt (show sK (-p k) = lt by rw [sK_mi, e]; exact neg_neg9 hlt), rK_same (pm_neg hlt) e]; exact ih lt hlt
theorem rK_sh {K : Type} [Lean.Grind.CommRing K] [LE K] [LT K] [Std.LawfulOrderLT K] [Std.IsLinearOrder K] [Lean.Grind.OrderedRing K] {c : Nat → K} {i : Nat} (hz : ∀ j, j < i → c j = 0) (n : Nat) : ∀ lt, (lt = 1 ∨ lt = -1) → rK c lt (i + n) = rK (fun j => c (i + j)) lt n := by
  induction n with
  | zero => intro lt hlt; rw [Nat.add_zero, rK_zero i hz lt hlt]; rfl
  | succ n ih =>
    intro lt hlt
    rw [show i + (n + 1) = i + n + 1 by omega]
    rcases sK_3 (c (i + n)) hlt with e | e | e
    · rw [rK_0 hlt e, rK_0 (p := fun j => c (i + j)) hlt e]; exact ih lt hlt
    · rw [rK_same hlt e, rK_same (p := fun j => c (i + j)) hlt e]; exact ih lt hlt
    · rw [rK_ch e, rK_ch (p := fun j => c (i + j)) e, ih _ (pm_neg hlt)]
theorem sK_sub {K : Type} [Lean.Grind.CommRing K] [LE K] [LT K] [Std.LawfulOrderLT K] [Std.IsLinearOrder K] [Lean.Grind.OrderedRing K] {x y h : K} (hh : 0 < h) {lt : Int32} (hlt : lt = 1 ∨ lt = -1) (hx : sK x = -lt ∨ (x = 0 ∧ y ≠ 0)) (hy : y = 0 ∨ sK y = lt) : sK (x - h * y) = -lt := by
  rcases hlt with rfl | rfl
  · have hy' : y = 0 ∨ 0 < y := hy.imp id sK_p.mp
    have hx' : x < 0 ∨ (x = 0 ∧ y ≠ 0) := hx.imp sK_n.mp id
    refine sK_n.mpr ?_
    rcases hy' with q | q
    · rw [q]; grind
    · have := Lean.Grind.OrderedRing.mul_pos hh q
      grind
  · have hy' : y = 0 ∨ y < 0 := hy.imp id sK_n.mp
    have hx' : 0 < x ∨ (x = 0 ∧ y ≠ 0) := hx.imp (fun q => sK_p.mp (q.trans (by decide))) id
    refine (sK_p.mpr ?_).trans (by decide)
    rcases hy' with q | q
    · rw [q]; grind
    · have := Lean.Grind.OrderedRing.mul_pos hh (show 0 < -y by grind)
      grind
theorem dscK0 {K : Type} [Lean.Grind.CommRing K] [LE K] [LT K] [Std.LawfulOrderLT K] [Std.IsLinearOrder K] [Lean.Grind.OrderedRing K] {b c : Nat → K} {h : K} (hh : 0 < h) (n : Nat) : (∀ j, j < n → c j = b j - h * b (j + 1)) → ∀ lt, (lt = 1 ∨ lt = -1) → (b n = 0 ∨ sK (b n) = lt) → rK b lt n ≤ rK c lt n := by
  induction n with
  | zero => intro _ lt _ _; exact Nat.le_refl _
  | succ n ih =>
    intro hc lt hlt hb
    have hc' : ∀ j, j < n → c j = b j - h * b (j + 1) := fun j hj => hc j (by omega)
    have h2 := rK_up c lt n hlt
    rcases sK_3 (b n) hlt with e | e | e
    · have h1 := ih hc' lt hlt (Or.inl e)
      rw [rK_0 hlt e]; omega
    · have h1 := ih hc' lt hlt (Or.inr e)
      rw [rK_same hlt e]; omega
    · have h1 := ih hc' (-lt) (pm_neg hlt) (Or.inr e)
      have hs : sK (c n) = -lt := by rw [hc n (by omega)]; exact sK_sub hh hlt (Or.inl e) hb
      rw [rK_ch e, rK_ch hs]; omega
theorem dscK1 {K : Type} [Lean.Grind.CommRing K] [LE K] [LT K] [Std.LawfulOrderLT K] [Std.IsLinearOrder K] [Lean.Grind.OrderedRing K] {b c : Nat → K} {h : K} (hh : 0 < h) (h0 : b 0 = 0) (n : Nat) : (∀ j, j < n → c j = b j - h * b (j + 1)) → ∀ lt, (lt = 1 ∨ lt = -1) → (b n = 0 ∨ sK (b n) = lt) → (∃ j, j ≤ n ∧ b j ≠ 0) → rK b lt n + 1 ≤ rK c lt n := by
  induction n with
  | zero => intro _ lt _ _ ⟨j, hj, he⟩; exact absurd h0 (by rw [show j = 0 by omega] at he; exact he)
  | succ n ih =>
    intro hc lt hlt hb hex
    have hc' : ∀ j, j < n → c j = b j - h * b (j + 1) := fun j hj => hc j (by omega)
    have h2 := rK_up c lt n hlt
    rcases sK_3 (b n) hlt with e | e | e
    · have hb0 := rK_0 (p := b) hlt e
      by_cases hl : ∃ j, j ≤ n ∧ b j ≠ 0
      · have h1 := ih hc' lt hlt (Or.inl e) hl
        omega
      · have hall : ∀ j, j < n → b j = 0 := fun j hj => Classical.byContradiction fun q => hl ⟨j, by omega, q⟩
        have hr : rK b lt n = 0 := rK_zero n hall lt hlt
        have hn1 : b (n + 1) ≠ 0 := by
          obtain ⟨j, hj, he⟩ := hex
          rcases Nat.lt_or_ge n j with q | q
          · rw [show n + 1 = j by omega]; exact he
          · exact absurd ⟨j, q, he⟩ hl
        have hs : sK (c n) = -lt := by rw [hc n (by omega)]; exact sK_sub hh hlt (Or.inr ⟨e, hn1⟩) hb
        have := rK_ch (p := c) hs
        omega
    · have hb0 := rK_same (p := b) hlt e
      have hne : b n ≠ 0 := fun q => by rw [q, sK_zero] at e; rcases hlt with h | h <;> rw [h] at e <;> exact absurd e (by decide)
      have h1 := ih hc' lt hlt (Or.inr e) ⟨n, Nat.le_refl _, hne⟩
      omega
    · have hne : b n ≠ 0 := fun q => by rw [q, sK_zero] at e; exact lt_nz hlt e
      have h1 := ih hc' (-lt) (pm_neg hlt) (Or.inr e) ⟨n, Nat.le_refl _, hne⟩
      have hs : sK (c n) = -lt := by rw [hc n (by omega)]; exact sK_sub hh hlt (Or.inl e) hb
      rw [rK_ch e, rK_ch hs]; omega
/-- how many of the first n lie below, at, above x -/
noncomputable def kL {K : Type} [Lean.Grind.CommRing K] [LE K] [LT K] [Std.LawfulOrderLT K] [Std.IsLinearOrder K] [Lean.Grind.OrderedRing K] (v : Nat → K) (x : K) (n : Nat) : Nat := kN (fun i => @decide (v i < x) (Classical.propDecidable _)) n
noncomputable def kQ {K : Type} [Lean.Grind.CommRing K] [LE K] [LT K] [Std.LawfulOrderLT K] [Std.IsLinearOrder K] [Lean.Grind.OrderedRing K] (v : Nat → K) (x : K) (n : Nat) : Nat := kN (fun i => @decide (v i = x) (Classical.propDecidable _)) n
noncomputable def kG {K : Type} [Lean.Grind.CommRing K] [LE K] [LT K] [Std.LawfulOrderLT K] [Std.IsLinearOrder K] [Lean.Grind.OrderedRing K] (v : Nat → K) (x : K) (n : Nat) : Nat := kN (fun i => @decide (x < v i) (Classical.propDecidable _)) n
theorem kN_y {J : Nat → Bool} {n : Nat} (h : J n = true) : kN J (n + 1) = kN J n + 1 := by rw [kN_s, if_pos h]
theorem kN_n {J : Nat → Bool} {n : Nat} (h : J n = false) : kN J (n + 1) = kN J n := by rw [kN_s, if_neg (by rw [h]; decide)]; rfl
theorem kL_y {K : Type} [Lean.Grind.CommRing K] [LE K] [LT K] [Std.LawfulOrderLT K] [Std.IsLinearOrder K] [Lean.Grind.OrderedRing K] {v : Nat → K} {x : K} {n : Nat} (h : v n < x) : kL v x (n + 1) = kL v x n + 1 := kN_y (dct h)
theorem kL_n {K : Type} [Lean.Grind.CommRing K] [LE K] [LT K] [Std.LawfulOrderLT K] [Std.IsLinearOrder K] [Lean.Grind.OrderedRing K] {v : Nat → K} {x : K} {n : Nat} (h : ¬ v n < x) : kL v x (n + 1) = kL v x n := kN_n (dcf h)
theorem kQ_y {K : Type} [Lean.Grind.CommRing K] [LE K] [LT K] [Std.LawfulOrderLT K] [Std.IsLinearOrder K] [Lean.Grind.OrderedRing K] {v : Nat → K} {x : K} {n : Nat} (h : v n = x) : kQ v x (n + 1) = kQ v x n + 1 := kN_y (dct h)
theorem kQ_n {K : Type} [Lean.Grind.CommRing K] [LE K] [LT K] [Std.LawfulOrderLT K] [Std.IsLinearOrder K] [Lean.Grind.OrderedRing K] {v : Nat → K} {x : K} {n : Nat} (h : ¬ v n = x) : kQ v x (n + 1) = kQ v x n := kN_n (dcf h)
theorem kG_y {K : Type} [Lean.Grind.CommRing K] [LE K] [LT K] [Std.LawfulOrderLT K] [Std.IsLinearOrder K] [Lean.Grind.OrderedRing K] {v : Nat → K} {x : K} {n : Nat} (h : x < v n) : kG v x (n + 1) = kG v x n + 1 := kN_y (dct h)
theorem kG_n {K : Type} [Lean.Grind.CommRing K] [LE K] [LT K] [Std.LawfulOrderLT K] [Std.IsLinearOrder K] [Lean.Grind.OrderedRing K] {v : Nat → K} {x : K} {n : Nat} (h : ¬ x < v n) : kG v x (n + 1) = kG v x n := kN_n (dcf h)
theorem k_all {K : Type} [Lean.Grind.CommRing K] [LE K] [LT K] [Std.LawfulOrderLT K] [Std.IsLinearOrder K] [Lean.Grind.OrderedRing K] (v : Nat → K) (x : K) (n : Nat) : kL v x n + kQ v x n + kG v x n = n := by
  induction n with
  | zero => rfl
  | succ n ih =>
    rcases k_tri (v n - x) with q | q | q
    · rw [kL_y (by grind), kQ_n (by grind), kG_n (by grind)]; omega
    · rw [kL_n (by grind), kQ_y (by grind), kG_n (by grind)]; omega
    · rw [kL_n (by grind), kQ_n (by grind), kG_y (by grind)]; omega
theorem kG_0 {K : Type} [Lean.Grind.CommRing K] [LE K] [LT K] [Std.LawfulOrderLT K] [Std.IsLinearOrder K] [Lean.Grind.OrderedRing K] {v : Nat → K} {x : K} (n : Nat) : (∀ i, i < n → ¬ x < v i) → kG v x n = 0 := by
  induction n with
  | zero => intro _; rfl
  | succ n ih => intro h; rw [kG_n (h n (by omega))]; exact ih (fun i hi => h i (by omega))
theorem kL_0 {K : Type} [Lean.Grind.CommRing K] [LE K] [LT K] [Std.LawfulOrderLT K] [Std.IsLinearOrder K] [Lean.Grind.OrderedRing K] {v : Nat → K} {x : K} (n : Nat) : (∀ i, i < n → ¬ v i < x) → kL v x n = 0 := by
  induction n with
  | zero => intro _; rfl
  | succ n ih => intro h; rw [kL_n (h n (by omega))]; exact ih (fun i hi => h i (by omega))
theorem k_mono {K : Type} [Lean.Grind.CommRing K] [LE K] [LT K] [Std.LawfulOrderLT K] [Std.IsLinearOrder K] [Lean.Grind.OrderedRing K] {v : Nat → K} {n : Nat} (h : ∀ i, i + 1 < n → v i ≤ v (i + 1)) (i k : Nat) : i + k < n → v i ≤ v (i + k) := by
  induction k with
  | zero => intro _; exact Std.le_refl _
  | succ k ih =>
    intro hk
    have h1 := ih (by omega)
    have h2 := h (i + k) (by omega)
    rw [show i + (k + 1) = i + k + 1 by omega]
    grind
/-- zeros above 0 -/
theorem rK_pos {K : Type} [Lean.Grind.CommRing K] [LE K] [LT K] [Std.LawfulOrderLT K] [Std.IsLinearOrder K] [Lean.Grind.OrderedRing K] (v : Nat → K) (n : Nat) : (∀ i, i + 1 < n → v i ≤ v (i + 1)) → kG v 0 n ≤ rK (kP v n) 1 (n + 1) := by
  have h01 : (0 : K) < 1 := Lean.Grind.OrderedRing.zero_lt_one
  induction n with
  | zero => intro _; exact Nat.zero_le _
  | succ n ih =>
    intro hs
    by_cases q : 0 < v n
    · have h1 := ih (fun i hi => hs i (by omega))
      have key := dscK1 (b := fun j => if j = 0 then 0 else kP v n (j - 1)) (c := kP v (n + 1)) q (by rw [if_pos rfl]) (n + 2) (fun j _ => by
        rw [kP_s, if_neg (Nat.succ_ne_zero j), Nat.add_sub_cancel]) 1 (Or.inl rfl) (Or.inl (by
        show (if n + 2 = 0 then 0 else kP v n (n + 2 - 1)) = 0
        rw [if_neg (by omega), kP_hi v n (n + 2 - 1) (by omega)])) ⟨n + 1, by omega, by
        show (if n + 1 = 0 then 0 else kP v n (n + 1 - 1)) ≠ 0
        rw [if_neg (by omega), Nat.add_sub_cancel, kP_t]; grind⟩
      have e := rK_sh (c := fun j => if j = 0 then 0 else kP v n (j - 1)) (i := 1) (fun j hj => by rw [if_pos (by omega)]) (n + 1) 1 (Or.inl rfl)
      rw [show 1 + (n + 1) = n + 2 by omega, rK_cg (n + 1) (p := fun j => if 1 + j = 0 then 0 else kP v n (1 + j - 1)) (q := kP v n) (fun j _ => by rw [if_neg (by omega), show 1 + j - 1 = j by omega])] at e
      rw [e] at key
      rw [kG_y q]
      show kG v 0 n + 1 ≤ rK (kP v (n + 1)) 1 (n + 2)
      omega
    · rw [kG_0 (n + 1) (fun i hi p => q (by
        have := k_mono hs i (n - i) (by omega)
        rw [show i + (n - i) = n by omega] at this
        grind))]
      exact Nat.zero_le _
def sn (n : Nat) (lt : Int32) : Int32 := if n % 2 = 0 then lt else -lt
theorem sn_pm {n : Nat} {lt : Int32} (h : lt = 1 ∨ lt = -1) : sn n lt = 1 ∨ sn n lt = -1 := by
  unfold sn
  split
  · exact h
  · exact pm_neg h
def rf {K : Type} [Lean.Grind.CommRing K] (p : Nat → K) : Nat → K := fun j => if j % 2 = 0 then p j else -p j
/-- zeros below 0 -/
theorem rK_min {K : Type} [Lean.Grind.CommRing K] [LE K] [LT K] [Std.LawfulOrderLT K] [Std.IsLinearOrder K] [Lean.Grind.OrderedRing K] (v : Nat → K) (n : Nat) : (∀ i, i + 1 < n → v (i + 1) ≤ v i) → kL v 0 n ≤ rK (rf (kP v n)) (sn n 1) (n + 1) := by
  have h01 : (0 : K) < 1 := Lean.Grind.OrderedRing.zero_lt_one
  induction n with
  | zero => intro _; exact Nat.zero_le _
  | succ n ih =>
    intro hs
    by_cases q : v n < 0
    · have h1 := ih (fun i hi => hs i (by omega))
      have key := dscK1 (b := fun j => if j = 0 then 0 else rf (kP v n) (j - 1)) (c := fun j => -rf (kP v (n + 1)) j) (h := -v n) (by grind) (by rw [if_pos rfl]) (n + 2) (fun j _ => by
        show -rf (kP v (n + 1)) j = (if j = 0 then 0 else rf (kP v n) (j - 1)) - -v n * (if j + 1 = 0 then 0 else rf (kP v n) (j + 1 - 1))
        rw [if_neg (Nat.succ_ne_zero j), Nat.add_sub_cancel]
        rcases j with _ | j
        · rw [if_pos rfl, rf, rf, if_pos (by rfl), if_pos (by rfl), kP_s, if_pos rfl]; grind
        · rw [if_neg (Nat.succ_ne_zero j), Nat.add_sub_cancel, rf, rf, rf, kP_p]
          by_cases e : j % 2 = 0
          · rw [if_neg (show ¬ (j + 1) % 2 = 0 by omega), if_neg (show ¬ (j + 1) % 2 = 0 by omega), if_pos e]; grind
          · rw [if_pos (show (j + 1) % 2 = 0 by omega), if_pos (show (j + 1) % 2 = 0 by omega), if_neg e]; grind) (sn n 1) (sn_pm (Or.inl rfl)) (Or.inl (by
        show (if n + 2 = 0 then 0 else rf (kP v n) (n + 2 - 1)) = 0
        rw [if_neg (by omega), rf, kP_hi v n (n + 2 - 1) (by omega)]
        split <;> grind)) ⟨n + 1, by omega, by
        show (if n + 1 = 0 then 0 else rf (kP v n) (n + 1 - 1)) ≠ 0
        rw [if_neg (by omega), Nat.add_sub_cancel, rf, kP_t]
        split <;> grind⟩
      have e := rK_sh (c := fun j => if j = 0 then 0 else rf (kP v n) (j - 1)) (i := 1) (fun j hj => by rw [if_pos (by omega)]) (n + 1) (sn n 1) (sn_pm (Or.inl rfl))
      rw [show 1 + (n + 1) = n + 2 by omega, rK_cg (n + 1) (p := fun j => if 1 + j = 0 then 0 else rf (kP v n) (1 + j - 1)) (q := rf (kP v n)) (fun j _ => by rw [if_neg (by omega), show 1 + j - 1 = j by omega])] at e
      rw [e, rK_mi _ _ _ (sn_pm (Or.inl rfl))] at key
      have e2 : -sn n 1 = sn (n + 1) 1 := by
        unfold sn
        by_cases p : n % 2 = 0
        · rw [if_pos p, if_neg (by omega)]
        · rw [if_neg p, if_pos (by omega)]; decide
      rw [e2] at key
      rw [kL_y q]
      show kL v 0 n + 1 ≤ rK (rf (kP v (n + 1))) (sn (n + 1) 1) (n + 2)
      omega
    · rw [kL_0 (n + 1) (fun i hi p => q (by
        have := k_mono (v := fun i => -v i) (fun i hi => by have := hs i hi; grind) i (n - i) (by omega)
        rw [show i + (n - i) = n by omega] at this
        grind))]
      exact Nat.zero_le _
/-- both together -/
theorem rK_sum {K : Type} [Lean.Grind.CommRing K] [LE K] [LT K] [Std.LawfulOrderLT K] [Std.IsLinearOrder K] [Lean.Grind.OrderedRing K] {p : Nat → K} {e : Nat} (hz : ∀ j, j < e → p j = 0) (k : Nat) : e ≤ k → ∀ (i : Nat) (lt : Int32), k ≤ i → (lt = 1 ∨ lt = -1) → rK p lt k + rK (rf p) (sn i lt) k + e ≤ i := by
  induction k with
  | zero => intro he i lt hk hlt; show 0 + 0 + e ≤ i; omega
  | succ k ih =>
    intro he i lt hk hlt
    by_cases q : e = k + 1
    · have z2 : ∀ j, j < k + 1 → rf p j = 0 := fun j hj => by
        rw [rf, hz j (by omega)]
        split <;> grind
      rw [rK_zero (k + 1) (fun j hj => hz j (by omega)) lt hlt, rK_zero (k + 1) z2 _ (sn_pm hlt)]
      omega
    · have he2 : e ≤ k := by omega
      by_cases z : p k = 0
      · have z2 : rf p k = 0 := by
          rw [rf, z]
          split <;> grind
        rw [rK_0 hlt z, rK_0 (sn_pm hlt) z2]
        exact ih he2 i lt (by omega) hlt
      · obtain ⟨s, hs⟩ : ∃ s, s = sK (p k) := ⟨_, rfl⟩
        have spm : s = 1 ∨ s = -1 := by
          rcases sK_3 (p k) (lt := 1) (Or.inl rfl) with a | a | a
          · exact absurd a z
          · exact Or.inl (hs.trans a)
          · exact Or.inr (hs.trans a)
        have hs2 : sK (rf p k) = sn k s := by
          unfold sn rf
          split
          · exact hs.symm
          · rw [sK_mi, ← hs]
        have h1 := ih he2 k s (Nat.le_refl _) spm
        have f1 : rK p lt (k + 1) ≤ rK p s k + (if s = lt then 0 else 1) := by
          rcases sK_3 (p k) hlt with a | a | a
          · exact absurd a z
          · rw [rK_same hlt a, if_pos (hs.trans a), hs, a]; exact Nat.le_refl _
          · rw [rK_ch a, if_neg (by rw [hs, a]; exact fun x => lt_nn hlt x.symm), hs, a]; exact Nat.le_refl _
        have f2 : rK (rf p) (sn i lt) (k + 1) ≤ rK (rf p) (sn k s) k + (if sn k s = sn i lt then 0 else 1) := by
          rcases sK_3 (rf p k) (sn_pm (n := i) hlt) with a | a | a
          · exfalso
            rw [a, sK_zero] at hs2
            rcases sn_pm (n := k) spm with x | x <;> rw [x] at hs2 <;> exact absurd hs2 (by decide)
          · rw [rK_same (sn_pm hlt) a, if_pos (hs2.symm.trans a), ← hs2, a]; exact Nat.le_refl _
          · rw [rK_ch a, if_neg (by rw [← hs2, a]; exact fun x => lt_nn (sn_pm hlt) x.symm), ← hs2, a]; exact Nat.le_refl _
        have f3 : (if s = lt then 0 else 1) + (if sn k s = sn i lt then 0 else 1) ≤ i - k := by
          by_cases g : i = k + 1
          · have : ¬ (¬ s = lt ∧ ¬ sn k s = sn i lt) := by
              rw [g]
              unfold sn
              rcases spm with rfl | rfl <;> rcases hlt with rfl | rfl <;> by_cases y : k % 2 = 0 <;> simp only [y, show (k + 1) % 2 = 0 ↔ ¬ k % 2 = 0 by omega] <;> decide
            by_cases x1 : s = lt
            · rw [if_pos x1]; split <;> omega
            · rw [if_neg x1, if_pos (Classical.byContradiction fun x2 => this ⟨x1, x2⟩)]; omega
          · have : ∀ c : Prop, ∀ d : Decidable c, (@ite Nat c d 0 1) ≤ 1 := fun c d => by split <;> omega
            have a1 := this (s = lt) inferInstance
            have a2 := this (sn k s = sn i lt) inferInstance
            omega
        omega
