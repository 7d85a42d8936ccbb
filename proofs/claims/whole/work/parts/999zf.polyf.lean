/-! polynomials as functions: of degree at most d, with c before the power d -/
def pft {K : Type} [Lean.Grind.CommRing K] (d : Nat) (c : K) (F : K → K) : Prop := ∃ f : Nat → K, f d = c ∧ ∀ t, F t = kV f d t
theorem pft_cg {K : Type} [Lean.Grind.CommRing K] {d : Nat} {c : K} {F G : K → K} (h : pft d c F) (e : ∀ t, F t = G t) : pft d c G := by
  obtain ⟨f, a, b⟩ := h
  exact ⟨f, a, fun t => by rw [← e, b]⟩
theorem pft_con {K : Type} [Lean.Grind.CommRing K] (c : K) : pft 0 c (fun _ => c) := ⟨fun _ => c, rfl, fun _ => rfl⟩
theorem pft_up {K : Type} [Lean.Grind.CommRing K] {d : Nat} {c : K} {F : K → K} (h : pft d c F) (k : Nat) : pft (d + (k + 1)) 0 F := by
  obtain ⟨f, _, b⟩ := h
  refine ⟨fun j => if j ≤ d then f j else 0, by show (if d + (k + 1) ≤ d then f (d + (k + 1)) else 0) = 0; rw [if_neg (by omega)], fun t => ?_⟩
  have e : ∀ k, kV (fun j => if j ≤ d then f j else 0) (d + k) t = kV f d t := fun k => by
    induction k with
    | zero => exact kV_cg d _ _ t (fun j hj => by rw [if_pos hj])
    | succ k ih =>
      rw [show d + (k + 1) = d + k + 1 by omega, kV_hi (d + k) _ t (by rw [if_neg (by omega)])]
      exact ih
  rw [b, e (k + 1)]
theorem pft_t {K : Type} [Lean.Grind.CommRing K] {d : Nat} {c : K} {F : K → K} (h : pft d c F) : pft (d + 1) c (fun t => t * F t) := by
  obtain ⟨f, a, b⟩ := h
  refine ⟨fun j => if j = 0 then 0 else f (j - 1), by show (if d + 1 = 0 then 0 else f (d + 1 - 1)) = c; rw [if_neg (by omega), Nat.add_sub_cancel, a], fun t => ?_⟩
  rw [kV_s, if_pos rfl, kV_cg d (fun j => if j + 1 = 0 then 0 else f (j + 1 - 1)) f t (fun j _ => by rw [if_neg (by omega), Nat.add_sub_cancel]), ← b]; grind
theorem pft_lin {K : Type} [Lean.Grind.CommRing K] {d : Nat} {a b : K} {F G : K → K} (x y : K) (h1 : pft d a F) (h2 : pft d b G) : pft d (x * a + y * b) (fun t => x * F t + y * G t) := by
  obtain ⟨f, a1, b1⟩ := h1
  obtain ⟨g, a2, b2⟩ := h2
  exact ⟨fun j => x * f j + y * g j, by show x * f d + y * g d = _; rw [a1, a2], fun t => by show x * F t + y * G t = _; rw [kV_lin, b1, b2]⟩
theorem pft_mul {K : Type} [Lean.Grind.CommRing K] {e : Nat} {b : K} {G : K → K} (h2 : pft e b G) (d : Nat) : ∀ (a : K) (F : K → K), pft d a F → pft (d + e) (a * b) (fun t => F t * G t) := by
  induction d with
  | zero =>
    intro a F h
    obtain ⟨f, a1, b1⟩ := h
    have h3 := pft_lin a 0 h2 h2
    rw [Nat.zero_add, show a * b = a * b + 0 * b by grind]
    exact pft_cg h3 (fun t => by rw [b1 t, kV_z, a1]; grind)
  | succ d ih =>
    intro a F h
    obtain ⟨f, a1, b1⟩ := h
    have h3 := pft_t (ih a (fun t => kV (fun j => f (j + 1)) d t) ⟨fun j => f (j + 1), a1, fun _ => rfl⟩)
    have h4 := pft_up h2 d
    rw [show e + (d + 1) = d + e + 1 by omega] at h4
    have h5 := pft_lin (f 0) 1 h4 h3
    rw [show f 0 * 0 + 1 * (a * b) = a * b by grind, show d + e + 1 = d + 1 + e by omega] at h5
    exact pft_cg h5 (fun t => by rw [b1 t, kV_s]; grind)
theorem pft_trim {K : Type} [Lean.Grind.CommRing K] (d : Nat) : ∀ (c : K) (F : K → K), pft d c F → (∃ t, F t ≠ 0) → ∃ e c', e ≤ d ∧ c' ≠ 0 ∧ pft e c' F := by
  induction d with
  | zero =>
    intro c F h ⟨t, ht⟩
    obtain ⟨f, a, b⟩ := h
    exact ⟨0, c, Nat.le_refl _, fun q => ht (by rw [b, kV_z, a, q]), f, a, b⟩
  | succ d ih =>
    intro c F h hx
    obtain ⟨f, a, b⟩ := h
    by_cases q : c = 0
    · obtain ⟨e, c', h1, h2, h3⟩ := ih (f d) F ⟨f, rfl, fun t => by rw [b, kV_hi d f t (a.trans q)]⟩ hx
      exact ⟨e, c', by omega, h2, h3⟩
    · exact ⟨d + 1, c, Nat.le_refl _, q, f, a, b⟩
theorem pft_top {K : Type} [Lean.Grind.CommRing K] [LE K] [LT K] [Std.LawfulOrderLT K] [Std.IsLinearOrder K] [Lean.Grind.OrderedRing K] {d : Nat} {a b : K} {F : K → K} (h1 : pft d a F) (h2 : pft d b F) : a = b := by
  obtain ⟨f, a1, b1⟩ := h1
  obtain ⟨g, a2, b2⟩ := h2
  rw [← a1, ← a2]
  exact kV_eq (fun t => by rw [← b1, ← b2]) d (Nat.le_refl _)
theorem pft_le {K : Type} [Lean.Grind.CommRing K] [LE K] [LT K] [Std.LawfulOrderLT K] [Std.IsLinearOrder K] [Lean.Grind.OrderedRing K] {d e : Nat} {a b : K} {F : K → K} (h1 : pft d a F) (h2 : pft e b F) (hb : b ≠ 0) : e ≤ d := by
  refine Nat.le_of_not_lt fun q => ?_
  have h3 := pft_up h1 (e - d - 1)
  rw [show d + (e - d - 1 + 1) = e by omega] at h3
  exact hb (pft_top h2 h3)
theorem pft_deg {K : Type} [Lean.Grind.CommRing K] [LE K] [LT K] [Std.LawfulOrderLT K] [Std.IsLinearOrder K] [Lean.Grind.OrderedRing K] {d e : Nat} {a b : K} {F : K → K} (h1 : pft d a F) (h2 : pft e b F) (ha : a ≠ 0) (hb : b ≠ 0) : d = e ∧ a = b := by
  have e1 := pft_le h1 h2 hb
  have e2 := pft_le h2 h1 ha
  obtain rfl : d = e := by omega
  exact ⟨rfl, pft_top h1 h2⟩
theorem pf_0 {K : Type} [Lean.Grind.CommRing K] [LE K] [LT K] [Std.LawfulOrderLT K] [Std.IsLinearOrder K] [Lean.Grind.OrderedRing K] {d : Nat} {c : K} {F : K → K} (h : pft d c F) (hz : ∀ t, F t = 0) : c = 0 := by
  obtain ⟨f, a, b⟩ := h
  rw [← a]
  exact kV_pe d f (fun t => by rw [← b, hz]) d (Nat.le_refl _)
theorem pf_dom {K : Type} [Lean.Grind.CommRing K] [LE K] [LT K] [Std.LawfulOrderLT K] [Std.IsLinearOrder K] [Lean.Grind.OrderedRing K] {d e : Nat} {a b : K} {F G : K → K} (h1 : pft d a F) (h2 : pft e b G) (h : ∀ t, F t * G t = 0) : (∀ t, F t = 0) ∨ ∀ t, G t = 0 := by
  by_cases q1 : ∃ t, F t ≠ 0
  · by_cases q2 : ∃ t, G t ≠ 0
    · exfalso
      obtain ⟨d', a', _, x1, y1⟩ := pft_trim d a F h1 q1
      obtain ⟨e', b', _, x2, y2⟩ := pft_trim e b G h2 q2
      exact k_nz x1 x2 (pf_0 (pft_mul y2 d' a' F y1) h)
    · exact Or.inr fun t => Classical.byContradiction fun z => q2 ⟨t, z⟩
  · exact Or.inl fun t => Classical.byContradiction fun z => q1 ⟨t, z⟩
/-- some polynomial -/
def pf {K : Type} [Lean.Grind.CommRing K] (F : K → K) : Prop := ∃ d c, pft d c F
theorem pf_mul {K : Type} [Lean.Grind.CommRing K] {F G : K → K} (h1 : pf F) (h2 : pf G) : pf (fun t => F t * G t) := by
  obtain ⟨d, a, h1⟩ := h1
  obtain ⟨e, b, h2⟩ := h2
  exact ⟨_, _, pft_mul h2 d a F h1⟩
theorem pf_lin {K : Type} [Lean.Grind.CommRing K] {F G : K → K} (x y : K) (h1 : pf F) (h2 : pf G) : pf (fun t => x * F t + y * G t) := by
  obtain ⟨d, a, h1⟩ := h1
  obtain ⟨e, b, h2⟩ := h2
  have u1 := pft_up h1 e
  have u2 := pft_up h2 d
  rw [show e + (d + 1) = d + (e + 1) by omega] at u2
  exact ⟨_, _, pft_lin x y u1 u2⟩
theorem pf_cg {K : Type} [Lean.Grind.CommRing K] {F G : K → K} (h : pf F) (e : ∀ t, F t = G t) : pf G := by
  obtain ⟨d, c, h⟩ := h
  exact ⟨d, c, pft_cg h e⟩
theorem pf_con {K : Type} [Lean.Grind.CommRing K] (c : K) : pf (fun _ => c) := ⟨0, c, pft_con c⟩
theorem pf_add {K : Type} [Lean.Grind.CommRing K] {F G : K → K} (h1 : pf F) (h2 : pf G) : pf (fun t => F t + G t) := pf_cg (pf_lin 1 1 h1 h2) (fun t => by grind)
theorem pf_x {K : Type} [Lean.Grind.CommRing K] (a : K) : pf (fun t => t - a) := pf_cg (pf_lin 1 (-a) ⟨1, 1, pft_t (pft_con 1)⟩ (pf_con 1)) (fun t => by grind)
theorem pf_can {K : Type} [Lean.Grind.CommRing K] [LE K] [LT K] [Std.LawfulOrderLT K] [Std.IsLinearOrder K] [Lean.Grind.OrderedRing K] {D F G : K → K} (hD : pf D) (hF : pf F) (hG : pf G) (hn : ∃ t, D t ≠ 0) (h : ∀ t, D t * F t = D t * G t) : ∀ t, F t = G t := by
  obtain ⟨d, a, hd⟩ := hD
  obtain ⟨e, b, he⟩ := pf_lin 1 (-1) hF hG
  rcases pf_dom hd he (fun t => by have := h t; grind) with q | q
  · obtain ⟨t, ht⟩ := hn
    exact absurd (q t) ht
  · intro t
    have := q t
    grind
/-- a zero is a factor -/
theorem pf_root {K : Type} [Lean.Grind.CommRing K] {d : Nat} {c a : K} {F : K → K} (h : pft (d + 1) c F) (ha : F a = 0) : ∃ H, pft d c H ∧ ∀ t, F t = (t - a) * H t := by
  obtain ⟨f, h1, h2⟩ := h
  have key : ∀ t, F t = kH f (d + 1) a (d + 1) + (t - a) * kV (fun j => kH f (d + 1) a (d + 1 - (j + 1))) d t := fun t => by
    rw [h2]
    refine kV_sw d f (fun j => kH f (d + 1) a (d + 1 - j)) a t (fun j hj => ?_) ?_
    · show f j = kH f (d + 1) a (d + 1 - j) - a * kH f (d + 1) a (d + 1 - (j + 1))
      rw [show d + 1 - j = (d - j) + 1 by omega, kH_s, show d + 1 - (j + 1) = d - j by omega, show d + 1 - 1 - (d - j) = j by omega]; grind
    · show f (d + 1) = kH f (d + 1) a (d + 1 - (d + 1))
      rw [Nat.sub_self, kH_z]
  have k0 := key a
  rw [ha] at k0
  refine ⟨fun t => kV (fun j => kH f (d + 1) a (d + 1 - (j + 1))) d t, ⟨_, by show kH f (d + 1) a (d + 1 - (d + 1)) = c; rw [Nat.sub_self, kH_z, h1], fun _ => rfl⟩, fun t => ?_⟩
  rw [key t]; grind
theorem pf_nr {K : Type} [Lean.Grind.CommRing K] [LE K] [LT K] [Std.LawfulOrderLT K] [Std.IsLinearOrder K] [Lean.Grind.OrderedRing K] (a : Nat → K) (d : Nat) : ∀ (c : K) (F : K → K) (r : Nat), pft d c F → (∀ s, s < r → F (a s) = 0) → (∀ s q, s < q → q < r → a s ≠ a q) → d < r → ∀ t, F t = 0 := by
  induction d with
  | zero =>
    intro c F r h h1 _ hr t
    obtain ⟨f, x, y⟩ := h
    have := h1 0 (by omega)
    rw [y, kV_z] at this
    rw [y, kV_z, this]
  | succ d ih =>
    intro c F r h h1 h2 hr t
    obtain ⟨r, rfl⟩ : ∃ q, r = q + 1 := ⟨r - 1, by omega⟩
    obtain ⟨H, x, y⟩ := pf_root h (h1 r (by omega))
    rw [y, ih c H r x (fun s hs => Classical.byContradiction fun q => by
      have z := h1 s (by omega)
      rw [y] at z
      exact k_nz (fun w => h2 s r hs (by omega) (by grind)) q z) (fun s q hs hq => h2 s q hs (by omega)) (by omega)]
    grind
/-- the product as a function, and its derivative -/
def kW {K : Type} [Lean.Grind.CommRing K] (l : Nat → K) : Nat → K → K
  | 0, _ => 1
  | n + 1, t => (t - l n) * kW l n t
def kU {K : Type} [Lean.Grind.CommRing K] (l : Nat → K) : Nat → K → K
  | 0, _ => 0
  | n + 1, t => kW l n t + (t - l n) * kU l n t
theorem kW_s {K : Type} [Lean.Grind.CommRing K] (l : Nat → K) (n : Nat) (t : K) : kW l (n + 1) t = (t - l n) * kW l n t := rfl
theorem kU_s {K : Type} [Lean.Grind.CommRing K] (l : Nat → K) (n : Nat) (t : K) : kU l (n + 1) t = kW l n t + (t - l n) * kU l n t := rfl
theorem kW_P {K : Type} [Lean.Grind.CommRing K] (l : Nat → K) (n : Nat) (t : K) : kV (kP l n) n t = kW l n t := by
  induction n with
  | zero => rfl
  | succ n ih => rw [kV_P, ih]; rfl
theorem pft_W {K : Type} [Lean.Grind.CommRing K] (l : Nat → K) (n : Nat) : pft n 1 (kW l n) := ⟨kP l n, kP_t l n, fun t => (kW_P l n t).symm⟩
theorem kW_cg {K : Type} [Lean.Grind.CommRing K] {l m : Nat → K} (n : Nat) : (∀ i, i < n → l i = m i) → ∀ t, kW l n t = kW m n t := by
  induction n with
  | zero => intro _ t; rfl
  | succ n ih => intro h t; rw [kW_s, kW_s, h n (by omega), ih (fun i hi => h i (by omega)) t]
theorem kW_r {K : Type} [Lean.Grind.CommRing K] (l : Nat → K) (n : Nat) : ∀ i, i < n → kW l n (l i) = 0 := by
  induction n with
  | zero => intro i hi; omega
  | succ n ih =>
    intro i hi
    rw [kW_s]
    by_cases e : i = n
    · rw [e]; grind
    · rw [ih i (by omega)]; grind
theorem kW_nz {K : Type} [Lean.Grind.CommRing K] [LE K] [LT K] [Std.LawfulOrderLT K] [Std.IsLinearOrder K] [Lean.Grind.OrderedRing K] (l : Nat → K) (n : Nat) : ∃ t, kW l n t ≠ 0 := Classical.byContradiction fun q => by
  have h01 : (0 : K) < 1 := Lean.Grind.OrderedRing.zero_lt_one
  have := pf_0 (pft_W l n) (fun t => Classical.byContradiction fun z => q ⟨t, z⟩)
  grind
theorem kW_ne {K : Type} [Lean.Grind.CommRing K] [LE K] [LT K] [Std.LawfulOrderLT K] [Std.IsLinearOrder K] [Lean.Grind.OrderedRing K] (l : Nat → K) (n : Nat) (x : K) : (∀ i, i < n → l i ≠ x) → kW l n x ≠ 0 := by
  have h01 : (0 : K) < 1 := Lean.Grind.OrderedRing.zero_lt_one
  induction n with
  | zero => intro _; show (1 : K) ≠ 0; grind
  | succ n ih =>
    intro h
    rw [kW_s]
    exact k_nz (fun z => h n (by omega) (by grind)) (ih (fun i hi => h i (by omega)))
theorem kU_d {K : Type} [Lean.Grind.CommRing K] (l : Nat → K) (n : Nat) (t : K) : kV (fun j => iz ((j : Int) + 1) * kP l n (j + 1)) n t = kU l n t := by
  induction n with
  | zero => rw [kV_z]; show iz (((0 : Nat) : Int) + 1) * (if (0 : Nat) + 1 = 0 then (1 : K) else 0) = 0; rw [if_neg (by omega)]; grind
  | succ n ih =>
    have e1 : ∀ j : Nat, iz ((j : Int) + 1) * kP l (n + 1) (j + 1) = 1 * kP l n j + 1 * ((if j = 0 then 0 else iz (((j - 1 : Nat) : Int) + 1) * kP l n (j - 1 + 1)) - l n * (iz ((j : Int) + 1) * kP l n (j + 1))) := fun j => by
      rw [kP_p]
      rcases j with _ | j
      · rw [if_pos rfl, show (((0 : Nat) : Int) + 1) = 1 from rfl, iz_1]; grind
      · rw [if_neg (by omega), Nat.add_sub_cancel, show (((j + 1 : Nat) : Int)) = (j : Int) + 1 from rfl, iz_add ((j : Int) + 1) 1, iz_1]; grind
    rw [kV_cg (n + 1) _ _ t (fun j _ => e1 j), kV_lin (n + 1) (kP l n) (fun j => (if j = 0 then 0 else iz (((j - 1 : Nat) : Int) + 1) * kP l n (j - 1 + 1)) - l n * (iz ((j : Int) + 1) * kP l n (j + 1)))]
    have e2 := kV_sw n (fun j => (if j = 0 then 0 else iz (((j - 1 : Nat) : Int) + 1) * kP l n (j - 1 + 1)) - l n * (iz ((j : Int) + 1) * kP l n (j + 1))) (fun j => if j = 0 then 0 else iz (((j - 1 : Nat) : Int) + 1) * kP l n (j - 1 + 1)) (l n) t (fun j _ => by
      show _ = _ - l n * (if j + 1 = 0 then 0 else iz (((j + 1 - 1 : Nat) : Int) + 1) * kP l n (j + 1 - 1 + 1))
      rw [if_neg (Nat.succ_ne_zero j), Nat.add_sub_cancel]) (by
      show (if n + 1 = 0 then 0 else iz (((n + 1 - 1 : Nat) : Int) + 1) * kP l n (n + 1 - 1 + 1)) - l n * (iz (((n + 1 : Nat) : Int) + 1) * kP l n (n + 1 + 1)) = if n + 1 = 0 then 0 else iz (((n + 1 - 1 : Nat) : Int) + 1) * kP l n (n + 1 - 1 + 1)
      rw [kP_hi l n (n + 1 + 1) (by omega)]; grind)
    rw [e2, if_pos rfl, kV_hi n (kP l n) t (kP_hi l n (n + 1) (by omega)), kW_P, kU_s, ← ih, kV_cg n (fun j => if j + 1 = 0 then 0 else iz (((j + 1 - 1 : Nat) : Int) + 1) * kP l n (j + 1 - 1 + 1)) (fun j => iz ((j : Int) + 1) * kP l n (j + 1)) t (fun j _ => by rw [if_neg (Nat.succ_ne_zero j), Nat.add_sub_cancel])]
    grind
