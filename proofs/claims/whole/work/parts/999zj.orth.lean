/-! sums of powers of the zeros, and polynomials at right angles to the smaller ones -/
theorem kS_first {K : Type} [Lean.Grind.CommRing K] (n : Nat) : ∀ f : Nat → K, kS f (n + 1) = f 0 + kS (fun i => f (i + 1)) n := by
  induction n with
  | zero => intro f; rw [kS_s, kS_z, kS_z]; grind
  | succ n ih => intro f; rw [kS_s, ih f, kS_s (fun i => f (i + 1)) n]; grind
theorem kV_sum {K : Type} [Lean.Grind.CommRing K] (d : Nat) : ∀ (f : Nat → K) (x : K), kV f d x = kS (fun j => f j * kT x j) (d + 1) := by
  induction d with
  | zero => intro f x; rw [kV_z, kS_s, kS_z]; show f 0 = 0 + f 0 * 1; grind
  | succ d ih =>
    intro f x
    rw [kV_s, ih, kS_first (d + 1), ← kS_mul]
    congr 1
    · show f 0 = f 0 * 1; grind
    · exact kS_cg (fun j _ => by show x * (f (j + 1) * kT x j) = f (j + 1) * (x * kT x j); grind)
theorem kT_add {K : Type} [Lean.Grind.CommRing K] (x : K) (a b : Nat) : kT x (a + b) = kT x a * kT x b := by
  induction b with
  | zero => show kT x a = kT x a * 1; grind
  | succ b ih => show x * kT x (a + b) = kT x a * (x * kT x b); rw [ih]; grind
/-- the s are the sums of the powers -/
def pws {K : Type} [Lean.Grind.CommRing K] (n : Nat) (l : Nat → K) (s : Nat → Int) : Prop := ∀ m, iz (s m) = kS (fun i => kT (l i) m) n
def kq {K : Type} [Lean.Grind.CommRing K] (s : Nat → Int) (k : Nat) (x : K) : K := kV (fun i => iz (hQ (hA s) k i)) k x
theorem kq_pft {K : Type} [Lean.Grind.CommRing K] (s : Nat → Int) (k : Nat) : pft k (iz (hD (hA s) k)) (kq (K := K) s k) := ⟨fun i => iz (hQ (hA s) k i), by show iz (hQ (hA s) k k) = _; rw [hQ_top], fun _ => rfl⟩
theorem kq_in {K : Type} [Lean.Grind.CommRing K] {n : Nat} {l : Nat → K} {s : Nat → Int} (h : pws n l s) (k m : Nat) : kS (fun i => kq s k (l i) * kT (l i) m) n = iz (dot (hQ (hA s) k) (fun i => hA s i m) (k + 1)) := by
  have e1 : ∀ i, kq s k (l i) * kT (l i) m = kS (fun j => iz (hQ (hA s) k j) * kT (l i) (j + m)) (k + 1) := fun i => by
    rw [kq, kV_sum, show ∀ x y : K, x * y = y * x from fun x y => by grind, ← kS_mul]
    exact kS_cg (fun j _ => by rw [kT_add]; grind)
  rw [kS_cg (fun i _ => e1 i), kS_sw, iz_dot]
  exact kS_cg (fun j _ => by rw [kS_mul, ← h (j + m)])
theorem kq_o {K : Type} [Lean.Grind.CommRing K] {n : Nat} {l : Nat → K} {s : Nat → Int} (h : pws n l s) {k m : Nat} (hk : k ≤ 5) (hm : m ≤ k) : kS (fun i => kq s k (l i) * kT (l i) m) n = if m < k then 0 else iz (hD (hA s) (k + 1)) := by
  rw [kq_in h, hk_of hk hm]
  split
  · exact iz_0
  · rfl
/-- against any polynomial of degree k at most -/
theorem kq_p {K : Type} [Lean.Grind.CommRing K] {n : Nat} {l : Nat → K} {s : Nat → Int} (h : pws n l s) {k : Nat} (hk : k ≤ 5) {c : K} {F : K → K} (hF : pft k c F) : kS (fun i => kq s k (l i) * F (l i)) n = iz (hD (hA s) (k + 1)) * c := by
  obtain ⟨f, f1, f2⟩ := hF
  have e1 : ∀ i, kq s k (l i) * F (l i) = kS (fun j => f j * (kq s k (l i) * kT (l i) j)) (k + 1) := fun i => by
    rw [f2, kV_sum, ← kS_mul]
    exact kS_cg (fun j _ => by grind)
  rw [kS_cg (fun i _ => e1 i), kS_sw]
  have e2 : ∀ j, j < k + 1 → kS (fun i => f j * (kq s k (l i) * kT (l i) j)) n = if j < k then 0 else f j * iz (hD (hA s) (k + 1)) := fun j hj => by
    rw [kS_mul, kq_o h hk (show j ≤ k by omega)]
    split
    · grind
    · rfl
  rw [kS_cg e2, kS_one (a := k) (by omega) (fun j hj q => by rw [if_pos (by omega)]), if_neg (by omega), f1]; grind
theorem kq_sq {K : Type} [Lean.Grind.CommRing K] {n : Nat} {l : Nat → K} {s : Nat → Int} (h : pws n l s) {k : Nat} (hk : k ≤ 5) : kS (fun i => kq s k (l i) * kq s k (l i)) n = iz (hD (hA s) (k + 1)) * iz (hD (hA s) k) := kq_p h hk (kq_pft s k)
/-- the determinants are above 0 as long as there are different zeros -/
theorem hD_pos {K : Type} [Lean.Grind.CommRing K] [LE K] [LT K] [Std.LawfulOrderLT K] [Std.IsLinearOrder K] [Lean.Grind.OrderedRing K] {n r : Nat} {l ρ : Nat → K} {s : Nat → Int} (h : pws n l s) (hr : r ≤ 6) (h2 : ∀ a, a + 1 < r → ρ a < ρ (a + 1)) (h3 : ∀ a, a < r → ∃ i, i < n ∧ ρ a = l i) (k : Nat) : k ≤ r → 0 < hD (hA s) k := by
  induction k with
  | zero => intro _; rw [hD_0]; decide
  | succ k ih =>
    intro hk
    have hp := ih (by omega)
    have hpk := iz_pos (K := K) hp
    have e := kq_sq h (show k ≤ 5 by omega)
    have nn : 0 ≤ kS (fun i => kq s k (l i) * kq s k (l i)) n := kS_nn (fun i _ => k_sq _)
    rw [e] at nn
    have h1 : 0 ≤ hD (hA s) (k + 1) := by
      refine iz_le (K := K).mp ?_
      rw [iz_0]
      exact k_can hpk (by grind)
    rcases Int.lt_or_eq_of_le h1 with q | q
    · exact q
    · exfalso
      rw [← q, iz_0] at e
      have hz : ∀ i, i < n → kq s k (l i) = 0 := fun i hi => Classical.byContradiction fun w => by
        have a1 := kS_ge (f := fun i => kq s k (l i) * kq s k (l i)) hi (fun i _ => k_sq _)
        have a2 := k_sqp w
        grind
      have hall := pf_nr ρ k _ (kq s k) r (kq_pft s k) (fun a ha => by
        obtain ⟨i, hi, e⟩ := h3 a ha
        rw [e]; exact hz i hi) (fun a b ha hb => by
        have := k_str h2 a (b - a - 1) (by omega)
        rw [show a + (b - a - 1 + 1) = b by omega] at this
        grind) (by omega)
      have := pf_0 (kq_pft s k) hall
      exact iz_ne (K := K) (show hD (hA s) k ≠ 0 by omega) this
/-- and 0 at once behind them -/
theorem hD_end {K : Type} [Lean.Grind.CommRing K] [LE K] [LT K] [Std.LawfulOrderLT K] [Std.IsLinearOrder K] [Lean.Grind.OrderedRing K] {n r : Nat} {l ρ : Nat → K} {s : Nat → Int} (h : pws n l s) (hr : r ≤ 5) (hp : 0 < hD (hA s) r) (h3 : ∀ i, i < n → ∃ a, a < r ∧ l i = ρ a) : hD (hA s) (r + 1) = 0 ∧ ∀ i, i < n → kq s r (l i) = 0 := by
  have e := kq_p h hr (pft_W ρ r)
  rw [kS_0 (fun i hi => by
    obtain ⟨a, ha, q⟩ := h3 i hi
    rw [q, kW_r ρ r a ha]; grind)] at e
  have h0 : hD (hA s) (r + 1) = 0 := iz_inj (K := K) (by rw [iz_0]; grind)
  refine ⟨h0, fun i hi => Classical.byContradiction fun w => ?_⟩
  have e2 := kq_sq h hr
  rw [h0, iz_0] at e2
  have a1 := kS_ge (f := fun i => kq s r (l i) * kq s r (l i)) hi (fun i _ => k_sq _)
  have a2 := k_sqp w
  grind
/-- no polynomial that begins with 1 has smaller squares -/
theorem hD_min {K : Type} [Lean.Grind.CommRing K] [LE K] [LT K] [Std.LawfulOrderLT K] [Std.IsLinearOrder K] [Lean.Grind.OrderedRing K] {n : Nat} {l : Nat → K} {s : Nat → Int} (h : pws n l s) {k : Nat} (hk : k ≤ 5) (hp1 : 0 < hD (hA s) (k + 1)) {F : K → K} (hF : pft k 1 F) : iz (hD (hA s) (k + 1)) ≤ iz (hD (hA s) k) * kS (fun i => F (l i) * F (l i)) n := by
  have e1 := kq_p h hk hF
  have e2 := kq_sq h hk
  have cs := kD_cs n (fun i => kq s k (l i)) (fun i => F (l i))
  have f1 : kD n (fun i => kq s k (l i)) (fun i => F (l i)) = iz (hD (hA s) (k + 1)) := by
    show kS (fun i => kq s k (l i) * F (l i)) n = _
    rw [e1]; grind
  have f2 : kD n (fun i => kq s k (l i)) (fun i => kq s k (l i)) = iz (hD (hA s) (k + 1)) * iz (hD (hA s) k) := e2
  have f3 : kD n (fun i => F (l i)) (fun i => F (l i)) = kS (fun i => F (l i) * F (l i)) n := rfl
  rw [f1, f2, f3] at cs
  have hp := iz_pos (K := K) hp1
  exact k_can hp (by grind)
/-- three of them -/
theorem kq_3 {K : Type} [Lean.Grind.CommRing K] [LE K] [LT K] [Std.LawfulOrderLT K] [Std.IsLinearOrder K] [Lean.Grind.OrderedRing K] {n : Nat} {l : Nat → K} {s : Nat → Int} (h : pws n l s) {k : Nat} (hk : k + 2 ≤ 5) (hp : hD (hA s) (k + 1) ≠ 0) : ∃ b : Int, ∀ i, i < n → iz (hD (hA s) (k + 1)) * iz (hD (hA s) (k + 1)) * kq s (k + 2) (l i) + iz (hD (hA s) (k + 2)) * iz (hD (hA s) (k + 2)) * kq s k (l i) = (iz (hD (hA s) (k + 1)) * iz (hD (hA s) (k + 2)) * l i + iz b) * kq s (k + 1) (l i) := by
  obtain ⟨d1, e1⟩ : ∃ d, d = hD (hA s) (k + 1) := ⟨_, rfl⟩
  obtain ⟨d2, e2⟩ : ∃ d, d = hD (hA s) (k + 2) := ⟨_, rfl⟩
  obtain ⟨b, eb⟩ : ∃ b, b = d1 * hQ (hA s) (k + 2) (k + 1) - d2 * hQ (hA s) (k + 1) k := ⟨_, rfl⟩
  rw [← e1, ← e2]
  rw [← e1] at hp
  refine ⟨b, ?_⟩
  obtain ⟨F, eF⟩ : ∃ F : Nat → K, ∀ j, F j = iz d1 * iz d1 * iz (hQ (hA s) (k + 2) j) - iz d1 * iz d2 * (if j = 0 then 0 else if j - 1 ≤ k + 1 then iz (hQ (hA s) (k + 1) (j - 1)) else 0) - iz b * (if j ≤ k + 1 then iz (hQ (hA s) (k + 1) j) else 0) + iz d2 * iz d2 * (if j ≤ k then iz (hQ (hA s) k j) else 0) := ⟨_, fun _ => rfl⟩
  have hv : ∀ x : K, kV F (k + 2) x = iz d1 * iz d1 * kq s (k + 2) x - (iz d1 * iz d2 * x + iz b) * kq s (k + 1) x + iz d2 * iz d2 * kq s k x := fun x => by
    have p1 : kV (fun j => if j ≤ k + 1 then iz (hQ (hA s) (k + 1) j) else 0) (k + 2) x = kq s (k + 1) x := by
      rw [kV_hi (k + 1) _ x (by rw [if_neg (by omega)]), kq]
      exact kV_cg (k + 1) _ _ x (fun j hj => by rw [if_pos hj])
    have p2 : kV (fun j => if j ≤ k then iz (hQ (hA s) k j) else 0) (k + 2) x = kq s k x := by
      rw [kV_hi (k + 1) _ x (by rw [if_neg (by omega)]), kV_hi k _ x (by rw [if_neg (by omega)]), kq]
      exact kV_cg k _ _ x (fun j hj => by rw [if_pos hj])
    have p3 : kV (fun j => if j = 0 then 0 else if j - 1 ≤ k + 1 then iz (hQ (hA s) (k + 1) (j - 1)) else 0) (k + 2) x = x * kq s (k + 1) x := by
      rw [kV_s, if_pos rfl, kq, kV_cg (k + 1) (fun j => if j + 1 = 0 then 0 else if j + 1 - 1 ≤ k + 1 then iz (hQ (hA s) (k + 1) (j + 1 - 1)) else 0) (fun i => iz (hQ (hA s) (k + 1) i)) x (fun j hj => by rw [if_neg (Nat.succ_ne_zero j), Nat.add_sub_cancel, if_pos hj])]; grind
    have q1 := kV_lin (k + 2) (fun j => iz (hQ (hA s) (k + 2) j)) (fun j => if j = 0 then 0 else if j - 1 ≤ k + 1 then iz (hQ (hA s) (k + 1) (j - 1)) else 0) (iz d1 * iz d1) (-(iz d1 * iz d2)) x
    have q2 := kV_lin (k + 2) (fun j => if j ≤ k + 1 then iz (hQ (hA s) (k + 1) j) else 0) (fun j => if j ≤ k then iz (hQ (hA s) k j) else 0) (-iz b) (iz d2 * iz d2) x
    have q3 := kV_lin (k + 2) (fun j => iz d1 * iz d1 * iz (hQ (hA s) (k + 2) j) + -(iz d1 * iz d2) * (if j = 0 then 0 else if j - 1 ≤ k + 1 then iz (hQ (hA s) (k + 1) (j - 1)) else 0)) (fun j => -iz b * (if j ≤ k + 1 then iz (hQ (hA s) (k + 1) j) else 0) + iz d2 * iz d2 * (if j ≤ k then iz (hQ (hA s) k j) else 0)) 1 1 x
    rw [q1, q2, p1, p2, p3] at q3
    rw [kV_cg (k + 2) F _ x (fun j _ => show F j = 1 * (iz d1 * iz d1 * iz (hQ (hA s) (k + 2) j) + -(iz d1 * iz d2) * (if j = 0 then 0 else if j - 1 ≤ k + 1 then iz (hQ (hA s) (k + 1) (j - 1)) else 0)) + 1 * (-iz b * (if j ≤ k + 1 then iz (hQ (hA s) (k + 1) j) else 0) + iz d2 * iz d2 * (if j ≤ k then iz (hQ (hA s) k j) else 0)) by rw [eF]; grind), q3]
    show 1 * (iz d1 * iz d1 * kq s (k + 2) x + _) + _ = _
    grind
  have t2 : F (k + 2) = 0 := by
    rw [eF, if_neg (by omega), if_pos (by omega), if_neg (by omega), if_neg (by omega), show k + 2 - 1 = k + 1 by omega, hQ_top, hQ_top, ← e1, ← e2]; grind
  have t1 : F (k + 1) = 0 := by
    rw [eF, if_neg (by omega), if_pos (by omega), if_pos (Nat.le_refl _), if_neg (by omega), Nat.add_sub_cancel, hQ_top, ← e1, eb, iz_sub, iz_mul, iz_mul]; grind
  have hv2 : ∀ x, kV F k x = kV F (k + 2) x := fun x => by rw [kV_hi (k + 1) F x t2, kV_hi k F x t1]
  have ho : ∀ m, m ≤ k → kS (fun i => kV F (k + 2) (l i) * kT (l i) m) n = 0 := fun m hm => by
    have a1 := kq_o h (show k + 2 ≤ 5 by omega) (show m ≤ k + 2 by omega)
    rw [if_pos (by omega)] at a1
    have a2 := kq_o h (show k + 1 ≤ 5 by omega) (show m ≤ k + 1 by omega)
    rw [if_pos (by omega)] at a2
    have a3 := kq_o h (show k + 1 ≤ 5 by omega) (show m + 1 ≤ k + 1 by omega)
    have a4 := kq_o h (show k ≤ 5 by omega) hm
    have e : kS (fun i => kV F (k + 2) (l i) * kT (l i) m) n = iz d1 * iz d1 * kS (fun i => kq s (k + 2) (l i) * kT (l i) m) n - iz d1 * iz d2 * kS (fun i => kq s (k + 1) (l i) * kT (l i) (m + 1)) n - iz b * kS (fun i => kq s (k + 1) (l i) * kT (l i) m) n + iz d2 * iz d2 * kS (fun i => kq s k (l i) * kT (l i) m) n := by
      rw [← kS_mul, ← kS_mul, ← kS_mul, ← kS_mul, ← kS_sub, ← kS_sub, ← kS_add]
      exact kS_cg (fun i _ => by rw [hv]; show _ = _ - iz d1 * iz d2 * (kq s (k + 1) (l i) * (l i * kT (l i) m)) - _ + _; grind)
    rw [e, a1, a2, a3, a4]
    by_cases q : m < k
    · rw [if_pos (show m + 1 < k + 1 by omega), if_pos q]; grind
    · rw [if_neg (show ¬ m + 1 < k + 1 by omega), if_neg q, ← e1, ← e2]; grind
  have hz : kS (fun i => kV F (k + 2) (l i) * kV F (k + 2) (l i)) n = 0 := by
    have e1 : ∀ i, kV F (k + 2) (l i) * kV F (k + 2) (l i) = kS (fun j => F j * (kV F (k + 2) (l i) * kT (l i) j)) (k + 1) := fun i => by
      have : kV F (k + 2) (l i) * kV F k (l i) = kS (fun j => F j * (kV F (k + 2) (l i) * kT (l i) j)) (k + 1) := by
        rw [kV_sum k F, ← kS_mul]
        exact kS_cg (fun j _ => by grind)
      rw [← this, hv2]
    rw [kS_cg (fun i _ => e1 i), kS_sw]
    exact kS_0 (fun j hj => by rw [kS_mul, ho j (by omega)]; grind)
  intro i hi
  have w : kV F (k + 2) (l i) = 0 := Classical.byContradiction fun w => by
    have a1 := kS_ge (f := fun i => kV F (k + 2) (l i) * kV F (k + 2) (l i)) hi (fun i _ => k_sq _)
    have a2 := k_sqp w
    grind
  rw [hv] at w
  grind
