/-! the common divisor of the desk is the reference's, and begins with 1 -/
theorem kV_kS {K : Type} [Lean.Grind.CommRing K] (d : Nat) (t : K) (a : Nat → K) (f : Nat → Nat → K) (n : Nat) : kV (fun q => kS (fun i => a i * f i q) n) d t = kS (fun i => a i * kV (f i) d t) n := by
  induction n with
  | zero =>
    rw [kS_z]
    have := kV_lin d (fun _ => (0 : K)) (fun _ => 0) 0 0 t
    rw [kV_cg d (fun q => kS (fun i => a i * f i q) 0) (fun _ => 0 * 0 + 0 * 0) t (fun j _ => by rw [kS_z]; grind), this]; grind
  | succ n ih =>
    have := kV_lin d (fun q => kS (fun i => a i * f i q) n) (f n) 1 (a n) t
    rw [kS_s, ← ih, kV_cg d (fun q => kS (fun i => a i * f i q) (n + 1)) (fun q => 1 * kS (fun i => a i * f i q) n + a n * f n q) t (fun j _ => by rw [kS_s]; grind), this]; grind
theorem kV_trunc {K : Type} [Lean.Grind.CommRing K] {f : Nat → K} {d : Nat} (t : K) (k : Nat) : (∀ j, d < j → j ≤ d + k → f j = 0) → kV f (d + k) t = kV f d t := by
  induction k with
  | zero => intro _; rfl
  | succ k ih => intro h; rw [show d + (k + 1) = d + k + 1 by omega, kV_hi (d + k) f t (h _ (by omega) (by omega)), ih (fun j h1 h2 => h j h1 (by omega))]
theorem pf_kS {K : Type} [Lean.Grind.CommRing K] (a : Nat → K) (F : Nat → K → K) (n : Nat) : (∀ i, i < n → pf (F i)) → pf (fun t => kS (fun i => a i * F i t) n) := by
  induction n with
  | zero => intro _; exact pf_con 0
  | succ n ih => intro h; exact pf_cg (pf_lin 1 (a n) (ih (fun i hi => h i (by omega))) (h n (by omega))) (fun t => by rw [kS_s]; grind)
section CE
theorem tF_1 {K : Type} [Lean.Grind.CommRing K] [LE K] [LT K] [Std.LawfulOrderLT K] [Std.IsLinearOrder K] [Lean.Grind.OrderedRing K] {n : Nat} {l : Nat → K} {s c : Nat → Int} (h : pws n l s) (hc : ∀ j, j ≤ n → iz (c j) = kP l n j) {q : Nat} (hq : q + 1 ≤ n) : tF c s n 1 q = dF c q := by
  have hcn : c n = 1 := iz_inj (K := K) (by rw [hc n (Nat.le_refl _), kP_t, iz_1])
  have hH : ∀ x s', s' ≤ n → kH (fun j => iz (c j)) n x s' = kH (kP l n) n x s' := fun x s' => by
    induction s' with
    | zero => intro _; rw [kH_z, kH_z]; exact hc n (Nat.le_refl _)
    | succ s' ih => intro hs; rw [kH_s, kH_s, ih (by omega)]; congr 1; exact hc _ (by omega)
  refine iz_inj (K := K) ?_
  have e := k_newton l n (n - 1 - q) (by omega)
  rw [show n - (n - 1 - q) = q + 1 by omega, ← hc (q + 1) hq, ← iz_mul] at e
  rw [tF_k h hcn 0 q, kS_cg (fun a _ => show kq s 0 (l a) * kH (fun j => iz (c j)) n (l a) (n - 1 - q) = kH (kP l n) n (l a) (n - 1 - q) by
    rw [hH _ _ (by omega), kq, kV_z, hQ_top, hD_0, iz_1]; grind), e]
  rfl
theorem k_G {K : Type} [Lean.Grind.CommRing K] [LE K] [LT K] [Std.LawfulOrderLT K] [Std.IsLinearOrder K] [Lean.Grind.OrderedRing K] {n r : Nat} (h6 : n ≤ 6) {l ρ γ : Nat → K} {N : K → K} {s c : Nat → Int} (h : pws n l s) (hc : ∀ j, j ≤ n → iz (c j) = kP l n j) (hg : gmn n l r ρ γ N) (hr : 1 ≤ r) (hp : hD (hA s) r ≠ 0) : ∀ q, q ≤ n - r → iz (tF c s n r q) = iz (hD (hA s) r) * kP γ (n - r) q := by
  obtain ⟨g1, g2, g3, g4, g5, g6, g7, g8, g9, g10, g11, g12, g13, g14⟩ := hg
  have h01 : (0 : K) < 1 := Lean.Grind.OrderedRing.zero_lt_one
  have hcn : c n = 1 := iz_inj (K := K) (by rw [hc n (Nat.le_refl _), kP_t, iz_1])
  obtain ⟨r, rfl⟩ : ∃ q, r = q + 1 := ⟨r - 1, by omega⟩
  have hH : ∀ x s', s' ≤ n → kH (fun j => iz (c j)) n x s' = kH (kP l n) n x s' := fun x s' => by
    induction s' with
    | zero => intro _; rw [kH_z, kH_z]; exact hc n (Nat.le_refl _)
    | succ s' ih => intro hs; rw [kH_s, kH_s, ih (by omega)]; congr 1; exact hc _ (by omega)
  have hM : ∀ i, ∃ M : K → K, i < n → pft r 1 M ∧ ∀ t, kV (fun q => kH (fun j => iz (c j)) n (l i) (n - 1 - q)) (n - 1) t = kW γ (n - (r + 1)) t * M t := fun i => by
    by_cases hi : i < n
    · obtain ⟨a, ha, ea⟩ := g12 i hi
      obtain ⟨M, m1, m2⟩ := pf_root (pft_W ρ (r + 1)) (a := l i) (by rw [ea]; exact kW_r ρ (r + 1) a ha)
      refine ⟨M, fun _ => ⟨m1, ?_⟩⟩
      refine pf_can (pf_x (l i)) ⟨n - 1, _, _, rfl, fun _ => rfl⟩ (pf_mul ⟨_, _, pft_W γ (n - (r + 1))⟩ ⟨_, _, m1⟩) ⟨l i + 1, by grind⟩ (fun t => ?_)
      have sw := kV_sw (n - 1) (fun j => iz (c j)) (fun j => kH (fun j => iz (c j)) n (l i) (n - j)) (l i) t (fun j hj => by
        show iz (c j) = kH (fun j => iz (c j)) n (l i) (n - j) - l i * kH (fun j => iz (c j)) n (l i) (n - (j + 1))
        rw [show n - j = n - (j + 1) + 1 by omega, kH_s, show n - 1 - (n - (j + 1)) = j by omega]; grind) (by
        show iz (c (n - 1 + 1)) = kH (fun j => iz (c j)) n (l i) (n - (n - 1 + 1))
        rw [show n - 1 + 1 = n by omega, Nat.sub_self, kH_z])
      rw [show n - 1 + 1 = n by omega, kV_cg n (fun j => iz (c j)) (kP l n) t hc, kW_P, g4, Nat.sub_zero, hH _ n (Nat.le_refl _), kH_r l n i hi, m2] at sw
      rw [kV_cg (n - 1) (fun q => kH (fun j => iz (c j)) n (l i) (n - 1 - q)) (fun j => kH (fun j => iz (c j)) n (l i) (n - (j + 1))) t (fun j _ => by rw [show n - 1 - j = n - (j + 1) by omega])]
      grind
    · exact ⟨fun _ => 0, fun w => absurd w hi⟩
  obtain ⟨M, hM⟩ := Classical.axiomOfChoice hM
  have hT : ∀ t : K, kV (fun q => iz (tF c s n (r + 1) q)) (n - (r + 1)) t = kW γ (n - (r + 1)) t * kS (fun i => kq s r (l i) * M i t) n := fun t => by
    have tr := kV_trunc (f := fun q => (iz (tF c s n (r + 1) q) : K)) (d := n - (r + 1)) t r (fun j h1 h2 => by
      show iz (tF c s n (r + 1) j) = 0
      rw [tF_hi h hcn (show r ≤ 5 by omega) (by omega) (by omega), if_pos (by omega), iz_0])
    rw [show n - (r + 1) + r = n - 1 by omega] at tr
    rw [← tr, kV_cg (n - 1) (fun q => iz (tF c s n (r + 1) q)) (fun q => kS (fun i => kq s r (l i) * kH (fun j => iz (c j)) n (l i) (n - 1 - q)) n) t (fun q _ => tF_k h hcn r q), kV_kS, ← kS_mul]
    exact kS_cg (fun i hi => by rw [(hM i hi).2 t]; grind)
  have pT : pft (n - (r + 1)) (iz (hD (hA s) (r + 1))) (fun t : K => kV (fun q => iz (tF c s n (r + 1) q)) (n - (r + 1)) t) := ⟨_, by show iz (tF c s n (r + 1) (n - (r + 1))) = _; rw [tF_hi h hcn (show r ≤ 5 by omega) (by omega) (by omega), if_neg (by omega)], fun _ => rfl⟩
  obtain ⟨dW, cW, pW⟩ := pf_kS (fun i => kq s r (l i)) M n (fun i hi => ⟨_, _, (hM i hi).1⟩)
  have hne : ∃ t, kS (fun i => kq s r (l i) * M i t) n ≠ 0 := Classical.byContradiction fun w => iz_ne (K := K) hp (pf_0 pT (fun t => by
    show kV (fun q => iz (tF c s n (r + 1) q)) (n - (r + 1)) t = 0
    have hz : kS (fun i => kq s r (l i) * M i t) n = 0 := Classical.byContradiction fun w2 => w ⟨t, w2⟩
    rw [hT t, hz]; grind))
  obtain ⟨e, ce, _, hce, pe⟩ := pft_trim dW cW _ pW hne
  have d2 := pft_cg (pft_mul pe (n - (r + 1)) 1 (kW γ (n - (r + 1))) (pft_W γ (n - (r + 1)))) (fun t => (hT t).symm)
  obtain ⟨x1, x2⟩ := pft_deg d2 pT (by grind) (iz_ne hp)
  obtain rfl : e = 0 := by omega
  obtain ⟨w, w1, w2⟩ := pe
  refine kV_eq (fun t => ?_)
  have := kV_lin (n - (r + 1)) (kP γ (n - (r + 1))) (kP γ (n - (r + 1))) (iz (hD (hA s) (r + 1))) 0 t
  have w3 : kS (fun i => kq s r (l i) * M i t) n = kV w 0 t := w2 t
  rw [hT t, w3, kV_z, w1, kV_cg (n - (r + 1)) (fun q => iz (hD (hA s) (r + 1)) * kP γ (n - (r + 1)) q) (fun q => iz (hD (hA s) (r + 1)) * kP γ (n - (r + 1)) q + 0 * kP γ (n - (r + 1)) q) t (fun j _ => by grind), this, kW_P, ← x2]; grind
/-- the common divisor begins with 1, and the rest is whole, too -/
theorem cm_one {K : Type} [Lean.Grind.CommRing K] [LE K] [LT K] [Std.LawfulOrderLT K] [Std.IsLinearOrder K] [Lean.Grind.OrderedRing K] (hinv : ∀ x : K, x ≠ 0 → ∃ y, x * y = 1) {n r : Nat} (h1 : 1 ≤ n) (h6 : n ≤ 6) {l ρ γ : Nat → K} {N : K → K} {s c : Nat → Int} (h : pws n l s) (hc : ∀ j, j ≤ n → iz (c j) = kP l n j) (hg : gmn n l r ρ γ N) : cmF c n (n - r) = 1 ∧ ∃ M : Nat → Int, ∀ j, j ≤ r → iz (M j) = kP ρ r j := by
  have h01 : (0 : K) < 1 := Lean.Grind.OrderedRing.zero_lt_one
  obtain ⟨c1, c2, c3, c4⟩ := gcd_of hinv h1 h6 hc hg
  have hcn : c n = 1 := iz_inj (K := K) (by rw [hc n (Nat.le_refl _), kP_t, iz_1])
  have hpr := cm_prm h1 hcn c2
  obtain ⟨g1, g2, g3, g4, g5, g6, g7, g8, g9, g10, g11, g12, g13, g14⟩ := hg
  rw [show cmC c n = n - r + 1 by omega] at hpr
  by_cases hrn : r = n
  · subst hrn
    rw [Nat.sub_self] at hpr c3 ⊢
    constructor
    · have : gcN (cmF c r) 1 = Nat.gcd 0 (cmF c r 0).natAbs := rfl
      rw [this, Nat.gcd_zero_left] at hpr
      omega
    · refine ⟨c, fun j hj => ?_⟩
      rw [hc j hj]
      refine kV_eq (fun t => ?_) j hj
      rw [kW_P, kW_P, g4, Nat.sub_self]
      show 1 * kW ρ r t = kW ρ r t
      grind
  · have hr5 : r ≤ 5 := by omega
    have hDr := hD_pos h (by omega) g2 g13 r (Nat.le_refl _)
    obtain ⟨_, hz⟩ := hD_end h hr5 hDr g12
    obtain ⟨hr1, _⟩ := g10 h1
    have hq : ∀ t : K, kq s r t = iz (hD (hA s) r) * kW ρ r t := by
      have p1 := pft_lin 1 (-iz (hD (hA s) r)) (kq_pft (K := K) s r) (pft_W ρ r)
      rw [show 1 * iz (hD (hA s) r) + -iz (hD (hA s) r) * 1 = (0 : K) by grind] at p1
      obtain ⟨f, f1, f2⟩ := p1
      obtain ⟨q, rfl⟩ : ∃ q, r = q + 1 := ⟨r - 1, by omega⟩
      have p2 : pft q (f q) (fun t : K => 1 * kq s (q + 1) t + -iz (hD (hA s) (q + 1)) * kW ρ (q + 1) t) := ⟨f, rfl, fun t => by rw [f2 t, kV_hi q f t f1]⟩
      have := pf_nr ρ q _ _ (q + 1) p2 (fun a ha => by
        obtain ⟨i, hi, e⟩ := g13 a ha
        show 1 * kq s (q + 1) (ρ a) + -iz (hD (hA s) (q + 1)) * kW ρ (q + 1) (ρ a) = 0
        rw [kW_r ρ (q + 1) a ha, e, hz i hi]; grind) (fun a b ha hb => by
        have := k_str g2 a (b - a - 1) (by omega)
        rw [show a + (b - a - 1 + 1) = b by omega] at this
        grind) (by omega)
      intro t
      have := this t
      grind
    obtain ⟨g, eg⟩ : ∃ g : Nat → Int, ∀ j, g j = if j ≤ r then hQ (hA s) r j else 0 := ⟨_, fun _ => rfl⟩
    have hgV : ∀ t : K, kV (fun j => iz (g j)) r t = iz (hD (hA s) r) * kW ρ r t := fun t => by
      rw [← hq t, kq]
      exact kV_cg r _ _ t (fun j hj => by rw [eg, if_pos hj])
    have hgz : ∀ j, r < j → g j = 0 := fun j hj => by rw [eg, if_neg (by omega)]
    obtain ⟨k, ek⟩ := Int.eq_ofNat_of_zero_le (show 0 ≤ cmF c n (n - r) * hD (hA s) r from Int.mul_nonneg (Int.le_of_lt c3) (Int.le_of_lt hDr))
    have hk0 : 0 < k := by have := Int.mul_pos c3 hDr; omega
    have hcf : ∀ t : K, kV (fun j => iz (cmF c n j)) (n - r) t = iz (cmF c n (n - r)) * kW γ (n - r) t := fun t => by
      have := kV_lin (n - r) (kP γ (n - r)) (kP γ (n - r)) (iz (cmF c n (n - r))) 0 t
      rw [kV_cg (n - r) (fun j => iz (cmF c n j)) (fun j => iz (cmF c n (n - r)) * kP γ (n - r) j + 0 * kP γ (n - r) j) t (fun j hj => by rw [c4 j hj]; grind), this, kW_P]; grind
    obtain ⟨g', b1, b2, b3⟩ := gauss (p := c) (b := r) hpr k g hk0 hgz (fun j hj => by
      refine iz_inj (K := K) ?_
      rw [iz_mul]
      refine kV_eq (f := fun j => iz (cv g (n - r) (cmF c n) j)) (g := fun j => iz (k : Int) * iz (c j)) (d := n - r + r) (fun t => ?_) j hj
      have := kV_lin (n - r + r) (fun j => iz (c j)) (fun j => iz (c j)) (iz (k : Int)) 0 t
      rw [cv_V hgz t (n - r) (cmF c n), hcf, hgV, kV_cg (n - r + r) (fun j => iz (k : Int) * iz (c j)) (fun j => iz (k : Int) * iz (c j) + 0 * iz (c j)) t (fun j _ => by grind), this, show n - r + r = n by omega, kV_cg n (fun j => iz (c j)) (kP l n) t hc, kW_P, g4, ← ek, iz_mul]; grind)
    have top := b3 (n - r + r) (Nat.le_refl _)
    rw [cv_top b2 (n - r) (cmF c n), show n - r + r = n by omega, hcn] at top
    have hone : cmF c n (n - r) = 1 := by
      have : cmF c n (n - r) ∣ 1 := ⟨g' r, top.symm⟩
      exact Int.eq_one_of_dvd_one (Int.le_of_lt c3) this
    refine ⟨hone, g', ?_⟩
    rw [hone, Int.one_mul] at ek
    refine kV_eq (fun t => ?_)
    have e1 := hgV t
    have e2 := kV_lin r (fun j => iz (g' j)) (fun j => iz (g' j)) (iz (hD (hA s) r)) 0 t
    rw [kV_cg r (fun j => iz (g j)) (fun j => iz (hD (hA s) r) * iz (g' j) + 0 * iz (g' j)) t (fun j _ => by rw [b1 j, ← ek, iz_mul]; grind), e2] at e1
    rw [kW_P]
    refine Classical.byContradiction fun w => k_nz (x := iz (hD (hA s) r)) (y := kV (fun j => iz (g' j)) r t - kW ρ r t) (iz_ne (by omega)) (fun z => w (by grind)) (by grind)
end CE
