/-! the reference's common divisor, as a function -/
def eR {K : Type} [Lean.Grind.CommRing K] (f : Nat → Int) (c : Nat) (t : K) : K := if c = 0 then 0 else kV (fun j => iz (f j)) (c - 1) t
theorem eR_z {K : Type} [Lean.Grind.CommRing K] (f : Nat → Int) (t : K) : eR f 0 t = 0 := if_pos rfl
theorem eR_s {K : Type} [Lean.Grind.CommRing K] (f : Nat → Int) (c : Nat) (t : K) : eR f (c + 1) t = kV (fun j => iz (f j)) c t := by
  rw [eR, if_neg (Nat.succ_ne_zero c), Nat.add_sub_cancel]
theorem eR_pft {K : Type} [Lean.Grind.CommRing K] (f : Nat → Int) (c : Nat) : pft c (iz (f c)) (eR (K := K) f (c + 1)) := ⟨fun j => iz (f j), rfl, fun t => eR_s f c t⟩
theorem eR_pf {K : Type} [Lean.Grind.CommRing K] (f : Nat → Int) (c : Nat) : pf (eR (K := K) f c) := by
  rcases c with _ | c
  · exact pf_cg (pf_con 0) (fun t => (eR_z f t).symm)
  · exact ⟨_, _, eR_pft f c⟩
theorem eR_cg {K : Type} [Lean.Grind.CommRing K] {f g : Nat → Int} {c : Nat} (h : ∀ k, k < c → f k = g k) (t : K) : eR f c t = eR g c t := by
  rcases c with _ | c
  · rw [eR_z, eR_z]
  · rw [eR_s, eR_s]; exact kV_cg c _ _ t (fun j hj => by rw [h j (by omega)])
theorem eR_dgt {K : Type} [Lean.Grind.CommRing K] (f : Nat → Int) (c : Nat) (t : K) : eR f (dgt f c) t = eR f c t := by
  induction c with
  | zero => rfl
  | succ c ih =>
    rw [dgt]
    by_cases e : f c = 0
    · rw [if_pos e, ih, eR_s]
      rcases c with _ | c
      · rw [eR_z, kV_z, e, iz_0]
      · rw [eR_s, kV_hi c _ t (by rw [e, iz_0])]
    · rw [if_neg e]
def kT {K : Type} [Lean.Grind.CommRing K] (t : K) : Nat → K
  | 0 => 1
  | k + 1 => t * kT t k
theorem kT_pf {K : Type} [Lean.Grind.CommRing K] (k : Nat) : pf (fun t : K => kT t k) := by
  induction k with
  | zero => exact pf_con 1
  | succ k ih => exact pf_cg (pf_mul (pf_x 0) ih) (fun t => by show (t - 0) * kT t k = t * kT t k; grind)
theorem kV_shift {K : Type} [Lean.Grind.CommRing K] (D : Nat) (t : K) (s : Nat) : ∀ g : Nat → K, kV (fun k => if s ≤ k then g (k - s) else 0) (s + D) t = kT t s * kV g D t := by
  induction s with
  | zero => intro g; rw [Nat.zero_add, kV_cg D (fun k => if 0 ≤ k then g (k - 0) else 0) g t (fun j _ => by rw [if_pos (Nat.zero_le _), Nat.sub_zero])]; show _ = 1 * _; grind
  | succ s ih =>
    intro g
    rw [show s + 1 + D = s + D + 1 by omega, kV_s, if_neg (by omega)]
    have e := ih g
    rw [kV_cg (s + D) (fun j => if s + 1 ≤ j + 1 then g (j + 1 - (s + 1)) else 0) (fun k => if s ≤ k then g (k - s) else 0) t (fun j _ => by
      by_cases q : s ≤ j
      · rw [if_pos q, if_pos (by omega), show j + 1 - (s + 1) = j - s by omega]
      · rw [if_neg q, if_neg (by omega)]), e]
    show 0 + t * (kT t s * kV g D t) = t * kT t s * kV g D t
    grind
theorem eR_lw {K : Type} [Lean.Grind.CommRing K] {f g : Nat → Int} {c d : Nat} (hd : 1 ≤ d) (hc : d ≤ c) (t : K) : eR (lwF f c g d) c t = iz (g (d - 1)) * eR f c t - iz (f (c - 1)) * (kT t (c - d) * eR g d t) := by
  obtain ⟨d, rfl⟩ : ∃ q, d = q + 1 := ⟨d - 1, by omega⟩
  obtain ⟨s, rfl⟩ : ∃ q, c = q + d + 1 := ⟨c - d - 1, by omega⟩
  rw [show s + d + 1 - (d + 1) = s by omega, show s + d + 1 - 1 = s + d by omega, Nat.add_sub_cancel, eR_s, eR_s, eR_s, ← kV_shift d t s]
  have e : ∀ k, iz (lwF f (s + d + 1) g (d + 1) k) = iz (g d) * iz (f k) + (-iz (f (s + d))) * (if s ≤ k then iz (g (k - s)) else (0 : K)) := fun k => by
    simp only [lwF]
    rw [iz_sub, iz_mul, Nat.add_sub_cancel, show s + d + 1 - (d + 1) = s by omega, show s + d + 1 - 1 = s + d by omega]
    by_cases q : s ≤ k
    · rw [if_pos q, if_pos q, iz_mul]; grind
    · rw [if_neg q, if_neg q, iz_0]; grind
  rw [kV_cg (s + d) _ _ t (fun k _ => e k), kV_lin (s + d) (fun k => iz (f k)) (fun k => if s ≤ k then iz (g (k - s)) else 0)]
  grind
/-- D divides F -/
def kdv {K : Type} [Lean.Grind.CommRing K] (D F : K → K) : Prop := ∃ H, pf H ∧ ∀ t, F t = D t * H t
theorem kdv_0 {K : Type} [Lean.Grind.CommRing K] {D F : K → K} (h : ∀ t, F t = 0) : kdv D F := ⟨fun _ => 0, pf_con 0, fun t => by rw [h t]; grind⟩
theorem kdv_rf {K : Type} [Lean.Grind.CommRing K] (D : K → K) : kdv D D := ⟨fun _ => 1, pf_con 1, fun t => by grind⟩
theorem kdv_cg {K : Type} [Lean.Grind.CommRing K] {D F G : K → K} (h : kdv D F) (e : ∀ t, F t = G t) : kdv D G := by
  obtain ⟨H, a, b⟩ := h
  exact ⟨H, a, fun t => by rw [← e, b]⟩
theorem kdv_lin {K : Type} [Lean.Grind.CommRing K] {D F G A B : K → K} (h1 : kdv D F) (h2 : kdv D G) (hA : pf A) (hB : pf B) : kdv D (fun t => A t * F t + B t * G t) := by
  obtain ⟨H, a, b⟩ := h1
  obtain ⟨J, c, d⟩ := h2
  exact ⟨fun t => A t * H t + B t * J t, pf_add (pf_mul hA a) (pf_mul hB c), fun t => by show A t * F t + B t * G t = D t * (A t * H t + B t * J t); rw [b, d]; grind⟩
theorem kdv_c {K : Type} [Lean.Grind.CommRing K] [LE K] [LT K] [Std.LawfulOrderLT K] [Std.IsLinearOrder K] [Lean.Grind.OrderedRing K] (hinv : ∀ x : K, x ≠ 0 → ∃ y, x * y = 1) {D F : K → K} {c : K} (hc : c ≠ 0) (h : kdv D (fun t => c * F t)) : kdv D F := by
  obtain ⟨i, hi⟩ := hinv c hc
  refine kdv_cg (kdv_lin h h (pf_con i) (pf_con 0)) (fun t => ?_)
  have : i * (c * F t) + 0 * (c * F t) = (c * i) * F t := by grind
  rw [this, hi]; grind
theorem iz_ne {K : Type} [Lean.Grind.CommRing K] [LE K] [LT K] [Std.LawfulOrderLT K] [Std.IsLinearOrder K] [Lean.Grind.OrderedRing K] {x : Int} (h : x ≠ 0) : (iz x : K) ≠ 0 := fun q => h (iz_inj (K := K) (by rw [q, iz_0]))
theorem gcN_q {f : Nat → Int} {c k : Nat} (hk : k < c) : f k = (gcN f c : Int) * (f k / (gcN f c : Int)) := by
  have := gcN_dvd (f := f) hk
  exact (Int.mul_ediv_cancel' (Int.ofNat_dvd_left.mpr this)).symm
theorem eR_gc {K : Type} [Lean.Grind.CommRing K] (f : Nat → Int) (c : Nat) (t : K) : iz (gcN f c : Int) * eR (fun k => f k / (gcN f c : Int)) c t = eR f c t := by
  rcases c with _ | c
  · rw [eR_z, eR_z]; grind
  · rw [eR_s, eR_s]
    have := kV_lin c (fun j => iz (f j / (gcN f (c + 1) : Int))) (fun j => iz (f j / (gcN f (c + 1) : Int))) (iz (gcN f (c + 1) : Int)) 0 t
    rw [← kV_cg c (fun j => iz (f j)) _ t (fun j hj => show iz (f j) = iz (gcN f (c + 1) : Int) * iz (f j / (gcN f (c + 1) : Int)) + 0 * iz (f j / (gcN f (c + 1) : Int)) by
      rw [show 0 * iz (f j / (gcN f (c + 1) : Int)) = (0 : K) by grind, ← iz_mul, ← gcN_q (show j < c + 1 by omega)]; grind)] at this
    rw [this]; grind
theorem st_dv {K : Type} [Lean.Grind.CommRing K] [LE K] [LT K] [Std.LawfulOrderLT K] [Std.IsLinearOrder K] [Lean.Grind.OrderedRing K] (hinv : ∀ x : K, x ≠ 0 → ∃ y, x * y = 1) {D : K → K} {f g : Nat → Int} {c d : Nat} (hd : 1 ≤ d) (hc : d ≤ c) (hg : g (d - 1) ≠ 0) (hG : kdv D (eR g d)) : kdv D (eR f c) ↔ kdv D (eR (stF f c g d) (stC f c g d)) := by
  have e1 : ∀ t, iz (gcN (lwF f c g d) (stC f c g d) : Int) * eR (K := K) (stF f c g d) (stC f c g d) t = iz (g (d - 1)) * eR f c t - iz (f (c - 1)) * (kT t (c - d) * eR g d t) := fun t => by
    rw [← eR_lw hd hc t, ← eR_dgt (lwF f c g d) c t]
    exact eR_gc (lwF f c g d) (dgt (lwF f c g d) c) t
  constructor
  · intro h
    by_cases z : stC f c g d = 0
    · rw [z]; exact kdv_0 (fun t => eR_z _ t)
    · have hn : (gcN (lwF f c g d) (stC f c g d) : Int) ≠ 0 := by
        have h1 := (dgt_ne (f := lwF f c g d) c).resolve_left z
        have := gcN_ne (f := lwF f c g d) (n := stC f c g d) (k := stC f c g d - 1) (by omega) h1
        omega
      refine kdv_c hinv (iz_ne hn) (kdv_cg (kdv_lin h hG (pf_con (iz (g (d - 1)))) (pf_mul (pf_con (-iz (f (c - 1)))) (kT_pf (c - d)))) (fun t => ?_))
      rw [e1 t]; grind
  · intro h
    refine kdv_c hinv (iz_ne hg) (kdv_cg (kdv_lin h hG (pf_con (iz (gcN (lwF f c g d) (stC f c g d) : Int))) (pf_mul (pf_con (iz (f (c - 1)))) (kT_pf (c - d)))) (fun t => ?_))
    show iz (gcN (lwF f c g d) (stC f c g d) : Int) * eR (stF f c g d) (stC f c g d) t + iz (f (c - 1)) * kT t (c - d) * eR g d t = iz (g (d - 1)) * eR f c t
    rw [e1 t]; grind
/-- nothing, or not 0 at its top -/
def tp (f : Nat → Int) (c : Nat) : Prop := c = 0 ∨ f (c - 1) ≠ 0
theorem st_tp (f : Nat → Int) (c : Nat) (g : Nat → Int) (d : Nat) : tp (stF f c g d) (stC f c g d) := by
  rcases dgt_ne (f := lwF f c g d) c with h | h
  · exact Or.inl h
  · by_cases z : stC f c g d = 0
    · exact Or.inl z
    · refine Or.inr fun q => h ?_
      have := gcN_q (f := lwF f c g d) (c := stC f c g d) (k := stC f c g d - 1) (by omega)
      show lwF f c g d (stC f c g d - 1) = 0
      rw [this, show lwF f c g d (stC f c g d - 1) / (gcN (lwF f c g d) (stC f c g d) : Int) = 0 from q, Int.mul_zero]
theorem in_dv {K : Type} [Lean.Grind.CommRing K] [LE K] [LT K] [Std.LawfulOrderLT K] [Std.IsLinearOrder K] [Lean.Grind.OrderedRing K] (hinv : ∀ x : K, x ≠ 0 → ∃ y, x * y = 1) {D : K → K} {g : Nat → Int} {d : Nat} (hd : 1 ≤ d) (hg : g (d - 1) ≠ 0) (hG : kdv D (eR g d)) (n : Nat) : ∀ (f : Nat → Int) (c : Nat), kdv D (eR f c) ↔ kdv D (eR (inR g d n f c).1 (inR g d n f c).2) := by
  induction n with
  | zero => intro f c; exact Iff.rfl
  | succ n ih =>
    intro f c
    rw [inR]
    by_cases q : c < d
    · rw [if_pos q]
    · rw [if_neg q]
      exact (st_dv hinv hd (by omega) hg hG).trans (ih _ _)
theorem in_tp {g : Nat → Int} {d : Nat} (n : Nat) : ∀ (f : Nat → Int) (c : Nat), tp f c → tp (inR g d n f c).1 (inR g d n f c).2 := by
  induction n with
  | zero => intro f c h; exact h
  | succ n ih =>
    intro f c h
    rw [inR]
    by_cases q : c < d
    · rw [if_pos q]; exact h
    · rw [if_neg q]; exact ih _ _ (st_tp f c g d)
theorem ou_dv {K : Type} [Lean.Grind.CommRing K] [LE K] [LT K] [Std.LawfulOrderLT K] [Std.IsLinearOrder K] [Lean.Grind.OrderedRing K] (hinv : ∀ x : K, x ≠ 0 → ∃ y, x * y = 1) {D : K → K} (n : Nat) : ∀ (f : Nat → Int) (c : Nat) (g : Nat → Int) (d : Nat), tp f c → tp g d → (kdv D (eR f c) ∧ kdv D (eR g d) ↔ kdv D (eR (ouR n f c g d).1.1 (ouR n f c g d).1.2) ∧ kdv D (eR (ouR n f c g d).2.1 (ouR n f c g d).2.2)) := by
  induction n with
  | zero => intro f c g d _ _; exact Iff.rfl
  | succ n ih =>
    intro f c g d h1 h2
    rw [ouR]
    by_cases q : d ≤ 1
    · rw [if_pos q]
    · rw [if_neg q]
      refine Iff.trans ?_ (ih g d _ _ h2 (in_tp (c + 1) f c h1))
      have hg : g (d - 1) ≠ 0 := h2.resolve_left (by omega)
      constructor
      · rintro ⟨a, b⟩; exact ⟨b, (in_dv hinv (by omega) hg b (c + 1) f c).mp a⟩
      · rintro ⟨a, b⟩; exact ⟨(in_dv hinv (by omega) hg a (c + 1) f c).mpr b, a⟩
theorem ou_tp (n : Nat) : ∀ (f : Nat → Int) (c : Nat) (g : Nat → Int) (d : Nat), tp f c → tp g d → 1 ≤ c → tp (ouR n f c g d).1.1 (ouR n f c g d).1.2 ∧ tp (ouR n f c g d).2.1 (ouR n f c g d).2.2 ∧ 1 ≤ (ouR n f c g d).1.2 := by
  induction n with
  | zero => intro f c g d h1 h2 h3; exact ⟨h1, h2, h3⟩
  | succ n ih =>
    intro f c g d h1 h2 h3
    rw [ouR]
    by_cases q : d ≤ 1
    · rw [if_pos q]; exact ⟨h1, h2, h3⟩
    · rw [if_neg q]; exact ih g d _ _ h2 (in_tp (c + 1) f c h1) (by omega)
theorem ou_end (n : Nat) : ∀ (f : Nat → Int) (c : Nat) (g : Nat → Int) (d : Nat), d ≤ n + 1 → (ouR n f c g d).2.2 ≤ 1 := by
  induction n with
  | zero => intro f c g d h; exact h
  | succ n ih =>
    intro f c g d h
    rw [ouR]
    by_cases q : d ≤ 1
    · rw [if_pos q]; exact q
    · rw [if_neg q]
      have := inR_lt (g := g) (show 1 ≤ d by omega) (c + 1) f c (by omega)
      exact ih _ _ _ _ (by omega)
/-- the common divisor of p and its derivative -/
theorem gcd_of {K : Type} [Lean.Grind.CommRing K] [LE K] [LT K] [Std.LawfulOrderLT K] [Std.IsLinearOrder K] [Lean.Grind.OrderedRing K] (hinv : ∀ x : K, x ≠ 0 → ∃ y, x * y = 1) {n : Nat} (h1 : 1 ≤ n) (h6 : n ≤ 6) {p : Nat → Int} {l ρ γ : Nat → K} {r : Nat} {N : K → K} (hp : ∀ j, j ≤ n → iz (p j) = kP l n j) (hg : gmn n l r ρ γ N) : cmC p n - 1 = n - r ∧ 1 ≤ cmC p n ∧ 0 < cmF p n (n - r) ∧ ∀ j, j ≤ n - r → iz (cmF p n j) = iz (cmF p n (n - r)) * kP γ (n - r) j := by
  have h01 : (0 : K) < 1 := Lean.Grind.OrderedRing.zero_lt_one
  obtain ⟨g1, g2, g3, g4, g5, g6, g7, g8, g9, g10, g11, g12, g13, g14⟩ := hg
  have hpn : p n = 1 := iz_inj (K := K) (by rw [hp n (Nat.le_refl _), kP_t, iz_1])
  have ep : ∀ t : K, eR p (n + 1) t = kW l n t := fun t => by rw [eR_s, kV_cg n _ (kP l n) t hp, kW_P]
  have hdn : dF p (n - 1) ≠ 0 := by
    show (((n - 1 : Nat) : Int) + 1) * p (n - 1 + 1) ≠ 0
    rw [show n - 1 + 1 = n by omega, hpn]; omega
  have ed : ∀ t : K, iz (gcN (dF p) n : Int) * eR (sF (dF p) n) n t = kU l n t := fun t => by
    rw [← kU_d, show eR (sF (dF p) n) n t = eR (fun k => dF p k / (gcN (dF p) n : Int)) n t from rfl, eR_gc]
    obtain ⟨n, rfl⟩ : ∃ q, n = q + 1 := ⟨n - 1, by omega⟩
    rw [eR_s, kV_hi n _ t (by rw [kP_hi l (n + 1) (n + 1 + 1) (by omega)]; grind)]
    exact kV_cg n _ _ t (fun j hj => by rw [← hp (j + 1) (by omega), ← iz_mul]; rfl)
  have hcn : (gcN (dF p) n : Int) ≠ 0 := by have := gcN_ne (f := dF p) (n := n) (k := n - 1) (by omega) hdn; omega
  have t1 : tp p (n + 1) := Or.inr (by rw [Nat.add_sub_cancel, hpn]; decide)
  have t2 : tp (sF (dF p) n) n := Or.inr fun q => hdn (by
    have := gcN_q (f := dF p) (c := n) (k := n - 1) (by omega)
    rw [this, show dF p (n - 1) / (gcN (dF p) n : Int) = 0 from q, Int.mul_zero])
  have hG1 : kdv (kW γ (n - r)) (eR p (n + 1)) := ⟨kW ρ r, ⟨_, _, pft_W ρ r⟩, fun t => by rw [ep, g4]⟩
  have hG2 : kdv (kW γ (n - r)) (eR (sF (dF p) n) n) := kdv_c hinv (iz_ne hcn) ⟨N, g6, fun t => by show iz (gcN (dF p) n : Int) * eR (sF (dF p) n) n t = _; rw [ed, g5]⟩
  have fw := (ou_dv hinv (D := kW γ (n - r)) 7 p (n + 1) (sF (dF p) n) n t1 t2).mp ⟨hG1, hG2⟩
  obtain ⟨o1, o2, o3⟩ := ou_tp 7 p (n + 1) (sF (dF p) n) n t1 t2 (by omega)
  have o4 := ou_end 7 p (n + 1) (sF (dF p) n) n (by omega)
  have bw := fun (D : K → K) => (ou_dv hinv (D := D) 7 p (n + 1) (sF (dF p) n) n t1 t2).mpr
  change tp (prs p n).1.1 (prs p n).1.2 at o1
  change tp (prs p n).2.1 (prs p n).2.2 at o2
  change 1 ≤ (prs p n).1.2 at o3
  change (prs p n).2.2 ≤ 1 at o4
  change kdv (kW γ (n - r)) (eR (prs p n).1.1 (prs p n).1.2) ∧ kdv (kW γ (n - r)) (eR (prs p n).2.1 (prs p n).2.2) at fw
  change ∀ D : K → K, kdv D (eR (prs p n).1.1 (prs p n).1.2) ∧ kdv D (eR (prs p n).2.1 (prs p n).2.2) → _ at bw
  have fin : ∀ (q : Nat → Int) (a : Nat), q a ≠ 0 → (∀ j, j ≤ a → iz (q j) = iz (q a) * kP γ (n - r) j) → ∀ j, j ≤ a → iz ((if q a < 0 then fun k => -q k else q) j) = iz ((if q a < 0 then fun k => -q k else q) a) * kP γ (n - r) j := fun q a _ h j hj => by
    split
    · show iz (-q j) = iz (-q a) * _
      rw [iz_neg, iz_neg, h j hj]; grind
    · exact h j hj
  have finp : ∀ (q : Nat → Int) (a : Nat), q a ≠ 0 → 0 < (if q a < 0 then fun k => -q k else q) a := fun q a h => by
    split
    · show 0 < -q a; omega
    · omega
  by_cases z : (prs p n).2.2 = 1
  · have c1 : cmC p n = 1 := by rw [cmC, if_pos z]
    have c2 : cm0 p n = fun _ => 1 := by rw [cm0, if_pos z]
    have c3 : cmF p n = fun _ => 1 := by rw [cmF, c2, if_neg (show ¬ (1 : Int) < 0 by decide)]
    have hr : n - r = 0 := by
      obtain ⟨H, hH, eH⟩ := fw.2
      have hne : (prs p n).2.1 0 ≠ 0 := by
        have := o2.resolve_left (by omega)
        rw [z] at this
        exact this
      have pc := eR_pft (K := K) (prs p n).2.1 0
      rw [show 0 + 1 = (prs p n).2.2 by omega] at pc
      obtain ⟨d, c, hH⟩ := hH
      have hx : ∃ t, H t ≠ 0 := ⟨0, fun q => by
        have := eH 0
        rw [q, z, eR_s, kV_z] at this
        exact iz_ne (K := K) hne (by grind)⟩
      obtain ⟨d', c', _, hc', hH'⟩ := pft_trim d c H hH hx
      have pm := pft_cg (pft_mul hH' (n - r) 1 (kW γ (n - r)) (pft_W γ (n - r))) (fun t => (eH t).symm)
      have := (pft_deg pc pm (iz_ne hne) (by grind)).1
      omega
    rw [c1, c3]
    refine ⟨by omega, Nat.le_refl _, show (0 : Int) < 1 by decide, fun j hj => ?_⟩
    rw [show j = n - r by omega, kP_t]; grind
  · have z0 : (prs p n).2.2 = 0 := by omega
    have c1 : cmC p n = (prs p n).1.2 := by rw [cmC, if_neg z]
    have c2 : cm0 p n = (prs p n).1.1 := by rw [cm0, if_neg z]
    obtain ⟨a, ha⟩ : ∃ a, (prs p n).1.2 = a + 1 := ⟨(prs p n).1.2 - 1, by omega⟩
    have hne : (prs p n).1.1 a ≠ 0 := by
      have := o1.resolve_left (by omega)
      rw [ha, Nat.add_sub_cancel] at this
      exact this
    obtain ⟨b1, b2⟩ := bw (eR (prs p n).1.1 (prs p n).1.2) ⟨kdv_rf _, kdv_0 (fun t => by rw [z0]; exact eR_z _ t)⟩
    obtain ⟨h, hh, eh⟩ := b1
    obtain ⟨k, hk, ek⟩ := b2
    obtain ⟨h2, hh2, eh2⟩ := fw.1
    have pF := eR_pft (K := K) (prs p n).1.1 a
    rw [← ha] at pF
    have pW : pf (kW γ (n - r)) := ⟨_, _, pft_W γ (n - r)⟩
    have m1 : ∀ t, h2 t * h t = kW ρ r t := pf_can pW (pf_mul hh2 hh) ⟨_, _, pft_W ρ r⟩ (kW_nz γ (n - r)) (fun t => by
      have x1 := eh t
      rw [ep, g4, eh2] at x1
      grind)
    have m2 : ∀ t, iz (gcN (dF p) n : Int) * (h2 t * k t) = N t := pf_can pW (pf_mul (pf_con _) (pf_mul hh2 hk)) g6 (kW_nz γ (n - r)) (fun t => by
      have x1 := ek t
      have x2 := ed t
      rw [g5, x1, eh2] at x2
      grind)
    have hr : ∀ s, s < r → h (ρ s) = 0 := fun s hs => Classical.byContradiction fun q => by
      have x1 := m1 (ρ s)
      rw [kW_r ρ r s hs] at x1
      have x2 : h2 (ρ s) = 0 := Classical.byContradiction fun w => k_nz w q x1
      have x3 := m2 (ρ s)
      rw [x2] at x3
      have x4 := g7 s hs
      rw [← x3] at x4
      grind
    obtain ⟨dh, ch, ph⟩ := hh
    have hx : ∃ t, h t ≠ 0 := Classical.byContradiction fun q => by
      obtain ⟨t, ht⟩ := kW_nz ρ r
      have hz : h t = 0 := Classical.byContradiction fun w => q ⟨t, w⟩
      exact ht (by rw [← m1 t, hz]; grind)
    obtain ⟨b, cb, _, hcb, pb⟩ := pft_trim dh ch h ph hx
    have hrb : r ≤ b := Nat.le_of_not_lt fun q => by
      obtain ⟨t, ht⟩ := hx
      exact ht (pf_nr ρ b cb h r pb hr (fun s q hs hq => by
        have := k_str g2 s (q - s - 1) (by omega)
        rw [show s + (q - s - 1 + 1) = q by omega] at this
        grind) q t)
    have d1 := pft_cg (pft_mul pb a _ _ pF) (fun t => show eR (prs p n).1.1 (prs p n).1.2 t * h t = kW l n t by rw [← eh t, ep])
    have e1 := (pft_deg d1 (pft_W l n) (k_nz (iz_ne hne) hcb) (by grind)).1
    obtain ⟨dk, ck, pk⟩ := hh2
    have hx2 : ∃ t, h2 t ≠ 0 := Classical.byContradiction fun q => by
      obtain ⟨t, ht⟩ := kW_nz ρ r
      have hz : h2 t = 0 := Classical.byContradiction fun w => q ⟨t, w⟩
      exact ht (by rw [← m1 t, hz]; grind)
    obtain ⟨e, ce, _, hce, pe⟩ := pft_trim dk ck h2 pk hx2
    have d2 := pft_cg (pft_mul pe (n - r) 1 (kW γ (n - r)) (pft_W γ (n - r))) (fun t => (eh2 t).symm)
    have e2 := pft_deg d2 pF (by grind) (iz_ne hne)
    have ea : a = n - r := by omega
    have ee : e = 0 := by omega
    have hc : ∀ t, h2 t = iz ((prs p n).1.1 a) := fun t => by
      subst ee
      obtain ⟨w, w1, w2⟩ := pe
      rw [w2, kV_z, w1, ← e2.2]; grind
    have key : ∀ j, j ≤ a → iz ((prs p n).1.1 j) = iz ((prs p n).1.1 a) * kP γ (n - r) j := by
      refine kV_eq (fun t => ?_)
      have x1 := eh2 t
      rw [ha, eR_s, hc t] at x1
      have x2 := kV_lin a (kP γ (n - r)) (kP γ (n - r)) (iz ((prs p n).1.1 a)) 0 t
      rw [x1, kV_cg a (fun j => iz ((prs p n).1.1 a) * kP γ (n - r) j) (fun j => iz ((prs p n).1.1 a) * kP γ (n - r) j + 0 * kP γ (n - r) j) t (fun j _ => by grind), x2, ea, kW_P]
      grind
    have cF : cmF p n = if (prs p n).1.1 a < 0 then fun k => -(prs p n).1.1 k else (prs p n).1.1 := by rw [cmF, c2, c1, ha, Nat.add_sub_cancel]
    rw [c1, ha, cF, ← ea]
    refine ⟨by omega, by omega, finp _ a hne, ?_⟩
    have := fin (prs p n).1.1 a hne key
    rw [← ea] at this
    exact this
