/-! the reference: findCommon, purely: a row is its coefficients and how many they are -/
def lwF (f : Nat → Int) (c : Nat) (g : Nat → Int) (d : Nat) : Nat → Int := fun k => f k * g (d - 1) - (if c - d ≤ k then f (c - 1) * g (k - (c - d)) else 0)
def stC (f : Nat → Int) (c : Nat) (g : Nat → Int) (d : Nat) : Nat := dgt (lwF f c g d) c
def stF (f : Nat → Int) (c : Nat) (g : Nat → Int) (d : Nat) : Nat → Int := fun k => lwF f c g d k / (gcN (lwF f c g d) (stC f c g d) : Int)
def inR (g : Nat → Int) (d : Nat) : Nat → (Nat → Int) → Nat → (Nat → Int) × Nat
  | 0, f, c => (f, c)
  | n + 1, f, c => if c < d then (f, c) else inR g d n (stF f c g d) (stC f c g d)
def ouR : Nat → (Nat → Int) → Nat → (Nat → Int) → Nat → ((Nat → Int) × Nat) × ((Nat → Int) × Nat)
  | 0, f, c, g, d => ((f, c), (g, d))
  | n + 1, f, c, g, d => if d ≤ 1 then ((f, c), (g, d)) else ouR n g d (inR g d (c + 1) f c).1 (inR g d (c + 1) f c).2
def rsm (f : Nat → Int) (c : Nat) : Prop := ∀ k, k < c → sm (f k)
def inOK (g : Nat → Int) (d : Nat) : Nat → (Nat → Int) → Nat → Prop
  | 0, _, _ => True
  | n + 1, f, c => c < d ∨ (rsm f c ∧ inOK g d n (stF f c g d) (stC f c g d))
def ouOK : Nat → (Nat → Int) → Nat → (Nat → Int) → Nat → Prop
  | 0, _, _, _, _ => True
  | n + 1, f, c, g, d => d ≤ 1 ∨ (rsm g d ∧ inOK g d (c + 1) f c ∧ ouOK n g d (inR g d (c + 1) f c).1 (inR g d (c + 1) f c).2)
def dF (p : Nat → Int) : Nat → Int := fun k => ((k : Int) + 1) * p (k + 1)
def sF (f : Nat → Int) (c : Nat) : Nat → Int := fun k => f k / (gcN f c : Int)
def prs (p : Nat → Int) (n : Nat) : ((Nat → Int) × Nat) × ((Nat → Int) × Nat) := ouR 7 p (n + 1) (sF (dF p) n) n
def prsOK (p : Nat → Int) (n : Nat) : Prop := ouOK 7 p (n + 1) (sF (dF p) n) n
/-- how many coefficients the common divisor has, and which -/
def cmC (p : Nat → Int) (n : Nat) : Nat := if (prs p n).2.2 = 1 then 1 else (prs p n).1.2
def cm0 (p : Nat → Int) (n : Nat) : Nat → Int := if (prs p n).2.2 = 1 then (fun _ => 1) else (prs p n).1.1
def cmF (p : Nat → Int) (n : Nat) : Nat → Int := if cm0 p n (cmC p n - 1) < 0 then (fun k => -cm0 p n k) else cm0 p n
def isR (X : Nat → Int) (b : Nat) (f : Nat → Int) (c : Nat) : Prop := ∀ k, k < c → X (8 * b + k) = f k
theorem gcN_congr {f g : Nat → Int} : ∀ {n : Nat}, (∀ k, k < n → f k = g k) → gcN f n = gcN g n
  | 0, _ => rfl
  | n + 1, h => by rw [gcN, gcN, gcN_congr (fun k hk => h k (Nat.lt_succ_of_lt hk)), h n (Nat.lt_succ_self _)]
theorem gcN_ne {f : Nat → Int} {n k : Nat} (hk : k < n) (hf : f k ≠ 0) : gcN f n ≠ 0 := fun h => by
  have := gcN_dvd (f := f) hk
  rw [h] at this
  exact hf (Int.natAbs_eq_zero.mp (Nat.eq_zero_of_zero_dvd this))
theorem dgt_le {f : Nat → Int} : ∀ c, dgt f c ≤ c
  | 0 => Nat.le_refl _
  | c + 1 => by
    rw [dgt]
    split
    · exact Nat.le_succ_of_le (dgt_le c)
    · exact Nat.le_refl _
theorem dgt_ne {f : Nat → Int} : ∀ c, dgt f c = 0 ∨ f (dgt f c - 1) ≠ 0
  | 0 => Or.inl rfl
  | c + 1 => by
    rw [dgt]
    split
    · exact dgt_ne c
    · rename_i h; exact Or.inr h
theorem stC_lt {f g : Nat → Int} {c d : Nat} (hd : 1 ≤ d) (hc : d ≤ c) : stC f c g d < c := by
  obtain ⟨e, rfl⟩ : ∃ e, c = e + 1 := ⟨c - 1, by omega⟩
  have h0 : lwF f (e + 1) g d e = 0 := by
    simp only [lwF]
    rw [if_pos (by omega), show e - (e + 1 - d) = d - 1 by omega, Nat.add_sub_cancel]
    omega
  rw [stC, dgt, if_pos h0]
  exact Nat.lt_succ_of_le (dgt_le e)
theorem inR_lt {g : Nat → Int} {d : Nat} (hd : 1 ≤ d) : ∀ (n : Nat) (f : Nat → Int) (c : Nat), c < n → (inR g d n f c).2 < d
  | 0, _, _, h => absurd h (Nat.not_lt_zero _)
  | n + 1, f, c, h => by
    rw [inR]
    split
    · assumption
    · rename_i h2
      have := stC_lt (f := f) (g := g) hd (Nat.not_lt.mp h2)
      exact inR_lt hd n _ _ (by omega)
theorem nP_le0 {d : Nat} (hd : d < 2 ^ 30) : nP d ≤ 0 ↔ d ≤ 1 := by
  rcases d with _ | _ | d
  · exact ⟨fun _ => by omega, fun _ => Int32.le_of_lt nP_0⟩
  · rw [nP_succ]; exact ⟨fun _ => by omega, fun _ => by decide⟩
  · rw [nP_succ]
    exact ⟨fun h => absurd (nI_lt (show 0 < d + 1 by omega) (by omega)) (Int32.not_lt.mpr h), fun h => by omega⟩
theorem nP_eq0 {d : Nat} (hd : d < 2 ^ 30) : nP d = 0 ↔ d = 1 := by
  rcases d with _ | _ | d
  · exact ⟨fun h => absurd h (by decide), fun h => by omega⟩
  · rw [nP_succ]; exact ⟨fun _ => rfl, fun _ => by decide⟩
  · rw [nP_succ]
    exact ⟨fun h => absurd (nI_lt (show 0 < d + 1 by omega) (by omega)) (by rw [h]; decide), fun h => by omega⟩
theorem nP_lt2 {c d : Nat} (hc : c < 2 ^ 30) (hd : d < 2 ^ 30) : nP c < nP d ↔ c < d := by
  have e : ∀ k, k < 2 ^ 30 → (nP k).toInt = (k : Int) - 1 := by
    intro k hk
    rcases k with _ | k
    · decide
    · rw [nP_succ, nI, Int32.toInt_ofNat_of_lt (by omega)]; omega
  rw [Int32.lt_iff_toInt_lt, e c hc, e d hd]
  omega
theorem sm_mul2 {a b x y : Int} (ha : sm a) (hb : sm b) (hx : sm x) (hy : sm y) : rbd (a * b - x * y) := by
  have key : ∀ {u v : Int}, sm u → sm v → -(sBB * sBB) ≤ u * v ∧ u * v ≤ sBB * sBB := by
    intro u v hu hv
    have h2 := sBB_pos
    have a1 : -sBB < u := hu.1
    have a2 : u < sBB := hu.2
    have b1 : -sBB < v := hv.1
    have b2 : v < sBB := hv.2
    generalize sBB = S at *
    have h3 : (u.natAbs * v.natAbs : Nat) ≤ S.natAbs * S.natAbs := Nat.mul_le_mul (by omega) (by omega)
    have h4 : ((u.natAbs * v.natAbs : Nat) : Int) ≤ ((S.natAbs * S.natAbs : Nat) : Int) := Int.ofNat_le.mpr h3
    rw [← Int.natAbs_mul, ← Int.natAbs_mul] at h4
    have h5 : 0 ≤ S * S := Int.mul_nonneg (by omega) (by omega)
    omega
  have k1 := key ha hb
  have k2 := key hx hy
  have e : rBB = sBB * sBB * 16777216 ^ 99 := by
    have e1 : rBB = sBB * 16777216 ^ 199 := Int.pow_add (16777216 : Int) 100 199
    have e2 : (16777216 : Int) ^ 199 = sBB * 16777216 ^ 99 := Int.pow_add (16777216 : Int) 100 99
    rw [e1, e2, Int.mul_assoc]
  have h2 := sBB_pos
  have h5 : 0 < sBB * sBB := Int.mul_pos h2 h2
  have h6 : (3 : Int) ≤ 16777216 ^ 99 := by
    have := rg_B 98
    have e3 : (16777216 : Int) ^ 99 = 16777216 ^ 98 * 16777216 := Int.pow_succ _ _
    omega
  have h7 := Int.mul_le_mul_of_nonneg_left h6 (Int.le_of_lt h5)
  rw [← e] at h7
  constructor
  · show -rBB < _
    omega
  · show _ < rBB
    omega
theorem rsm_lw {f g : Nat → Int} {c d : Nat} (hd : 1 ≤ d) (hc : d ≤ c) (hf : rsm f c) (hg : rsm g d) {k : Nat} (hk : k < c) : rbd (lwF f c g d k) := by
  simp only [lwF]
  have h0 : sm 0 := ⟨by have := sBB_pos; show -sBB < 0; omega, sBB_pos⟩
  split
  · exact sm_mul2 (hf k hk) (hg _ (by omega)) (hf _ (by omega)) (hg _ (by omega))
  · have := sm_mul2 (hf k hk) (hg (d - 1) (by omega)) h0 h0
    simpa using this
theorem low_row {X X1 f g : Nat → Int} {dm ds : Nat} (hm : ds ≤ dm) (h6 : dm ≤ 6) (h4 : isR X 4 f (dm + 1)) (h3 : isR X 3 g (ds + 1)) (hI : lwI X dm ds (dm + 1) (ds + 1) X1) :
    (∀ k, k < dm + 1 → X1 (8 * 4 + k) = lwF f (dm + 1) g (ds + 1) k) ∧ (∀ v, v < 32 → X1 v = X v) ∧ dgt (fun k => lwA X dm ds (dm + 1) (ds + 1) (8 * 4 + k)) (dm + 1) = stC f (dm + 1) g (ds + 1) := by
  have e : ∀ k, k < dm + 1 → lwA X dm ds (dm + 1) (ds + 1) (8 * 4 + k) = lwF f (dm + 1) g (ds + 1) k := by
    intro k hk
    have q1 := h4 k hk
    have q2 := h3 ds (by omega)
    have q3 := h4 dm (by omega)
    simp only [lwA, lwF]
    rw [if_pos (by omega), if_pos (by omega), q1, show 24 + ds = 8 * 3 + ds by omega, q2, show 32 + dm = 8 * 4 + dm by omega, q3, Nat.add_sub_cancel, Nat.add_sub_cancel]
    by_cases h : dm - ds ≤ k
    · rw [if_pos (by omega), if_pos (by omega), show 8 * 4 + k - 8 - (dm - ds) = 8 * 3 + (k - (dm + 1 - (ds + 1))) by omega, h3 _ (by omega)]
    · rw [if_neg (by omega), if_neg (by omega)]
  refine ⟨fun k hk => (hI.1 _ (by omega) (by omega)).trans (e k hk), fun v hv => ?_, dgt_congr e⟩
  rw [hI.1 v (by omega) (by omega), lwA, if_neg (by omega)]
theorem simp_row {X X1 f : Nat → Int} {b c : Nat} (hb : b < 5) (hc : c ≤ 8) (h : isR X b f c) (h1 : ∀ v, (v < 104 ∨ 107 < v) → X1 v = dvX X (8 * b) c (gcN (fun k => X (8 * b + k)) c) v) :
    isR X1 b (sF f c) c ∧ ∀ v, v < 8 * b ∨ (8 * b + 8 ≤ v ∧ v < 104) → X1 v = X v := by
  rw [gcN_congr (g := f) h] at h1
  refine ⟨fun k hk => ?_, fun v hv => ?_⟩
  · rw [h1 _ (by omega), dvX, if_pos (by omega), h k hk, sF]
  · rw [h1 v (by omega), dvX, if_neg (by omega)]
theorem sF_st {f g : Nat → Int} {c d : Nat} : sF (lwF f c g d) (stC f c g d) = stF f c g d := rfl
theorem isR_le {X f : Nat → Int} {b c e : Nat} (h : isR X b f c) (he : e ≤ c) : isR X b f e := fun k hk => h k (by omega)
theorem isR_keep {X Y f : Nat → Int} {b c : Nat} (h : isR X b f c) (hc : c ≤ 8) (hk : ∀ v, 8 * b ≤ v → v < 8 * b + 8 → Y v = X v) : isR Y b f c := fun k h2 => (hk _ (by omega) (by omega)).trans (h k h2)
theorem copy_row {X f : Nat → Int} {a b c : Nat} (h : isR X b f c) : isR (cpX X (8 * a) (8 * b) c) a f c := fun k hk => by
  rw [cpX, if_pos (by omega), show 8 * b + (8 * a + k - 8 * a) = 8 * b + k by omega]
  exact h k hk
theorem copy_keep {X f : Nat → Int} {a b c q e : Nat} (h : isR X q f e) (hc : c ≤ 8) (he : e ≤ 8) (hq : q ≠ a) : isR (cpX X (8 * a) (8 * b) c) q f e := fun k hk => by
  rw [cpX, if_neg (by omega)]
  exact h k hk
theorem pc_pos : ∀ s, s < 64 → 0 < s → 0 < pcn s 6 := by decide +kernel
theorem mn_0 (A : Nat → Nat → Int) : mn A 0 0 = 1 := by
  simp [mn, pcn, mnF, inF]
theorem chF_top {A : Nat → Nat → Int} {k : Nat} (hk : k ≤ 6) : ∀ s, s < 2 ^ k → chF A k (s + 1) k = 1
  | 0, _ => by
    have e : pcn 0 6 = 0 := by decide
    rw [chF, e, Nat.sub_zero, va_up_self, if_neg (by decide), mn_0, chF]
    rfl
  | s + 1, h => by
    obtain ⟨h1, h2⟩ := mb_sz k hk (s + 1) h
    have := pc_pos (s + 1) h2 (by omega)
    rw [chF, va_up_ne _ _ (by omega)]
    exact chF_top hk s (by omega)
theorem chF_one {A : Nat → Nat → Int} {k : Nat} (hk : k ≤ 6) : chF A k (2 ^ k) k = 1 := by
  have h : 0 < 2 ^ k := Nat.pow_pos (by decide)
  have := chF_top (A := A) hk (2 ^ k - 1) (by omega)
  rwa [show 2 ^ k - 1 + 1 = 2 ^ k by omega] at this
theorem sg_ge0 {x : Int} : 0 ≤ sg x ↔ ¬ x < 0 := by
  unfold sg
  by_cases h : x < 0
  · rw [if_pos h]; exact ⟨fun q => absurd q (by decide), fun q => absurd h q⟩
  · rw [if_neg h]
    by_cases h2 : x = 0
    · rw [if_pos h2]; exact ⟨fun _ => h, fun _ => by decide⟩
    · rw [if_neg h2]; exact ⟨fun _ => h, fun _ => by decide⟩
theorem flip_s {X3 X4 : Nat → Int} {k : Nat} (i3 : ∀ v, X4 v = if 8 ≤ v ∧ v < 8 + k then -(X3 v) else X3 v) : ∀ v, va_up X4 (8 + k) (-(X4 (8 + k))) v = if 8 ≤ v ∧ v < 8 + (k + 1) then -(X3 v) else X3 v := fun v => by
  by_cases e : v = 8 + k
  · rw [e, va_up_self, i3, if_neg (by omega), if_pos (by omega)]
  · rw [va_up_ne _ _ e, i3 v]
    by_cases h : 8 ≤ v ∧ v < 8 + k
    · rw [if_pos h, if_pos (by omega)]
    · rw [if_neg h, if_neg (by omega)]
theorem sm_k {k : Nat} (hk : k < 100) : sm (k : Int) := sm_of (n := 7) (by decide) ⟨by omega, by omega⟩
theorem dF_rbd {p : Nat → Int} (h : ∀ k, sm (p k)) {k : Nat} (hk : k < 50) : rbd (dF p k) := by
  rw [dF]
  exact sm_mul (by have := sm_k (show k + 1 < 100 by omega); rwa [Int.natCast_add] at this) (h _)
theorem RB_flip {P L M : Nat → Int32} {X : Nat → Int} {v : Nat} {mi : Int32} (h : RB P L M X) (hv : v < 112) (hm : (M v = 0 ∧ mi = 1) ∨ (M v = 1 ∧ mi = 0)) : RB P L (upd M v mi) (va_up X v (-(X v))) := by
  have h1 := RB_sgn (v := v) (mi := mi) h (by rcases hm with ⟨_, h⟩ | ⟨_, h⟩ <;> simp [h])
  have h2 := RB_bit h hv
  have e : (if mi = 1 then -((X v).natAbs : Int) else ((X v).natAbs : Int)) = -(X v) := by
    rcases hm with ⟨a, b⟩ | ⟨a, b⟩
    · rw [b, if_pos rfl]
      rcases h2 with ⟨_, h⟩ | ⟨h3, _⟩
      · omega
      · rw [a] at h3; exact absurd h3 (by decide)
    · rw [b, if_neg (by decide)]
      rcases h2 with ⟨h3, _⟩ | ⟨_, h⟩
      · rw [a] at h3; exact absurd h3 (by decide)
      · omega
  rwa [e] at h1
