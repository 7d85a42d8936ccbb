/-! the reference's counts are the desk's, where the polynomials are the same -/
theorem swp_hi {v : Int} {d : Nat} {p : Nat → Int} (hd : 1 ≤ d) (j : Nat) : ∀ k, d ≤ k → j ≤ d → swp v d p j k = p k := by
  induction j with
  | zero => intro k _ _; rfl
  | succ j ih =>
    intro k hk hj
    rw [swp, va_up_ne _ _ (by omega)]
    exact ih k hk (by omega)
theorem low_hi {v : Int} {d : Nat} {p : Nat → Int} (hd : 1 ≤ d) (i : Nat) : i ≤ d → low v d p i d = p d := by
  induction i with
  | zero => intro _; rfl
  | succ i ih =>
    intro hi
    rw [low, swp_hi hd (d - i) d (Nat.le_refl _) (by omega)]
    exact ih (by omega)
theorem swp_cg {v : Int} {d : Nat} {p q : Nat → Int} (h : ∀ k, k ≤ d → p k = q k) (j : Nat) : ∀ k, k ≤ d → swp v d p j k = swp v d q j k := by
  induction j with
  | zero => exact h
  | succ j ih =>
    intro k hk
    rw [swp, swp]
    by_cases e : k = d - 1 - j
    · rw [e, va_up_self, va_up_self, ih _ (by omega), ih _ (by omega)]
    · rw [va_up_ne _ _ e, va_up_ne _ _ e]
      exact ih k hk
theorem low_cg {v : Int} {d : Nat} {p q : Nat → Int} (h : ∀ k, k ≤ d → p k = q k) (i : Nat) : ∀ k, k ≤ d → low v d p i k = low v d q i k := by
  induction i with
  | zero => exact h
  | succ i ih =>
    rw [low, low]
    exact swp_cg ih (d - i)
theorem mulp_cg {b : Int} {d : Nat} {p q : Nat → Int} (h : ∀ k, k ≤ d → p k = q k) : ∀ k, k ≤ d → mulp b d p d k = mulp b d q d k := fun k hk => by
  simp only [mulp, h k hk]
theorem ez_cg {p q : Nat → Int} (n : Nat) : ∀ a, (∀ k, a ≤ k → k < a + n → p k = q k) → ez p a n = ez q a n := by
  induction n with
  | zero => intro a _; rfl
  | succ n ih =>
    intro a h
    rw [ez, ez, h a (Nat.le_refl _) (by omega), ih (a + 1) (fun k h1 h2 => h k (by omega) (by omega))]
theorem ez_more {p : Nat → Int} (n : Nat) : ∀ a, p (a + n) ≠ 0 → ez p a (n + 1) = ez p a n := by
  induction n with
  | zero => intro a h; rw [ez, ez, if_neg (by simpa using h)]; 
  | succ n ih =>
    intro a h
    rw [ez]
    conv => rhs; rw [ez]
    rw [ih (a + 1) (by rw [show a + 1 + n = a + (n + 1) by omega]; exact h)]
theorem ez_le {p : Nat → Int} (n : Nat) : ∀ a, ez p a n ≤ a + n := by
  induction n with
  | zero => intro a; exact Nat.le_refl _
  | succ n ih =>
    intro a
    rw [ez]
    split
    · have := ih (a + 1); omega
    · omega
theorem ez_0 {p : Nat → Int} (n : Nat) : ∀ a, ∀ j, a ≤ j → j < ez p a n → p j = 0 := by
  induction n with
  | zero => intro a j h1 h2; rw [ez] at h2; omega
  | succ n ih =>
    intro a j h1 h2
    rw [ez] at h2
    by_cases e : p a = 0
    · rw [if_pos e] at h2
      rcases Nat.lt_or_ge a j with q | q
      · exact ih (a + 1) j (by omega) h2
      · rw [show j = a by omega]; exact e
    · rw [if_neg e] at h2; omega
theorem ra_cg {p q : Nat → Int} (n : Nat) : ∀ lt, (∀ k, k < n → p k = q k) → ra p lt n = ra q lt n := by
  induction n with
  | zero => intro lt _; rfl
  | succ n ih =>
    intro lt h
    rw [ra, ra, h n (by omega), ih _ (fun k hk => h k (by omega)), ih _ (fun k hk => h k (by omega))]
theorem count_eq {t b : Int} {d : Nat} {p q : Nat → Int} (hd : 1 ≤ d) (h : ∀ k, k ≤ d → p k = q k) (h1 : q d = 1) : wL t b d p = lessI (low t d (mulp b d q d) d) d ∧ wE t b d p = ez (low t d (mulp b d q d) d) 0 d := by
  have hp : wR t b d p d = 1 := by
    rw [wR, low_hi hd d (Nat.le_refl _), mulp, if_neg (Nat.lt_irrefl _), h d (Nat.le_refl _), h1]
  have e1 : wE t b d p = ez (wR t b d p) 0 d := by
    rw [wE]; exact ez_more d 0 (by rw [Nat.zero_add, hp]; decide)
  have hq : ∀ k, k ≤ d → wR t b d p k = low t d (mulp b d q d) d k := fun k hk => low_cg (mulp_cg h) d k hk
  have e2 : ez (wR t b d p) 0 d = ez (low t d (mulp b d q d) d) 0 d := ez_cg d 0 (fun k _ hk => hq k (by omega))
  have hle : wE t b d p ≤ d := by rw [e1]; have := ez_le (p := wR t b d p) d 0; omega
  have e3 : fa (wR t b d p) 0 (wE t b d p) (d + 1 - wE t b d p) = ra (wR t b d p) (nI 1) (d + 1) := fa_ra (fun j hj => ez_0 d 0 j (Nat.zero_le _) (by rw [← e1]; exact hj)) hle (by rw [hp]; rfl)
  refine ⟨?_, e1.trans e2⟩
  rw [wL, e3, lessI, e1, e2, ra_cg (d + 1) (nI 1) (fun k hk => hq k (by omega))]
/-- what is left, without the counts -/
def MTH2 (n : Nat) (A : Nat → Nat → Int32) (A9 : Nat → Int32) : Prop :=
  (∃ V, gdM A n V) ∧
  (∀ k9 k, 1 ≤ k9 → k9 ≤ n → k ≤ k9 → cF A9 k9 k = pB (iA A) k9 k) ∧ (∀ k9, 1 ≤ k9 → k9 ≤ n → pB (iA A) k9 k9 = 1) ∧ (∀ k, k ≤ n → (pB (iA A) n k).natAbs < 10 ^ 50) ∧
  nP (cmC (cF A9 n) n) = nI (ceD (pB (iA A) n) n) ∧
  ∃ fu, fu ≤ 332 ∧ ∀ V, gdM A n V →
    (∀ (i w9 : Nat) (x : Int64), i < n → w9 ≤ 30 → cellP (cF A9 n) n w9 (nI i) x → x.toInt = V i / 2 ^ (30 - w9)) ∧
    (∀ (i : Nat) (x : Int64), i < n → cellP (cF A9 n) n 0 (nI i) x → mlOK (cF A9 n) (cmF (cF A9 n) n) n (cmC (cF A9 n) n - 1) (nI i) fu x.toInt 1 ∧ mltF (cF A9 n) (cmF (cF A9 n) n) n (cmC (cF A9 n) n - 1) (nI i) fu x.toInt 1 = mlC A n V i) ∧
    (∀ (i : Nat) (x : Int64), i < n → cellP (cF A9 n) n 0 (nI i) x → ((¬ nI i < wL x.toInt 1 n (cF A9 n) ∧ nI i < wL x.toInt 1 n (cF A9 n) + nI (wE x.toInt 1 n (cF A9 n))) ↔ (V i % 1073741824 = 0 ∧ nI i < lessI (low (V i) n (pfF A n) n) n + nI (ez (low (V i) n (pfF A n) n) 0 n)))) ∧
    ∀ r1 r2 : Int32, apC A n V r1 → apP n (fun i v => win1 (V i / 2 ^ (30 - v)) (2 ^ v) n (cmC (cF A9 n) n - 1) (cF A9 n) (cmF (cF A9 n) n) = nI 1) r2 → r1 = r2
def MATH2 : Prop := ∀ (n : Nat) (A : Nat → Nat → Int32) (A9 : Nat → Int32), 1 ≤ n → n ≤ 6 → smA A → (∀ i j, i < 6 → j < 6 → bd 1000000 ((A9 (6 * i + j)).toInt)) → (∀ i j, i < n → j < n → A9 (6 * i + j) = A i j ∧ A i j = A j i) → MTH2 n A A9
theorem math_of2 (h : MATH2) : MATH := fun n A A9 h1 h6 a b c => by
  obtain ⟨m1, m2, m3, m4, m5, m6⟩ := h n A A9 h1 h6 a b c
  exact ⟨m1, fun k9 tp bt k1 k2 _ => count_eq k1 (fun k hk => m2 k9 k k1 k2 hk) (m3 k9 k1 k2), fun k hk => ⟨m2 n k h1 (Nat.le_refl _) hk, m4 k hk⟩, m5, m6⟩
