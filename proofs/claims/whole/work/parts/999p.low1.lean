/-! zeros and changes at a greater place are at most the changes at a smaller one -/
theorem low_keep {v : Int} {d : Nat} {p : Nat → Int} {i : Nat} (m : Nat) : i + m ≤ d → ∀ j, j < i → low v d p (i + m) j = low v d p i j := by
  induction m with
  | zero => intro _ j _; rfl
  | succ m ih =>
    intro hm j hj
    rw [show i + (m + 1) = i + m + 1 by omega, low, swp_lo _ j (by omega)]
    exact ih (by omega) j hj
theorem ra_low2 {v : Int} (hv : 0 ≤ v) {d : Nat} (p : Nat → Int) (i m : Nat) : i + m ≤ d → ra (low v d p (i + m)) (nI 1) (d + 1) ≤ ra (low v d p i) (nI 1) (d + 1) := by
  induction m with
  | zero => intro _; exact Nat.le_refl _
  | succ m ih =>
    intro hm
    rw [show i + (m + 1) = i + m + 1 by omega, low]
    exact Nat.le_trans (ra_swp hv _ (d - (i + m)) (by omega)) (ih (by omega))
theorem low_ez {v : Int} (hv : 0 < v) {d : Nat} {p : Nat → Int} (hd : 1 ≤ d) (hp : p d ≠ 0) (i : Nat) : i ≤ d → (∀ j, j < i → low v d p d j = 0) → ra (low v d p i) (nI 1) (d + 1) + i ≤ ra p (nI 1) (d + 1) := by
  induction i with
  | zero => intro _ _; exact Nat.le_refl _
  | succ i ih =>
    intro hi hz
    have h1 := ih (by omega) (fun j hj => hz j (by omega))
    have k1 : ∀ j, j < i → low v d p i j = 0 := fun j hj => by
      have := low_keep (v := v) (d := d) (p := p) (i := i) (d - i) (by omega) j hj
      rw [show i + (d - i) = d by omega] at this
      rw [← this]; exact hz j (by omega)
    have k2 : swp v d (low v d p i) (d - i) i = 0 := by
      have := low_keep (v := v) (d := d) (p := p) (i := i + 1) (d - (i + 1)) (by omega) i (by omega)
      rw [show i + 1 + (d - (i + 1)) = d by omega, low] at this
      rw [← this]; exact hz i (by omega)
    have h2 := ra_swp0 hv (show i < d by omega) k1 (by rw [low_hi hd i (by omega)]; exact hp) k2
    rw [low]
    omega
/-- M3: for h above 0 -/
theorem budan {v : Int} (hv : 0 < v) {d : Nat} {p : Nat → Int} (hd : 1 ≤ d) (hp : p d ≠ 0) : ez (low v d p d) 0 d + ra (low v d p d) (nI 1) (d + 1) ≤ ra p (nI 1) (d + 1) := by
  have hle := ez_le (p := low v d p d) d 0
  have h1 := low_ez hv hd hp (ez (low v d p d) 0 d) (by omega) (fun j hj => ez_0 d 0 j (Nat.zero_le _) hj)
  have h2 := ra_low2 (Int.le_of_lt hv) (d := d) p (ez (low v d p d) 0 d) (d - ez (low v d p d) 0 d) (by omega)
  rw [show ez (low v d p d) 0 d + (d - ez (low v d p d) 0 d) = d by omega] at h2
  omega
/-- and between any two places -/
theorem budan2 {d : Nat} (hd : 1 ≤ d) (h6 : d ≤ 6) {p : Nat → Int} (hp : p d ≠ 0) {x y : Int} (h : x < y) : ez (low y d p d) 0 d + ra (low y d p d) (nI 1) (d + 1) ≤ ra (low x d p d) (nI 1) (d + 1) := by
  have h1 := budan (v := y - x) (by omega) (p := low x d p d) hd (by rw [low_hi hd d (Nat.le_refl _)]; exact hp)
  have e : ∀ k, k ≤ d → low (y - x) d (low x d p d) d k = low y d p d k := fun k hk => by rw [low_add h6 p x (y - x) k hk, show x + (y - x) = y by omega]
  rw [ez_cg d 0 (fun k _ hk => e k (by omega)), ra_cg (d + 1) (nI 1) (fun k hk => e k (by omega))] at h1
  exact h1
