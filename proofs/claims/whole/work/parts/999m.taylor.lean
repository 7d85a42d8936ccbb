/-! moving twice is moving once, for degrees up to six -/
def swpP (v : PF) (d : Nat) (p : Nat → PF) : Nat → Nat → PF
  | 0 => p
  | j + 1 => va_up (swpP v d p j) (d - 1 - j) ((swpP v d p j (d - 1 - j)).combine (v.mul (swpP v d p j (d - j))))
def lowP (v : PF) (d : Nat) (p : Nat → PF) : Nat → Nat → PF
  | 0 => p
  | i + 1 => swpP v d (lowP v d p i) (d - i)
def tayok (d : Nat) : Bool := (List.range (d + 1)).all fun k => lowP (.ofVar 8) d (lowP (.ofVar 7) d (fun i => .ofVar i) d) d k == lowP ((Lean.Grind.CommRing.Poly.ofVar 7).combine (.ofVar 8)) d (fun i => .ofVar i) d k
theorem swpP_ok {ctx : PC} {v : PF} {v' : Int} {d : Nat} {p : Nat → PF} {p' : Nat → Int} (hv : v.denote ctx = v') (hp : ∀ k, k ≤ d → (p k).denote ctx = p' k) (j : Nat) : ∀ k, k ≤ d → (swpP v d p j k).denote ctx = swp v' d p' j k := by
  induction j with
  | zero => exact hp
  | succ j ih =>
    intro k hk
    rw [swpP, swp]
    by_cases e : k = d - 1 - j
    · rw [e, va_up_self, va_up_self, dn_add, dn_mul, hv, ih _ (by omega), ih _ (by omega)]
    · rw [va_up_ne _ _ e, va_up_ne _ _ e]
      exact ih k hk
theorem lowP_ok {ctx : PC} {v : PF} {v' : Int} {d : Nat} {p : Nat → PF} {p' : Nat → Int} (hv : v.denote ctx = v') (hp : ∀ k, k ≤ d → (p k).denote ctx = p' k) (i : Nat) : ∀ k, k ≤ d → (lowP v d p i k).denote ctx = low v' d p' i k := by
  induction i with
  | zero => exact hp
  | succ i ih =>
    rw [lowP, low]
    exact swpP_ok hv ih (d - i)
theorem tay_0 : tayok 0 = true := by decide +kernel
theorem tay_1 : tayok 1 = true := by decide +kernel
theorem tay_2 : tayok 2 = true := by decide +kernel
theorem tay_3 : tayok 3 = true := by decide +kernel
theorem tay_4 : tayok 4 = true := by decide +kernel
theorem tay_5 : tayok 5 = true := by decide +kernel
theorem tay_6 : tayok 6 = true := by decide +kernel
theorem low_add {d : Nat} (hd : d ≤ 6) (p : Nat → Int) (x y : Int) : ∀ k, k ≤ d → low y d (low x d p d) d k = low (x + y) d p d k := fun k hk => by
  have ok : tayok d = true := by
    rcases (by omega : d = 0 ∨ d = 1 ∨ d = 2 ∨ d = 3 ∨ d = 4 ∨ d = 5 ∨ d = 6) with rfl | rfl | rfl | rfl | rfl | rfl | rfl
    · exact tay_0
    · exact tay_1
    · exact tay_2
    · exact tay_3
    · exact tay_4
    · exact tay_5
    · exact tay_6
  have e := eq_of_beq (List.all_eq_true.mp ok k (List.mem_range.mpr (by omega)))
  have hv : ∀ q : Nat, q ≤ 8 → (Lean.Grind.CommRing.Poly.ofVar q).denote (mkR (fun q => if q < 7 then p q else if q = 7 then x else y) 0 8) = if q < 7 then p q else if q = 7 then x else y := fun q hq => by
    rw [Lean.Grind.CommRing.Poly.denote_ofVar]
    exact mkR_get (fun q => if q < 7 then p q else if q = 7 then x else y) 8 0 q (Nat.zero_le _) (by omega)
  have hx : (Lean.Grind.CommRing.Poly.ofVar 7).denote (mkR (fun q => if q < 7 then p q else if q = 7 then x else y) 0 8) = x := hv 7 (by decide)
  have hy : (Lean.Grind.CommRing.Poly.ofVar 8).denote (mkR (fun q => if q < 7 then p q else if q = 7 then x else y) 0 8) = y := hv 8 (by decide)
  have hp : ∀ i, i ≤ d → (Lean.Grind.CommRing.Poly.ofVar i).denote (mkR (fun q => if q < 7 then p q else if q = 7 then x else y) 0 8) = p i := fun i hi => by rw [hv i (by omega), if_pos (by omega)]
  have h1 := lowP_ok (d := d) hy (lowP_ok (d := d) hx hp d) d k hk
  have h2 := lowP_ok (d := d) (show ((Lean.Grind.CommRing.Poly.ofVar 7).combine (.ofVar 8)).denote (mkR (fun q => if q < 7 then p q else if q = 7 then x else y) 0 8) = x + y by rw [dn_add, hx, hy]) hp d k hk
  rw [← h1, ← h2, e]
/-- the changes of sign of p moved to x fall as x grows -/
theorem ra_mono {d : Nat} (hd : d ≤ 6) (p : Nat → Int) {x y : Int} (h : x ≤ y) : ra (low y d p d) (nI 1) (d + 1) ≤ ra (low x d p d) (nI 1) (d + 1) := by
  have h1 := ra_low (v := y - x) (by omega) (low x d p d) d (Nat.le_refl _)
  have h2 : ra (low (y - x) d (low x d p d) d) (nI 1) (d + 1) = ra (low y d p d) (nI 1) (d + 1) := ra_cg (d + 1) (nI 1) (fun k hk => by
    have := low_add hd p x (y - x) k (by omega)
    rw [this, show x + (y - x) = y by omega])
  omega
