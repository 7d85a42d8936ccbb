/-! M1 for the law's matrices -/
def mkR (f : Nat → Int) (lo : Nat) : Nat → Lean.RArray Int
  | 0 => .leaf (f lo)
  | m + 1 => .branch (lo + 1) (.leaf (f lo)) (mkR f (lo + 1) m)
theorem mkR_get (f : Nat → Int) (m : Nat) : ∀ lo q, lo ≤ q → q ≤ lo + m → (mkR f lo m).get q = f q := by
  rw [Lean.RArray.get_eq_getImpl]
  induction m with
  | zero => intro lo q h1 h2; obtain rfl : q = lo := (by omega); rfl
  | succ m ih =>
    intro lo q h1 h2
    rw [mkR, Lean.RArray.getImpl]
    by_cases e : q < lo + 1
    · rw [if_pos e, Lean.RArray.getImpl, show q = lo by omega]
    · rw [if_neg e]
      exact ih (lo + 1) q (by omega) (by omega)
theorem m1_all {A : Nat → Nat → Int} {k : Nat} (h1 : 1 ≤ k) (h6 : k ≤ 6) (hs : ∀ i j, i < k → j < k → A i j = A j i) : ∀ e, e ≤ k → chF A k (2 ^ k) e = pB A k e := by
  have hA : ∀ i j, i < k → j < k → (vP i j).denote (mkR (fun q => A (q / 6) (q % 6)) 0 35) = A i j := fun i j hi hj => by
    have hv : ∀ x : Nat, x ≤ 35 → (Lean.Grind.CommRing.Poly.ofVar x).denote (mkR (fun q => A (q / 6) (q % 6)) 0 35) = A (x / 6) (x % 6) := fun x hx => by
      rw [Lean.Grind.CommRing.Poly.denote_ofVar]
      exact mkR_get (fun q => A (q / 6) (q % 6)) 35 0 x (Nat.zero_le _) (by omega)
    rw [vP]
    split
    · rw [hv (6 * i + j) (by omega), show (6 * i + j) / 6 = i by omega, show (6 * i + j) % 6 = j by omega]
    · rw [hv (6 * j + i) (by omega), show (6 * j + i) / 6 = j by omega, show (6 * j + i) % 6 = i by omega]
      exact hs j i hj hi
  have ok : m1ok k = true := by
    rcases (by omega : k = 1 ∨ k = 2 ∨ k = 3 ∨ k = 4 ∨ k = 5 ∨ k = 6) with rfl | rfl | rfl | rfl | rfl | rfl
    · exact m1_1
    · exact m1_2
    · exact m1_3
    · exact m1_4
    · exact m1_5
    · exact m1_6
  exact m1_of h1 ok hA
theorem dot_cg {a v a' v' : Nat → Int} (n : Nat) (ha : ∀ j, j < n → a j = a' j) (hv : ∀ j, j < n → v j = v' j) : dot a v n = dot a' v' n := by
  induction n with
  | zero => rfl
  | succ n ih => rw [dot, dot, ih (fun j hj => ha j (by omega)) (fun j hj => hv j (by omega)), ha n (by omega), hv n (by omega)]
theorem bvF_cg {A B : Nat → Nat → Int} {p q : Nat → Int} {k : Nat} (hA : ∀ i j, i ≤ k → j ≤ k → A i j = B i j) (hp : ∀ j, j ≤ k → p j = q j) (s : Nat) : ∀ j, j < k → bvF A p k s j = bvF B q k s j := by
  induction s with
  | zero => intro j hj; exact hA j k (by omega) (Nat.le_refl _)
  | succ s ih => intro j hj; show dot (A j) (bvF A p k s) k + A j k * p (k - 1 - s) = dot (B j) (bvF B q k s) k + B j k * q (k - 1 - s); rw [dot_cg k (fun i hi => hA j i (by omega) (by omega)) ih, hA j k (by omega) (Nat.le_refl _), hp _ (by omega)]
theorem pB_cg {A B : Nat → Nat → Int} (k : Nat) : (∀ i j, i < k → j < k → A i j = B i j) → ∀ i, i ≤ k → pB A k i = pB B k i := by
  induction k with
  | zero => intro _ i _; rfl
  | succ k ih =>
    intro hA i hi
    have hA' : ∀ i j, i ≤ k → j ≤ k → A i j = B i j := fun a b ha hb => hA a b (by omega) (by omega)
    have hp := ih (fun a b ha hb => hA a b (by omega) (by omega))
    have ht : tlF (pB A k) (A k k) k i = tlF (pB B k) (B k k) k i := by
      rw [tlF, tlF, hA' k k (Nat.le_refl _) (Nat.le_refl _)]
      congr 1
      · split
        · rfl
        · exact hp _ (by omega)
      · split
        · next h => rw [hp i h]
        · rfl
    rw [pB, pB, grF, grF, ht]
    split
    · rw [dot_cg k (fun j hj => hA' j k (by omega) (Nat.le_refl _)) (bvF_cg hA' hp (k - 1 - i))]
    · rfl
/-- the reference's polynomials are the desk's -/
theorem m1_law {n : Nat} {A : Nat → Nat → Int32} {A9 : Nat → Int32} (h6 : n ≤ 6) (h : ∀ i j, i < n → j < n → A9 (6 * i + j) = A i j ∧ A i j = A j i) : ∀ k9 k, 1 ≤ k9 → k9 ≤ n → k ≤ k9 → cF A9 k9 k = pB (iA A) k9 k := fun k9 k h1 h2 hk => by
  have e1 := m1_all (A := fun i j => (A9 (6 * i + j)).toInt) h1 (by omega) (fun i j hi hj => by
    show (A9 (6 * i + j)).toInt = (A9 (6 * j + i)).toInt
    rw [(h i j (by omega) (by omega)).1, (h j i (by omega) (by omega)).1, (h i j (by omega) (by omega)).2]) k hk
  rw [cF, e1]
  exact pB_cg k9 (fun i j hi hj => by show (A9 (6 * i + j)).toInt = (A i j).toInt; rw [(h i j (by omega) (by omega)).1]) k hk
