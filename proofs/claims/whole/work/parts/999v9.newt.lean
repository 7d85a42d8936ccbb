/-! for every symmetric matrix -/
theorem nw_den {A : Nat → Nat → Int} {k : Nat} (h6 : k ≤ 6) (hs : ∀ i j, i < k → j < k → A i j = A j i) : ∀ i j, i < k → j < k → (vP i j).denote (mkR (fun q => A (q / 6) (q % 6)) 0 35) = A i j := fun i j hi hj => by
  have hv : ∀ x : Nat, x ≤ 35 → (Lean.Grind.CommRing.Poly.ofVar x).denote (mkR (fun q => A (q / 6) (q % 6)) 0 35) = A (x / 6) (x % 6) := fun x hx => by
    rw [Lean.Grind.CommRing.Poly.denote_ofVar]
    exact mkR_get (fun q => A (q / 6) (q % 6)) 35 0 x (Nat.zero_le _) (by omega)
  rw [vP]
  split
  · rw [hv (6 * i + j) (by omega), show (6 * i + j) / 6 = i by omega, show (6 * i + j) % 6 = j by omega]
  · rw [hv (6 * j + i) (by omega), show (6 * j + i) / 6 = j by omega, show (6 * j + i) % 6 = i by omega]
    exact hs j i hj hi
theorem nw_S {A : Nat → Nat → Int} {k s : Nat} (hs : s ≤ k) (h : nwS k s = true) {ctx : PC} (hA : ∀ i j, i < k → j < k → (vP i j).denote ctx = A i j) : dot (fun _ => 1) (fun i => nwF A (pB A k) k s i i) k = ((k - s : Nat) : Int) * pB A k (k - s) := by
  have h2 := eq_of_beq h
  have e := congrArg (fun q : PF => q.denote ctx) h2
  rw [show ∀ a b : PF, ((fun q : PF => q.denote ctx) a = (fun q : PF => q.denote ctx) b) = (a.denote ctx = b.denote ctx) from fun _ _ => rfl] at e
  rw [dn_con, pBL_ok k hA (k - s) (by omega), dotP_ok k (fun _ _ => dn_num 1) (fun i hi => nwL_ok hA (fun i hi => pBL_ok k hA i hi) s i i hi hi)] at e
  exact e
theorem nw_all {A : Nat → Nat → Int} {k : Nat} (h1 : 1 ≤ k) (h6 : k ≤ 6) (hs : ∀ i j, i < k → j < k → A i j = A j i) : ∀ s, s < k → dot (fun _ => 1) (fun i => nwF A (pB A k) k s i i) k = ((k - s : Nat) : Int) * pB A k (k - s) := fun s hsk => by
  have hA := nw_den h6 hs
  by_cases z : k = 6
  · subst z
    rcases (by omega : s = 0 ∨ s = 1 ∨ s = 2 ∨ s = 3 ∨ s = 4 ∨ s = 5) with rfl | rfl | rfl | rfl | rfl | rfl
    · exact nw_S (by omega) nw_60 hA
    · exact nw_S (by omega) nw_61 hA
    · exact nw_S (by omega) nw_62 hA
    · exact nw_S (by omega) nw_63 hA
    · exact nw_S (by omega) nw_64 hA
    · exact nw_S (by omega) nw_65 hA
  · have ok : nwok k = true := by
      rcases (by omega : k = 1 ∨ k = 2 ∨ k = 3 ∨ k = 4 ∨ k = 5) with rfl | rfl | rfl | rfl | rfl
      · exact nw_1
      · exact nw_2
      · exact nw_3
      · exact nw_4
      · exact nw_5
    exact nw_of h1 ok hA s (by omega)
theorem nc_all {A : Nat → Nat → Int} {k : Nat} (h1 : 1 ≤ k) (h6 : k ≤ 6) (hs : ∀ i j, i < k → j < k → A i j = A j i) : nwF A (pB A k) k k 0 0 = 0 := by
  have ok : ncok k = true := by
    rcases (by omega : k = 1 ∨ k = 2 ∨ k = 3 ∨ k = 4 ∨ k = 5 ∨ k = 6) with rfl | rfl | rfl | rfl | rfl | rfl
    · exact nc_1
    · exact nc_2
    · exact nc_3
    · exact nc_4
    · exact nc_5
    · exact nc_6
  exact nc_of h1 ok (nw_den h6 hs)
