/-! for all sums of powers -/
theorem hk_of {s : Nat → Int} {k m : Nat} (hk : k ≤ 5) (hm : m ≤ k) : dot (hQ (hA s) k) (fun i => hA s i m) (k + 1) = if m < k then 0 else hD (hA s) (k + 1) := by
  have hAv : ∀ i j, i < 6 → j < 6 → (vH i j).denote (mkR s 0 10) = hA s i j := fun i j hi hj => by
    rw [vH, Lean.Grind.CommRing.Poly.denote_ofVar]
    exact mkR_get s 10 0 (i + j) (Nat.zero_le _) (by omega)
  have ok : hkok k m = true := by
    by_cases w : k < 4
    · exact hk_lo k w m (by omega) hm
    · by_cases w4 : k = 4
      · subst w4; exact hk_4 m (by omega)
      · obtain rfl : k = 5 := by omega
        rcases (by omega : m = 0 ∨ m = 1 ∨ m = 2 ∨ m = 3 ∨ m = 4 ∨ m = 5) with rfl | rfl | rfl | rfl | rfl | rfl
        · exact hk_50
        · exact hk_51
        · exact hk_52
        · exact hk_53
        · exact hk_54
        · exact hk_55
  have h2 := eq_of_beq ok
  have p1 : 2 ^ k ≤ 2 ^ 5 := Nat.pow_le_pow_right (by decide) hk
  have p2 : 2 ^ (k + 1) = 2 ^ k * 2 := Nat.pow_succ ..
  have p3 : 0 < 2 ^ k := Nat.pow_pos (by decide)
  have e := congrArg (fun q : PF => q.denote (mkR s 0 10)) h2
  have l1 : (hkP k m).denote (mkR s 0 10) = dot (hQ (hA s) k) (fun i => hA s i m) (k + 1) := dotP_ok (k + 1) (fun i hi => by
    have p4 : 0 < 2 ^ i := Nat.pow_pos (by decide)
    rw [dn_con, mnG_ok (k := 6) (by decide) hAv (by omega) k _ (by omega), hQ]) (fun i hi => hAv i m (by omega) (by omega))
  have l2 : (if m < k then (Lean.Grind.CommRing.Poly.num 0 : PF) else mnG vH (2 ^ (k + 1) - 1) (k + 1) (2 ^ (k + 1) - 1)).denote (mkR s 0 10) = if m < k then 0 else hD (hA s) (k + 1) := by
    split
    · exact dn_num 0
    · exact mnG_ok (k := 6) (by decide) hAv (by omega) (k + 1) _ (by omega)
  rw [← l1, ← l2]
  exact e
