/-! data, spread: the desk and the reference stay together -/
theorem dt_fine {rw n : Nat} {v : Nat → Int32} : (rw < 100 ∧ ∀ k, k < n → -1000 ≤ (v k).toInt ∧ (v k).toInt ≤ 1000) ↔ (rw < 100 ∧ ∀ k, k < n → in1000 (v k)) := by
  have e : ∀ x : Int32, (-1000 ≤ x.toInt ∧ x.toInt ≤ 1000) ↔ in1000 x := fun x => by
    have e1 : (-1000 : Int32).toInt = -1000 := by decide
    have e2 : (nI 1000).toInt = 1000 := by decide
    simp only [in1000, Int32.lt_iff_toInt_lt, e1, e2]
    omega
  exact ⟨fun h => ⟨h.1, fun k hk => (e _).mp (h.2 k hk)⟩, fun h => ⟨h.1, fun k hk => (e _).mpr (h.2 k hk)⟩⟩
theorem sm1_same {D D' : Nat → Int32} {i : Nat} (hi : i < 6) : ∀ r : Nat, (∀ q, q < 6 * r → D' q = D q) → sm1 D' i r = sm1 D i r
  | 0, _ => rfl
  | r + 1, h => by
    simp only [sm1]
    rw [sm1_same hi r (fun q hq => h q (by omega)), h _ (by omega)]
theorem sm2_same {D D' : Nat → Int32} {i j : Nat} (hi : i < 6) (hj : j < 6) : ∀ r : Nat, (∀ q, q < 6 * r → D' q = D q) → sm2 D' i j r = sm2 D i j r
  | 0, _ => rfl
  | r + 1, h => by
    simp only [sm2]
    rw [sm2_same hi hj r (fun q hq => h q (by omega)), h _ (by omega), h _ (by omega)]
theorem LR_Dt {n : Nat} {A : Nat → Nat → Int32} {A9 : Nat → Int32} {rw : Nat} {S : Nat → Int32} {P : Nat → Nat → Int32} {Dt D' : Nat → Int32} {ln : Nat} {Tx Pr : Nat → Int32} (h : LR n A A9 rw S P Dt ln Tx Pr) (hD : ∀ q, q < 6 * rw → D' q = Dt q) (hn : n ≤ 6) : LR n A A9 rw S P D' ln Tx Pr := by
  obtain ⟨r1, r2, r3, r4, r5, r6, r7, r8⟩ := h
  exact ⟨r1, r2, r3, r4, fun r k hr hk => by rw [hD _ (by omega)]; exact r5 r k hr hk, fun i hi => by rw [r6 i hi, sm1_same (by omega) rw hD], fun i j hi hj => by rw [r7 i j hi hj, sm2_same (by omega) (by omega) rw hD], r8⟩
theorem LR_data {n : Nat} {A : Nat → Nat → Int32} {A9 : Nat → Int32} {rw : Nat} {S S' : Nat → Int32} {P P' : Nat → Nat → Int32} {Dt D' : Nat → Int32} {ln : Nat} {Tx Pr v : Nat → Int32} (h : LR n A A9 rw S P Dt ln Tx Pr) (hn : n ≤ 6) (hr : rw < 100) (hv : ∀ k, k < n → -1000 ≤ (v k).toInt ∧ (v k).toInt ≤ 1000) (hD : ∀ q, q < 6 * rw → D' q = Dt q) (hD' : ∀ k, k < n → D' (6 * rw + k) = v k) (hS : ∀ i, i < 6 → S' i = if i < n then S i + v i else S i) (hP : ∀ i j, i < 6 → j < 6 → P' i j = if i < n ∧ j < n then P i j + v i * v j else P i j) : LR n A A9 (rw + 1) S' P' D' ln Tx Pr := by
  obtain ⟨r1, r2, r3, r4, r5, r6, r7, r8⟩ := LR_Dt h hD hn
  refine ⟨r1, r2, r3, by omega, fun r k hr9 hk => ?_, fun i hi => ?_, fun i j hi hj => ?_, r8⟩
  · rcases Nat.lt_or_ge r rw with q | q
    · exact r5 r k q hk
    · obtain rfl : r = rw := by omega
      rw [hD' k hk]; exact hv k hk
  · rw [hS i (by omega), if_pos hi, r6 i hi]
    simp only [sm1]
    rw [hD' i hi]
  · rw [hP i j (by omega) (by omega), if_pos ⟨hi, hj⟩, r7 i j hi hj]
    simp only [sm2]
    rw [hD' i hi, hD' j hj]
theorem LR_sp {n : Nat} {A : Nat → Nat → Int32} {A9 : Nat → Int32} {rw : Nat} {S : Nat → Int32} {P : Nat → Nat → Int32} {Dt : Nat → Int32} {ln : Nat} {Tx Pr : Nat → Int32} (h : LR n A A9 rw S P Dt ln Tx Pr) {i j : Nat} (hi : i < n) (hj : j < n) : (spC rw P S i j).toInt = spO Dt i j rw := by
  obtain ⟨r1, r2, r3, r4, r5, r6, r7, r8⟩ := h
  exact spC_eq (fun r hr => r5 r i hr hi) (fun r hr => r5 r j hr hj) r4 (r6 i hi) (r6 j hj) (r7 i j hi hj)
theorem LR_sp2 {n : Nat} {A : Nat → Nat → Int32} {A9 : Nat → Int32} {rw : Nat} {S : Nat → Int32} {P : Nat → Nat → Int32} {Dt : Nat → Int32} {ln : Nat} {Tx Pr : Nat → Int32} (h : LR n A A9 rw S P Dt ln Tx Pr) {i j : Nat} (hi : i < n) (hj : j < n) : Int64.ofInt (spO Dt i j rw) = spC rw P S i j := by
  rw [← LR_sp h hi hj, Int64.ofInt_toInt]
theorem isS_sp {n : Nat} {A : Nat → Nat → Int32} {A9 : Nat → Int32} {rw : Nat} {S : Nat → Int32} {P : Nat → Nat → Int32} {Dt : Nat → Int32} {ln : Nat} {Tx Pr : Nat → Int32} (h : LR n A A9 rw S P Dt ln Tx Pr) (hf : spFit rw P S n n 0) {i j : Nat} (hi : i < n) (hj : j < n) : isS (Int64.ofInt (spO Dt i j rw)) := by
  rw [LR_sp2 h hi hj]
  exact isS_iff.mpr (hf i j hj (Or.inl hi))
theorem sp_isS {n : Nat} {A : Nat → Nat → Int32} {A9 : Nat → Int32} {rw : Nat} {S : Nat → Int32} {P : Nat → Nat → Int32} {Dt : Nat → Int32} {ln : Nat} {Tx Pr : Nat → Int32} (h : LR n A A9 rw S P Dt ln Tx Pr) (hf : ∀ i j, i < n → j < n → isS (Int64.ofInt (spO Dt i j rw))) : spFit rw P S n n 0 := fun i j hj hd => by
  have hi : i < n := by omega
  have := hf i j hi hj
  rw [LR_sp2 h hi hj] at this
  exact isS_iff.mp this
theorem l2i_small {x : Int64} (h : -1000000 ≤ x.toInt ∧ x.toInt ≤ 1000000) : x.toInt32.toInt = x.toInt := by
  rw [Int64.toInt_toInt32]
  exact Int.bmod_eq_of_le (by omega) (by omega)
theorem spO_sym (D : Nat → Int32) (i j : Nat) : ∀ r : Nat, spO D i j r = spO D j i r := by
  have h1 : ∀ r s : Nat, spI D i j r s = spI D j i r s := fun r s => by
    induction s with
    | zero => rfl
    | succ s ih => simp only [spI]; rw [ih]; congr 1; exact Int.mul_comm _ _
  intro r
  induction r with
  | zero => rfl
  | succ r ih => simp only [spO]; rw [ih, h1]
theorem LR_spread {n : Nat} {A A' : Nat → Nat → Int32} {A9 : Nat → Int32} {rw : Nat} {S : Nat → Int32} {P : Nat → Nat → Int32} {Dt : Nat → Int32} {ln : Nat} {Tx Pr : Nat → Int32} (h : LR n A A9 rw S P Dt ln Tx Pr) (hn : n ≤ 6) (hf : spFit rw P S n n 0) (hA : spM rw P S A n n 0 A') : LR n A' (spA A9 (fun i j => (Int64.ofInt (spO Dt i j rw)).toInt32) n n 0) rw S P Dt ln Tx Pr := by
  have h0 := h
  obtain ⟨r1, r2, r3, r⟩ := h
  have e1 : ∀ i j, i < n → j < n → A' i j = (spC rw P S i j).toInt32 := fun i j hi hj => by rw [hA i j (by omega), if_pos ⟨hj, Or.inl hi⟩]
  have e2 : ∀ i j, i < 6 → j < 6 → spA A9 (fun i j => (Int64.ofInt (spO Dt i j rw)).toInt32) n n 0 (6 * i + j) = if i < n ∧ j < n then (Int64.ofInt (spO Dt i j rw)).toInt32 else A9 (6 * i + j) := fun i j hi hj => by
    have d1 : (6 * i + j) / 6 = i := by omega
    have d2 : (6 * i + j) % 6 = j := by omega
    simp only [spA, d1, d2]
    by_cases e : i < n ∧ j < n
    · rw [if_pos e, if_pos (Or.inl e)]
    · rw [if_neg e, if_neg (by omega)]
  have sm : ∀ i j, i < n → j < n → -1000000 ≤ (spC rw P S i j).toInt32.toInt ∧ (spC rw P S i j).toInt32.toInt ≤ 1000000 := fun i j hi hj => by
    have := hf i j hj (Or.inl hi)
    rw [l2i_small this]; exact this
  refine ⟨fun i j hi hj => ?_, fun i j hi hj => ?_, fun i j hi hj => ⟨?_, ?_⟩, r⟩
  · rw [hA i j hi]; split
    · next e => exact sm i j (by omega) e.1
    · exact r1 i j hi hj
  · rw [e2 i j hi hj]; split
    · next e => rw [LR_sp2 h0 e.1 e.2]; exact sm i j e.1 e.2
    · exact r2 i j hi hj
  · rw [e2 i j (by omega) (by omega), if_pos ⟨hi, hj⟩, LR_sp2 h0 hi hj, e1 i j hi hj]
  · rw [e1 i j hi hj, e1 j i hj hi, ← LR_sp2 h0 hi hj, ← LR_sp2 h0 hj hi, spO_sym]
