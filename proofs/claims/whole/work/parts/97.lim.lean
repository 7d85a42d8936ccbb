/-! limbs: one is set; the last digit -/
theorem lm_u_set {f : Nat → Int32} {k : Nat} {v : Int32} : ∀ {n : Nat}, k < n → lm_u (upd f k v) n = lm_u f n + (v.toInt - (f k).toInt) * 1073741824 ^ k
  | 0, h => absurd h (Nat.not_lt_zero _)
  | n + 1, h => by
    by_cases e : k = n
    · subst e
      rw [lm_u, lm_u, lm_u_upd (Nat.le_refl _), upd_s]
      grind
    · rw [lm_u, lm_u, lm_u_set (show k < n by omega), upd_n (by omega)]
      grind
theorem lm_nat {f : Nat → Int32} {n k : Nat} (h : lm_ok f n) (hk : k < n) : ∃ x : Nat, x < 1073741824 ∧ f k = nI x ∧ (f k).toInt = (x : Int) := by
  obtain ⟨h1, h2⟩ := h k hk
  refine ⟨(f k).toInt.toNat, by omega, ?_, by omega⟩
  rw [← Int32.toInt_inj, nI_toInt (by omega)]
  omega
theorem q_or30 {a b : Nat} (hb : b < 1073741824) : lN (a * 2 ^ 30) ||| lN b = lN (a * 1073741824 + b) := by
  rw [← Int64.toBitVec_inj, Int64.toBitVec_or, lN_bv, lN_bv, lN_bv, ← BitVec.ofNat_or]
  congr 1
  have := Nat.shiftLeft_add_eq_or_of_lt (i := 30) (b := b) (by omega) a
  rw [Nat.shiftLeft_eq] at this
  omega
/-- six rows of six numbers -/
def mx_g (ad : Nat → Nat) (b : Nat) : Nat → Option Nat := fun k => if k < 6 then some (ad (b + k)) else none
theorem mx_at {ad : Nat → Nat} {b k : Nat} (hk : k < 6) : mx_g ad b k = some (ad (b + k)) := if_pos hk
def mat (ad : Nat → Nat) (cI cG : ClassId) (σ : Nat → va_E) (h b : Nat) (F : Nat → Nat → Int32) : Prop := σ h = .inl (cG, 6, .inr (.inr (.inr (.inr (mx_g ad b))))) ∧ ∀ k, k < 6 → σ (b + k) = .inl (cI, 6, .inl (F k))
theorem mat_row {ad : Nat → Nat} {cI cG : ClassId} {σ : Nat → va_E} {h b k : Nat} {F : Nat → Nat → Int32} (hm : mat ad cI cG σ h b F) (hh : h < b ∨ b + 6 ≤ h) (_hk : k < 6) (f : Nat → Int32) : mat ad cI cG (va_up σ (b + k) (.inl (cI, 6, .inl f))) h b (va_up F k f) := by
  refine ⟨(va_up_ne _ _ (by omega)).trans hm.1, fun j hj => ?_⟩
  by_cases e : j = k
  · rw [e, va_up_self, va_up_self]
  · rw [va_up_ne _ _ (by omega), va_up_ne _ _ e]; exact hm.2 j hj
theorem mat_same {ad : Nat → Nat} {cI cG : ClassId} {σ σ' : Nat → va_E} {h b : Nat} {F : Nat → Nat → Int32} (hm : mat ad cI cG σ h b F) (h1 : σ' h = σ h) (h2 : ∀ q, b ≤ q → q < b + 6 → σ' q = σ q) : mat ad cI cG σ' h b F := ⟨h1.trans hm.1, fun k hk => (h2 _ (by omega) (by omega)).trans (hm.2 k hk)⟩
theorem q_l2iN {v : Nat} (h : v < 2147483648) : (lN v).toInt32 = nI v := by
  have e : (lN v).toInt = (v : Int) := pk_lT (by omega)
  rw [← Int32.toInt_inj, q_l2i (by omega) (by omega), e, nI_toInt (by omega)]
