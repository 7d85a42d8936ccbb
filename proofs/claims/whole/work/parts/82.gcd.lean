/-! the reference: simplify, purely -/
def gcN (f : Nat → Int) : Nat → Nat
  | 0 => 0
  | k + 1 => Nat.gcd (gcN f k) (f k).natAbs
theorem gcN_dvd {f : Nat → Int} : ∀ {n k : Nat}, k < n → gcN f n ∣ (f k).natAbs
  | 0, _, h => absurd h (Nat.not_lt_zero _)
  | n + 1, k, h => by
    rw [gcN]
    by_cases e : k = n
    · rw [e]; exact Nat.gcd_dvd_right _ _
    · exact Nat.dvd_trans (Nat.gcd_dvd_left _ _) (gcN_dvd (show k < n by omega))
theorem gcd_turn (A B : Nat) : Nat.gcd B (A % B) = Nat.gcd A B := by
  rw [Nat.gcd_comm A B, Nat.gcd_rec B A, Nat.gcd_comm]
theorem RB_sgn {P L M : Nat → Int32} {X : Nat → Int} {v : Nat} {mi : Int32} (h : RB P L M X) (hm : mi = 0 ∨ mi = 1) : RB P L (upd M v mi) (va_up X v (if mi = 1 then -((X v).natAbs : Int) else ((X v).natAbs : Int))) := fun j hj => by
  by_cases e : j = v
  · subst e
    obtain ⟨n, n1, n2, n3, n4, n5⟩ := h j hj
    have hr := (rg_range n3).1
    have hn : ((X j).natAbs : Int) = rg P (300 * j) n := by omega
    refine ⟨n, n1, n2, n3, n4, ?_⟩
    rw [va_up_self, upd_s]
    rcases hm with hm | hm
    · left; exact ⟨hm, by rw [hm, if_neg (by decide)]; exact hn⟩
    · right; exact ⟨hm, by rw [hm, if_pos rfl, hn]⟩
  · rw [va_up_ne _ _ e]
    exact rb_same (fun _ _ _ => rfl) rfl (upd_n e) (h j hj)
theorem RB_bit {P L M : Nat → Int32} {X : Nat → Int} {v : Nat} (h : RB P L M X) (hv : v < 112) : (M v = 0 ∧ 0 ≤ X v) ∨ (M v = 1 ∧ X v ≤ 0) := by
  obtain ⟨n, n1, n2, n3, n4, n5⟩ := h v hv
  have hr := (rg_range n3).1
  rcases n5 with ⟨a, b⟩ | ⟨a, b⟩
  · left; exact ⟨a, by omega⟩
  · right; exact ⟨a, by omega⟩
theorem sgn_div {x : Int} {g : Nat} {mi : Int32} (hd : g ∣ x.natAbs) (h : (mi = 0 ∧ 0 ≤ x) ∨ (mi = 1 ∧ x ≤ 0)) : (if mi = 1 then -((((x.natAbs : Int) / (g : Int)).natAbs : Nat) : Int) else ((((x.natAbs : Int) / (g : Int)).natAbs : Nat) : Int)) = x / (g : Int) := by
  have h0 : 0 ≤ (x.natAbs : Int) / (g : Int) := Int.ediv_nonneg (Int.natCast_nonneg _) (Int.natCast_nonneg _)
  have h1 : ((((x.natAbs : Int) / (g : Int)).natAbs : Nat) : Int) = (x.natAbs : Int) / (g : Int) := by omega
  have hd2 : (g : Int) ∣ x := Int.natAbs_dvd_natAbs.mp (by rw [Int.natAbs_natCast]; exact hd)
  rw [h1]
  rcases h with ⟨a, b⟩ | ⟨a, b⟩
  · rw [a, if_neg (by decide), show (x.natAbs : Int) = x by omega]
  · rw [a, if_pos rfl, show (x.natAbs : Int) = -x by omega, Int.neg_ediv_of_dvd hd2, Int.neg_neg]
def dvX (Z : Nat → Int) (r k g : Nat) : Nat → Int := fun v => if r ≤ v ∧ v < r + k then Z v / (g : Int) else Z v
