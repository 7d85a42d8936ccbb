theorem nP_eq {m sz : Nat} (hm : m < 2 ^ 30) (hs : sz < 2 ^ 30) : nI m = nP sz ↔ m + 1 = sz := by
  cases sz with
  | zero =>
    constructor
    · intro h
      have h0 : nP 0 < 0 := nP_0
      rw [← h] at h0
      exact absurd h0 (nI_pos (by omega))
    · intro h
      omega
  | succ sz =>
    rw [nP_succ, nI_eq (by omega) (by omega)]
    omega
def prv (A : Nat → Nat → Int) (set sz : Nat) : Nat → Int := match sz with
  | 0 => fun _ => 0
  | s + 1 => mnF A set s
theorem mn_in {A : Nat → Nat → Int} {set part sz : Nat} (h : pcn part 6 = sz) : mn A set part = (inF A part sz (plF set sz 6).1 (prv A set sz) 6).1 := by
  subst h
  unfold mn prv
  cases pcn part 6 <;> rfl
theorem prv_mn {A : Nat → Nat → Int} {set part sz i : Nat} (hp : part < 64) (hi : i < 6) (hb : part / 2 ^ i % 2 = 1) (hs : pcn part 6 = sz) : prv A set sz (part - 2 ^ i) = mn A set (part - 2 ^ i) := by
  have h := (mb_sub part hp i hi hb).1
  rw [hs] at h
  unfold mn
  subst h
  rfl
theorem p8 (n : Nat) : (8388608 : Int) ^ n = 2 ^ (23 * n) := by
  rw [Int.pow_mul]
  rfl
theorem mn_bd {A : Nat → Nat → Int} {set part : Nat} (hA : ∀ i j, i < 6 → j < 6 → bd 1000000 (A i j)) : bd (2 ^ 138) (mn A set part) := by
  have h := mnF_bd (set := set) hA (pcn part 6) part
  rw [p8] at h
  have := pcn_le (s := part) 6
  exact bd_le (p2_le (by omega)) h
theorem inF_sm {A : Nat → Nat → Int} {set part sz i : Nat} (hA : ∀ i j, i < 6 → j < 6 → bd 1000000 (A i j)) (hp : part < 64) (hs : pcn part 6 = sz) (hi : i ≤ 6) : bd (2 ^ 200) (inF A part sz (plF set sz 6).1 (prv A set sz) i).1 := by
  have h := inF_bd (A := A) (part := part) (sz := sz) (col := (plF set sz 6).1) (prev := prv A set sz) (u := 2 ^ 138) (by decide) (fun j hj => hA j _ hj (pl_lt 6 (Nat.le_refl _)).1) (fun j hj hb => by rw [prv_mn hp hj hb hs]; exact mn_bd hA) i hi
  refine bd_le ?_ h
  have hi' : (i : Int) ≤ 6 := by omega
  have := Int.mul_le_mul_of_nonneg_right hi' (show (0 : Int) ≤ 1000000 * 2 ^ 138 by decide)
  have e : (1 : Int) + 6 * (1000000 * 2 ^ 138) ≤ 2 ^ 200 := by decide
  omega
theorem chF_bd {A : Nat → Nat → Int} {k : Nat} (hA : ∀ i j, i < 6 → j < 6 → bd 1000000 (A i j)) : ∀ (set e : Nat), bd ((set : Int) * 2 ^ 138) (chF A k set e)
  | 0, e => by simp [chF, bd]
  | set + 1, e => by
    have ih := chF_bd (k := k) hA set
    have h := mn_bd (set := set) (part := set) hA
    have e1 : ((set + 1 : Nat) : Int) * 2 ^ 138 = (set : Int) * 2 ^ 138 + 2 ^ 138 := by
      rw [show ((set + 1 : Nat) : Int) = (set : Int) + 1 by simp, Int.add_mul, Int.one_mul]
    rw [e1]
    simp only [chF, va_up]
    have h0 : (0 : Int) < 2 ^ 138 := by decide
    split
    · obtain ⟨a1, a2⟩ := ih (k - pcn set 6)
      obtain ⟨b1, b2⟩ := h
      split
      · exact ⟨by omega, by omega⟩
      · exact ⟨by omega, by omega⟩
    · exact bd_le (by omega) (ih e)
theorem chF_sm {A : Nat → Nat → Int} {k set e : Nat} (hA : ∀ i j, i < 6 → j < 6 → bd 1000000 (A i j)) (hs : set ≤ 64) : bd (2 ^ 150) (chF A k set e) := by
  refine bd_le ?_ (chF_bd hA set e)
  have := Int.mul_le_mul_of_nonneg_right (show (set : Int) ≤ 64 by omega) (show (0 : Int) ≤ 2 ^ 138 by decide)
  have e : (64 : Int) * 2 ^ 138 ≤ 2 ^ 150 := by decide
  omega
theorem inF_at {A : Nat → Nat → Int} {part sz col : Nat} {prev : Nat → Int} : ∀ i, (inF A part sz col prev i).2 ≤ i
  | 0 => by simp [inF]
  | i + 1 => by
    have := inF_at (A := A) (part := part) (sz := sz) (col := col) (prev := prev) i
    simp only [inF]
    split
    · simp; omega
    · omega
