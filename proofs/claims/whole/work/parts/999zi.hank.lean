/-! determinants of sums of powers, and the numbers that make their columns vanish -/
def inG (v : Nat → Nat → PF) (part sz col : Nat) (prev : Nat → PF) : Nat → PF × Nat
  | 0 => (.num (if sz = 0 then 1 else 0), 0)
  | i + 1 => match inG v part sz col prev i with
    | (w, c) => if part / 2 ^ i % 2 = 1 then (w.combine (((v i col).mul (prev (part - 2 ^ i))).mulConst (if (c + sz - 1) % 2 = 1 then -1 else 1)), c + 1) else (w, c)
def mnG (v : Nat → Nat → PF) (set : Nat) : Nat → Nat → PF
  | 0, part => (inG v part 0 (plF set 0 6).1 (fun _ => .num 0) 6).1
  | s + 1, part => (inG v part (s + 1) (plF set (s + 1) 6).1 (mnG v set s) 6).1
theorem inG_ok {ctx : PC} {A : Nat → Nat → Int} {v : Nat → Nat → PF} {k : Nat} (hA : ∀ i j, i < k → j < k → (v i j).denote ctx = A i j) {part sz col : Nat} (hpt : part < 2 ^ k) (hc : col < k) {pP : Nat → PF} {pv : Nat → Int} (hp : ∀ q, q < 2 ^ k → (pP q).denote ctx = pv q) (i : Nat) : (inG v part sz col pP i).1.denote ctx = (inF A part sz col pv i).1 ∧ (inG v part sz col pP i).2 = (inF A part sz col pv i).2 := by
  induction i with
  | zero => exact ⟨by rw [inG, inF, dn_num], rfl⟩
  | succ i ih =>
    obtain ⟨h1, h2⟩ := ih
    rw [inG, inF]
    generalize hr : inG v part sz col pP i = r at h1 h2
    obtain ⟨w, c⟩ := r
    by_cases e : part / 2 ^ i % 2 = 1
    · have hi : i < k := bit_lt hpt e
      simp only [e, if_true]
      simp only at h1 h2
      rw [← h2]
      have hq := hp (part - 2 ^ i) (Nat.lt_of_le_of_lt (Nat.sub_le _ _) hpt)
      by_cases e2 : (c + sz - 1) % 2 = 1
      · simp only [e2, if_true, dn_add, dn_con, dn_mul, hA i col hi hc, hq, h1, and_true]
        omega
      · simp only [e2, if_false, dn_add, dn_con, dn_mul, hA i col hi hc, hq, h1, and_true]
        omega
    · simp only [e, if_false]
      exact ⟨h1, h2⟩
theorem mnG_ok {ctx : PC} {A : Nat → Nat → Int} {v : Nat → Nat → PF} {k : Nat} (hk : 1 ≤ k) (hA : ∀ i j, i < k → j < k → (v i j).denote ctx = A i j) {set : Nat} (hs : set < 2 ^ k) (s : Nat) : ∀ part, part < 2 ^ k → (mnG v set s part).denote ctx = mnF A set s part := by
  induction s with
  | zero => intro part hp; rw [mnG, mnF]; exact (inG_ok hA hp (plF_lt hk hs 6) (fun q _ => dn_num 0) 6).1
  | succ s ih => intro part hp; rw [mnG, mnF]; exact (inG_ok hA hp (plF_lt hk hs 6) ih 6).1
def vH (i j : Nat) : PF := .ofVar (i + j)
def hkP (k m : Nat) : PF := dotP (fun i => (mnG vH (2 ^ k - 1) k (2 ^ (k + 1) - 1 - 2 ^ i)).mulConst (if (k + i) % 2 = 1 then -1 else 1)) (fun i => vH i m) (k + 1)
def hkok (k m : Nat) : Bool := hkP k m == (if m < k then .num 0 else mnG vH (2 ^ (k + 1) - 1) (k + 1) (2 ^ (k + 1) - 1))
def hQ (A : Nat → Nat → Int) (k i : Nat) : Int := (if (k + i) % 2 = 1 then -1 else 1) * mnF A (2 ^ k - 1) k (2 ^ (k + 1) - 1 - 2 ^ i)
def hD (A : Nat → Nat → Int) (k : Nat) : Int := mnF A (2 ^ k - 1) k (2 ^ k - 1)
abbrev hA (s : Nat → Int) : Nat → Nat → Int := fun i j => s (i + j)
theorem hQ_top (A : Nat → Nat → Int) (k : Nat) : hQ A k k = hD A k := by
  rw [hQ, hD, if_neg (by omega), Int.one_mul, show 2 ^ (k + 1) - 1 - 2 ^ k = 2 ^ k - 1 by rw [Nat.pow_succ]; omega]
theorem hD_0 (A : Nat → Nat → Int) : hD A 0 = 1 := by
  show (inF A 0 0 (plF 0 0 6).1 (fun _ => 0) 6).1 = 1
  simp [inF]
theorem hk_lo : ∀ k, k < 4 → ∀ m, m < 4 → m ≤ k → hkok k m = true := by decide +kernel
theorem hk_4 : ∀ m, m < 5 → hkok 4 m = true := by decide +kernel
theorem hk_50 : hkok 5 0 = true := by decide +kernel
theorem hk_51 : hkok 5 1 = true := by decide +kernel
theorem hk_52 : hkok 5 2 = true := by decide +kernel
theorem hk_53 : hkok 5 3 = true := by decide +kernel
theorem hk_54 : hkok 5 4 = true := by decide +kernel
theorem hk_55 : hkok 5 5 = true := by decide +kernel
