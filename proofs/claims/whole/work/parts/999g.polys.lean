/-! the reference's polynomial and the desk's, as normal forms of polynomials in the entries -/
abbrev PF : Type := Lean.Grind.CommRing.Poly
abbrev PC : Type := Lean.Grind.CommRing.Context Int
def vP (i j : Nat) : PF := .ofVar (if i ≤ j then 6 * i + j else 6 * j + i)
def inP (part sz col : Nat) (prev : Nat → PF) : Nat → PF × Nat
  | 0 => (.num (if sz = 0 then 1 else 0), 0)
  | i + 1 => match inP part sz col prev i with
    | (v, c) => if part / 2 ^ i % 2 = 1 then (v.combine (((vP i col).mul (prev (part - 2 ^ i))).mulConst (if (c + sz - 1) % 2 = 1 then -1 else 1)), c + 1) else (v, c)
def mnP (set : Nat) : Nat → Nat → PF
  | 0, part => (inP part 0 (plF set 0 6).1 (fun _ => .num 0) 6).1
  | s + 1, part => (inP part (s + 1) (plF set (s + 1) 6).1 (mnP set s) 6).1
def chP (k e : Nat) : Nat → PF
  | 0 => .num 0
  | set + 1 => if k - pcn set 6 = e then (chP k e set).combine ((mnP set (pcn set 6) set).mulConst (if pcn set 6 % 2 = 1 then -1 else 1)) else chP k e set
def dotP (a v : Nat → PF) : Nat → PF
  | 0 => .num 0
  | j + 1 => (dotP a v j).combine ((a j).mul (v j))
def tlP (p : Nat → PF) (a : PF) (k : Nat) : Nat → PF := fun i => (if i = 0 then .num 0 else p (i - 1)).combine (if i ≤ k then (a.mul (p i)).mulConst (-1) else .num 0)
def bvL (p : Nat → PF) (k : Nat) : Nat → List PF
  | 0 => (List.range k).map fun j => vP j k
  | s + 1 => let b := bvL p k s; (List.range k).map fun i => (dotP (vP i) (fun j => b.getD j (.num 0)) k).combine ((vP i k).mul (p (k - 1 - s)))
def grP (p : Nat → PF) (k i : Nat) : PF := if i < k then (tlP p (vP k k) k i).combine ((dotP (fun j => vP j k) (fun j => (bvL p k (k - 1 - i)).getD j (.num 0)) k).mulConst (-1)) else tlP p (vP k k) k i
def pBL : Nat → List PF
  | 0 => [.num 1]
  | k + 1 => let q := pBL k; (List.range (k + 2)).map (grP (fun i => q.getD i (.num 1)) k)
def m1ok (k : Nat) : Bool := (List.range (k + 1)).all fun e => chP k e (2 ^ k) == (pBL k).getD e (.num 1)
section M1
variable {ctx : PC} {A : Nat → Nat → Int}
theorem dn_num (c : Int) : (Lean.Grind.CommRing.Poly.num c).denote ctx = c := by simp [Lean.Grind.CommRing.Poly.denote]
theorem dn_add (p q : PF) : (p.combine q).denote ctx = p.denote ctx + q.denote ctx := Lean.Grind.CommRing.Poly.denote_combine ctx p q
theorem dn_mul (p q : PF) : (p.mul q).denote ctx = p.denote ctx * q.denote ctx := Lean.Grind.CommRing.Poly.denote_mul ctx p q
theorem dn_con (c : Int) (p : PF) : (p.mulConst c).denote ctx = c * p.denote ctx := by
  have h := Lean.Grind.CommRing.Poly.denote_mulConst ctx c p
  simpa using h
theorem bit_lt {part k i : Nat} (h : part < 2 ^ k) (e : part / 2 ^ i % 2 = 1) : i < k := by
  rcases Nat.lt_or_ge i k with q | q
  · exact q
  · exfalso
    have h2 : 2 ^ k ≤ 2 ^ i := Nat.pow_le_pow_right (by decide) q
    rw [Nat.div_eq_of_lt (by omega)] at e
    omega
theorem plF_lt {set sz k : Nat} (hk : 1 ≤ k) (h : set < 2 ^ k) (i : Nat) : (plF set sz i).1 < k := by
  induction i with
  | zero => exact hk
  | succ i ih =>
    rw [plF]
    by_cases e : set / 2 ^ i % 2 = 1
    · rw [if_pos e]
      show (if (plF set sz i).2 + 1 = sz then i else (plF set sz i).1) < k
      split
      · exact bit_lt h e
      · exact ih
    · rw [if_neg e]; exact ih
theorem inP_ok {k : Nat} (hA : ∀ i j, i < k → j < k → (vP i j).denote ctx = A i j) {part sz col : Nat} (hpt : part < 2 ^ k) (hc : col < k) {pP : Nat → PF} {pv : Nat → Int} (hp : ∀ q, q < 2 ^ k → (pP q).denote ctx = pv q) (i : Nat) : (inP part sz col pP i).1.denote ctx = (inF A part sz col pv i).1 ∧ (inP part sz col pP i).2 = (inF A part sz col pv i).2 := by
  induction i with
  | zero => exact ⟨by rw [inP, inF, dn_num], rfl⟩
  | succ i ih =>
    obtain ⟨h1, h2⟩ := ih
    rw [inP, inF]
    generalize hr : inP part sz col pP i = r at h1 h2
    obtain ⟨v, c⟩ := r
    by_cases e : part / 2 ^ i % 2 = 1
    · have hi : i < k := bit_lt hpt e
      simp only [e, if_true]
      simp only at h1 h2
      rw [← h2]
      have hq := hp (part - 2 ^ i) (Nat.lt_of_le_of_lt (Nat.sub_le _ _) hpt)
      by_cases e2 : (c + sz - 1) % 2 = 1
      · simp only [e2, if_true, dn_add, dn_con, dn_mul, hA i col hi hc, hq, h1, and_true]
        omega
      · simp only [e2, if_false, dn_add, dn_con, dn_mul, hA i col hi hc, hq, h1, and_true]
        omega
    · simp only [e, if_false]
      exact ⟨h1, h2⟩
theorem mnP_ok {k : Nat} (hk : 1 ≤ k) (hA : ∀ i j, i < k → j < k → (vP i j).denote ctx = A i j) {set : Nat} (hs : set < 2 ^ k) (s : Nat) : ∀ part, part < 2 ^ k → (mnP set s part).denote ctx = mnF A set s part := by
  induction s with
  | zero => intro part hp; rw [mnP, mnF]; exact (inP_ok hA hp (plF_lt hk hs 6) (fun q _ => dn_num 0) 6).1
  | succ s ih => intro part hp; rw [mnP, mnF]; exact (inP_ok hA hp (plF_lt hk hs 6) ih 6).1
theorem chP_ok {k e : Nat} (hk : 1 ≤ k) (hA : ∀ i j, i < k → j < k → (vP i j).denote ctx = A i j) (set : Nat) : set ≤ 2 ^ k → (chP k e set).denote ctx = chF A k set e := by
  induction set with
  | zero => intro _; rw [chP, chF, dn_num]
  | succ set ih =>
    intro hs
    have h1 := ih (by omega)
    have h2 := mnP_ok hk hA (set := set) (by omega) (pcn set 6) set (by omega)
    rw [chP, chF]
    by_cases q : k - pcn set 6 = e
    · rw [if_pos q, ← q, va_up_self, dn_add, dn_con, h2, q, h1, mn]
      by_cases e2 : pcn set 6 % 2 = 1
      · rw [if_pos e2, if_pos e2]; omega
      · rw [if_neg e2, if_neg e2]; omega
    · rw [if_neg q, va_up_ne _ _ (Ne.symm q), h1]
theorem dotP_ok {a v : Nat → PF} {a' v' : Nat → Int} (n : Nat) (ha : ∀ j, j < n → (a j).denote ctx = a' j) (hv : ∀ j, j < n → (v j).denote ctx = v' j) : (dotP a v n).denote ctx = dot a' v' n := by
  induction n with
  | zero => rw [dotP, dot, dn_num]
  | succ n ih => rw [dotP, dot, dn_add, dn_mul, ih (fun j hj => ha j (by omega)) (fun j hj => hv j (by omega)), ha n (by omega), hv n (by omega)]
theorem tlP_ok {p : Nat → PF} {p' : Nat → Int} {a : PF} {a' : Int} {k i : Nat} (hp : ∀ j, j ≤ k → (p j).denote ctx = p' j) (ha : a.denote ctx = a') (hi : i ≤ k + 1) : (tlP p a k i).denote ctx = tlF p' a' k i := by
  rw [tlP, tlF, dn_add]
  have h1 : (if i = 0 then (Lean.Grind.CommRing.Poly.num 0 : PF) else p (i - 1)).denote ctx = if i = 0 then 0 else p' (i - 1) := by
    split
    · exact dn_num 0
    · exact hp _ (by omega)
  have h2 : (if i ≤ k then (a.mul (p i)).mulConst (-1) else (Lean.Grind.CommRing.Poly.num 0 : PF)).denote ctx = if i ≤ k then -a' * p' i else 0 := by
    split
    · next h => rw [dn_con, dn_mul, ha, hp i h, Int.neg_mul, Int.neg_mul, Int.one_mul]
    · exact dn_num 0
  rw [h1, h2]
theorem getD_map {α : Type} {f : Nat → α} {n j : Nat} {d : α} (h : j < n) : ((List.range n).map f).getD j d = f j := by
  simp [List.getD, List.getElem?_map, List.getElem?_range h]
theorem bvL_ok {p : Nat → PF} {p' : Nat → Int} {k : Nat} (hA : ∀ i j, i ≤ k → j ≤ k → (vP i j).denote ctx = A i j) (hp : ∀ j, j ≤ k → (p j).denote ctx = p' j) (s : Nat) : ∀ j, j < k → ((bvL p k s).getD j (.num 0)).denote ctx = bvF A p' k s j := by
  induction s with
  | zero => intro j hj; rw [bvL, bvF, getD_map hj]; exact hA j k (by omega) (Nat.le_refl _)
  | succ s ih =>
    intro j hj
    rw [bvL, bvF, getD_map hj, dn_add, dn_mul, dotP_ok k (fun i hi => hA j i (by omega) (by omega)) ih, hA j k (by omega) (Nat.le_refl _), hp _ (by omega)]
theorem grP_ok {p : Nat → PF} {p' : Nat → Int} {k i : Nat} (hA : ∀ i j, i ≤ k → j ≤ k → (vP i j).denote ctx = A i j) (hp : ∀ j, j ≤ k → (p j).denote ctx = p' j) (hi : i ≤ k + 1) : (grP p k i).denote ctx = grF A p' k i := by
  rw [grP, grF]
  have h1 := tlP_ok (ctx := ctx) (a := vP k k) hp (hA k k (Nat.le_refl _) (Nat.le_refl _)) hi
  split
  · rw [dn_add, dn_con, h1, dotP_ok k (fun j hj => hA j k (by omega) (Nat.le_refl _)) (bvL_ok hA hp (k - 1 - i))]
    omega
  · exact h1
theorem pBL_ok (k : Nat) : (∀ i j, i < k → j < k → (vP i j).denote ctx = A i j) → ∀ i, i ≤ k → ((pBL k).getD i (.num 1)).denote ctx = pB A k i := by
  induction k with
  | zero => intro _ i hi; obtain rfl : i = 0 := (by omega); exact dn_num 1
  | succ k ih =>
    intro hA i hi
    rw [pBL, pB, getD_map (by omega)]
    exact grP_ok (fun a b ha hb => hA a b (by omega) (by omega)) (ih (fun a b ha hb => hA a b (by omega) (by omega))) hi
/-- the two polynomials are one, where the normal forms are -/
theorem m1_of {k : Nat} (hk : 1 ≤ k) (h : m1ok k = true) (hA : ∀ i j, i < k → j < k → (vP i j).denote ctx = A i j) : ∀ e, e ≤ k → chF A k (2 ^ k) e = pB A k e := fun e he => by
  have h1 := List.all_eq_true.mp h e (List.mem_range.mpr (by omega))
  have h2 : chP k e (2 ^ k) = (pBL k).getD e (.num 1) := eq_of_beq h1
  rw [← chP_ok hk hA (2 ^ k) (Nat.le_refl _), h2, pBL_ok k hA e he]
end M1
