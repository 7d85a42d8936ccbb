/-! the first column alone, to its end -/
def nwV (q : Nat → PF) (k : Nat) : Nat → List PF
  | 0 => (List.range k).map fun i => .num (if i = 0 then 1 else 0)
  | s + 1 => let b := nwV q k s; (List.range k).map fun i => (dotP (vP i) (fun l => b.getD l (.num 0)) k).combine (if i = 0 then q (k - 1 - s) else .num 0)
def ncok (k : Nat) : Bool := (nwV (fun i => (pBL k).getD i (.num 1)) k k).getD 0 (.num 0) == .num 0
theorem nwV_ok {ctx : PC} {A : Nat → Nat → Int} {q : Nat → PF} {p : Nat → Int} {k : Nat} (hk : 1 ≤ k) (hA : ∀ i j, i < k → j < k → (vP i j).denote ctx = A i j) (hq : ∀ i, i ≤ k → (q i).denote ctx = p i) (s : Nat) : ∀ i, i < k → ((nwV q k s).getD i (.num 0)).denote ctx = nwF A p k s i 0 := by
  induction s with
  | zero =>
    intro i hi
    rw [nwV, nwF, getD_map hi, dn_num]
  | succ s ih =>
    intro i hi
    rw [nwV, nwF, getD_map hi, dn_add, dotP_ok k (fun l hl => hA i l hi hl) (fun l hl => ih l hl)]
    congr 1
    split
    · exact hq _ (by omega)
    · exact dn_num 0
theorem nc_of {ctx : PC} {A : Nat → Nat → Int} {k : Nat} (hk : 1 ≤ k) (h : ncok k = true) (hA : ∀ i j, i < k → j < k → (vP i j).denote ctx = A i j) : nwF A (pB A k) k k 0 0 = 0 := by
  have h2 := eq_of_beq h
  have e := nwV_ok hk hA (fun i hi => pBL_ok k hA i hi) k 0 (by omega)
  rw [h2, dn_num] at e
  exact e.symm
theorem nc_1 : ncok 1 = true := by decide +kernel
theorem nc_2 : ncok 2 = true := by decide +kernel
theorem nc_3 : ncok 3 = true := by decide +kernel
theorem nc_4 : ncok 4 = true := by decide +kernel
theorem nc_5 : ncok 5 = true := by decide +kernel
