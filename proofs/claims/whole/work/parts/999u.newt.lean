/-! sums of powers: the traces of the matrices that Horner's rule makes of A, as normal forms -/
def nwL (q : Nat → PF) (k : Nat) : Nat → List (List PF)
  | 0 => (List.range k).map fun i => (List.range k).map fun j => .num (if i = j then 1 else 0)
  | s + 1 => let b := nwL q k s; (List.range k).map fun i => (List.range k).map fun j => (dotP (vP i) (fun l => (b.getD l []).getD j (.num 0)) k).combine (if i = j then q (k - 1 - s) else .num 0)
def nwF (A : Nat → Nat → Int) (p : Nat → Int) (k : Nat) : Nat → Nat → Nat → Int
  | 0 => fun i j => if i = j then 1 else 0
  | s + 1 => fun i j => dot (A i) (fun l => nwF A p k s l j) k + (if i = j then p (k - 1 - s) else 0)
def nwok (k : Nat) : Bool := (List.range (k + 1)).all fun s => dotP (fun _ => .num 1) (fun i => ((nwL (fun i => (pBL k).getD i (.num 1)) k s).getD i []).getD i (.num 0)) k == ((pBL k).getD (k - s) (.num 1)).mulConst ((k - s : Nat) : Int)
section NW
variable {ctx : PC} {A : Nat → Nat → Int}
theorem nwL_ok {q : Nat → PF} {p : Nat → Int} {k : Nat} (hA : ∀ i j, i < k → j < k → (vP i j).denote ctx = A i j) (hq : ∀ i, i ≤ k → (q i).denote ctx = p i) (s : Nat) : ∀ i j, i < k → j < k → (((nwL q k s).getD i []).getD j (.num 0)).denote ctx = nwF A p k s i j := by
  induction s with
  | zero =>
    intro i j hi hj
    rw [nwL, nwF, getD_map hi, getD_map hj, dn_num]
  | succ s ih =>
    intro i j hi hj
    rw [nwL, nwF, getD_map hi, getD_map hj, dn_add, dotP_ok k (fun l hl => hA i l hi hl) (fun l hl => ih l j hl hj)]
    congr 1
    split
    · exact hq _ (by omega)
    · exact dn_num 0
theorem nw_of {k : Nat} (hk : 1 ≤ k) (h : nwok k = true) (hA : ∀ i j, i < k → j < k → (vP i j).denote ctx = A i j) : ∀ s, s ≤ k → dot (fun _ => 1) (fun i => nwF A (pB A k) k s i i) k = ((k - s : Nat) : Int) * pB A k (k - s) := fun s hs => by
  have h1 := List.all_eq_true.mp h s (List.mem_range.mpr (by omega))
  have h2 := eq_of_beq h1
  have e := congrArg (fun q : PF => q.denote ctx) h2
  rw [show ∀ a b : PF, ((fun q : PF => q.denote ctx) a = (fun q : PF => q.denote ctx) b) = (a.denote ctx = b.denote ctx) from fun _ _ => rfl] at e
  rw [dn_con, pBL_ok k hA (k - s) (by omega), dotP_ok k (fun _ _ => dn_num 1) (fun i hi => nwL_ok hA (fun i hi => pBL_ok k hA i hi) s i i hi hi)] at e
  exact e
end NW
theorem nw_1 : nwok 1 = true := by decide +kernel
theorem nw_2 : nwok 2 = true := by decide +kernel
theorem nw_3 : nwok 3 = true := by decide +kernel
theorem nw_4 : nwok 4 = true := by decide +kernel
theorem nw_5 : nwok 5 = true := by decide +kernel
