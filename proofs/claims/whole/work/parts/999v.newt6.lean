/-! for six rows: each trace by itself -/
def nwS (k s : Nat) : Bool := dotP (fun _ => .num 1) (fun i => ((nwL (fun i => (pBL k).getD i (.num 1)) k s).getD i []).getD i (.num 0)) k == ((pBL k).getD (k - s) (.num 1)).mulConst ((k - s : Nat) : Int)
theorem nwok_of {k : Nat} (h : ∀ s, s ≤ k → nwS k s = true) : nwok k = true := List.all_eq_true.mpr (fun s hs => h s (by have := List.mem_range.mp hs; omega))
theorem nw_60 : nwS 6 0 = true := by decide +kernel
theorem nw_61 : nwS 6 1 = true := by decide +kernel
theorem nw_62 : nwS 6 2 = true := by decide +kernel
theorem nw_63 : nwS 6 3 = true := by decide +kernel
