/-! Math.max, Math.abs; the bound and the trace -/
section XR4
variable {p : Program} {l : Launch} {e : Env} {R : Room} {s : State} {m : MethodId} {args : Array Value} {below : List Frame} {meth : Method} {c : Code} {H : Heap} {locs : List Loc} {cells slots : Nat} {Q : State → Prop}
variable {cc : ByteArray} {pc nL : Nat} {ls : Array Slot} {rest : List Value} {D : va_G} {cl : List vw_C} {tys : List (ClassId × FieldType)} {H0 : Heap} {N : Nat} {ad : Nat → Nat} {σ : Nat → va_E} {Ts : List Cond} {own : String}
theorem xr_max (X : xX p c cc nL s args Ts own m D cl tys) (hl1 : ls.size = nL) {idx : Nat} (hlink : Cond.methodLink own idx Lib.Math.max.name ∈ Ts) (hstat : Cond.static Lib.Math.max.name ∈ Ts) (hini : Cond.initialized "java/lang/Math" ∈ Ts) (hcode : Cond.code Lib.Math.max.name Lib.Math.max.code 2 (some .int) ∈ Ts)
    (hframes : 1 ≤ R.frames) (hlocals : (rest.map fun v => v.category).sum + 13 ≤ R.locals) (hc : cells ≤ R.cells) (hs : slots ≤ R.slots) {x y : Nat} (hx : x < 2 ^ 31) (hy : y < 2 ^ 31) (hdg : decode cc pc = .ok (.invokestatic idx, 3))
    (kk : W p l e R s m args below meth c H locs cells slots Q (F0 m (pc + 3) ls (.int (nI (max x y)) :: rest))) : W p l e R s m args below meth c H locs cells slots Q (F0 m pc ls (.int (nI y) :: .int (nI x) :: rest)) := by
  refine va_mmax X.1.1 X.1.2.1 (X.1.2.2.1.trans hl1.symm) X.1.2.2.2.1 (X.1.2.2.2.2 _ hlink) (X.1.2.2.2.2 _ hstat) (X.1.2.2.2.2 _ hini) (X.1.2.2.2.2 _ hcode) hframes hlocals hc hs hdg ?_
  have e : (if nI x < nI y then nI y else nI x) = nI (max x y) := by
    split
    · next h => rw [Nat.max_eq_right (Nat.le_of_lt ((nI_ltI hx hy).mp h))]
    · next h => rw [Nat.max_eq_left (Nat.le_of_not_lt fun q => h ((nI_ltI hx hy).mpr q))]
  rw [e]
  exact kk
theorem xr_abs (X : xX p c cc nL s args Ts own m D cl tys) (hl1 : ls.size = nL) {idx : Nat} (hlink : Cond.methodLink own idx Lib.Math.abs.name ∈ Ts) (hstat : Cond.static Lib.Math.abs.name ∈ Ts) (hini : Cond.initialized "java/lang/Math" ∈ Ts) (hcode : Cond.code Lib.Math.abs.name Lib.Math.abs.code 1 (some .int) ∈ Ts)
    (hframes : 1 ≤ R.frames) (hlocals : (rest.map fun v => v.category).sum + 13 ≤ R.locals) (hc : cells ≤ R.cells) (hs : slots ≤ R.slots) {x : Int32} (hx : -1000000 ≤ x.toInt ∧ x.toInt ≤ 1000000) (hdg : decode cc pc = .ok (.invokestatic idx, 3))
    (kk : W p l e R s m args below meth c H locs cells slots Q (F0 m (pc + 3) ls (.int (nI x.toInt.natAbs) :: rest))) : W p l e R s m args below meth c H locs cells slots Q (F0 m pc ls (.int x :: rest)) := by
  refine va_mabs X.1.1 X.1.2.1 (X.1.2.2.1.trans hl1.symm) X.1.2.2.2.1 (X.1.2.2.2.2 _ hlink) (X.1.2.2.2.2 _ hstat) (X.1.2.2.2.2 _ hini) (X.1.2.2.2.2 _ hcode) hframes hlocals hc hs hdg ?_
  have e : (if 0 ≤ x then x else 0 - x) = nI x.toInt.natAbs := by
    rw [← Int32.toInt_inj, nI_toInt (by omega)]
    split
    · next h => have h := Int32.le_iff_toInt_le.mp h; rw [show (0 : Int32).toInt = 0 by decide] at h; omega
    · next h =>
      have h : ¬ (0 : Int32).toInt ≤ x.toInt := fun q => h (Int32.le_iff_toInt_le.mpr q)
      rw [show (0 : Int32).toInt = 0 by decide] at h
      rw [Int32.toInt_sub, show (0 : Int32).toInt = 0 by decide, Int.bmod_eq_of_le (by omega) (by omega)]
      omega
  rw [e]
  exact kk
end XR4
def rsF (A : Nat → Nat → Int32) (i : Nat) : Nat → Nat
  | 0 => 0
  | j + 1 => rsF A i j + (A i j).toInt.natAbs
def bdF (A : Nat → Nat → Int32) (n : Nat) : Nat → Nat
  | 0 => 0
  | i + 1 => max (bdF A n i) (rsF A i n)
def trF (A : Nat → Nat → Int32) : Nat → Int
  | 0 => 0
  | i + 1 => trF A i + (A i i).toInt
theorem rsF_le {A : Nat → Nat → Int32} (hA : ∀ i j, i < 6 → j < 6 → -1000000 ≤ (A i j).toInt ∧ (A i j).toInt ≤ 1000000) {i : Nat} (hi : i < 6) : ∀ j, j ≤ 6 → rsF A i j ≤ j * 1000000
  | 0, _ => Nat.le_refl _
  | j + 1, h => by
    have h1 := rsF_le hA hi j (by omega)
    have h2 := hA i j hi (by omega)
    rw [rsF]; omega
theorem bdF_le {A : Nat → Nat → Int32} (hA : ∀ i j, i < 6 → j < 6 → -1000000 ≤ (A i j).toInt ∧ (A i j).toInt ≤ 1000000) {n : Nat} (hn : n ≤ 6) : ∀ i, i ≤ 6 → bdF A n i ≤ 6000000
  | 0, _ => Nat.zero_le _
  | i + 1, h => by
    have h1 := bdF_le hA hn i (by omega)
    have h2 := rsF_le hA (show i < 6 by omega) n hn
    rw [bdF]; omega
theorem trF_bd {A : Nat → Nat → Int32} (hA : ∀ i j, i < 6 → j < 6 → -1000000 ≤ (A i j).toInt ∧ (A i j).toInt ≤ 1000000) : ∀ i : Nat, i ≤ 6 → -((i : Int) * 1000000) ≤ trF A i ∧ trF A i ≤ (i : Int) * 1000000
  | 0, _ => by rw [trF]; omega
  | i + 1, h => by
    have h1 := trF_bd hA i (by omega)
    have h2 := hA i i (by omega) (by omega)
    rw [trF]; omega
theorem nI_of9 {v : Int32} {n : Nat} (h0 : ¬ v < 0) (h1 : v < nI n) (hn : n < 2147483648) : ∃ k, k < n ∧ v = nI k := by
  have a : ¬ v.toInt < 0 := fun h => h0 (Int32.lt_iff_toInt_lt.mpr h)
  have b := Int32.lt_iff_toInt_lt.mp h1
  rw [nI_toInt (by omega)] at b
  refine ⟨v.toInt.toNat, by omega, ?_⟩
  rw [← Int32.toInt_inj, nI_toInt (by omega)]
  omega
