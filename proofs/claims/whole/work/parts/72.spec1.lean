/-- the cells that are known hold their answers -/
def memo (n : Nat) (V : Nat → Int) (Cl : Nat → Int64) (Kn : Nat → Int32) : Prop := ∀ j, j < n → Kn j = 0 ∨ Kn j = nI 1 ∧ Cl j = Int64.ofInt (V j)
/-- what the search needs of the counts: they are naturals, the answers are the search's, and all between two counts have one answer -/
def fcH (L : Int → Int32) (n : Nat) (last : Int) (V : Nat → Int) : Prop :=
  (∀ x, -last ≤ x → x ≤ last + 1 → ∃ m, m ≤ n ∧ L x = nI m) ∧ (∀ i B, i < n → 2 * last < 2 ^ B → (∀ k, k < B → (2 : Int) ^ k ≤ 2 * last) → fcS L last (nI i) (B + 1) (-last) = V i) ∧ ∀ i m m2 j, i < n → L (V i) = nI m → L (V i + 1) = nI m2 → m ≤ n → m2 ≤ n → m ≤ j → j < m2 → V j = V i
theorem fcS_range {L : Int → Int32} {last : Int} {i : Int32} (h0 : 0 ≤ last) : ∀ b e, -last ≤ e → e ≤ last → -last ≤ fcS L last i b e ∧ fcS L last i b e ≤ last
  | 0, e, h1, h2 => ⟨h1, h2⟩
  | b + 1, e, h1, h2 => by
    have hp : (0 : Int) < 2 ^ b := Int.pow_pos (by decide)
    simp only [fcS]
    split
    · next h => exact fcS_range h0 b _ (by omega) h.1
    · exact fcS_range h0 b _ h1 h2
theorem q_shl1 {b : Nat} (hb : b < 62) : (lN 1 <<< ((nI b).toInt64 &&& 63)).toInt = 2 ^ b := by
  have h2 : (2 : Nat) ^ b < 2 ^ 62 := Nat.pow_lt_pow_right (by decide) hb
  rw [wb_shl 1 (by omega), pk_lT (by omega)]
  simp
theorem q_lim {B : Nat} {x : Int} (h : ∀ k, k < B → (2 : Int) ^ k ≤ x) (hx : x < 2 ^ 60) : B ≤ 60 := by
  rcases Nat.lt_or_ge 60 B with h1 | h1
  · have := h 60 h1
    omega
  · exact h1
section XNEST
variable {p : Program} {l : Launch} {e : Env} {s : State} {m : MethodId} {args : Array Value} {below : List Frame} {meth : Method} {c : Code} {H : Heap} {locs : List Loc}
variable {cc : ByteArray} {pc nL : Nat} {ls : Array Slot} {rest : List Value} {D : va_G} {cl : List vw_C} {tys : List (ClassId × FieldType)} {H0 : Heap} {N : Nat} {ad : Nat → Nat} {σ : Nat → va_E} {Ts : List Cond} {own host : String}
variable {y : MethodName} {bytes : ByteArray} {maxL kc kr n idx : Nat} {ret : Option FieldType} {ws' : List Cond} {As st0 : List Value} {Qc : Array Value → State → Outcome → State → Prop} {free : Addr → Prop}
/-- a call of a hidden static method of a nest mate -/
theorem xr_runSN (X : xX p c cc nL s args Ts own m D cl tys) (I : xI D cl N ad H0 σ H locs) (hM : Met l y (Cond.code y bytes maxL ret :: ws') (xrm kc) (va_Pc As (xS D cl tys N ad σ)) Qc 0 0 free) (hG : GoodIn Ts (Cond.code y bytes maxL ret :: ws')) (hl : va_Nw (.methodLinkNest own idx y host) s) (hst : Cond.static y ∈ Ts) (hini : Cond.initialized y.cls ∈ Ts)
    (hd : y.cls ≠ "java/lang/invoke/MethodHandle" ∧ y.cls ≠ "java/lang/invoke/VarHandle" ∧ (parseMethodDescriptor y.desc).map (fun d => d.parameters.length) = some n) (hk : kc + 1 ≤ kr ∧ 8 + (maxL + 11) + 64 * kc ≤ 64 * kr) (hn : As.length = n) (hsize : ls.size = nL) (hs0 : st0 = As.reverse ++ rest) (hW : (rest.map fun v => v.category).sum ≤ 8) (hdg : decode cc pc = .ok (.invokestatic idx, 3)) :
    va_Run p l e (xrm kr) s m args below meth c H locs 0 0 0 0 (F0 m pc ls st0) rest (Qc As.toArray) free :=
  va_runSN X.1 hM ⟨va_cnB n X.1.2.2.2.2 hG rfl rfl rfl hl (X.1.2.2.2.2 _ hini) hd hk, X.1.2.2.2.2 _ hst, trivial⟩ (xS_pre X I) rfl hn hsize hs0 (lv_room hW) hdg ⟨Nat.le_refl _, Nat.le_refl _⟩
end XNEST
theorem q_ladd1 {x : Int64} (h0 : -9223372036854775808 ≤ x.toInt) (h : x.toInt ≤ 9223372036854775806) : (x + 1).toInt = x.toInt + 1 := by
  have h9 : (1 : Int64).toInt = 1 := by decide +kernel
  have h1 := q_ladd (a := x) (b := 1) (by omega) (by omega)
  omega
