/-! rooms by depth; words by one list -/
abbrev xrm (k : Nat) : Room := { frames := k, cells := 0, slots := 0, locals := 64 * k }
abbrev xT (cI cJ cZ cC cG cP : ClassId) : List (ClassId × FieldType) := [(cI, .int), (cJ, .long), (cZ, .boolean), (cC, .char), (cG, .array .int), (cP, .object "SpectrumDesk$Polynomial")]
theorem va_up_same {α : Type} {f : Nat → α} {k : Nat} {v : α} (h : f k = v) : va_up f k v = f := by
  funext j
  simp only [va_up]
  split
  · next e => rw [e, h]
  · rfl
section XCALL
variable {p : Program} {l : Launch} {e : Env} {s : State} {m : MethodId} {args : Array Value} {below : List Frame} {meth : Method} {c : Code} {H : Heap} {locs : List Loc} {Q : State → Prop}
variable {cc : ByteArray} {pc nL : Nat} {ls : Array Slot} {rest : List Value} {D : va_G} {cl : List vw_C} {tys : List (ClassId × FieldType)} {H0 : Heap} {N : Nat} {ad : Nat → Nat} {σ : Nat → va_E} {Ts : List Cond} {own : String}
variable {y : MethodName} {bytes : ByteArray} {maxL kc kr n idx : Nat} {ret : Option FieldType} {ws' : List Cond} {As st0 : List Value} {Qc : Array Value → State → Outcome → State → Prop} {free : Addr → Prop}
/-- a call of a static method -/
theorem xr_runS (X : xX p c cc nL s args Ts own m D cl tys) (I : xI D cl N ad H0 σ H locs) (hM : Met l y (Cond.code y bytes maxL ret :: ws') (xrm kc) (va_Pc As (xS D cl tys N ad σ)) Qc 0 0 free) (hG : GoodIn Ts (Cond.code y bytes maxL ret :: ws')) (hl : Cond.methodLink own idx y ∈ Ts) (hst : Cond.static y ∈ Ts) (hini : Cond.initialized y.cls ∈ Ts)
    (hd : y.cls ≠ "java/lang/invoke/MethodHandle" ∧ y.cls ≠ "java/lang/invoke/VarHandle" ∧ (parseMethodDescriptor y.desc).map (fun d => d.parameters.length) = some n) (hk : kc + 1 ≤ kr ∧ 8 + (maxL + 11) + 64 * kc ≤ 64 * kr) (hn : As.length = n) (hsize : ls.size = nL) (hs0 : st0 = As.reverse ++ rest) (hW : (rest.map fun v => v.category).sum ≤ 8) (hdg : decode cc pc = .ok (.invokestatic idx, 3)) :
    va_Run p l e (xrm kr) s m args below meth c H locs 0 0 0 0 (F0 m pc ls st0) rest (Qc As.toArray) free :=
  va_runS X.1 hM ⟨callB_of n X.1.2.2.2.2 hG rfl rfl rfl (X.1.2.2.2.2 _ hini) (X.1.2.2.2.2 _ hl) hd hk, X.1.2.2.2.2 _ hst⟩ (xS_pre X I) rfl hn hsize hs0 (lv_room hW) hdg ⟨Nat.le_refl _, Nat.le_refl _⟩
/-- a call of an method of the desk C, on the cell b -/
theorem xr_runV (X : xX p c cc nL s args Ts own m D cl tys) (I : xI D cl N ad H0 σ H locs) {b ci NF : Nat} {T : u_T} {fs : List Value} (hb' : b < N) (hσ : σ b = .inr (ci, fs)) (hc : cl[ci]? = some (y.cls, T, NF)) (hM : Met l y (Cond.code y bytes maxL ret :: ws') (xrm kc) (va_Pc (.ref (ad b) :: As) (xS D cl tys N ad σ)) Qc 0 0 free) (hG : GoodIn Ts (Cond.code y bytes maxL ret :: ws')) (hl : Cond.methodLink own idx y ∈ Ts) (hin : Cond.instanceMethod y ∈ Ts) (hsel : Cond.selects y.cls y y ∈ Ts) (hini : Cond.initialized y.cls ∈ Ts)
    (hd : y.cls ≠ "java/lang/invoke/MethodHandle" ∧ y.cls ≠ "java/lang/invoke/VarHandle" ∧ (parseMethodDescriptor y.desc).map (fun d => d.parameters.length) = some n) (hk : kc + 1 ≤ kr ∧ 8 + (maxL + 11) + 64 * kc ≤ 64 * kr) (hn : As.length = n) (hsize : ls.size = nL) (hs0 : st0 = As.reverse ++ .ref (ad b) :: rest) (hW : (rest.map fun v => v.category).sum ≤ 8) (hdg : decode cc pc = .ok (.invokevirtual idx, 3)) :
    va_Run p l e (xrm kr) s m args below meth c H locs 0 0 0 0 (F0 m pc ls st0) rest (Qc (Value.ref (ad b) :: As).toArray) free := by
  obtain ⟨r, h1, cell, q1, q2, q3, q4⟩ := I.1 b _ (xw_get hb' hσ)
  have hr : r = (y.cls, T, NF) := Option.some.inj (h1.symm.trans hc)
  have hcls : s.vm.findClass y.cls = some cell.cls := by
    have h := (X.2.1.1 ci _ hc).2.1
    rw [q2]
    exact h
  have hP := xS_pre (As := .ref (ad b) :: As) X I
  exact va_runV X.1 hM ⟨callB_of n X.1.2.2.2.2 hG rfl rfl rfl (X.1.2.2.2.2 _ hini) (X.1.2.2.2.2 _ hl) hd hk, X.1.2.2.2.2 _ hin, X.1.2.2.2.2 _ hsel⟩ ⟨hP.1, ⟨cell, q1, by rw [q3]; rfl, hcls⟩, hP.2⟩ rfl hn hsize hs0 (lv_room hW) hdg ⟨Nat.le_refl _, Nat.le_refl _⟩
end XCALL
