/-! calls that write nothing, in a method that may throw -/
section XT2
variable {p : Program} {l : Launch} {e : Env} {R : Room} {s : State} {m : MethodId} {args : Array Value} {below : List Frame} {meth : Method} {c : Code} {Q : State → Prop}
variable {cc : ByteArray} {pc nL : Nat} {ls : Array Slot} {rest : List Value} {D : va_G} {cl : List vw_C} {tys : List (ClassId × FieldType)} {N : Nat} {ad : Nat → Nat} {σ : Nat → va_E} {Ts : List Cond} {own : String}
variable {y : MethodName} {bytes : ByteArray} {maxL n idx kc : Nat} {ret : Option FieldType} {ws' : List Cond} {As st0 : List Value} {Qc : Array Value → State → Outcome → State → Prop} {free : Addr → Prop}
theorem xr_zret0 (X : xX p c cc nL s args Ts own m D cl tys) (I : xI D cl N ad s.heap σ s.heap []) {post : Int32 → (Nat → va_E) → Prop} {v : Int32} {ty : FieldType} (hr : meth.sig.returnType = some ty) (hlk : meth.locks = false) (hn : narrow ty (.int v) = .int v) (hp : post v σ) (hdg : decode cc pc = .ok (.ireturn, 1)) :
    W p l e R s m args below meth c s.heap [] 0 0 (MQ below (va_Qi post (xS D cl tys N ad) xt_none) args s 0 0 xt_none) (F0 m pc ls [.int v]) :=
  W.zret X.1.1 X.1.2.1 hr hn (fun t ht hW => ⟨⟨v, σ, rfl, hp, by rw [ht]; exact I.1, va_K.moved hW.alike X.2.1, I.2.1, X.2.2.warm hW⟩, by rw [ht]; exact Nat.le_refl _, fun q _ _ => by rw [ht]⟩) (fun q hq => by cases hq) hdg hlk
theorem xt_calli0 {post : Int32 → (Nat → va_E) → Prop} {a : Array Value} (hr : va_Run p l e R s m args below meth c s.heap [] 0 0 0 0 (F0 m pc ls st0) rest (va_Qi post (xS D cl tys N ad) xt_none a) xt_none)
    (kk : ∀ (r : Int32) (σ' : Nat → va_E), post r σ' → W p l e R s m args below meth c s.heap [] 0 0 Q (F0 m (pc + 3) ls (.int r :: rest))) : W p l e R s m args below meth c s.heap [] 0 0 Q (F0 m pc ls st0) := by
  intro T hT X
  obtain ⟨v, st₀, t, T', L, e1, X', hL, e2, e3, ⟨⟨r, u, hv, hp, hB⟩, hF⟩, hgo⟩ := hr T hT X
  cases hv
  have hnil : L = [] := List.eq_nil_iff_forall_not_mem.mpr fun q hq => hL q hq
  subst hnil
  have hsz : T'.heap.size ≤ s.heap.size := X'.heapSize
  have hh : T'.heap = s.heap := by
    have h0 : s.heap.size ≤ T'.heap.size := by rw [e2, ← e1]; exact hF.1
    apply Array.ext_getElem?
    intro q
    rcases Nat.lt_or_ge q s.heap.size with h | h
    · rw [e2, hF.2 q (by rw [e1]; exact h) (fun z => z), e1]
    · rw [Array.getElem?_eq_none h, Array.getElem?_eq_none (by omega)]
  obtain ⟨tt, a1, b1⟩ := kk r u hp T' hh X'
  exact ⟨tt, hgo tt a1, b1⟩
theorem xt_runS (X : xX p c cc nL s args Ts own m D cl tys) (I : xI D cl N ad s.heap σ s.heap []) (hM : Met l y (Cond.code y bytes maxL ret :: ws') (xrm kc) (va_Pc As (xS D cl tys N ad σ)) Qc 0 0 free) (hG : GoodIn Ts (Cond.code y bytes maxL ret :: ws')) (hl : Cond.methodLink own idx y ∈ Ts) (hst : Cond.static y ∈ Ts) (hini : Cond.initialized y.cls ∈ Ts)
    (hd : y.cls ≠ "java/lang/invoke/MethodHandle" ∧ y.cls ≠ "java/lang/invoke/VarHandle" ∧ (parseMethodDescriptor y.desc).map (fun d => d.parameters.length) = some n) (hk : kc + 1 ≤ R.frames ∧ 8 + (maxL + 11) + 64 * kc ≤ R.locals) (hn : As.length = n) (hsize : ls.size = nL) (hs0 : st0 = As.reverse ++ rest) (hW : (rest.map fun v => v.category).sum ≤ 8) (hdg : decode cc pc = .ok (.invokestatic idx, 3)) :
    va_Run p l e R s m args below meth c s.heap [] 0 0 0 0 (F0 m pc ls st0) rest (Qc As.toArray) free :=
  va_runS X.1 hM ⟨callB_of n X.1.2.2.2.2 hG rfl rfl rfl (X.1.2.2.2.2 _ hini) (X.1.2.2.2.2 _ hl) hd hk, X.1.2.2.2.2 _ hst⟩ (xS_pre X I) rfl hn hsize hs0 (lv_room hW) hdg ⟨Nat.zero_le _, Nat.zero_le _⟩
theorem xt_runV (X : xX p c cc nL s args Ts own m D cl tys) (I : xI D cl N ad s.heap σ s.heap []) {b ci NF : Nat} {T : u_T} {fs : List Value} (hb' : b < N) (hσ : σ b = .inr (ci, fs)) (hc : cl[ci]? = some (y.cls, T, NF)) (hM : Met l y (Cond.code y bytes maxL ret :: ws') (xrm kc) (va_Pc (.ref (ad b) :: As) (xS D cl tys N ad σ)) Qc 0 0 free) (hG : GoodIn Ts (Cond.code y bytes maxL ret :: ws')) (hl : Cond.methodLink own idx y ∈ Ts) (hin : Cond.instanceMethod y ∈ Ts) (hsel : Cond.selects y.cls y y ∈ Ts) (hini : Cond.initialized y.cls ∈ Ts)
    (hd : y.cls ≠ "java/lang/invoke/MethodHandle" ∧ y.cls ≠ "java/lang/invoke/VarHandle" ∧ (parseMethodDescriptor y.desc).map (fun d => d.parameters.length) = some n) (hk : kc + 1 ≤ R.frames ∧ 8 + (maxL + 11) + 64 * kc ≤ R.locals) (hn : As.length = n) (hsize : ls.size = nL) (hs0 : st0 = As.reverse ++ .ref (ad b) :: rest) (hW : (rest.map fun v => v.category).sum ≤ 8) (hdg : decode cc pc = .ok (.invokevirtual idx, 3)) :
    va_Run p l e R s m args below meth c s.heap [] 0 0 0 0 (F0 m pc ls st0) rest (Qc (Value.ref (ad b) :: As).toArray) free := by
  obtain ⟨r, h1, cell, q1, q2, q3, q4⟩ := I.1 b _ (xw_get hb' hσ)
  have hr : r = (y.cls, T, NF) := Option.some.inj (h1.symm.trans hc)
  have hcls : s.vm.findClass y.cls = some cell.cls := by
    have h := (X.2.1.1 ci _ hc).2.1
    rw [q2]
    exact h
  have hP := xS_pre (As := .ref (ad b) :: As) X I
  exact va_runV X.1 hM ⟨callB_of n X.1.2.2.2.2 hG rfl rfl rfl (X.1.2.2.2.2 _ hini) (X.1.2.2.2.2 _ hl) hd hk, X.1.2.2.2.2 _ hin, X.1.2.2.2.2 _ hsel⟩ ⟨hP.1, ⟨cell, q1, by rw [q3]; rfl, hcls⟩, hP.2⟩ rfl hn hsize hs0 (lv_room hW) hdg ⟨Nat.zero_le _, Nat.zero_le _⟩
end XT2
