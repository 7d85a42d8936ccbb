/-! the law's own methods -/
abbrev uR : Room := { frames := 9, cells := 1, slots := 6, locals := 576 }
section XV
variable {p : Program} {l : Launch} {e : Env} {R : Room} {s : State} {m : MethodId} {args : Array Value} {below : List Frame} {meth : Method} {c : Code} {H : Heap} {locs : List Loc} {cells slots : Nat}
variable {cc : ByteArray} {pc nL : Nat} {ls : Array Slot} {D : va_G} {cl : List vw_C} {tys : List (ClassId × FieldType)} {N : Nat} {ad : Nat → Nat} {σ : Nat → va_E} {Ts : List Cond} {own : String}
theorem xu_met {y : MethodName} {ws' : List Cond} {rm : Room} {Qc : Array Value → State → Outcome → State → Prop} {mc ms : Nat} {free : Addr → Prop} {maxL : Nat} {ret : Option FieldType} {hh : List (Nat × Nat × Nat × Nat)} {avs : List Value}
    (hy : plainName y.cls = true) (hlen : (lg_sl avs).length ≤ maxL)
    (body : ∀ (p : Program) (e : Env) (s : State) (m : MethodId) (args : Array Value) (below : List Frame) (meth : Method) (c : Code) (ls : Array Slot), p.tables.exec = Jvm.exec → c.code = cc → xX p c cc maxL s args (Cond.codeWith y cc maxL ret hh :: ws') y.cls m D cl tys → meth.sig.returnType = ret → meth.locks = false → c.exceptionTable.toList = tableOf hh → xtOK (xA N ad) s → lv_has ls maxL (lv_args 0 avs) → xI D cl N ad s.heap σ s.heap [] →
      W p l e rm s m args below meth c s.heap [] 0 0 (MQ below Qc args s mc ms free) (F0 m 0 ls [])) : Met l y (Cond.codeWith y cc maxL ret hh :: ws') rm (va_Pc avs (uS D cl tys N ad σ)) Qc mc ms free := by
  refine va_MetW (cc := cc) (maxL := maxL) (ret := ret) (hh := hh) hy rfl ?_
  intro p e s m args below meth c s₁ B hml hv
  obtain ⟨rfl, ⟨hP, hK, hD, hNs⟩, hT⟩ := hv
  have hw := atoms_spec (ws := Cond.codeWith y cc maxL ret hh :: ws') B.pre
  obtain ⟨m9, meth9, c9, n1, n2, n3, -, -, n4, -⟩ := Cond.codeWith_spec (hw _ List.mem_cons_self)
  cases B.named.symm.trans n1
  cases B.method.symm.trans n2
  cases (Stand.of_body B).code.symm.trans n3
  rw [lg_entry_eq]
  exact body p e s m _ below meth c _ B.exec B.bytes ⟨⟨B.exec, B.bytes, hml, findClass_of_methodNamed B.named, hw⟩, hK, hNs⟩ B.returns B.notSynchronized (by rw [← n4]; exact (table_eq _).symm) hT (lv_entry avs hlen) ⟨hP, hD, va_S.rf⟩
theorem xu_iret {v : Int32} {post : Int32 → (Nat → va_E) → Prop} (X : xX p c cc nL s args Ts own m D cl tys) (I : xI D cl N ad s.heap σ H locs) (hT : xtOK (xA N ad) s) (hr : meth.sig.returnType = some .int) (hlk : meth.locks = false) (hc : cells ≤ 1) (hs : slots ≤ 6) (hp : post v σ) (hdg : decode cc pc = .ok (.ireturn, 1)) :
    W p l e R s m args below meth c H locs cells slots (MQ below (va_Qi post (uS D cl tys N ad) (xA N ad)) args s 1 6 (xA N ad)) (F0 m pc ls [.int v]) :=
  W.widen hc hs (W.iret X.1.1 X.1.2.1 hr (fun _ ht hW => ⟨⟨v, σ, rfl, hp, ⟨by rw [ht]; exact I.1, va_K.moved hW.alike X.2.1, I.2.1, X.2.2.warm hW⟩, hT.warm hW (by rw [ht]; exact I.2.2.2.1)⟩, I.2.2.F ht⟩) I.2.2.2.2 hdg hlk)
end XV
