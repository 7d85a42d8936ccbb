/-! methods that throw -/
abbrev xt_none : Nat → Prop := fun _ => False
/-- the texts of the desk's exceptions -/
def xt_strs : List (Nat × String) := [(49, "a matrix has 1 to 6 rows"), (69, "no such row or column"), (78, "the number is too large"), (116, "no such first rows and columns"), (118, "no such way to count"), (120, "the bottom of a fraction is above 0"), (136, "no such eigenvalue"), (138, "no such grid")]
abbrev xt_A : String := "java/lang/IllegalArgumentException"
abbrev xt_I : String := "java/lang/IndexOutOfBoundsException"
abbrev xt_up : List String := ["java/lang/RuntimeException", "java/lang/Exception"]
/-- a static of Throwable that nobody writes -/
def xtZ (C n d : String) (A : Nat → Prop) (U : State) : Prop := ∃ (c : ClassId) (k : Class) (i : Nat) (f : Field) (a : Nat) (cell : Cell), U.vm.findClass C = some c ∧ U.fieldFound? C n d = some (c, k, i, f) ∧ f.isStatic = true ∧ k.statics = some a ∧ U.heap[a]? = some cell ∧ cell.vm.isStatics = true ∧ cell.cls = c ∧ f.slot < cell.slots.size ∧ k.staticTypes[f.slot]? = some f.type ∧ (cell.slots[f.slot]? = some .null ∨ ∃ t, cell.slots[f.slot]? = some (.ref t)) ∧ ¬ A a
theorem xtZ.warm {C n d : String} {A : Nat → Prop} {s U : State} (hW : s.WarmedH U.vm) (hk : ∀ q : Nat, q < s.heap.size → ¬ A q → U.heap[q]? = s.heap[q]?) (h : xtZ C n d A s) : xtZ C n d A U := by
  obtain ⟨c, k, i, f, a, cell, hc, hi, hst, ha, hcell, hs, hcls, hlt, hty, hv, hA⟩ := h
  obtain ⟨k', hi', hek⟩ := State.fieldFound?_setVm hW.alike hi
  exact ⟨c, k', i, f, a, cell, by rw [hW.alike.findClass]; exact hc, hi', hst, by rw [hek]; exact ha, by rw [hk a (Array.getElem?_eq_some_iff.mp hcell).1 hA]; exact hcell, hs, hcls, hlt, by rw [hek]; exact hty, hv, hA⟩
theorem xtZ.same {C n d : String} {A : Nat → Prop} {s U : State} (hv : s.vm = U.vm) (hk : U.heap = s.heap) (h : xtZ C n d A s) : xtZ C n d A U := by
  obtain ⟨c, k, i, f, a, cell, hc, hi, hst, ha, hcell, hs, hcls, hlt, hty, hv9, hA⟩ := h
  exact ⟨c, k, i, f, a, cell, by rw [← hv]; exact hc, by rw [← hi]; simp only [State.fieldFound?, hv], hst, ha, by rw [hk]; exact hcell, hs, hcls, hlt, hty, hv9, hA⟩
theorem xtZ.lays {C n d : String} {A : Nat → Prop} {U : State} {args : Array Value} (h : xtZ C n d A U) : (Cond.laysStatic C n d).before args U = true := by
  obtain ⟨c, k, i, f, a, cell, hc, hi, hst, ha, hcell, hs, hcls, hlt, hty, hv, hA⟩ := h
  exact Cond.laysStatic_of hc hi hst ha hcell hs hcls hlt hty
theorem xtZ.isRef {C n d : String} {A : Nat → Prop} {U : State} {args : Array Value} (h : xtZ C n d A U) : (Cond.isRef (.static C n d)).before args U = true := by
  obtain ⟨c, k, i, f, a, cell, hc, hi, hst, ha, hcell, hs, hcls, hlt, hty, hv | ⟨t, hv⟩, hA⟩ := h <;>
    simp [Cond.before, Cond.holds, Cond.value, Term.eval, State.fieldNamed?, hi, hst, ha, hcell, hs, hv]
theorem xtZ.of {C n d : String} {A : Nat → Prop} {U : State} {args : Array Value} (h1 : (Cond.laysStatic C n d).before args U = true) (h2 : (Cond.isRef (.static C n d)).before args U = true) (hA : ∀ a : Nat, a < U.heap.size → ¬ A a) : xtZ C n d A U := by
  obtain ⟨c, k, i, f, a, cell, hc, hi, hst, ha, hcell, hs, hcls, hlt, hty⟩ := Cond.laysStatic_spec h1
  refine ⟨c, k, i, f, a, cell, hc, hi, hst, ha, hcell, hs, hcls, hlt, hty, ?_, hA a (Array.getElem?_eq_some_iff.mp hcell).1⟩
  cases hv : cell.slots[f.slot]? with
  | none => simp [Cond.before, Cond.holds, Cond.value, Term.eval, State.fieldNamed?, hi, hst, ha, hcell, hs, hv] at h2
  | some v => cases v <;> simp [Cond.before, Cond.holds, Cond.value, Term.eval, State.fieldNamed?, hi, hst, ha, hcell, hs, hv] at h2 ⊢
theorem xt_warmN {C T : String} {s U : State} (hW : s.WarmedH U.vm) (hZ : va_Nw (.not (.castable C T)) s) : va_Nw (.not (.castable C T)) U := by
  have h := Cond.holds_not_iff.mp hZ
  refine Cond.holds_not_iff.mpr ?_
  simp only [Cond.value] at h ⊢
  rw [hW.alike.findClass, hW.alike.findClass]
  simp only [hW.alike.assignable]
  exact h
/-- the words of the throwing methods that aren't on the tables alone -/
def xt_ex : List Cond := [.laysStatic Bundle.tN "UNASSIGNED_STACK" Bundle.steD, .laysStatic Bundle.tN "SUPPRESSED_SENTINEL" Bundle.listD, .isRef (.static Bundle.tN "UNASSIGNED_STACK" Bundle.steD), .isRef (.static Bundle.tN "SUPPRESSED_SENTINEL" Bundle.listD), .declares (Bundle.initS "java/lang/RuntimeException"), .declares (Bundle.initS "java/lang/Exception"), .declares (Bundle.initS Bundle.tN), .castable xt_A xt_A, .castable xt_I xt_I]
def xtOK (A : Nat → Prop) (U : State) : Prop := (∀ q ∈ xt_strs, ∃ a, vk_R "SpectrumDesk" q.1 q.2 a U) ∧ xtZ Bundle.tN "UNASSIGNED_STACK" Bundle.steD A U ∧ xtZ Bundle.tN "SUPPRESSED_SENTINEL" Bundle.listD A U ∧ va_Nw (.declares (Bundle.initS "java/lang/RuntimeException")) U ∧ va_Nw (.declares (Bundle.initS "java/lang/Exception")) U ∧ va_Nw (.declares (Bundle.initS Bundle.tN)) U ∧ va_Nw (.castable xt_A xt_A) U ∧ va_Nw (.castable xt_I xt_I) U ∧ va_Nw (.not (.castable xt_A xt_I)) U
theorem xtOK.warm {A : Nat → Prop} {s U : State} (hW : s.WarmedH U.vm) (hk : ∀ q : Nat, q < s.heap.size → ¬ A q → U.heap[q]? = s.heap[q]?) (h : xtOK A s) : xtOK A U := by
  obtain ⟨a, b, c, d, e, f, g, i, j⟩ := h
  exact ⟨fun q hq => by obtain ⟨x, hx⟩ := a q hq; exact ⟨x, hx.warm hW⟩, b.warm hW hk, c.warm hW hk, va_Nw.warmD hW d, va_Nw.warmD hW e, va_Nw.warmD hW f, va_Nw.warmC hW g, va_Nw.warmC hW i, xt_warmN hW j⟩
theorem xtOK.atom {A : Nat → Prop} {U : State} {args : Array Value} (h : xtOK A U) : ∀ a ∈ xt_ex, a.before args U = true := by
  obtain ⟨-, b, c, d, e, f, g, i, -⟩ := h
  intro a ha
  simp only [xt_ex, List.mem_cons, List.not_mem_nil, or_false] at ha
  rcases ha with rfl | rfl | rfl | rfl | rfl | rfl | rfl | rfl | rfl
  · exact b.lays
  · exact c.lays
  · exact b.isRef
  · exact c.isRef
  · exact va_Nw.use rfl d
  · exact va_Nw.use rfl e
  · exact va_Nw.use rfl f
  · exact va_Nw.use rfl g
  · exact va_Nw.use rfl i
theorem xt_inA : ∀ a ∈ Bundle.ownAtoms "SpectrumDesk" 51 xt_A xt_up, a ∈ AW ∨ a ∈ xt_ex := by decide +kernel
theorem xt_inI : ∀ a ∈ Bundle.ownAtoms "SpectrumDesk" 71 xt_I xt_up, a ∈ AW ∨ a ∈ xt_ex := by decide +kernel
/-- the end of a method that throws -/
def xtQ (C : String) (B : State → Prop) (A : Nat → Prop) : Addr → State → State → Prop := fun a st t => (∃ cell : Cell, t.heap[a]? = some cell ∧ cell.vm.isStatics = false ∧ st.vm.findClass C = some cell.cls ∧ st.vm.assignable cell.cls cell.cls = true) ∧ B t ∧ va_F A st t
def MetT (l : Launch) (y : MethodName) (ws : List Cond) (rm : Room) (Pc : Array Value → State → Prop) (C : String) (B : State → Prop) : Prop :=
  MetFree l y (headSpec ws rm) Pc (fun _ _ _ _ _ => True) (fun _ st o t => ∃ x, o = .threw x ∧ xtQ C B xt_none x st t ∧ Jvm.Free.FrameEndT st o t [] 1 6)
def TQ (below : List Frame) (C : String) (B : State → Prop) (s : State) : State → Prop := fun t => ∃ x, t.status = .running ∧ Ended t below (.threw x) ∧ xtQ C B xt_none x s t ∧ Jvm.Free.FrameEndT s (.threw x) t [] 1 6
abbrev xt_rm : Room := { frames := 7, cells := 1, slots := 6, locals := 448 }
section XT
variable {p : Program} {l : Launch} {e : Env} {R : Room} {s : State} {m : MethodId} {args : Array Value} {below : List Frame} {meth : Method} {c : Code} {Q : State → Prop}
variable {cc : ByteArray} {pc nL : Nat} {ls : Array Slot} {rest : List Value} {D : va_G} {cl : List vw_C} {tys : List (ClassId × FieldType)} {N : Nat} {ad : Nat → Nat} {σ : Nat → va_E} {Ts : List Cond} {own : String}
theorem xt_met {y : MethodName} {ws' : List Cond} {rm : Room} {C : String} {B : State → Prop} {maxL : Nat} {ret : Option FieldType} {avs : List Value} {A : Nat → Prop}
    (hy : plainName y.cls = true) (hlen : (lg_sl avs).length ≤ maxL)
    (body : ∀ (p : Program) (e : Env) (s : State) (m : MethodId) (args : Array Value) (below : List Frame) (meth : Method) (c : Code) (ls : Array Slot), p.tables.exec = Jvm.exec → c.code = cc → xX p c cc maxL s args (Cond.code y cc maxL ret :: ws') y.cls m D cl tys → meth.locks = false → c.exceptionTable.isEmpty = true → xtOK A s → lv_has ls maxL (lv_args 0 avs) → xI D cl N ad s.heap σ s.heap [] →
      W p l e rm s m args below meth c s.heap [] 0 0 (TQ below C B s) (F0 m 0 ls [])) : MetT l y (Cond.code y cc maxL ret :: ws') rm (va_Pc avs (fun U => xS D cl tys N ad σ U ∧ xtOK A U)) C B := by
  refine MetFree.of_bodyS (code := cc) (maxLocals := maxL) (ret := ret) hy ?_ ?_
  · intro args s m h hn
    obtain ⟨meth, c, h1, h2, h3, h4, h5, h6, -, -⟩ := Cond.code_spec hn (atoms_spec (ws := Cond.code y cc maxL ret :: ws') h _ List.mem_cons_self)
    exact ⟨meth, c, h1, h2, h3, h4, h5, h6⟩
  · intro p e s m args below meth c s₁ B9 hml hv _
    obtain ⟨rfl, ⟨hP, hK, hD, hNs⟩, hT⟩ := hv
    have hh0 : s₁.heap = s.heap := by rw [B9.state]; rfl
    have hno := B9.noHandlers (atoms_spec (ws := Cond.code y cc maxL ret :: ws') B9.pre _ List.mem_cons_self)
    have k := body p e s m _ below meth c _ B9.exec B9.bytes ⟨⟨B9.exec, B9.bytes, hml, findClass_of_methodNamed B9.named, atoms_spec (ws := Cond.code y cc maxL ret :: ws') B9.pre⟩, hK, hNs⟩ B9.notSynchronized hno hT (lv_entry avs hlen) ⟨hP, hD, va_S.rf⟩
    obtain ⟨t, a1, x, b1, b2, b3, b4⟩ := k s₁ hh0 (Stand.of_body B9)
    rw [lg_entry_eq]
    exact ⟨t, .threw x, a1, b1, b2, x, rfl, b3, b4⟩
/-- new, dup, ldc, invokespecial, athrow -/
theorem xt_throw (hfl : l.flags = Jvm.pinnedFlags ++ [Jvm.noTraceFlag]) {A : Nat → Prop} (X : xX p c cc nL s args Ts "SpectrumDesk" m D cl tys) (I : xI D cl N ad s.heap σ s.heap []) (hT : xtOK A s) (hno : c.exceptionTable.isEmpty = true) (hlk : meth.locks = false) {C : String} {names : List String} {ic icl k : Nat} {tx : String}
    (hC : Bundle.fit C = true) (hnm : ∀ n ∈ names, Bundle.fit n = true) (hst : (k, tx) ∈ xt_strs) (hcl : Cond.classLink "SpectrumDesk" icl C ∈ Ts) (hins : Cond.instantiable C 6 ∈ Ts) (hini : Cond.initialized C ∈ Ts)
    (hat : ∀ a ∈ Bundle.ownAtoms "SpectrumDesk" ic C names, a ∈ AW ∨ a ∈ xt_ex) (hAW : ∀ w ∈ AW, w ∈ Ts)
    (hls : ls.size = nL) (d0 : decode cc pc = .ok (.new icl, 3)) (d1 : decode cc (pc + 3) = .ok (.dup, 1)) (d2 : decode cc (pc + 4) = .ok (.ldc k, 2)) (d3 : decode cc (pc + 6) = .ok (.invokespecial ic, 3)) (d4 : decode cc (pc + 9) = .ok (.athrow, 1))
    (hR : 1 ≤ R.cells ∧ 6 ≤ R.slots ∧ names.length + 3 < R.frames ∧ 1 + (13 * (names.length + 1) + 42) ≤ R.locals) :
    W p l e R s m args below meth c s.heap [] 0 0 (TQ below C (xS D cl tys N ad σ) s) (F0 m pc ls []) := by
  intro T hTh XS
  obtain ⟨⟨hexec, hb, hml, hown, hts⟩, hK, hNs⟩ := X
  have htr : e.platform.stackTraces = false := Jvm.D.Launch.traces_off hfl XS.admits
  obtain ⟨vm₁, cX, kX, hfX, hkX, -, -, X₁, st1⟩ := XS.newCold hexec (own := "SpectrumDesk") (C := C) (index := icl) (n := 6) hown (hts _ hcl) (hts _ hins) (hts _ hini) (g := F0 m pc ls []) rfl (by rw [hb]; exact d0) (by omega) (by omega)
  generalize hT1 : (T.setVm vm₁).pushCell { cls := cX, slots := kX.instanceTypes.map defaultValue, vm := .none } = T1 at X₁ st1
  have hcellA : T1.heap[T.heap.size]? = some (freshCell cX kX) := by rw [← hT1]; exact State.heap_pushCell_size _ _
  obtain ⟨sa, hcon, hev⟩ := hT.1 _ hst
  obtain ⟨U, hsteps, hrun, hend, hW, hsame, ce, hce, K⟩ := X₁.ctorThrowS hexec htr (own := "SpectrumDesk") (cls := C) (names := names) (ic := ic) hown hC hnm
    (fun y hy => by
      rcases hat y hy with h | h
      · exact hts _ (hAW _ h)
      · exact hT.atom y h)
    (fun y hy => by cases hy) hfX hkX hcellA (by rw [hTh]; exact Nat.le_refl _) (msg := .ref sa) rfl
    (g := F0 m (pc + 6) ls [.ref sa, .ref T.heap.size, .ref T.heap.size]) rfl (by rw [hml]; exact hls) rfl rfl (rest := []) rfl
    (by rw [hb]; exact d3) (by rw [hb]; exact d4) (covers_of_empty hno _) hR.2.2.1 (by show 2 * 0 + _ + _ ≤ _; simp only [List.map, Value.category, List.sum_cons, List.sum_nil]; omega) hlk
  have old : ∀ q : Nat, q < s.heap.size → U.heap[q]? = s.heap[q]? := fun q hq => by
    have h := Array.getElem?_eq_getElem hq
    rw [h]
    exact hsame.kept_nil h
  refine ⟨U, ?_, T.heap.size, hrun, hend, ⟨⟨ce, hce, ?_, K.cls, K.self⟩, ⟨?_, va_K.moved hW.alike hK, I.2.1, hNs.warm hW⟩, hsame.2.1, fun q hq _ => old q hq⟩, ⟨_, rfl⟩, hW, ?_⟩
  · refine st1 _ ?_
    show Steps p.tables e below (T1.setTop (F0 m (pc + 3) ls [.ref T.heap.size])) _
    jvm_step X₁.here [X₁.here.top, hexec, hb, d1, Value.category]
    exact X₁.ldcString hexec (own := "SpectrumDesk") (text := tx) (index := k) (a := sa) hown hcon hev (g := F0 m (pc + 4) ls [.ref T.heap.size, .ref T.heap.size]) rfl (by rw [hb]; exact d2) _ hsteps
  · rw [K.vm]; rfl
  · intro j q hq
    exact (I.1 j q hq).kept (old _ (I.1 j q hq).lt)
  · exact hsame.mono (Nat.le_refl _) (Nat.le_refl _)
end XT
