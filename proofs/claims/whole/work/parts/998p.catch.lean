/-! a call that throws, caught by the caller -/
section XU
variable {p : Program} {l : Launch} {e : Env} {R : Room} {s : State} {m : MethodId} {args : Array Value} {below : List Frame} {meth : Method} {c : Code} {Q : State → Prop} {H : Heap} {locs : List Loc} {cells slots : Nat}
variable {cc : ByteArray} {pc nL : Nat} {ls : Array Slot} {rest : List Value} {D : va_G} {cl : List vw_C} {tys : List (ClassId × FieldType)} {N : Nat} {ad : Nat → Nat} {σ : Nat → va_E} {Ts : List Cond} {own : String}
variable {y : MethodName} {bytes : ByteArray} {maxL n idx : Nat} {ret : Option FieldType} {ws' : List Cond} {As st0 : List Value} {rm : Room} {C : String}
/-- the world of the law's own methods -/
abbrev uS (D : va_G) (cl : List vw_C) (tys : List (ClassId × FieldType)) (N : Nat) (ad : Nat → Nat) (σ : Nat → va_E) (U : State) : Prop := xS D cl tys N ad σ U ∧ xtOK (xA N ad) U
theorem xtOK.call {A : Nat → Prop} {U : State} {g : JFrame} {mk : MethodId} {a : Array Value} (h : xtOK A U) : xtOK A (U.calling g mk a) := by
  obtain ⟨h1, h2, h3, h4, h5, h6, h7, h8, h9⟩ := h
  exact ⟨fun q hq => by obtain ⟨x, hx⟩ := h1 q hq; exact ⟨x, hx.same rfl⟩, h2.same rfl rfl, h3.same rfl rfl, va_Nw.same rfl rfl h4, va_Nw.same rfl rfl h5, va_Nw.same rfl rfl h6, va_Nw.same rfl rfl h7, va_Nw.same rfl rfl h8, h9⟩
theorem uS_blind : FrameBlind (va_Pc As (uS D cl tys N ad σ)) := fun a U g mk q => by
  obtain ⟨q0, q1, q2⟩ := q
  exact ⟨q0, (xS_blind a U g mk ⟨q0, q1⟩).2, q2.call⟩
/-- who throws pays -/
theorem backT_of {Bs : State → Prop} {ws : List Cond} {Pc : Array Value → State → Prop} (hM : MetT l y ws rm Pc C Bs) (hblind : FrameBlind Pc) (hrc : rm.cells = 1) (hrs : rm.slots = 6)
    (hframes : rm.frames + 1 ≤ R.frames) (hlocals : 8 + (maxL + 11) + rm.locals ≤ R.locals)
    (hws : ∀ w ∈ ws, ∀ a' U, s.WarmedH U.vm → w.before a' U = true) (hcode : Cond.code y bytes maxL ret ∈ ws) (hinit : ∀ a' U, s.WarmedH U.vm → (Cond.initialized y.cls).before a' U = true) :
    Jvm.Free.BackT l R p e below s args y 3 8 (PreOf R 1 6 Pc) (fun A a x B => ∃ (g : JFrame) (mk : MethodId) (t : State), B.U.heap = t.heap ∧ B.U.vm = t.vm ∧ xtQ C Bs xt_none x (A.U.calling g mk a) t ∧ B.locs = A.locs ∧ B.cells = A.cells + 1 ∧ B.slots = A.slots + 6) := by
  refine Jvm.Free.BackT.of_free (S := headSpec ws rm) (P := Pc) (K := fun _ _ _ _ _ => True) (Q := fun _ st o t => ∃ x, o = .threw x ∧ xtQ C Bs xt_none x st t ∧ Jvm.Free.FrameEndT st o t [] 1 6) (bytes := bytes) (maxL := maxL) (ret := ret)
    (E := fun a st o t L k n => L = [] ∧ k = 1 ∧ n = 6) hM hframes hlocals ?_ ?_ (fun _ _ _ _ _ _ _ _ _ => trivial) ?_ ?_
  · intro m meth c A a X hp
    exact ⟨atoms_intro fun w hw => hws w hw _ _ X.warmed, hws _ hcode _ _ X.warmed, hinit _ _ X.warmed, by rw [show (headSpec ws rm).room.cells = 1 from hrc]; exact hp.1, by rw [show (headSpec ws rm).room.slots = 6 from hrs]; exact hp.2.1⟩
  · intro m meth c A a g mk X hp
    exact hblind _ _ _ _ hp.2.2
  · intro a st o t ⟨x, ho, hq, hF⟩
    exact ⟨[], 1, 6, hF, rfl, rfl, rfl⟩
  · intro m meth c A a g mk v t L k n X hp hq hF ⟨e0, e1, e2⟩
    subst e0; subst e1; subst e2
    obtain ⟨x, hx, hq, -⟩ := hq
    cases hx
    exact ⟨g, mk, t, rfl, rfl, hq, by simp, rfl, rfl⟩
/-- an method is called, throws, and a row of the caller's table takes it -/
theorem xu_catch (X : xX p c cc nL s args Ts own m D cl tys) (I : xI D cl N ad s.heap σ s.heap []) (hT : xtOK (xA N ad) s) {b ci NF : Nat} {T : u_T} {fs : List Value} (hb' : b < N) (hσ : σ b = .inr (ci, fs)) (hc : cl[ci]? = some (y.cls, T, NF))
    (hM : MetT l y (Cond.code y bytes maxL ret :: ws') rm (va_Pc (.ref (ad b) :: As) (uS D cl tys N ad σ)) C (xS D cl tys N ad σ)) (hrc : rm.cells = 1) (hrs : rm.slots = 6) (hG : GoodIn Ts (Cond.code y bytes maxL ret :: ws')) (hl : Cond.methodLink own idx y ∈ Ts) (hin : Cond.instanceMethod y ∈ Ts) (hsel : Cond.selects y.cls y y ∈ Ts) (hini : Cond.initialized y.cls ∈ Ts)
    (hd : y.cls ≠ "java/lang/invoke/MethodHandle" ∧ y.cls ≠ "java/lang/invoke/VarHandle" ∧ (parseMethodDescriptor y.desc).map (fun d => d.parameters.length) = some n) (hk : rm.frames + 1 ≤ R.frames ∧ 8 + (maxL + 11) + rm.locals ≤ R.locals ∧ 1 ≤ R.cells ∧ 6 ≤ R.slots) (hn : As.length = n) (hsize : ls.size = nL) (hs0 : st0 = As.reverse ++ .ref (ad b) :: rest) (hW : (rest.map fun v => v.category).sum ≤ 8) (hdg : decode cc pc = .ok (.invokevirtual idx, 3))
    (pre : List ExceptionTableEntry) (x : ExceptionTableEntry) (aft : List ExceptionTableEntry) (hsplit : c.exceptionTable.toList = pre ++ x :: aft) (hpass : ∀ r ∈ pre, r.catchType ≠ 0 ∧ ∃ nm, Cond.classLink own r.catchType nm ∈ Ts ∧ va_Nw (.not (.castable C nm)) s) (hx : covers x pc = true) (h0 : x.catchType ≠ 0) (hlink : Cond.classLink own x.catchType C ∈ Ts)
    (kk : ∀ (a : Nat) (H1 : Heap), xI D cl N ad s.heap σ H1 [] → W p l e R s m args below meth c H1 [] 1 6 Q (F0 m x.handlerPc ls [.ref a])) :
    W p l e R s m args below meth c s.heap [] 0 0 Q (F0 m pc ls st0) := by
  intro T0 hT0 XS
  obtain ⟨⟨hexec, hb, hml, hown, hts⟩, hK, hNs⟩ := X
  obtain ⟨r, h1, cell, q1, q2, q3, q4⟩ := I.1 b _ (xw_get hb' hσ)
  have hr : r = (y.cls, T, NF) := Option.some.inj (h1.symm.trans hc)
  have hcls : s.vm.findClass y.cls = some cell.cls := by
    have h := (hK.1 ci _ hc).2.1
    rw [q2]
    exact h
  have hws : ∀ w ∈ Cond.code y bytes maxL ret :: ws', ∀ (a' : Array Value) (U : State), s.WarmedH U.vm → w.before a' U = true := fun w hw a' U hW9 => word_at hW9 (hG w hw).2 (hts _ (hG w hw).1)
  have hB := backT_of (p := p) (e := e) (below := below) (s := s) (args := args) (R := R) (bytes := bytes) (maxL := maxL) (ret := ret) hM uS_blind hrc hrs hk.1 hk.2.1 hws List.mem_cons_self (fun a' U hW9 => word_at hW9 (Or.inl (by first | rfl | simp [Cond.onTables, Cond.keeps, Cond.steady])) (hts _ hini))
  obtain ⟨mk, methM, hnamed, hmethM, hstM, habM⟩ := Cond.instanceMethod_spec (hts _ hin)
  obtain ⟨methM', cM, hmethM', -, -, -, -, -, -, hsigM⟩ := Cond.code_spec hnamed (hts _ (hG _ List.mem_cons_self).1)
  cases hmethM.symm.trans hmethM'
  obtain ⟨c2, r2, m2, z1, z2, z3, z4, kP, hkP, hkPi⟩ := Cond.selects_spec (hts _ hsel)
  cases hcls.symm.trans z1
  cases (State.methodFound?_of_named hnamed ⟨hd.1, hd.2.1⟩).symm.trans z2
  cases hnamed.symm.trans z3
  have hselP : selectMethod e.platform s.vm cell.cls mk = .method mk := by rw [Launch.admits_selectMethod XS.admits]; exact z4
  have hlen : As.length = methM.sig.parameters.length := by
    have h := hd.2.2
    rw [hsigM] at h
    rw [hn]; exact (Option.some.inj h).symm
  obtain ⟨vm₁, X₁, hstep₁⟩ := XS.invokevirtual hexec hown (hts _ hl) hnamed hmethM hstM hkP hkPi ⟨hd.1, hd.2.1⟩ (a := ad b) (cell := cell) (by rw [hT0]; exact q1)
    (fun z h => by rw [q3] at h; cases h) hselP hmethM habM hkP hkPi (g := F0 m pc ls st0) rfl (argsL := As) (rest := rest) hlen hs0 (by rw [hb]; exact hdg)
  have hhp : (T0.setVm vm₁).heap = s.heap := hT0
  obtain ⟨a, ⟨B, Bl, Bc, Bs⟩, X', ⟨g9, mk9, t, e1, e2, ⟨⟨ce, c1, c2, c3, c4⟩, hBt, hF⟩, e3, e4, e5⟩, hsteps⟩ := hB m meth c ⟨T0.setVm vm₁, [], 0, 0⟩ (F0 m pc ls rest) (.invokevirtual idx) mk (Value.ref (ad b) :: As).toArray X₁ rfl (by show ls.size = _; rw [hml]; exact hsize) (by rw [hb]; exact hdg) (lv_room hW) (X₁.named hnamed)
    ⟨by show 0 + 1 ≤ _; omega, by show 0 + 6 ≤ _; omega, rfl, ⟨by rw [hhp]; exact I.1, va_K.moved X₁.warmed.alike hK, I.2.1, hNs.warm X₁.warmed⟩, hT.warm X₁.warmed (fun q _ _ => by rw [hhp])⟩
  dsimp only [Pt.U, Pt.locs, Pt.cells, Pt.slots] at X' e1 e2 e3 e4 e5 hsteps hF c3 c4
  subst e3; subst e4; subst e5
  have hal : s.vm.Alike vm₁ := X₁.warmed.alike
  have hcT : s.vm.findClass C = some ce.cls := by rw [← hal.findClass]; exact c3
  have hfit : s.vm.assignable ce.cls ce.cls = true := by rw [← hal.assignable]; exact c4
  obtain ⟨hend, hk0⟩ := X'.catches_of_link hown h0 (hts _ hlink) hcT hfit
  have hpl : e.platform.magicAccessors = ({} : Platform).magicAccessors := by rw [XS.admits.platform]
  have hpass' : ∀ r ∈ pre, RowPassed e.platform s m.cls pc ce.cls r := fun r hr9 => by
    obtain ⟨w1, nm, w2, w3⟩ := hpass r hr9
    exact RowPassed.of_words (args := args) hpl hown w1 (hts _ w2) hcT w3
  obtain ⟨vm', XV, st⟩ := X'.thenCaughtThrough a (g := F0 m pc ls rest) rfl hsteps (by rw [e1]; exact c1) c2 hk0 pre x aft hsplit hpass' hx hend
  have hsz : t.heap.size = B.heap.size := by rw [e1]
  have hS : va_S (xA N ad) s.heap t.heap [] := ⟨by have := hF.1; rw [show ((T0.setVm vm₁).calling g9 mk9 (Value.ref (ad b) :: As).toArray).heap = s.heap from hhp] at this; exact this, fun q h1 _ => by
    have := hF.2 q (by rw [show ((T0.setVm vm₁).calling g9 mk9 (Value.ref (ad b) :: As).toArray).heap = s.heap from hhp]; exact h1) (fun z => z)
    rw [show ((T0.setVm vm₁).calling g9 mk9 (Value.ref (ad b) :: As).toArray).heap = s.heap from hhp] at this
    exact this, fun q hq => by cases hq⟩
  obtain ⟨tt, a1, b1⟩ := kk a t.heap ⟨hBt.1, hBt.2.2.1, hS⟩ (B.setVm vm') e1 XV
  exact ⟨tt, hstep₁ _ fun acts => by rw [doInvoke_state]; exact st.trans a1, b1⟩
end XU
