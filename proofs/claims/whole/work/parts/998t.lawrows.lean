/-! calls in the law's own body: the world's cells are all new, so nothing old is written -/
section XL
variable {p : Program} {l : Launch} {e : Env} {R : Room} {s : State} {m : MethodId} {args : Array Value} {below : List Frame} {meth : Method} {c : Code} {Q : State → Prop} {H : Heap} {locs : List Loc} {cells slots : Nat}
variable {cc : ByteArray} {pc nL : Nat} {ls : Array Slot} {rest : List Value} {D : va_G} {cl : List vw_C} {tys : List (ClassId × FieldType)} {N : Nat} {ad : Nat → Nat} {σ : Nat → va_E} {Ts : List Cond} {own : String}
variable {y : MethodName} {bytes : ByteArray} {maxL n idx kc : Nat} {ret : Option FieldType} {ws' : List Cond} {As st0 : List Value} {Qc : Array Value → State → Outcome → State → Prop} {free : Addr → Prop} {rm : Room} {hh : List (Nat × Nat × Nat × Nat)}
theorem xq_forget (hz : ∀ k, s.heap.size ≤ ad k) (I : xI D cl N ad s.heap σ H locs) {g : JFrame} (kk : xI D cl N ad s.heap σ H [] → W p l e R s m args below meth c H [] cells slots Q g) : W p l e R s m args below meth c H locs cells slots Q g :=
  va_forget (fun q hq => by obtain ⟨k, -, h⟩ := I.2.2.2.2 q hq; rw [← h]; exact hz k) (kk ⟨I.1, I.2.1, I.2.2.1, I.2.2.2.1, fun _ h => by cases h⟩)
theorem xq_runV (X : xX p c cc nL s args Ts own m D cl tys) (I : xI D cl N ad s.heap σ H []) {b ci NF : Nat} {T : u_T} {fs : List Value} (hb' : b < N) (hσ : σ b = .inr (ci, fs)) (hc : cl[ci]? = some (y.cls, T, NF)) (hM : Met l y (Cond.code y bytes maxL ret :: ws') (xrm kc) (va_Pc (.ref (ad b) :: As) (xS D cl tys N ad σ)) Qc 0 0 free) (hG : GoodIn Ts (Cond.code y bytes maxL ret :: ws')) (hl : Cond.methodLink own idx y ∈ Ts) (hin : Cond.instanceMethod y ∈ Ts) (hsel : Cond.selects y.cls y y ∈ Ts) (hini : Cond.initialized y.cls ∈ Ts)
    (hd : y.cls ≠ "java/lang/invoke/MethodHandle" ∧ y.cls ≠ "java/lang/invoke/VarHandle" ∧ (parseMethodDescriptor y.desc).map (fun d => d.parameters.length) = some n) (hk : kc + 1 ≤ R.frames ∧ 8 + (maxL + 11) + 64 * kc ≤ R.locals) (hn : As.length = n) (hsize : ls.size = nL) (hs0 : st0 = As.reverse ++ .ref (ad b) :: rest) (hW : (rest.map fun v => v.category).sum ≤ 8) (hdg : decode cc pc = .ok (.invokevirtual idx, 3)) (hf : cells ≤ R.cells ∧ slots ≤ R.slots) :
    va_Run p l e R s m args below meth c H [] cells slots 0 0 (F0 m pc ls st0) rest (Qc (Value.ref (ad b) :: As).toArray) free := by
  obtain ⟨r, h1, cell, q1, q2, q3, q4⟩ := I.1 b _ (xw_get hb' hσ)
  have hr : r = (y.cls, T, NF) := Option.some.inj (h1.symm.trans hc)
  have hcls : s.vm.findClass y.cls = some cell.cls := by
    have h := (X.2.1.1 ci _ hc).2.1
    rw [q2]
    exact h
  have hP := xS_pre (As := .ref (ad b) :: As) X I
  exact va_runV X.1 hM ⟨callB_of n X.1.2.2.2.2 hG rfl rfl rfl (X.1.2.2.2.2 _ hini) (X.1.2.2.2.2 _ hl) hd hk, X.1.2.2.2.2 _ hin, X.1.2.2.2.2 _ hsel⟩ ⟨hP.1, ⟨cell, q1, by rw [q3]; rfl, hcls⟩, hP.2⟩ rfl hn hsize hs0 (lv_room hW) hdg hf
theorem xq_calli {post : Int32 → (Nat → va_E) → Prop} {a : Array Value} (hz : ∀ k, s.heap.size ≤ ad k) (hr : va_Run p l e R s m args below meth c H [] cells slots 0 0 (F0 m pc ls st0) rest (va_Qi post (xS D cl tys N ad) (xA N ad) a) (xA N ad)) (I : xI D cl N ad s.heap σ H [])
    (kk : ∀ (r : Int32) (σ' : Nat → va_E) (H1 : Heap), post r σ' → xI D cl N ad s.heap σ' H1 [] → W p l e R s m args below meth c H1 [] cells slots Q (F0 m (pc + 3) ls (.int r :: rest))) : W p l e R s m args below meth c H [] cells slots Q (F0 m pc ls st0) :=
  xr_calli hr I fun r σ' H1 _ hp I' => xq_forget hz I' fun I'' => kk r σ' H1 hp I''
theorem xq_calll {post : Int64 → (Nat → va_E) → Prop} {a : Array Value} (hz : ∀ k, s.heap.size ≤ ad k) (hr : va_Run p l e R s m args below meth c H [] cells slots 0 0 (F0 m pc ls st0) rest (va_Ql post (xS D cl tys N ad) (xA N ad) a) (xA N ad)) (I : xI D cl N ad s.heap σ H [])
    (kk : ∀ (r : Int64) (σ' : Nat → va_E) (H1 : Heap), post r σ' → xI D cl N ad s.heap σ' H1 [] → W p l e R s m args below meth c H1 [] cells slots Q (F0 m (pc + 3) ls (.long r :: rest))) : W p l e R s m args below meth c H [] cells slots Q (F0 m pc ls st0) :=
  xr_calll hr I fun r σ' H1 _ hp I' => xq_forget hz I' fun I'' => kk r σ' H1 hp I''
theorem xq_callv {post : (Nat → va_E) → Prop} {a : Array Value} (hz : ∀ k, s.heap.size ≤ ad k) (hr : va_Run p l e R s m args below meth c H [] cells slots 0 0 (F0 m pc ls st0) rest (va_Qv post (xS D cl tys N ad) (xA N ad) a) (xA N ad)) (I : xI D cl N ad s.heap σ H [])
    (kk : ∀ (σ' : Nat → va_E) (H1 : Heap), post σ' → xI D cl N ad s.heap σ' H1 [] → W p l e R s m args below meth c H1 [] cells slots Q (F0 m (pc + 3) ls rest)) : W p l e R s m args below meth c H [] cells slots Q (F0 m pc ls st0) :=
  xr_callv hr I fun σ' H1 _ hp I' => xq_forget hz I' fun I'' => kk σ' H1 hp I''
/-- a static method with a table of exceptions -/
theorem xq_runW (X : xX p c cc nL s args Ts own m D cl tys) (I : xI D cl N ad s.heap σ H []) (hT : xtOK (xA N ad) s) (hM : Met l y (Cond.codeWith y bytes maxL ret hh :: ws') rm (va_Pc As (uS D cl tys N ad σ)) Qc 1 6 free) (hrc : rm.cells = 1) (hrs : rm.slots = 6) (hG : GoodIn Ts (Cond.codeWith y bytes maxL ret hh :: ws')) (hl : Cond.methodLink own idx y ∈ Ts) (hst : Cond.static y ∈ Ts) (hini : Cond.initialized y.cls ∈ Ts)
    (hd : y.cls ≠ "java/lang/invoke/MethodHandle" ∧ y.cls ≠ "java/lang/invoke/VarHandle" ∧ (parseMethodDescriptor y.desc).map (fun d => d.parameters.length) = some n) (hk : rm.frames + 1 ≤ R.frames ∧ 8 + (maxL + 11) + rm.locals ≤ R.locals) (hn : As.length = n) (hsize : ls.size = nL) (hs0 : st0 = As.reverse ++ rest) (hW : (rest.map fun v => v.category).sum ≤ 8) (hdg : decode cc pc = .ok (.invokestatic idx, 3)) (hf : cells + 1 ≤ R.cells ∧ slots + 6 ≤ R.slots) :
    va_Run p l e R s m args below meth c H [] cells slots 1 6 (F0 m pc ls st0) rest (Qc As.toArray) free := by
  obtain ⟨⟨hexec, hb, hml, hown, hts⟩, hK0, hNs⟩ := X
  intro T hT0 XS
  obtain ⟨mk, methM, cM, hnamed, hmethM, -, -, -, -, -, -, hsigM⟩ := Cond.codeWith_spec (hts _ (hG _ List.mem_cons_self).1)
  have hstatic := Cond.static_spec hnamed hmethM (hts _ hst)
  obtain ⟨kP, hkP, -⟩ := className_of_methodNamed hnamed
  have hinitP := Cond.initialized_spec (findClass_of_methodNamed hnamed) hkP (hts _ hini)
  have hlen : As.length = methM.sig.parameters.length := by
    have h := hd.2.2
    rw [hsigM] at h
    rw [hn]; exact (Option.some.inj h).symm
  obtain ⟨vm₁, X₁, hstep₁⟩ := XS.invokestatic hexec hown (hts _ hl) hnamed hmethM hstatic hkP hinitP ⟨hd.1, hd.2.1⟩ (g := F0 m pc ls st0) rfl (argsL := As) (rest := rest) hlen hs0 (by rw [hb]; exact hdg)
  have hws : ∀ w ∈ Cond.codeWith y bytes maxL ret hh :: ws', ∀ (a' : Array Value) (U : State), s.WarmedH U.vm → w.before a' U = true := fun w hw a' U hW9 => word_at hW9 (hG w hw).2 (hts _ (hG w hw).1)
  have hK := va_backW (R := R) (p := p) (e := e) (below := below) (s := s) (sargs := args) (len := 3) (W := 8) hM uS_blind hrc hrs hk.1 hk.2 hws List.mem_cons_self (fun a' U hW9 => word_at hW9 (Or.inl (by first | rfl | simp [Cond.onTables, Cond.keeps, Cond.steady])) (hts _ hini))
  have hhp : (T.setVm vm₁).heap = H := hT0
  obtain ⟨v, ⟨B, Bl, Bc, Bs⟩, X', ⟨g', mk', t, L, e1, e2, hq, h1, hL, h2, h3⟩, hsteps⟩ := hK m meth c ⟨T.setVm vm₁, [], cells, slots⟩ (F0 m pc ls rest) (.invokestatic idx) mk As.toArray X₁ rfl (by show ls.size = _; rw [hml]; exact hsize) (by rw [hb]; exact hdg) (lv_room hW) (X₁.named hnamed)
    ⟨hf.1, hf.2, rfl, ⟨by rw [hhp]; exact I.1, va_K.moved X₁.warmed.alike hK0, I.2.1, hNs.warm X₁.warmed⟩, hT.warm X₁.warmed (fun q a1 a2 => by rw [hhp]; exact I.2.2.2.1 q a1 a2)⟩
  dsimp only [Pt.U, Pt.locs, Pt.cells, Pt.slots] at X' e1 e2 h1 h2 h3 hsteps
  subst h1; subst h2; subst h3
  exact ⟨v, (T.setVm vm₁).calling g' mk' As.toArray, t, B, Bl, hT0, X', hL, e1, e2, hq, fun target h => hstep₁ _ fun acts => by rw [doInvoke_state]; exact hsteps.trans h⟩
theorem xq_callw {post : Int32 → (Nat → va_E) → Prop} {a : Array Value} (hz : ∀ k, s.heap.size ≤ ad k) (hr : va_Run p l e R s m args below meth c H [] cells slots 1 6 (F0 m pc ls st0) rest (va_Qi post (uS D cl tys N ad) (xA N ad) a) (xA N ad)) (I : xI D cl N ad s.heap σ H [])
    (kk : ∀ (r : Int32) (σ' : Nat → va_E) (H1 : Heap), post r σ' → xI D cl N ad s.heap σ' H1 [] → W p l e R s m args below meth c H1 [] (cells + 1) (slots + 6) Q (F0 m (pc + 3) ls (.int r :: rest))) : W p l e R s m args below meth c H [] cells slots Q (F0 m pc ls st0) := by
  intro T hT X
  obtain ⟨v, st₀, t, T', L, e1, X', hL, e2, e3, ⟨⟨r, u, hv, hp, ⟨hB, -⟩⟩, hF⟩, hgo⟩ := hr T hT X
  have hv' : v = some (.int r) := by cases hv; rfl
  subst hv'
  have I' : xI D cl N ad s.heap u t.heap [] := ⟨hB.1, hB.2.2.1, Nat.le_trans I.2.2.1 (by have := hF.1; rw [e1] at this; exact this), fun q h1 h2 => by
    have h3 := hF.2 q (by rw [e1]; exact Nat.lt_of_lt_of_le h1 I.2.2.1) h2
    rw [e1] at h3
    exact h3.trans (I.2.2.2.1 q h1 h2), fun _ h => by cases h⟩
  obtain ⟨tt, a1, b1⟩ := va_forget (locs := [] ++ L) (fun q hq => by obtain ⟨k, -, h⟩ := hL q (by simpa using hq); rw [← h]; exact hz k) (kk r u t.heap hp I') T' e2 X'
  exact ⟨tt, hgo tt a1, b1⟩
/-- the script -/
theorem xq_sld (X : xX p c cc nL s args Ts own m D cl tys) (I : xI D cl N ad s.heap σ H []) (hz : ∀ k, s.heap.size ≤ ad k) {b L : Nat} {xs : Nat → Int32} (hX : va_X b L xs s s.heap) (hbl : b < s.heap.size) {i : Nat} (hi : i < L) (hL : L < 2 ^ 31) (hdg : decode cc pc = .ok (.iaload, 1))
    (kk : W p l e R s m args below meth c H [] cells slots Q (F0 m (pc + 1) ls (.int (xs i) :: rest))) : W p l e R s m args below meth c H [] cells slots Q (F0 m pc ls (.int (nI i) :: .ref b :: rest)) := by
  refine va_sld X.1.1 X.1.2.1 hX hbl (A := xA N ad) (fun h => by obtain ⟨k, -, h⟩ := h; have := hz k; omega) I.2.2 (vp_in_nI hi hL) hdg ?_
  rw [nI_clamp (Nat.lt_trans hi hL)]
  exact kk
theorem xq_slen (X : xX p c cc nL s args Ts own m D cl tys) (I : xI D cl N ad s.heap σ H []) (hz : ∀ k, s.heap.size ≤ ad k) {b L : Nat} {xs : Nat → Int32} (hX : va_X b L xs s s.heap) (hbl : b < s.heap.size) (hdg : decode cc pc = .ok (.arraylength, 1))
    (kk : W p l e R s m args below meth c H [] cells slots Q (F0 m (pc + 1) ls (.int (nI L) :: rest))) : W p l e R s m args below meth c H [] cells slots Q (F0 m pc ls (.ref b :: rest)) :=
  va_slen X.1.1 X.1.2.1 hX hbl (A := xA N ad) (fun h => by obtain ⟨k, -, h⟩ := h; have := hz k; omega) I.2.2 hdg kk
end XL
