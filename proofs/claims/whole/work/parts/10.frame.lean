/-! One world for all methods: N cells, the k-th at the address ad k, holding σ k. A method takes σ to σ'. -/
def xw (N : Nat) (ad : Nat → Nat) (σ : Nat → va_E) : va_W := (List.range N).map (fun k => (ad k, σ k))
theorem xw_len {N : Nat} {ad : Nat → Nat} {σ : Nat → va_E} : (xw N ad σ).length = N := by simp [xw]
theorem xw_get {N : Nat} {ad : Nat → Nat} {σ : Nat → va_E} {k : Nat} {e : va_E} (hk : k < N) (he : σ k = e) : (xw N ad σ)[k]? = some (ad k, e) := by
  subst he
  simp [xw, List.getElem?_range hk]
theorem xw_set {N : Nat} {ad : Nat → Nat} {σ : Nat → va_E} {k : Nat} {e : va_E} : (xw N ad σ).set k (ad k, e) = xw N ad (va_up σ k e) := by
  apply List.ext_getElem?
  intro j
  by_cases hj : j < N
  · by_cases h : k = j
    · subst h
      rw [List.getElem?_set_self (by rw [xw_len]; exact hj), xw_get hj (va_up_self _ _ _)]
    · rw [List.getElem?_set_ne h, xw_get hj rfl, xw_get hj (va_up_ne _ _ (Ne.symm h))]
  · rw [List.getElem?_eq_none (by rw [List.length_set, xw_len]; omega), List.getElem?_eq_none (by rw [xw_len]; omega)]
/-- the addresses of the world -/
def xA (N : Nat) (ad : Nat → Nat) : Nat → Prop := fun q => ∃ k, k < N ∧ ad k = q
/-- the links to a hidden method of the nest's host: they aren't among the words that every method takes -/
def nestOK (U : State) : Prop := va_Nw (.methodLinkNest "SpectrumDesk$Spectrum" 115 ⟨"SpectrumDesk", "bitsOf", "(J)I"⟩ "SpectrumDesk") U ∧ va_Nw (.methodLinkNest "SpectrumDesk$Euclid" 64 ⟨"SpectrumDesk", "bitsOf", "(J)I"⟩ "SpectrumDesk") U
theorem nestOK.warm {s U : State} (hW : s.WarmedH U.vm) (h : nestOK s) : nestOK U := ⟨va_Nw.warmM hW h.1, va_Nw.warmM hW h.2⟩
theorem nestOK.same {s U : State} (hv : s.vm = U.vm) (h : nestOK s) : nestOK U := ⟨va_Nw.same rfl hv h.1, va_Nw.same rfl hv h.2⟩
/-- the world of a state -/
def xS (D : va_G) (cl : List vw_C) (tys : List (ClassId × FieldType)) (N : Nat) (ad : Nat → Nat) (σ : Nat → va_E) (U : State) : Prop :=
  va_P D cl (xw N ad σ) U.heap ∧ va_K D cl tys U ∧ va_D (xA N ad) (xw N ad σ) ∧ nestOK U
/-- the world in the midst of a method -/
def xI (D : va_G) (cl : List vw_C) (N : Nat) (ad : Nat → Nat) (H0 : Heap) (σ : Nat → va_E) (H : Heap) (locs : List Loc) : Prop :=
  va_P D cl (xw N ad σ) H ∧ va_D (xA N ad) (xw N ad σ) ∧ va_S (xA N ad) H0 H locs
/-- what stays all through a method -/
def xX (p : Program) (c : Code) (cc : ByteArray) (nL : Nat) (s : State) (args : Array Value) (Ts : List Cond) (own : String) (m : MethodId) (D : va_G) (cl : List vw_C) (tys : List (ClassId × FieldType)) : Prop :=
  CallFix p m c cc nL s args Ts own ∧ va_K D cl tys s ∧ nestOK s
theorem va_up_up {α : Type} (f : Nat → α) (k : Nat) (v w : α) : va_up (va_up f k v) k w = va_up f k w := by
  funext j
  simp only [va_up]
  split <;> rfl
theorem xS_blind {D : va_G} {cl : List vw_C} {tys : List (ClassId × FieldType)} {N : Nat} {ad : Nat → Nat} {σ : Nat → va_E} {As : List Value} : FrameBlind (va_Pc As (xS D cl tys N ad σ)) :=
  fun a U g mk q => by
    obtain ⟨q0, qP, qK, qD, qN⟩ := q
    exact ⟨q0, qP, va_K.moved (u := U) (U := U.calling g mk a) (Vm.Alike.refl U.vm) qK, qD, qN.same rfl⟩
section XR
variable {p : Program} {l : Launch} {e : Env} {R : Room} {s : State} {m : MethodId} {args : Array Value} {below : List Frame} {meth : Method} {c : Code} {H : Heap} {locs : List Loc} {cells slots : Nat} {Q : State → Prop}
variable {cc : ByteArray} {pc nL : Nat} {ls : Array Slot} {rest : List Value} {D : va_G} {cl : List vw_C} {tys : List (ClassId × FieldType)} {H0 : Heap} {N : Nat} {ad : Nat → Nat} {σ : Nat → va_E} {Ts : List Cond} {own : String}
theorem xS_pre {As : List Value} (X : xX p c cc nL s args Ts own m D cl tys) (I : xI D cl N ad H0 σ H locs) : PreS s H (va_Pc As (xS D cl tys N ad σ)) As :=
  ⟨xS_blind, fun _ hU hW => ⟨rfl, by rw [hU]; exact I.1, va_K.moved hW.alike X.2.1, I.2.1, X.2.2.warm hW⟩⟩
/-- the top of the stack under another name -/
theorem xr_topi {x y : Int32} (h : x = y) (k : W p l e R s m args below meth c H locs cells slots Q (F0 m pc ls (.int y :: rest))) : W p l e R s m args below meth c H locs cells slots Q (F0 m pc ls (.int x :: rest)) := h ▸ k
theorem xr_topl {x y : Int64} (h : x = y) (k : W p l e R s m args below meth c H locs cells slots Q (F0 m pc ls (.long y :: rest))) : W p l e R s m args below meth c H locs cells slots Q (F0 m pc ls (.long x :: rest)) := h ▸ k
/-- a[j] of an int array -/
theorem xr_iald (X : xX p c cc nL s args Ts own m D cl tys) (I : xI D cl N ad H0 σ H locs) (k t0 : Nat) (hk : k < N) {cA : ClassId} {n : Nat} {f : Nat → Int32} (hσ : σ k = .inl (cA, n, .inl f)) (ht : tys[t0]? = some (cA, .int)) {j : Nat} (hj : j < n) (hn : n < 2 ^ 31) (hdg : decode cc pc = .ok (.iaload, 1))
    (kk : W p l e R s m args below meth c H locs cells slots Q (F0 m (pc + 1) ls (.int (f j) :: rest))) : W p l e R s m args below meth c H locs cells slots Q (F0 m pc ls (.int (nI j) :: .ref (ad k) :: rest)) := by
  refine va_iald X.1.1 X.1.2.1 X.2.1 I.1 k t0 (xw_get hk hσ) ht (vp_in_nI hj hn) hdg ?_
  rw [nI_clamp (Nat.lt_trans hj hn)]
  exact kk
theorem xr_zald (X : xX p c cc nL s args Ts own m D cl tys) (I : xI D cl N ad H0 σ H locs) (k t0 : Nat) (hk : k < N) {cA : ClassId} {n : Nat} {f : Nat → Int32} (hσ : σ k = .inl (cA, n, .inl f)) (ht : tys[t0]? = some (cA, .boolean)) {j : Nat} (hj : j < n) (hn : n < 2 ^ 31) (hdg : decode cc pc = .ok (.baload, 1))
    (kk : W p l e R s m args below meth c H locs cells slots Q (F0 m (pc + 1) ls (.int (f j) :: rest))) : W p l e R s m args below meth c H locs cells slots Q (F0 m pc ls (.int (nI j) :: .ref (ad k) :: rest)) := by
  refine va_zald X.1.1 X.1.2.1 X.2.1 I.1 k t0 (xw_get hk hσ) ht (vp_in_nI hj hn) hdg ?_
  rw [nI_clamp (Nat.lt_trans hj hn)]
  exact kk
theorem xr_cald (X : xX p c cc nL s args Ts own m D cl tys) (I : xI D cl N ad H0 σ H locs) (k t0 : Nat) (hk : k < N) {cA : ClassId} {n : Nat} {f : Nat → Int32} (hσ : σ k = .inl (cA, n, .inl f)) (ht : tys[t0]? = some (cA, .char)) {j : Nat} (hj : j < n) (hn : n < 2 ^ 31) (hdg : decode cc pc = .ok (.caload, 1))
    (kk : W p l e R s m args below meth c H locs cells slots Q (F0 m (pc + 1) ls (.int (f j) :: rest))) : W p l e R s m args below meth c H locs cells slots Q (F0 m pc ls (.int (nI j) :: .ref (ad k) :: rest)) := by
  refine va_cald X.1.1 X.1.2.1 X.2.1 I.1 k t0 (xw_get hk hσ) ht (vp_in_nI hj hn) hdg ?_
  rw [nI_clamp (Nat.lt_trans hj hn)]
  exact kk
theorem xr_lald (X : xX p c cc nL s args Ts own m D cl tys) (I : xI D cl N ad H0 σ H locs) (k t0 : Nat) (hk : k < N) {cA : ClassId} {n : Nat} {f : Nat → Int64} (hσ : σ k = .inl (cA, n, .inr (.inl f))) (ht : tys[t0]? = some (cA, .long)) {j : Nat} (hj : j < n) (hn : n < 2 ^ 31) (hdg : decode cc pc = .ok (.laload, 1))
    (kk : W p l e R s m args below meth c H locs cells slots Q (F0 m (pc + 1) ls (.long (f j) :: rest))) : W p l e R s m args below meth c H locs cells slots Q (F0 m pc ls (.int (nI j) :: .ref (ad k) :: rest)) := by
  refine va_lald X.1.1 X.1.2.1 X.2.1 I.1 k t0 (xw_get hk hσ) ht (vp_in_nI hj hn) hdg ?_
  rw [nI_clamp (Nat.lt_trans hj hn)]
  exact kk
/-- a[j] of an array of references: to the cell r -/
theorem xr_aald (X : xX p c cc nL s args Ts own m D cl tys) (I : xI D cl N ad H0 σ H locs) (k t0 : Nat) (hk : k < N) {cA : ClassId} {n : Nat} {ty : FieldType} {f : Nat → Option Nat} (hσ : σ k = .inl (cA, n, .inr (.inr (.inr (.inr f))))) (ht : tys[t0]? = some (cA, ty)) (hty : ty.isReference = true) {j r : Nat} (hj : j < n) (hn : n < 2 ^ 31) (hf : f j = some (ad r)) (hdg : decode cc pc = .ok (.aaload, 1))
    (kk : W p l e R s m args below meth c H locs cells slots Q (F0 m (pc + 1) ls (.ref (ad r) :: rest))) : W p l e R s m args below meth c H locs cells slots Q (F0 m pc ls (.int (nI j) :: .ref (ad k) :: rest)) := by
  have hin : vp_in (nI j) n := vp_in_nI hj hn
  have hcl : (nI j).toNatClampNeg = j := nI_clamp (Nat.lt_trans hj hn)
  refine W.aald (v := .ref (ad r)) (ty := ty) X.1.1 X.1.2.1 (I.1 k _ (xw_get hk hσ)) ((X.2.1.2 t0 _ ht).1 n (fun i => va_rf (f i))) hty (fun q => by cases q) ?_ ?_ rfl rfl hdg kk
  · show ¬ (nI j < 0 ∨ (arrV _ _ _).slots.size ≤ _)
    rw [arrV_size]
    exact hin
  · show (arrV _ _ _).slots[_]? = _
    rw [hcl, arrV_read _ _ hj, hf]
    rfl
theorem xr_alen (X : xX p c cc nL s args Ts own m D cl tys) (I : xI D cl N ad H0 σ H locs) (k t0 : Nat) (hk : k < N) {cA : ClassId} {x : vp_A} (hσ : σ k = .inl (cA, x)) {ty : FieldType} (ht : tys[t0]? = some (cA, ty)) (hdg : decode cc pc = .ok (.arraylength, 1))
    (kk : W p l e R s m args below meth c H locs cells slots Q (F0 m (pc + 1) ls (.int (nI x.1) :: rest))) : W p l e R s m args below meth c H locs cells slots Q (F0 m pc ls (.ref (ad k) :: rest)) :=
  va_alen X.1.1 X.1.2.1 X.2.1 I.1 k t0 (xw_get hk hσ) ht rfl hdg kk
theorem xr_iast (X : xX p c cc nL s args Ts own m D cl tys) (I : xI D cl N ad H0 σ H locs) (k t0 : Nat) (hk : k < N) {cA : ClassId} {n : Nat} {f : Nat → Int32} (hσ : σ k = .inl (cA, n, .inl f)) (ht : tys[t0]? = some (cA, .int)) {j : Nat} {x : Int32} (hj : j < n) (hn : n < 2 ^ 31) (hdg : decode cc pc = .ok (.iastore, 1))
    (kk : ∀ (H1 : Heap) (locs1 : List Loc), xI D cl N ad H0 (va_up σ k (.inl (cA, n, .inl (upd f j x)))) H1 locs1 → W p l e R s m args below meth c H1 locs1 cells slots Q (F0 m (pc + 1) ls rest)) : W p l e R s m args below meth c H locs cells slots Q (F0 m pc ls (.int x :: .int (nI j) :: .ref (ad k) :: rest)) := by
  refine va_iast X.1.1 X.1.2.1 X.2.1 I.1 I.2.1 I.2.2 k t0 (xw_get hk hσ) ht (vp_in_nI hj hn) hdg fun H1 locs1 h1 h2 h3 => ?_
  rw [nI_clamp (Nat.lt_trans hj hn), xw_set] at h1 h2
  exact kk H1 locs1 ⟨h1, h2, h3⟩
theorem xr_zast (X : xX p c cc nL s args Ts own m D cl tys) (I : xI D cl N ad H0 σ H locs) (k t0 : Nat) (hk : k < N) {cA : ClassId} {n : Nat} {f : Nat → Int32} (hσ : σ k = .inl (cA, n, .inl f)) (ht : tys[t0]? = some (cA, .boolean)) {j : Nat} {x : Int32} (hj : j < n) (hn : n < 2 ^ 31) (hdg : decode cc pc = .ok (.bastore, 1))
    (kk : ∀ (H1 : Heap) (locs1 : List Loc), xI D cl N ad H0 (va_up σ k (.inl (cA, n, .inl (upd f j (vp_nar .boolean x))))) H1 locs1 → W p l e R s m args below meth c H1 locs1 cells slots Q (F0 m (pc + 1) ls rest)) : W p l e R s m args below meth c H locs cells slots Q (F0 m pc ls (.int x :: .int (nI j) :: .ref (ad k) :: rest)) := by
  refine va_zast X.1.1 X.1.2.1 X.2.1 I.1 I.2.1 I.2.2 k t0 (xw_get hk hσ) ht (vp_in_nI hj hn) hdg fun H1 locs1 h1 h2 h3 => ?_
  rw [nI_clamp (Nat.lt_trans hj hn), xw_set] at h1 h2
  exact kk H1 locs1 ⟨h1, h2, h3⟩
theorem xr_cast (X : xX p c cc nL s args Ts own m D cl tys) (I : xI D cl N ad H0 σ H locs) (k t0 : Nat) (hk : k < N) {cA : ClassId} {n : Nat} {f : Nat → Int32} (hσ : σ k = .inl (cA, n, .inl f)) (ht : tys[t0]? = some (cA, .char)) {j : Nat} {x : Int32} (hj : j < n) (hn : n < 2 ^ 31) (hdg : decode cc pc = .ok (.castore, 1))
    (kk : ∀ (H1 : Heap) (locs1 : List Loc), xI D cl N ad H0 (va_up σ k (.inl (cA, n, .inl (upd f j (vp_nar .char x))))) H1 locs1 → W p l e R s m args below meth c H1 locs1 cells slots Q (F0 m (pc + 1) ls rest)) : W p l e R s m args below meth c H locs cells slots Q (F0 m pc ls (.int x :: .int (nI j) :: .ref (ad k) :: rest)) := by
  refine va_cast X.1.1 X.1.2.1 X.2.1 I.1 I.2.1 I.2.2 k t0 (xw_get hk hσ) ht (vp_in_nI hj hn) hdg fun H1 locs1 h1 h2 h3 => ?_
  rw [nI_clamp (Nat.lt_trans hj hn), xw_set] at h1 h2
  exact kk H1 locs1 ⟨h1, h2, h3⟩
theorem xr_last (X : xX p c cc nL s args Ts own m D cl tys) (I : xI D cl N ad H0 σ H locs) (k t0 : Nat) (hk : k < N) {cA : ClassId} {n : Nat} {f : Nat → Int64} (hσ : σ k = .inl (cA, n, .inr (.inl f))) (ht : tys[t0]? = some (cA, .long)) {j : Nat} {x : Int64} (hj : j < n) (hn : n < 2 ^ 31) (hdg : decode cc pc = .ok (.lastore, 1))
    (kk : ∀ (H1 : Heap) (locs1 : List Loc), xI D cl N ad H0 (va_up σ k (.inl (cA, n, .inr (.inl (vp_updL f j x))))) H1 locs1 → W p l e R s m args below meth c H1 locs1 cells slots Q (F0 m (pc + 1) ls rest)) : W p l e R s m args below meth c H locs cells slots Q (F0 m pc ls (.long x :: .int (nI j) :: .ref (ad k) :: rest)) := by
  refine va_last X.1.1 X.1.2.1 X.2.1 I.1 I.2.1 I.2.2 k t0 (xw_get hk hσ) ht (vp_in_nI hj hn) hdg fun H1 locs1 h1 h2 h3 => ?_
  rw [nI_clamp (Nat.lt_trans hj hn), xw_set] at h1 h2
  exact kk H1 locs1 ⟨h1, h2, h3⟩
/-- a field is read -/
theorem xr_get (X : xX p c cc nL s args Ts own m D cl tys) (I : xI D cl N ad H0 σ H locs) {ref C : String} {T : u_T} {NF ci index : Nat} (hin : ∀ w ∈ u_ws C T NF, w ∈ Ts) (k : Nat) (hk : k < N) {fs : List Value} (hσ : σ k = .inr (ci, fs)) (hc : cl[ci]? = some (C, T, NF)) (i : Nat) (hi : i < NF) (hlink : Cond.fieldLink own index ref (T i).2.1 (T i).2.2.1 ∈ Ts) (href : (T i).1 = ref) {v : Value} (hv : fs[i]? = some v) (hdg : decode cc pc = .ok (.getfield index, 3))
    (kk : W p l e R s m args below meth c H locs cells slots Q (F0 m (pc + 3) ls (v :: rest))) : W p l e R s m args below meth c H locs cells slots Q (F0 m pc ls (.ref (ad k) :: rest)) :=
  va_get X.1.1 X.1.2.1 X.1.2.2.2.2 hin X.1.2.2.2.1 X.2.1 I.1 k (xw_get hk hσ) hc i hi (X.1.2.2.2.2 _ hlink) (fun _ h => by rw [← href]; exact h) hv hdg kk
/-- a field is written (not final) -/
theorem xr_put (X : xX p c cc nL s args Ts own m D cl tys) (I : xI D cl N ad H0 σ H locs) {ref C : String} {T : u_T} {NF ci index : Nat} (hin : ∀ w ∈ u_ws C T NF, w ∈ Ts) (ty0 : Nat → FieldType) (hty : ∀ k, k < NF → parseFieldDescriptor (T k).2.2.1 = some (ty0 k)) (hnm : ∀ a, a < NF → ∀ b, b < NF → a ≠ b → (T a).2.1 ≠ (T b).2.1) (k : Nat) (hk : k < N) {fs : List Value} (hσ : σ k = .inr (ci, fs)) (hc : cl[ci]? = some (C, T, NF)) (i : Nat) (hi : i < NF) (hlink : Cond.fieldLink own index ref (T i).2.1 (T i).2.2.1 ∈ Ts) (href : (T i).1 = ref) (hfin : (T i).2.2.2 = false) {ty : FieldType} {v : Value} (hd : parseFieldDescriptor (T i).2.2.1 = some ty) (hnar : narrow ty v = v) (hfit : fits ty v = true) (hl : i < fs.length) (hdg : decode cc pc = .ok (.putfield index, 3))
    (kk : ∀ (H1 : Heap) (locs1 : List Loc), xI D cl N ad H0 (va_up σ k (.inr (ci, fs.set i v))) H1 locs1 → W p l e R s m args below meth c H1 locs1 cells slots Q (F0 m (pc + 3) ls rest)) : W p l e R s m args below meth c H locs cells slots Q (F0 m pc ls (v :: .ref (ad k) :: rest)) := by
  refine va_put X.1.1 X.1.2.1 X.1.2.2.2.2 hin ty0 hty hnm X.1.2.2.2.1 X.2.1 I.1 I.2.1 I.2.2 k (xw_get hk hσ) hc i hi (X.1.2.2.2.2 _ hlink) (fun _ h => by rw [← href]; exact h) hfin hd hnar hfit hl hdg fun H1 locs1 h1 h2 h3 => ?_
  rw [xw_set] at h1 h2
  exact kk H1 locs1 ⟨h1, h2, h3⟩
/-- the ends -/
theorem xr_vret {post : (Nat → va_E) → Prop} (X : xX p c cc nL s args Ts own m D cl tys) (I : xI D cl N ad s.heap σ H locs) (hr : meth.sig.returnType = none) (hlk : meth.locks = false) (hp : post σ) (hdg : decode cc pc = .ok (.return_, 1)) :
    W p l e R s m args below meth c H locs cells slots (MQ below (va_Qv post (xS D cl tys N ad) (xA N ad)) args s cells slots (xA N ad)) (F0 m pc ls []) :=
  W.vret X.1.1 X.1.2.1 hr (fun _ ht hW => ⟨⟨σ, rfl, hp, by rw [ht]; exact I.1, va_K.moved hW.alike X.2.1, I.2.1, X.2.2.warm hW⟩, I.2.2.F ht⟩) I.2.2.2.2 hdg hlk
theorem xr_iret {v : Int32} {post : Int32 → (Nat → va_E) → Prop} (X : xX p c cc nL s args Ts own m D cl tys) (I : xI D cl N ad s.heap σ H locs) (hr : meth.sig.returnType = some .int) (hlk : meth.locks = false) (hp : post v σ) (hdg : decode cc pc = .ok (.ireturn, 1)) :
    W p l e R s m args below meth c H locs cells slots (MQ below (va_Qi post (xS D cl tys N ad) (xA N ad)) args s cells slots (xA N ad)) (F0 m pc ls [.int v]) :=
  W.iret X.1.1 X.1.2.1 hr (fun _ ht hW => ⟨⟨v, σ, rfl, hp, by rw [ht]; exact I.1, va_K.moved hW.alike X.2.1, I.2.1, X.2.2.warm hW⟩, I.2.2.F ht⟩) I.2.2.2.2 hdg hlk
/-- calls that give nothing back -/
theorem xr_callv {post : (Nat → va_E) → Prop} {a : Array Value} {st0 : List Value} (hr : va_Run p l e R s m args below meth c H locs cells slots 0 0 (F0 m pc ls st0) rest (va_Qv post (xS D cl tys N ad) (xA N ad) a) (xA N ad)) (I : xI D cl N ad H0 σ H locs)
    (kk : ∀ (σ' : Nat → va_E) (H1 : Heap) (locs1 : List Loc), post σ' → xI D cl N ad H0 σ' H1 locs1 → W p l e R s m args below meth c H1 locs1 cells slots Q (F0 m (pc + 3) ls rest)) : W p l e R s m args below meth c H locs cells slots Q (F0 m pc ls st0) := by
  refine va_callv hr I.2.2 (fun _ _ h => h) (fun _ h => h) fun σ' t H1 locs1 ht _ hp hB _ _ hS => ?_
  exact kk σ' H1 locs1 hp ⟨by rw [← ht]; exact hB.1, hB.2.2.1, hS⟩
theorem xr_calli {post : Int32 → (Nat → va_E) → Prop} {a : Array Value} {st0 : List Value} (hr : va_Run p l e R s m args below meth c H locs cells slots 0 0 (F0 m pc ls st0) rest (va_Qi post (xS D cl tys N ad) (xA N ad) a) (xA N ad)) (I : xI D cl N ad H0 σ H locs)
    (kk : ∀ (r : Int32) (σ' : Nat → va_E) (H1 : Heap) (locs1 : List Loc), post r σ' → xI D cl N ad H0 σ' H1 locs1 → W p l e R s m args below meth c H1 locs1 cells slots Q (F0 m (pc + 3) ls (.int r :: rest))) : W p l e R s m args below meth c H locs cells slots Q (F0 m pc ls st0) := by
  refine va_calli hr I.2.2 (fun _ _ h => h) (fun _ h => h) fun r σ' t H1 locs1 ht _ hp hB _ _ hS => ?_
  exact kk r σ' H1 locs1 hp ⟨by rw [← ht]; exact hB.1, hB.2.2.1, hS⟩
theorem xr_calll {post : Int64 → (Nat → va_E) → Prop} {a : Array Value} {st0 : List Value} (hr : va_Run p l e R s m args below meth c H locs cells slots 0 0 (F0 m pc ls st0) rest (va_Ql post (xS D cl tys N ad) (xA N ad) a) (xA N ad)) (I : xI D cl N ad H0 σ H locs)
    (kk : ∀ (r : Int64) (σ' : Nat → va_E) (H1 : Heap) (locs1 : List Loc), post r σ' → xI D cl N ad H0 σ' H1 locs1 → W p l e R s m args below meth c H1 locs1 cells slots Q (F0 m (pc + 3) ls (.long r :: rest))) : W p l e R s m args below meth c H locs cells slots Q (F0 m pc ls st0) := by
  refine va_calll hr I.2.2 (fun _ _ h => h) (fun _ h => h) fun r σ' t H1 locs1 ht _ hp hB _ _ hS => ?_
  exact kk r σ' H1 locs1 hp ⟨by rw [← ht]; exact hB.1, hB.2.2.1, hS⟩
end XR
section XM
variable {l : Launch} {D : va_G} {cl : List vw_C} {tys : List (ClassId × FieldType)} {N : Nat} {ad : Nat → Nat} {σ : Nat → va_E}
/-- a method's contract from the walk of its body -/
theorem xr_met {y : MethodName} {ws' : List Cond} {rm : Room} {Qc : Array Value → State → Outcome → State → Prop} {free : Addr → Prop} {cc : ByteArray} {maxL : Nat} {ret : Option FieldType} {avs : List Value}
    (hy : plainName y.cls = true) (hlen : (lg_sl avs).length ≤ maxL)
    (body : ∀ (p : Program) (e : Env) (s : State) (m : MethodId) (args : Array Value) (below : List Frame) (meth : Method) (c : Code) (ls : Array Slot), p.tables.exec = Jvm.exec → c.code = cc → xX p c cc maxL s args (Cond.code y cc maxL ret :: ws') y.cls m D cl tys → meth.sig.returnType = ret → meth.locks = false → lv_has ls maxL (lv_args 0 avs) → xI D cl N ad s.heap σ s.heap [] →
      W p l e rm s m args below meth c s.heap [] 0 0 (MQ below Qc args s 0 0 free) (F0 m 0 ls [])) : Met l y (Cond.code y cc maxL ret :: ws') rm (va_Pc avs (xS D cl tys N ad σ)) Qc 0 0 free := by
  refine Met.ofW (cc := cc) (maxL := maxL) (ret := ret) hy rfl ?_
  intro p e s m args below meth c s₁ B hml hv
  obtain ⟨rfl, hP, hK, hD, hNs⟩ := hv
  rw [lg_entry_eq]
  exact body p e s m _ below meth c _ B.exec B.bytes ⟨⟨B.exec, B.bytes, hml, findClass_of_methodNamed B.named, atoms_spec (ws := Cond.code y cc maxL ret :: ws') B.pre⟩, hK, hNs⟩ B.returns B.notSynchronized (lv_entry avs hlen) ⟨hP, hD, va_S.rf⟩
end XM
