/-! worlds that grow: the k-th cell lies at z + k -/
def aoOK (U : State) : Prop := (Cond.arrayOver (.array .int)).before #[] U = true ∧ va_AO "SpectrumDesk$Polynomial" U
theorem aoOK.moved {u U : State} (hvm : u.vm.Alike U.vm) (h : aoOK u) : aoOK U := ⟨over_moved (a := #[]) (a' := #[]) hvm h.1, va_AO.moved hvm h.2⟩
def xJ (D : va_G) (cl : List vw_C) (A : Nat → Prop) (N : Nat) (ad : Nat → Nat) (H0 : Heap) (σ : Nat → va_E) (H : Heap) (locs : List Loc) : Prop :=
  va_P D cl (xw N ad σ) H ∧ va_D A (xw N ad σ) ∧ va_S A H0 H locs
def xG (D : va_G) (cl : List vw_C) (tys : List (ClassId × FieldType)) (z N : Nat) (ad : Nat → Nat) (σ : Nat → va_E) (U : State) : Prop := xS D cl tys N ad σ U ∧ U.heap.size = z + N ∧ aoOK U
def xgA (z N : Nat) (ad : Nat → Nat) : Nat → Prop := fun q => xA N ad q ∨ z + N ≤ q
theorem xP_of {D : va_G} {cl : List vw_C} {N : Nat} {ad : Nat → Nat} {σ : Nat → va_E} {H : Heap} (h : ∀ k, k < N → va_at D cl (ad k, σ k) H) : va_P D cl (xw N ad σ) H := fun k q hq => by
  have hk : k < N := by
    have := (List.getElem?_eq_some_iff.mp hq).1
    rwa [xw_len] at this
  rw [xw_get hk rfl] at hq
  cases hq
  exact h k hk
theorem xD_of {A : Nat → Prop} {N : Nat} {ad : Nat → Nat} {σ : Nat → va_E} (h1 : ∀ i j, i < N → j < N → ad i = ad j → i = j) (h2 : ∀ k, k < N → A (ad k)) : va_D A (xw N ad σ) := by
  have g : ∀ (k : Nat) (q : Nat × va_E), (xw N ad σ)[k]? = some q → k < N ∧ q = (ad k, σ k) := fun k q hq => by
    have hk : k < N := by
      have := (List.getElem?_eq_some_iff.mp hq).1
      rwa [xw_len] at this
    rw [xw_get hk rfl] at hq
    exact ⟨hk, (Option.some.inj hq).symm⟩
  refine ⟨fun i j p q hi hj e => ?_, fun k q hq => ?_⟩
  · obtain ⟨a, rfl⟩ := g i p hi
    obtain ⟨b, rfl⟩ := g j q hj
    exact h1 i j a b e
  · obtain ⟨a, rfl⟩ := g k q hq
    exact h2 k a
theorem xD_in {A : Nat → Prop} {N : Nat} {ad : Nat → Nat} {σ : Nat → va_E} (h : va_D A (xw N ad σ)) {k : Nat} (hk : k < N) : A (ad k) := h.2 k _ (xw_get hk rfl)
theorem xD_self {A : Nat → Prop} {N : Nat} {ad : Nat → Nat} {σ : Nat → va_E} (h : va_D A (xw N ad σ)) : va_D (xA N ad) (xw N ad σ) := ⟨h.1, fun k q hq => by
  have hk : k < N := by
    have := (List.getElem?_eq_some_iff.mp hq).1
    rwa [xw_len] at this
  rw [xw_get hk rfl] at hq
  cases hq
  exact ⟨k, hk, rfl⟩⟩
/-- the outer array of int[n][k] when i of its rows are laid -/
theorem xo_outer (cA : ClassId) (n h0 : Nat) (i : Nat) : Jvm.Free.Multi.outerC cA n h0 i = arrV cA n (fun j => va_rf (if j < i then some (h0 + 1 + j) else none)) := by
  induction i with
  | zero =>
    show ({ cls := cA, slots := Array.replicate n .null, vm := .none } : Cell) = _
    rw [arrV_new]
    refine congrArg (arrV cA n) (funext fun j => ?_)
    rw [if_neg (Nat.not_lt_zero _)]
    rfl
  | succ i ih =>
    show (Jvm.Free.Multi.outerC cA n h0 i).setSlot i (.ref (h0 + 1 + i)) = _
    rw [ih, arrV_store]
    refine congrArg (arrV cA n) (funext fun j => ?_)
    rcases Nat.lt_trichotomy j i with h | h | h
    · rw [updV, if_neg (by omega), if_pos h, if_pos (by omega)]
    · rw [updV, if_pos h, h, if_pos (Nat.lt_succ_self _)]; rfl
    · rw [updV, if_neg (by omega), if_neg (by omega), if_neg (by omega)]
/-- the world, with new cells behind it -/
theorem xJ_grow {D : va_G} {cl : List vw_C} {A : Nat → Prop} {z N N' : Nat} {ad : Nat → Nat} {H0 H H1 : Heap} {σ σ' : Nat → va_E} {locs : List Loc} (had : ∀ k, ad k = z + k) (hA : ∀ q, H0.size ≤ q → A q) (J : xJ D cl A N ad H0 σ H locs) (hz : H.size = z + N) (hN : N ≤ N') (ho : ∀ x : Nat, x < H.size → H1[x]? = H[x]?) (hs : H1.size = z + N') (hσ : ∀ k, k < N → σ' k = σ k) (hn : ∀ k, N ≤ k → k < N' → va_at D cl (ad k, σ' k) H1) : xJ D cl A N' ad H0 σ' H1 locs := by
  obtain ⟨hP, hD, hS⟩ := J
  have hk : ∀ (k : Nat) (x : Nat × va_E), (xw N ad σ)[k]? = some x → H1[x.1]? = H[x.1]? := fun k x hx => ho x.1 ((hP k x hx).lt)
  have hP1 := hP.kept hk
  refine ⟨xP_of (fun k h => ?_), xD_of (fun i j _ _ e => by rw [had, had] at e; omega) (fun k h => ?_), ⟨Nat.le_trans hS.1 (by omega), fun x h1 h2 => (ho x (Nat.lt_of_lt_of_le h1 hS.1)).trans (hS.2.1 x h1 h2), hS.2.2⟩⟩
  · rcases Nat.lt_or_ge k N with q | q
    · rw [hσ k q]; exact hP1 k _ (xw_get q rfl)
    · exact hn k q h
  · rcases Nat.lt_or_ge k N with q | q
    · exact xD_in hD q
    · exact hA _ (by have := hS.1; rw [had]; omega)
theorem xJ_size {D : va_G} {cl : List vw_C} {A : Nat → Prop} {z N : Nat} {ad : Nat → Nat} {H0 H : Heap} {σ : Nat → va_E} {locs : List Loc} (had : ∀ k, ad k = z + k) (J : xJ D cl A N ad H0 σ H locs) (h0 : 0 < N) (hle : H.size ≤ z + N) : H.size = z + N := by
  have h := (J.1 (N - 1) _ (xw_get (by omega) rfl)).lt
  have h : ad (N - 1) < H.size := h
  rw [had] at h
  omega
section XJR
variable {p : Program} {l : Launch} {e : Env} {R : Room} {s : State} {m : MethodId} {args : Array Value} {below : List Frame} {meth : Method} {c : Code} {H : Heap} {locs : List Loc} {cells slots : Nat} {Q : State → Prop}
variable {cc : ByteArray} {pc nL : Nat} {ls : Array Slot} {rest : List Value} {D : va_G} {cl : List vw_C} {tys : List (ClassId × FieldType)} {A : Nat → Prop} {H0 : Heap} {z N : Nat} {ad : Nat → Nat} {σ : Nat → va_E} {Ts : List Cond} {own : String}
theorem xj_W {g : JFrame} (kk : H.size ≤ s.heap.size + cells → W p l e R s m args below meth c H locs cells slots Q g) : W p l e R s m args below meth c H locs cells slots Q g := fun T hT X => kk (by rw [← hT]; exact X.heapSize) T hT X
theorem xj_get (X : xX p c cc nL s args Ts own m D cl tys) (J : xJ D cl A N ad H0 σ H locs) {ref C : String} {T : u_T} {NF ci index : Nat} (hin : ∀ w ∈ u_ws C T NF, w ∈ Ts) (k : Nat) (hk : k < N) {fs : List Value} (hσ : σ k = .inr (ci, fs)) (hc : cl[ci]? = some (C, T, NF)) (i : Nat) (hi : i < NF) (hlink : Cond.fieldLink own index ref (T i).2.1 (T i).2.2.1 ∈ Ts) (href : (T i).1 = ref) {v : Value} (hv : fs[i]? = some v) (hdg : decode cc pc = .ok (.getfield index, 3))
    (kk : W p l e R s m args below meth c H locs cells slots Q (F0 m (pc + 3) ls (v :: rest))) : W p l e R s m args below meth c H locs cells slots Q (F0 m pc ls (.ref (ad k) :: rest)) :=
  va_get X.1.1 X.1.2.1 X.1.2.2.2.2 hin X.1.2.2.2.1 X.2.1 J.1 k (xw_get hk hσ) hc i hi (X.1.2.2.2.2 _ hlink) (fun _ h => by rw [← href]; exact h) hv hdg kk
theorem xj_put (X : xX p c cc nL s args Ts own m D cl tys) (J : xJ D cl A N ad H0 σ H locs) {ref C : String} {T : u_T} {NF ci index : Nat} (hin : ∀ w ∈ u_ws C T NF, w ∈ Ts) (ty0 : Nat → FieldType) (hty : ∀ k, k < NF → parseFieldDescriptor (T k).2.2.1 = some (ty0 k)) (hnm : ∀ a, a < NF → ∀ b, b < NF → a ≠ b → (T a).2.1 ≠ (T b).2.1) (k : Nat) (hk : k < N) {fs : List Value} (hσ : σ k = .inr (ci, fs)) (hc : cl[ci]? = some (C, T, NF)) (i : Nat) (hi : i < NF) (hlink : Cond.fieldLink own index ref (T i).2.1 (T i).2.2.1 ∈ Ts) (href : (T i).1 = ref) (hfin : (T i).2.2.2 = false) {ty : FieldType} {v : Value} (hd : parseFieldDescriptor (T i).2.2.1 = some ty) (hnar : narrow ty v = v) (hfit : fits ty v = true) (hl : i < fs.length) (hdg : decode cc pc = .ok (.putfield index, 3))
    (kk : ∀ (H1 : Heap) (locs1 : List Loc), xJ D cl A N ad H0 (va_up σ k (.inr (ci, fs.set i v))) H1 locs1 → W p l e R s m args below meth c H1 locs1 cells slots Q (F0 m (pc + 3) ls rest)) : W p l e R s m args below meth c H locs cells slots Q (F0 m pc ls (v :: .ref (ad k) :: rest)) := by
  refine va_put X.1.1 X.1.2.1 X.1.2.2.2.2 hin ty0 hty hnm X.1.2.2.2.1 X.2.1 J.1 J.2.1 J.2.2 k (xw_get hk hσ) hc i hi (X.1.2.2.2.2 _ hlink) (fun _ h => by rw [← href]; exact h) hfin hd hnar hfit hl hdg fun H1 locs1 h1 h2 h3 => ?_
  rw [xw_set] at h1 h2
  exact kk H1 locs1 ⟨h1, h2, h3⟩
theorem xj_putF (X : xX p c cc nL s args Ts own m D cl tys) (J : xJ D cl A N ad H0 σ H locs) {ref C : String} {T : u_T} {NF ci index : Nat} (hin : ∀ w ∈ u_ws C T NF, w ∈ Ts) (ty0 : Nat → FieldType) (hty : ∀ k, k < NF → parseFieldDescriptor (T k).2.2.1 = some (ty0 k)) (hnm : ∀ a, a < NF → ∀ b, b < NF → a ≠ b → (T a).2.1 ≠ (T b).2.1) (k : Nat) (hk : k < N) {fs : List Value} (hσ : σ k = .inr (ci, fs)) (hc : cl[ci]? = some (C, T, NF)) (i : Nat) (hi : i < NF) (hlink : Cond.fieldLink own index ref (T i).2.1 (T i).2.2.1 ∈ Ts) (href : (T i).1 = ref) (hfin : (T i).2.2.2 = true) (hin2 : meth.name = "<init>") (hdecl : (T i).1 = own) {ty : FieldType} {v : Value} (hd : parseFieldDescriptor (T i).2.2.1 = some ty) (hnar : narrow ty v = v) (hfit : fits ty v = true) (hl : i < fs.length) (hdg : decode cc pc = .ok (.putfield index, 3))
    (kk : ∀ (H1 : Heap) (locs1 : List Loc), xJ D cl A N ad H0 (va_up σ k (.inr (ci, fs.set i v))) H1 locs1 → W p l e R s m args below meth c H1 locs1 cells slots Q (F0 m (pc + 3) ls rest)) : W p l e R s m args below meth c H locs cells slots Q (F0 m pc ls (v :: .ref (ad k) :: rest)) := by
  refine va_putF X.1.1 X.1.2.1 X.1.2.2.2.2 hin ty0 hty hnm X.1.2.2.2.1 X.2.1 J.1 J.2.1 J.2.2 k (xw_get hk hσ) hc i hi (X.1.2.2.2.2 _ hlink) (fun _ h => by rw [← href]; exact h) hfin hin2 hdecl hd hnar hfit hl hdg fun H1 locs1 h1 h2 h3 => ?_
  rw [xw_set] at h1 h2
  exact kk H1 locs1 ⟨h1, h2, h3⟩
theorem xj_aald (X : xX p c cc nL s args Ts own m D cl tys) (J : xJ D cl A N ad H0 σ H locs) (k t0 : Nat) (hk : k < N) {cA : ClassId} {n : Nat} {ty : FieldType} {f : Nat → Option Nat} (hσ : σ k = .inl (cA, n, .inr (.inr (.inr (.inr f))))) (ht : tys[t0]? = some (cA, ty)) (hty : ty.isReference = true) {j r : Nat} (hj : j < n) (hn : n < 2 ^ 31) (hf : f j = some (ad r)) (hdg : decode cc pc = .ok (.aaload, 1))
    (kk : W p l e R s m args below meth c H locs cells slots Q (F0 m (pc + 1) ls (.ref (ad r) :: rest))) : W p l e R s m args below meth c H locs cells slots Q (F0 m pc ls (.int (nI j) :: .ref (ad k) :: rest)) := by
  have hin : vp_in (nI j) n := vp_in_nI hj hn
  have hcl : (nI j).toNatClampNeg = j := nI_clamp (Nat.lt_trans hj hn)
  refine W.aald (v := .ref (ad r)) (ty := ty) X.1.1 X.1.2.1 (J.1 k _ (xw_get hk hσ)) ((X.2.1.2 t0 _ ht).1 n (fun i => va_rf (f i))) hty (fun q => by cases q) ?_ ?_ rfl rfl hdg kk
  · show ¬ (nI j < 0 ∨ (arrV _ _ _).slots.size ≤ _)
    rw [arrV_size]
    exact hin
  · show (arrV _ _ _).slots[_]? = _
    rw [hcl, arrV_read _ _ hj, hf]
    rfl
/-- a[j] = an object of the world -/
theorem xj_aast (X : xX p c cc nL s args Ts own m D cl tys) (J : xJ D cl A N ad H0 σ H locs) (k t0 r ci : Nat) (hk : k < N) (hr : r < N) {cA : ClassId} {n : Nat} {q : vw_C} {vs : List Value} {f : Nat → Option Nat} (hσ : σ k = .inl (cA, n, .inr (.inr (.inr (.inr f))))) (ht : tys[t0]? = some (cA, .object q.1)) (hσr : σ r = .inr (ci, vs)) (hc : cl[ci]? = some q) {j : Nat} (hj : j < n) (hn : n < 2 ^ 31) (hdg : decode cc pc = .ok (.aastore, 1))
    (kk : ∀ (H1 : Heap) (locs1 : List Loc), xJ D cl A N ad H0 (va_up σ k (.inl (cA, n, .inr (.inr (.inr (.inr (va_up f j (some (ad r)))))))))  H1 locs1 → W p l e R s m args below meth c H1 locs1 cells slots Q (F0 m (pc + 1) ls rest)) : W p l e R s m args below meth c H locs cells slots Q (F0 m pc ls (.ref (ad r) :: .int (nI j) :: .ref (ad k) :: rest)) := by
  refine va_astq X.1.1 X.1.2.1 X.2.1 J.1 J.2.1 J.2.2 k t0 r ci (xw_get hk hσ) ht (xw_get hr hσr) hc (vp_in_nI hj hn) hdg fun H1 locs1 h1 h2 h3 => ?_
  rw [nI_clamp (Nat.lt_trans hj hn), xw_set] at h1 h2
  exact kk H1 locs1 ⟨h1, h2, h3⟩
/-- a new object: the cell N -/
theorem xj_new (X : xX p c cc nL s args Ts own m D cl tys) (J : xJ D cl A N ad H0 σ H locs) (had : ∀ k, ad k = z + k) (hA : ∀ q, H0.size ≤ q → A q) (h0 : 0 < N) (hsz : s.heap.size + cells = z + N) {C : String} {T : u_T} {NF ci index : Nat} (hin : ∀ w ∈ u_ws C T NF, w ∈ Ts) (ty : Nat → FieldType) (hty : ∀ k, k < NF → parseFieldDescriptor (T k).2.2.1 = some (ty k)) (hcl : Cond.classLink own index C ∈ Ts) (hinst : Cond.instantiable C NF ∈ Ts) (hini : Cond.initialized C ∈ Ts) (hc : cl[ci]? = some (C, T, NF)) {fs : List Value} (hfs : ∀ j, j < NF → defaultValue (ty j) = vp_V fs j) (hcells : cells + 1 ≤ R.cells) (hslots : slots + NF ≤ R.slots) (hdg : decode cc pc = .ok (.new index, 3))
    (kk : ∀ (H1 : Heap), xJ D cl A (N + 1) ad H0 (va_up σ N (.inr (ci, fs))) H1 locs → W p l e R s m args below meth c H1 locs (cells + 1) (slots + NF) Q (F0 m (pc + 3) ls (.ref (ad N) :: rest))) : W p l e R s m args below meth c H locs cells slots Q (F0 m pc ls rest) := by
  refine xj_W fun hle => ?_
  have hH := xJ_size had J h0 (by omega)
  have hKn := X.2.1.1 ci _ hc
  refine W.newcK X.1.1 X.1.2.1 X.1.2.2.2.1 (X.1.2.2.2.2 _ hcl) (X.1.2.2.2.2 _ hinst) (X.1.2.2.2.2 _ hini) rfl hdg hcells hslots hKn.2.1 (h := ad N) (by rw [had]; exact hH) fun H1 kC hkC e1 z1 o1 => ?_
  refine kk H1 (xJ_grow had hA J hH (Nat.le_succ N) (fun x hx => o1 x (by rw [had]; omega)) (by rw [z1, had]; omega) (fun k hk => va_up_ne _ _ (by omega)) (fun k h1 h2 => ?_))
  obtain rfl : k = N := by omega
  rw [va_up_self]
  exact ⟨_, hc, (u_born ty X.1.2.2.2.2 hin hKn hkC e1 hty).to hfs⟩
/-- a new array of numbers: the cell N -/
theorem xj_newa (X : xX p c cc nL s args Ts own m D cl tys) (J : xJ D cl A N ad H0 σ H locs) (had : ∀ k, ad k = z + k) (hA : ∀ q, H0.size ≤ q → A q) (h0 : 0 < N) (hsz : s.heap.size + cells = z + N) {atype : ArrayType} (harr : Cond.arrayClass (newarray.typeOf atype) ∈ Ts) (t0 : Nat) {cA0 : ClassId} (ht : tys[t0]? = some (cA0, newarray.typeOf atype)) {n : Nat} {a0 : vp_A} (ha : ∀ cA : ClassId, vp_cell cA a0 = arrV cA n (fun _ => defaultValue (newarray.typeOf atype))) (hn : n < 2 ^ 31) (hbytes : n * componentBytes (newarray.typeOf atype) ≤ 536870912) (hcells : cells + 1 ≤ R.cells) (hslots : slots + n ≤ R.slots) (hdg : decode cc pc = .ok (.newarray atype, 2))
    (kk : ∀ (H1 : Heap), xJ D cl A (N + 1) ad H0 (va_up σ N (.inl (cA0, a0))) H1 locs → W p l e R s m args below meth c H1 locs (cells + 1) (slots + n) Q (F0 m (pc + 2) ls (.ref (ad N) :: rest))) : W p l e R s m args below meth c H locs cells slots Q (F0 m pc ls (.int (nI n) :: rest)) := by
  refine xj_W fun hle => ?_
  have hH := xJ_size had J h0 (by omega)
  refine va_newaK X.1.1 X.1.2.1 (X.1.2.2.2.2 _ harr) rfl hdg rfl (nI_pos hn) (nI_clamp hn) hbytes hcells hslots (h := ad N) (by rw [had]; exact hH) fun H1 cA e1 z1 o1 hAr hNm => ?_
  have e : cA = cA0 := by
    have h := (X.2.1.2 t0 _ ht).2
    have h2 : s.vm.findClass ("[" ++ (newarray.typeOf atype).toString) = some cA0 := by cases atype <;> exact h
    exact Option.some.inj (hNm.symm.trans h2)
  subst e
  refine kk H1 (xJ_grow had hA J hH (Nat.le_succ N) (fun x hx => o1 x (by rw [had]; omega)) (by rw [z1, had]; omega) (fun k hk => va_up_ne _ _ (by omega)) (fun k h1 h2 => ?_))
  obtain rfl : k = N := by omega
  rw [va_up_self]
  show H1[ad k]? = some (vp_cell _ _)
  rw [ha]
  exact e1
/-- a new array of objects, all null: the cell N -/
theorem xj_newq (X : xX p c cc nL s args Ts own m D cl tys) (J : xJ D cl A N ad H0 σ H locs) (had : ∀ k, ad k = z + k) (hA : ∀ q, H0.size ≤ q → A q) (h0 : 0 < N) (hsz : s.heap.size + cells = z + N) {C : String} {index : Nat} (hclink : Cond.classLink own index C ∈ Ts) (hover : va_AO C s) (t0 : Nat) {cA0 : ClassId} (ht : tys[t0]? = some (cA0, .object C)) {n : Nat} (hn : n < 2 ^ 31) (hbytes : n * 4 ≤ 536870912) (hcells : cells + 1 ≤ R.cells) (hslots : slots + n ≤ R.slots) (hdg : decode cc pc = .ok (.anewarray index, 3))
    (kk : ∀ (H1 : Heap), xJ D cl A (N + 1) ad H0 (va_up σ N (.inl (cA0, n, .inr (.inr (.inr (.inr (fun _ => none))))))) H1 locs → W p l e R s m args below meth c H1 locs (cells + 1) (slots + n) Q (F0 m (pc + 3) ls (.ref (ad N) :: rest))) : W p l e R s m args below meth c H locs cells slots Q (F0 m pc ls (.int (nI n) :: rest)) := by
  refine xj_W fun hle => ?_
  have hH := xJ_size had J h0 (by omega)
  have hcl : (nI n).toNatClampNeg = n := nI_clamp hn
  refine W.anew X.1.1 X.1.2.1 X.1.2.2.2.1 (X.1.2.2.2.2 _ hclink) (va_AO.use hover) rfl hdg rfl (nI_pos hn) (by rw [hcl]; exact hbytes) hcells (by rw [hcl]; exact hslots) fun cA kA comp f1 f2 f3 f4 => ?_
  generalize hH1 : H.push ({ cls := cA, slots := Array.replicate (nI n).toNatClampNeg .null, vm := .none } : Cell) = H1
  have z1 : H1.size = H.size + 1 := by rw [← hH1, Array.size_push]
  have e1 : H1[H.size]? = some (arrV cA n (fun _ => .null)) := by rw [← hH1, Array.getElem?_push_size, hcl, ← arrV_new]
  have o1 : ∀ q : Nat, q < H.size → H1[q]? = H[q]? := fun q hq => by rw [← hH1, Array.getElem?_push, if_neg (Nat.ne_of_lt hq)]
  have e : cA = cA0 := by
    obtain ⟨_, _, _, _, _, h⟩ := (X.2.1.2 t0 _ ht).2
    exact Option.some.inj (f1.symm.trans h)
  subst e
  have hN : ad N = H.size := by rw [had]; omega
  have h := kk H1 (xJ_grow had hA J hH (Nat.le_succ N) o1 (by rw [z1]; omega) (fun k hk => va_up_ne _ _ (by omega)) (fun k h1 h2 => by
    obtain rfl : k = N := by omega
    rw [va_up_self, hN]
    show H1[H.size]? = some (vp_cell _ _)
    rw [vp_cell_q]
    exact e1))
  rw [hN] at h
  rw [hcl]
  exact h
/-- int[n][k]: the cells N (the outer one) to N + n -/
theorem xj_mna (X : xX p c cc nL s args Ts own m D cl tys) (J : xJ D cl A N ad H0 σ H locs) (had : ∀ k, ad k = z + k) (hA : ∀ q, H0.size ≤ q → A q) (h0 : 0 < N) (hsz : s.heap.size + cells = z + N) {index : Nat} (hclink : Cond.classLink own index ("[" ++ (FieldType.array .int).toString) ∈ Ts) (hover : (Cond.arrayOver (.array .int)).before #[] s = true) (harr : Cond.arrayClass .int ∈ Ts) (t0 t1 : Nat) {cI cG : ClassId} (ht : tys[t0]? = some (cI, .int)) (ht1 : tys[t1]? = some (cG, .array .int)) {n k : Nat} (hn : n < 2 ^ 27) (hk : k < 2 ^ 27) (hcells : cells + (1 + n) ≤ R.cells) (hslots : slots + (n + n * k) ≤ R.slots) (hdg : decode cc pc = .ok (.multianewarray index 2, 4))
    (kk : ∀ (H1 : Heap) (σ' : Nat → va_E), (∀ j, j < N → σ' j = σ j) → σ' N = .inl (cG, n, .inr (.inr (.inr (.inr (fun i => if i < n then some (ad (N + 1 + i)) else none))))) → (∀ i, i < n → σ' (N + 1 + i) = .inl (cI, k, .inl (fun _ => 0))) → xJ D cl A (N + 1 + n) ad H0 σ' H1 locs → W p l e R s m args below meth c H1 locs (cells + 1 + n) (slots + n + n * k) Q (F0 m (pc + 4) ls (.ref (ad N) :: rest))) : W p l e R s m args below meth c H locs cells slots Q (F0 m pc ls (.int (nI k) :: .int (nI n) :: rest)) := by
  have cn : (nI n).toNatClampNeg = n := nI_clamp (by omega)
  have ck : (nI k).toNatClampNeg = k := nI_clamp (by omega)
  refine xj_W fun hle => ?_
  have hH := xJ_size had J h0 (by omega)
  intro T hT Xs
  obtain ⟨vm₁, cA, comp, -, fA, fC, -, -, X', step⟩ := Xs.multianewarray2F X.1.1 X.1.2.2.2.1 (X.1.2.2.2.2 _ hclink) hover (X.1.2.2.2.2 _ harr) (g := F0 m pc ls (.int (nI k) :: .int (nI n) :: rest)) rfl (by rw [X.1.2.1]; exact hdg) rfl (nI_pos (by omega)) (nI_pos (by omega)) (by rw [cn]; omega) (by rw [ck]; show k * 4 ≤ _; omega) (by rw [ck]; omega) rfl rfl (by rw [cn]; exact hcells) (by rw [cn, ck]; exact hslots)
  rw [cn, ck] at X' step
  have e1 : comp = cI := Option.some.inj (fC.symm.trans (X.2.1.2 t0 _ ht).2)
  have e2 : cA = cG := Option.some.inj (fA.symm.trans (X.2.1.2 t1 _ ht1).2)
  subst e1
  subst e2
  have hTh : (T.setVm vm₁).heap = H := hT
  generalize hF : Jvm.Free.Multi.fill (T.setVm vm₁) cA comp n k (defaultValue .int) n = F at X' step
  obtain ⟨f1, f2, -, -⟩ := Jvm.Free.Multi.fill_facts (T.setVm vm₁) cA comp n k (defaultValue .int) n
  rw [hF, hTh] at f1 f2
  have hold : ∀ x : Nat, x < H.size → F.heap[x]? = H[x]? := fun x hx => by
    have := Jvm.Free.Multi.fill_old (T.setVm vm₁) cA comp n k (defaultValue .int) (a := x) (by rw [hTh]; exact hx) n
    rw [hF, hTh] at this
    exact this
  have hrow : ∀ j : Nat, j < n → F.heap[H.size + 1 + j]? = some (Jvm.Free.Multi.innerC comp k (defaultValue .int)) := fun j hj => by
    have := Jvm.Free.Multi.fill_inner (T.setVm vm₁) cA comp n k (defaultValue .int) n j hj
    rw [hF, hTh] at this
    exact this
  obtain ⟨σ', hσ'⟩ : ∃ σ' : Nat → va_E, σ' = fun j => if j < N then σ j else if j = N then .inl (cA, n, .inr (.inr (.inr (.inr (fun i => if i < n then some (ad (N + 1 + i)) else none))))) else .inl (comp, k, .inl (fun _ => 0)) := ⟨_, rfl⟩
  have s1 : ∀ j, j < N → σ' j = σ j := fun j hj => by rw [hσ']; exact if_pos hj
  have s2 : σ' N = .inl (cA, n, .inr (.inr (.inr (.inr (fun i => if i < n then some (ad (N + 1 + i)) else none))))) := by rw [hσ']; show (if N < N then _ else _) = _; rw [if_neg (Nat.lt_irrefl _), if_pos rfl]
  have s3 : ∀ i, i < n → σ' (N + 1 + i) = .inl (comp, k, .inl (fun _ => 0)) := fun i hi => by rw [hσ']; show (if N + 1 + i < N then _ else _) = _; rw [if_neg (by omega), if_neg (by omega)]
  have hN : ad N = H.size := by rw [had]; omega
  have hJ : xJ D cl A (N + 1 + n) ad H0 σ' F.heap locs := by
    refine xJ_grow had hA J hH (by omega) hold (by rw [f1]; omega) s1 (fun j h1 h2 => ?_)
    by_cases ej : j = N
    · rw [ej, s2, hN]
      show F.heap[H.size]? = some (vp_cell _ _)
      rw [f2, xo_outer]
      refine congrArg some ((congrArg (arrV cA n) (funext fun i => ?_)).trans (vp_cell_q _ _ _).symm)
      rw [had, show z + (N + 1 + i) = H.size + 1 + i by omega]
    · obtain ⟨i, rfl⟩ : ∃ i, j = N + 1 + i := ⟨j - N - 1, by omega⟩
      rw [s3 i (by omega), had, show z + (N + 1 + i) = H.size + 1 + i by omega]
      show F.heap[H.size + 1 + i]? = some (vp_cell _ _)
      rw [hrow i (by omega), Jvm.Free.Multi.innerC, arrV_new]
      rfl
  obtain ⟨t, a1, b1⟩ := kk F.heap σ' s1 s2 s3 hJ F rfl X'
  rw [hN] at a1
  have hT' : T.heap = H := hT
  rw [← hT'] at a1
  exact ⟨t, step t a1, b1⟩
/-- Object.<init> -/
theorem xj_obj (X : xX p c cc nL s args Ts own m D cl tys) (hl1 : ls.size = nL) {idx k : Nat} (hlink : Cond.methodLink own idx Lib.objectInit ∈ Ts) (hinst : Cond.instanceMethod Lib.objectInit ∈ Ts) (hcode : Cond.code Lib.objectInit ⟨#[0xb1]⟩ 1 none ∈ Ts) (hframes : 1 ≤ R.frames) (hlocals : (rest.map fun v => v.category).sum + 12 ≤ R.locals) (hdg : decode cc pc = .ok (.invokespecial idx, 3))
    (kk : W p l e R s m args below meth c H locs cells slots Q (F0 m (pc + 3) ls rest)) : W p l e R s m args below meth c H locs cells slots Q (F0 m pc ls (.ref (ad k) :: rest)) := by
  refine W.objInit X.1.1 X.1.2.1 X.1.2.2.2.1 (X.1.2.2.2.2 _ hlink) (X.1.2.2.2.2 _ hinst) (X.1.2.2.2.2 _ hcode) rfl (by rw [X.1.2.2.1]; exact hl1) rfl hdg hframes (by show 2 * 0 + _ + 12 ≤ _; omega) ?_
  exact kk
/-- the end of a constructor -/
theorem xj_vret {post : (Nat → va_E) → Prop} {N0 : Nat} {mc ms : Nat} (X : xX p c cc nL s args Ts own m D cl tys) (J : xJ D cl (xgA z N0 ad) N ad s.heap σ H locs) (hr : meth.sig.returnType = none) (hlk : meth.locks = false) (hc : cells ≤ mc) (hs : slots ≤ ms) (hp : post σ) (hdg : decode cc pc = .ok (.return_, 1)) :
    W p l e R s m args below meth c H locs cells slots (MQ below (va_Qv post (xS D cl tys N ad) (xgA z N0 ad)) args s mc ms (xgA z N0 ad)) (F0 m pc ls []) :=
  W.widen hc hs (W.vret X.1.1 X.1.2.1 hr (fun _ ht hW => ⟨⟨σ, rfl, hp, by rw [ht]; exact J.1, va_K.moved hW.alike X.2.1, xD_self J.2.1, X.2.2.warm hW⟩, J.2.2.F ht⟩) J.2.2.2.2 hdg hlk)
/-- a call that makes nothing, of a contract over the world as it stands -/
theorem xj_callv {post : (Nat → va_E) → Prop} {a : Array Value} {st0 : List Value} (hr : va_Run p l e R s m args below meth c H locs cells slots 0 0 (F0 m pc ls st0) rest (va_Qv post (xS D cl tys N ad) (xA N ad) a) (xA N ad)) (J : xJ D cl A N ad H0 σ H locs)
    (kk : ∀ (σ' : Nat → va_E) (H1 : Heap) (locs1 : List Loc), post σ' → xJ D cl A N ad H0 σ' H1 locs1 → W p l e R s m args below meth c H1 locs1 cells slots Q (F0 m (pc + 3) ls rest)) : W p l e R s m args below meth c H locs cells slots Q (F0 m pc ls st0) := by
  have hin : ∀ q, xA N ad q → A q := fun q ⟨k, hk, e⟩ => e ▸ xD_in J.2.1 hk
  refine va_callv hr J.2.2 (fun q _ h => hin q h) hin fun σ' t H1 locs1 ht _ hp hB _ _ hS => ?_
  exact kk σ' H1 locs1 hp ⟨by rw [← ht]; exact hB.1, ⟨hB.2.2.1.1, fun k q hq => hin _ (hB.2.2.1.2 k q hq)⟩, hS⟩
/-- a call of a constructor: the world has N' cells behind it -/
theorem xj_callg {post : (Nat → va_E) → Prop} {a : Array Value} {st0 : List Value} {N' mc ms : Nat} (had : ∀ k, ad k = z + k) (hA : ∀ q, H0.size ≤ q → A q) (hH : H.size = z + N) (hr : va_Run p l e R s m args below meth c H locs cells slots mc ms (F0 m pc ls st0) rest (va_Qv post (xS D cl tys N' ad) (xgA z N ad) a) (xgA z N ad)) (J : xJ D cl A N ad H0 σ H locs)
    (kk : ∀ (σ' : Nat → va_E) (H1 : Heap) (locs1 : List Loc), post σ' → xJ D cl A N' ad H0 σ' H1 locs1 → W p l e R s m args below meth c H1 locs1 (cells + mc) (slots + ms) Q (F0 m (pc + 3) ls rest)) : W p l e R s m args below meth c H locs cells slots Q (F0 m pc ls st0) := by
  have hin : ∀ q, xgA z N ad q → A q := fun q h => h.elim (fun ⟨k, hk, e⟩ => e ▸ xD_in J.2.1 hk) (fun h => hA q (by have := J.2.2.1; omega))
  refine va_callv hr J.2.2 (fun q _ h => hin q h) hin fun σ' t H1 locs1 ht _ hp hB _ _ hS => ?_
  refine kk σ' H1 locs1 hp ⟨by rw [← ht]; exact hB.1, ⟨hB.2.2.1.1, fun k q hq => ?_⟩, hS⟩
  obtain ⟨j, hj, e⟩ := hB.2.2.1.2 k q hq
  rw [← e]
  rcases Nat.lt_or_ge j N with h | h
  · exact xD_in J.2.1 h
  · exact hA _ (by have := J.2.2.1; rw [had]; omega)
end XJR
theorem xG_blind {D : va_G} {cl : List vw_C} {tys : List (ClassId × FieldType)} {z N : Nat} {ad : Nat → Nat} {σ : Nat → va_E} {As : List Value} : FrameBlind (va_Pc As (xG D cl tys z N ad σ)) :=
  fun a U g mk q => by
    obtain ⟨q0, ⟨qP, qK, qD, qN⟩, qz, qa⟩ := q
    exact ⟨q0, ⟨qP, va_K.moved (u := U) (U := U.calling g mk a) (Vm.Alike.refl U.vm) qK, qD, qN.same rfl⟩, qz, qa.moved (u := U) (U := U.calling g mk a) (Vm.Alike.refl U.vm)⟩
section XJC
variable {p : Program} {l : Launch} {e : Env} {s : State} {m : MethodId} {args : Array Value} {below : List Frame} {meth : Method} {c : Code} {H : Heap} {locs : List Loc} {cells slots : Nat} {R : Room}
variable {cc : ByteArray} {pc nL : Nat} {ls : Array Slot} {rest : List Value} {D : va_G} {cl : List vw_C} {tys : List (ClassId × FieldType)} {A : Nat → Prop} {H0 : Heap} {z N : Nat} {ad : Nat → Nat} {σ : Nat → va_E} {Ts : List Cond} {own : String}
variable {y : MethodName} {bytes : ByteArray} {maxL n idx mc ms : Nat} {ret : Option FieldType} {ws' : List Cond} {rm : Room} {As st0 : List Value} {Qc : Array Value → State → Outcome → State → Prop} {free : Addr → Prop}
theorem xG_pre (X : xX p c cc nL s args Ts own m D cl tys) (J : xJ D cl A N ad H0 σ H locs) (hH : H.size = z + N) (ha : aoOK s) : PreS s H (va_Pc As (xG D cl tys z N ad σ)) As :=
  ⟨xG_blind, fun _ hU hW => ⟨rfl, ⟨by rw [hU]; exact J.1, va_K.moved hW.alike X.2.1, xD_self J.2.1, X.2.2.warm hW⟩, by rw [hU]; exact hH, ha.moved hW.alike⟩⟩
/-- a constructor is called on the cell b -/
theorem xj_runI (X : xX p c cc nL s args Ts own m D cl tys) (J : xJ D cl A N ad H0 σ H locs) (hH : H.size = z + N) (ha : aoOK s) {b : Nat} (hM : Met l y (Cond.code y bytes maxL none :: ws') rm (va_Pc (.ref (ad b) :: As) (xG D cl tys z N ad σ)) Qc mc ms free) (hG : GoodIn Ts (Cond.code y bytes maxL none :: ws')) (hl : Cond.methodLink own idx y ∈ Ts) (hin : Cond.instanceMethod y ∈ Ts) (hini : Cond.initialized y.cls ∈ Ts) (hy1 : y.name = "<init>") (hrc : rm.cells = mc) (hrs : rm.slots = ms)
    (hd : y.cls ≠ "java/lang/invoke/MethodHandle" ∧ y.cls ≠ "java/lang/invoke/VarHandle" ∧ (parseMethodDescriptor y.desc).map (fun d => d.parameters.length) = some n) (hk : rm.frames + 1 ≤ R.frames ∧ 8 + (maxL + 11) + rm.locals ≤ R.locals) (hn : As.length = n) (hsize : ls.size = nL) (hs0 : st0 = As.reverse ++ .ref (ad b) :: rest) (hW : (rest.map fun v => v.category).sum ≤ 8) (hdg : decode cc pc = .ok (.invokespecial idx, 3)) (hf : cells + mc ≤ R.cells ∧ slots + ms ≤ R.slots) :
    va_Run p l e R s m args below meth c H locs cells slots mc ms (F0 m pc ls st0) rest (Qc (Value.ref (ad b) :: As).toArray) free :=
  va_runI X.1 hM ⟨callB_of n X.1.2.2.2.2 hG rfl hrc hrs (X.1.2.2.2.2 _ hini) (X.1.2.2.2.2 _ hl) hd hk, hy1, X.1.2.2.2.2 _ hin⟩ (xG_pre X J hH ha) rfl hn hsize hs0 (lv_room hW) hdg hf
end XJC
section XJM
variable {l : Launch} {D : va_G} {cl : List vw_C} {tys : List (ClassId × FieldType)} {z N : Nat} {ad : Nat → Nat} {σ : Nat → va_E}
/-- a constructor's contract from the walk of its body -/
theorem xj_met {y : MethodName} {ws' : List Cond} {rm : Room} {mc ms : Nat} {Qc : Array Value → State → Outcome → State → Prop} {free : Addr → Prop} {cc : ByteArray} {maxL : Nat} {ret : Option FieldType} {avs : List Value}
    (hy : plainName y.cls = true) (hlen : (lg_sl avs).length ≤ maxL)
    (body : ∀ (p : Program) (e : Env) (s : State) (m : MethodId) (args : Array Value) (below : List Frame) (meth : Method) (c : Code) (ls : Array Slot), p.tables.exec = Jvm.exec → c.code = cc → xX p c cc maxL s args (Cond.code y cc maxL ret :: ws') y.cls m D cl tys → meth.sig.returnType = ret → meth.locks = false → meth.name = y.name → lv_has ls maxL (lv_args 0 avs) → aoOK s → s.heap.size = z + N → xJ D cl (xgA z N ad) N ad s.heap σ s.heap [] →
      W p l e rm s m args below meth c s.heap [] 0 0 (MQ below Qc args s mc ms free) (F0 m 0 ls [])) : Met l y (Cond.code y cc maxL ret :: ws') rm (va_Pc avs (xG D cl tys z N ad σ)) Qc mc ms free := by
  refine Met.ofW (cc := cc) (maxL := maxL) (ret := ret) hy rfl ?_
  intro p e s m args below meth c s₁ B hml hv
  obtain ⟨rfl, ⟨hP, hK, hD, hNs⟩, hz, ha⟩ := hv
  rw [lg_entry_eq]
  exact body p e s m _ below meth c _ B.exec B.bytes ⟨⟨B.exec, B.bytes, hml, findClass_of_methodNamed B.named, atoms_spec (ws := Cond.code y cc maxL ret :: ws') B.pre⟩, hK, hNs⟩ B.returns B.notSynchronized (name_of_methodNamed B.named B.method).1 (lv_entry avs hlen) ha hz ⟨hP, ⟨hD.1, fun k q hq => Or.inl (hD.2 k q hq)⟩, va_S.rf⟩
end XJM
