section XR2
variable {p : Program} {l : Launch} {e : Env} {R : Room} {s : State} {m : MethodId} {args : Array Value} {below : List Frame} {meth : Method} {c : Code} {H : Heap} {locs : List Loc} {cells slots : Nat} {Q : State → Prop}
variable {cc : ByteArray} {pc nL : Nat} {ls : Array Slot} {rest : List Value} {D : va_G} {cl : List vw_C} {tys : List (ClassId × FieldType)} {H0 : Heap} {N : Nat} {ad : Nat → Nat} {σ : Nat → va_E} {Ts : List Cond} {own : String}
/-- System.arraycopy between two int arrays -/
theorem xr_copy (X : xX p c cc nL s args Ts own m D cl tys) (I : xI D cl N ad H0 σ H locs) (hl1 : ls.size = nL) {idx : Nat} (hlink : Cond.methodLink own idx arraycopyName ∈ Ts) (hnat : Cond.native arraycopyName ∈ Ts) (hstat : Cond.static arraycopyName ∈ Ts) (hini : Cond.initialized "java/lang/System" ∈ Ts)
    (k1 k2 t0 : Nat) (hk1 : k1 < N) (hk2 : k2 < N) {c0 : ClassId} {n0 n1 sp dp n : Nat} {f g : Nat → Int32} (hσ1 : σ k1 = .inl (c0, n0, .inl f)) (hσ2 : σ k2 = .inl (c0, n1, .inl g)) (ht : tys[t0]? = some (c0, .int)) (h1 : sp + n ≤ n0) (h2 : dp + n ≤ n1) (hn0 : n0 < 2 ^ 31) (hn1 : n1 < 2 ^ 31)
    (hframes : 1 ≤ R.frames) (hlocals : (rest.map fun v => v.category).sum + (nativeFrameWords "java/lang/System" "arraycopy" 5 + 11) ≤ R.locals) (hdg : decode cc pc = .ok (.invokestatic idx, 3))
    (kk : ∀ (H1 : Heap) (locs1 : List Loc), xI D cl N ad H0 (va_up σ k2 (.inl (c0, n1, .inl (va_cpy f g sp dp n)))) H1 locs1 → W p l e R s m args below meth c H1 locs1 cells slots Q (F0 m (pc + 3) ls rest)) : W p l e R s m args below meth c H locs cells slots Q (F0 m pc ls (.int (nI n) :: .int (nI dp) :: .ref (ad k2) :: .int (nI sp) :: .ref (ad k1) :: rest)) := by
  have e1 : (nI sp).toNatClampNeg = sp := nI_clamp (by omega)
  have e2 : (nI dp).toNatClampNeg = dp := nI_clamp (by omega)
  have e3 : (nI n).toNatClampNeg = n := nI_clamp (by omega)
  refine va_copyi X.1.1 X.1.2.1 (X.1.2.2.1.trans hl1.symm) X.1.2.2.2.1 (X.1.2.2.2.2 _ hlink) (X.1.2.2.2.2 _ hnat) (X.1.2.2.2.2 _ hstat) (X.1.2.2.2.2 _ hini) X.2.1 I.1 I.2.1 I.2.2 k1 k2 t0 t0 (xw_get hk1 hσ1) (xw_get hk2 hσ2) ht ht rfl (nI_pos (by omega)) (nI_pos (by omega)) (nI_pos (by omega)) (by rw [e1, e3]; exact h1) (by rw [e2, e3]; exact h2) (fun _ _ => rfl) hframes hlocals hdg fun H1 locs1 g1 g2 g3 => ?_
  rw [xw_set, e1, e2, e3] at g1 g2
  exact kk H1 locs1 ⟨g1, g2, g3⟩
theorem xr_min (X : xX p c cc nL s args Ts own m D cl tys) (hl1 : ls.size = nL) {idx : Nat} (hlink : Cond.methodLink own idx Lib.Math.min.name ∈ Ts) (hstat : Cond.static Lib.Math.min.name ∈ Ts) (hini : Cond.initialized "java/lang/Math" ∈ Ts) (hcode : Cond.code Lib.Math.min.name Lib.Math.min.code 2 (some .int) ∈ Ts)
    (hframes : 1 ≤ R.frames) (hlocals : (rest.map fun v => v.category).sum + 13 ≤ R.locals) (hc : cells ≤ R.cells) (hs : slots ≤ R.slots) {x y : Nat} (hx : x < 2 ^ 31) (hy : y < 2 ^ 31) (hdg : decode cc pc = .ok (.invokestatic idx, 3))
    (kk : W p l e R s m args below meth c H locs cells slots Q (F0 m (pc + 3) ls (.int (nI (min x y)) :: rest))) : W p l e R s m args below meth c H locs cells slots Q (F0 m pc ls (.int (nI y) :: .int (nI x) :: rest)) := by
  refine va_mmin X.1.1 X.1.2.1 (X.1.2.2.1.trans hl1.symm) X.1.2.2.2.1 (X.1.2.2.2.2 _ hlink) (X.1.2.2.2.2 _ hstat) (X.1.2.2.2.2 _ hini) (X.1.2.2.2.2 _ hcode) hframes hlocals hc hs hdg ?_
  have e : (if nI y < nI x then nI y else nI x) = nI (min x y) := by
    split
    · next h => rw [Nat.min_eq_right (Nat.le_of_lt ((nI_ltI hy hx).mp h))]
    · next h => rw [Nat.min_eq_left (Nat.le_of_not_lt fun q => h ((nI_ltI hy hx).mpr q))]
  rw [e]
  exact kk
theorem xr_zret {v : Int32} {post : Int32 → (Nat → va_E) → Prop} (X : xX p c cc nL s args Ts own m D cl tys) (I : xI D cl N ad s.heap σ H locs) (hr : meth.sig.returnType = some .boolean) (hlk : meth.locks = false) (hn : narrow .boolean (.int v) = .int v) (hp : post v σ) (hdg : decode cc pc = .ok (.ireturn, 1)) :
    W p l e R s m args below meth c H locs cells slots (MQ below (va_Qi post (xS D cl tys N ad) (xA N ad)) args s cells slots (xA N ad)) (F0 m pc ls [.int v]) :=
  W.zret X.1.1 X.1.2.1 hr hn (fun _ ht hW => ⟨⟨v, σ, rfl, hp, by rw [ht]; exact I.1, va_K.moved hW.alike X.2.1, I.2.1, X.2.2.warm hW⟩, I.2.2.F ht⟩) I.2.2.2.2 hdg hlk
theorem xr_lret {v : Int64} {post : Int64 → (Nat → va_E) → Prop} (X : xX p c cc nL s args Ts own m D cl tys) (I : xI D cl N ad s.heap σ H locs) (hr : meth.sig.returnType = some .long) (hlk : meth.locks = false) (hp : post v σ) (hdg : decode cc pc = .ok (.lreturn, 1)) :
    W p l e R s m args below meth c H locs cells slots (MQ below (va_Ql post (xS D cl tys N ad) (xA N ad)) args s cells slots (xA N ad)) (F0 m pc ls [.long v]) :=
  W.lret X.1.1 X.1.2.1 hr (fun _ ht hW => ⟨⟨v, σ, rfl, hp, by rw [ht]; exact I.1, va_K.moved hW.alike X.2.1, I.2.1, X.2.2.warm hW⟩, I.2.2.F ht⟩) I.2.2.2.2 hdg hlk
end XR2
