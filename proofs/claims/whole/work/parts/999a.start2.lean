/-! the law's first steps -/
section XN
variable {p : Program} {l : Launch} {e : Env} {s : State} {m : MethodId} {args : Array Value} {below : List Frame} {meth : Method} {c : Code} {H : Heap} {locs : List Loc} {cells slots : Nat} {R : Room} {Q : State → Prop}
variable {cc : ByteArray} {pc nL : Nat} {ls : Array Slot} {rest : List Value} {D : va_G} {cl : List vw_C} {tys : List (ClassId × FieldType)} {A : Nat → Prop} {H0 : Heap} {z N : Nat} {ad : Nat → Nat} {σ : Nat → va_E} {Ts : List Cond} {own : String}
theorem xj_newH (X : xX p c cc nL s args Ts own m D cl tys) (J : xJ D cl A N ad H0 σ H locs) (had : ∀ k, ad k = z + k) (hA : ∀ q, H0.size ≤ q → A q) (hH : H.size = z + N) {C : String} {T : u_T} {NF ci index : Nat} (hin : ∀ w ∈ u_ws C T NF, w ∈ Ts) (ty : Nat → FieldType) (hty : ∀ k, k < NF → parseFieldDescriptor (T k).2.2.1 = some (ty k)) (hcl : Cond.classLink own index C ∈ Ts) (hinst : Cond.instantiable C NF ∈ Ts) (hini : Cond.initialized C ∈ Ts) (hc : cl[ci]? = some (C, T, NF)) {fs : List Value} (hfs : ∀ j, j < NF → defaultValue (ty j) = vp_V fs j) (hcells : cells + 1 ≤ R.cells) (hslots : slots + NF ≤ R.slots) (hdg : decode cc pc = .ok (.new index, 3))
    (kk : ∀ (H1 : Heap), xJ D cl A (N + 1) ad H0 (va_up σ N (.inr (ci, fs))) H1 locs → W p l e R s m args below meth c H1 locs (cells + 1) (slots + NF) Q (F0 m (pc + 3) ls (.ref (ad N) :: rest))) : W p l e R s m args below meth c H locs cells slots Q (F0 m pc ls rest) := by
  have hKn := X.2.1.1 ci _ hc
  refine W.newcK X.1.1 X.1.2.1 X.1.2.2.2.1 (X.1.2.2.2.2 _ hcl) (X.1.2.2.2.2 _ hinst) (X.1.2.2.2.2 _ hini) rfl hdg hcells hslots hKn.2.1 (h := ad N) (by rw [had]; exact hH) fun H1 kC hkC e1 z1 o1 => ?_
  refine kk H1 (xJ_grow had hA J hH (Nat.le_succ N) (fun x hx => o1 x (by rw [had]; omega)) (by rw [z1, had]; omega) (fun k hk => va_up_ne _ _ (by omega)) (fun k h1 h2 => ?_))
  obtain rfl : k = N := by omega
  rw [va_up_self]
  exact ⟨_, hc, (u_born ty X.1.2.2.2.2 hin hKn hkC e1 hty).to hfs⟩
end XN
theorem xw_in {N : Nat} {ad : Nat → Nat} {σ : Nat → va_E} {k : Nat} {q : Nat × va_E} (h : (xw N ad σ)[k]? = some q) : xA N ad q.1 := by
  have hk : k < N := by
    have := (List.getElem?_eq_some_iff.mp h).1
    rwa [xw_len] at this
  rw [xw_get hk rfl] at h
  cases h
  exact ⟨k, hk, rfl⟩
theorem LR_0 : LR 1 (fun _ _ => 0) (fun _ => 0) 0 (fun _ => 0) (fun _ _ => 0) (fun _ => 0) 0 (fun _ => 0) (fun _ => 0) := by
  have h : -1000000 ≤ (0 : Int32).toInt ∧ (0 : Int32).toInt ≤ 1000000 := by decide
  exact ⟨fun _ _ _ _ => h, fun _ _ _ _ => h, fun _ _ _ _ => ⟨rfl, rfl⟩, by decide, fun _ _ h => absurd h (Nat.not_lt_zero _), fun _ _ => rfl, fun _ _ _ _ => rfl, by decide, fun _ h => absurd h (Nat.not_lt_zero _)⟩
theorem RB_0 : RB (fun _ => 0) (fun _ => 0) (fun _ => 0) (fun _ => 0) := fun w _ => ⟨0, by decide, rfl, fun j h => absurd h (Nat.not_lt_zero _), fun h => absurd h (Nat.not_lt_zero _), Or.inl ⟨rfl, rfl⟩⟩
