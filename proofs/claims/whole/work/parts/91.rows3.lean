/-! an answer that is an object of the world -/
def xQk (ad : Nat → Nat) (k : Nat) (post : (Nat → va_E) → Prop) (B : (Nat → va_E) → State → Prop) (A : Nat → Prop) : Array Value → State → Outcome → State → Prop := va_Qe ad (fun r u => r = some k ∧ post u) B A
section XR3
variable {p : Program} {l : Launch} {e : Env} {R : Room} {s : State} {m : MethodId} {args : Array Value} {below : List Frame} {meth : Method} {c : Code} {H : Heap} {locs : List Loc} {cells slots : Nat} {Q : State → Prop}
variable {cc : ByteArray} {pc nL : Nat} {ls : Array Slot} {rest : List Value} {D : va_G} {cl : List vw_C} {tys : List (ClassId × FieldType)} {H0 : Heap} {N : Nat} {ad : Nat → Nat} {σ : Nat → va_E} {Ts : List Cond} {own : String}
theorem xr_aret {k : Nat} {rt : String} {post : (Nat → va_E) → Prop} (X : xX p c cc nL s args Ts own m D cl tys) (I : xI D cl N ad s.heap σ H locs) (hr : meth.sig.returnType = some (.object rt)) (hlk : meth.locks = false) (hp : post σ) (hdg : decode cc pc = .ok (.areturn, 1)) :
    W p l e R s m args below meth c H locs cells slots (MQ below (xQk ad k post (xS D cl tys N ad) (xA N ad)) args s cells slots (xA N ad)) (F0 m pc ls [.ref (ad k)]) :=
  W.aret X.1.1 X.1.2.1 hr (Or.inl ⟨_, rfl⟩) (Or.inr ⟨_, rfl⟩) (fun _ ht hW => ⟨⟨some k, σ, rfl, ⟨rfl, hp⟩, by rw [ht]; exact I.1, va_K.moved hW.alike X.2.1, I.2.1, X.2.2.warm hW⟩, I.2.2.F ht⟩) I.2.2.2.2 hdg hlk
theorem xr_callk {k : Nat} {post : (Nat → va_E) → Prop} {a : Array Value} {st0 : List Value} (hr : va_Run p l e R s m args below meth c H locs cells slots 0 0 (F0 m pc ls st0) rest (xQk ad k post (xS D cl tys N ad) (xA N ad) a) (xA N ad)) (I : xI D cl N ad H0 σ H locs)
    (kk : ∀ (σ' : Nat → va_E) (H1 : Heap) (locs1 : List Loc), post σ' → xI D cl N ad H0 σ' H1 locs1 → W p l e R s m args below meth c H1 locs1 cells slots Q (F0 m (pc + 3) ls (.ref (ad k) :: rest))) : W p l e R s m args below meth c H locs cells slots Q (F0 m pc ls st0) := by
  refine va_calle hr I.2.2 (fun _ _ h => h) (fun _ h => h) fun r σ' t H1 locs1 ht _ hp hB _ _ hS => ?_
  obtain ⟨rfl, hp⟩ := hp
  exact kk σ' H1 locs1 hp ⟨by rw [← ht]; exact hB.1, hB.2.2.1, hS⟩
end XR3
