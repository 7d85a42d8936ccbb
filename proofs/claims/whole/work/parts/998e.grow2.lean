/-! a static method is called in a world that grows; the blocks while they are made -/
section XJS
variable {p : Program} {l : Launch} {e : Env} {s : State} {m : MethodId} {args : Array Value} {below : List Frame} {meth : Method} {c : Code} {H : Heap} {locs : List Loc} {cells slots : Nat} {R : Room}
variable {cc : ByteArray} {pc nL : Nat} {ls : Array Slot} {rest : List Value} {D : va_G} {cl : List vw_C} {tys : List (ClassId × FieldType)} {A : Nat → Prop} {H0 : Heap} {N : Nat} {ad : Nat → Nat} {σ : Nat → va_E} {Ts : List Cond} {own : String}
variable {y : MethodName} {bytes : ByteArray} {maxL n idx kc : Nat} {ret : Option FieldType} {ws' : List Cond} {As st0 : List Value} {Qc : Array Value → State → Outcome → State → Prop} {free : Addr → Prop}
theorem xJ_pre (X : xX p c cc nL s args Ts own m D cl tys) (J : xJ D cl A N ad H0 σ H locs) : PreS s H (va_Pc As (xS D cl tys N ad σ)) As :=
  ⟨xS_blind, fun _ hU hW => ⟨rfl, by rw [hU]; exact J.1, va_K.moved hW.alike X.2.1, xD_self J.2.1, X.2.2.warm hW⟩⟩
theorem xj_runS (X : xX p c cc nL s args Ts own m D cl tys) (J : xJ D cl A N ad H0 σ H locs) (hM : Met l y (Cond.code y bytes maxL ret :: ws') (xrm kc) (va_Pc As (xS D cl tys N ad σ)) Qc 0 0 free) (hG : GoodIn Ts (Cond.code y bytes maxL ret :: ws')) (hl : Cond.methodLink own idx y ∈ Ts) (hst : Cond.static y ∈ Ts) (hini : Cond.initialized y.cls ∈ Ts)
    (hd : y.cls ≠ "java/lang/invoke/MethodHandle" ∧ y.cls ≠ "java/lang/invoke/VarHandle" ∧ (parseMethodDescriptor y.desc).map (fun d => d.parameters.length) = some n) (hk : kc + 1 ≤ R.frames ∧ 8 + (maxL + 11) + 64 * kc ≤ R.locals) (hn : As.length = n) (hsize : ls.size = nL) (hs0 : st0 = As.reverse ++ rest) (hW : (rest.map fun v => v.category).sum ≤ 8) (hdg : decode cc pc = .ok (.invokestatic idx, 3)) (hf : cells + 0 ≤ R.cells ∧ slots + 0 ≤ R.slots) :
    va_Run p l e R s m args below meth c H locs cells slots 0 0 (F0 m pc ls st0) rest (Qc As.toArray) free :=
  va_runS X.1 hM ⟨callB_of n X.1.2.2.2.2 hG rfl rfl rfl (X.1.2.2.2.2 _ hini) (X.1.2.2.2.2 _ hl) hd hk, X.1.2.2.2.2 _ hst⟩ (xJ_pre X J) rfl hn hsize hs0 (lv_room hW) hdg hf
end XJS
def bl_k (ad : Nat → Nat) (k : Nat) : Nat → Option Nat := fun a => if a < k then some (ad (20 + 10 * a)) else none
theorem bl_k_s {ad : Nat → Nat} {k : Nat} : va_up (bl_k ad k) k (some (ad (20 + 10 * k))) = bl_k ad (k + 1) := by
  funext a
  by_cases e : a = k
  · rw [e, va_up_self, bl_k, if_pos (Nat.lt_succ_self _)]
  · rw [va_up_ne _ _ e, bl_k, bl_k]
    by_cases h : a < k
    · rw [if_pos h, if_pos (by omega)]
    · rw [if_neg h, if_neg (by omega)]
def bkM (ad : Nat → Nat) (cI cG : ClassId) (σ : Nat → va_E) (k : Nat) : Prop := ∀ a, a < k → ∃ (F : Nat → Nat → Int32) (s : Nat → Int32), pl ad cI cG σ (20 + 10 * a) 6 0 6 F s ∧ ∀ b, b < 7 → ∀ j, F b j = 0
theorem bkM_keep {ad : Nat → Nat} {cI cG : ClassId} {σ σ' : Nat → va_E} {k : Nat} (h : bkM ad cI cG σ k) (hs : ∀ q, 20 ≤ q → q < 20 + 10 * k → σ' q = σ q) : bkM ad cI cG σ' k := fun a ha => by
  obtain ⟨F, s, b, c⟩ := h a ha
  exact ⟨F, s, pl_same b (fun q h1 h2 => hs q (by omega) (by omega)), c⟩
