/-! what holds between two calls of the law -/
theorem spV_all {ad : Nat → Nat} {cI cJ cZ cG : ClassId} {σ σ' : Nat → va_E} {A : Nat → Nat → Int32} {n : Nat} {V : Nat → Int} {rk : Int32} (h : spV ad cI cJ cZ cG σ A n V rk) (hn : n ≤ 6) (hs : ∀ q, 18 ≤ q → q < 179 → σ' q = σ q) : spV ad cI cJ cZ cG σ' A n V rk := by
  obtain ⟨t, lf, Cl, Kn, sf, Ff, a, b, c, d, e1, e2, e3, e, f, g⟩ := h
  refine ⟨t, lf, Cl, Kn, sf, Ff, (hs 18 (by decide) (by decide)).trans a, b, c, bkU_keep d hn (fun q h1 h2 => hs q (by omega) (by omega)), (hs 177 (by decide) (by decide)).trans e1, (hs 178 (by decide) (by decide)).trans e2, e3, pl_same e (fun q h1 h2 => hs q (by omega) (by omega)), f, ?_⟩
  rcases g with ⟨g1, d2, F, s, g2⟩ | ⟨g1, F, s, g2, g3⟩
  · exact Or.inl ⟨g1, d2, F, s, pl_same g2 (fun q h1 h2 => hs q (by omega) (by omega))⟩
  · exact Or.inr ⟨g1, F, s, pl_same g2 (fun q h1 h2 => hs q (by omega) (by omega)), g3⟩
theorem spV_N {ad : Nat → Nat} {cI cJ cZ cG : ClassId} {σ : Nat → va_E} {A : Nat → Nat → Int32} {n : Nat} {V : Nat → Int} {rk : Int32} (h : spV ad cI cJ cZ cG σ A n V rk) (hn : n ≤ 6) : spN ad cI cJ cZ cG σ := by
  obtain ⟨t, lf, Cl, Kn, sf, Ff, a, b, c, d, e1, e2, e3, e, f, g⟩ := h
  rcases g with ⟨g1, d2, F, s, g2⟩ | ⟨g1, F, s, g2, g3⟩
  · exact ⟨_, _, _, _, _, _, _, _, _, _, _, _, _, a, bkU_0 d hn, e1, e2, e, g2⟩
  · exact ⟨_, _, _, _, _, _, _, _, _, _, _, _, _, a, bkU_0 d hn, e1, e2, e, g2⟩
/-- the desk -/
def CK (ad : Nat → Nat) (cI cJ cZ cC cG cP : ClassId) (σ : Nat → va_E) (n : Nat) (st : Int32) (A : Nat → Nat → Int32) (rw : Nat) (S : Nat → Int32) (P : Nat → Nat → Int32) (ln : Nat) (Tx : Nat → Int32) : Prop :=
  σ 0 = .inr (ciS, dF0 ad n st) ∧ mat ad cI cG σ 1 2 A ∧ dkR ad cI cC cG σ rw S P ln Tx ∧ spZ ad cI cG cP σ ∧ ((st = nI 0 ∧ ∃ V rk, gdM A n V ∧ spV ad cI cJ cZ cG σ A n V rk) ∨ (st = nI 1 ∧ spN ad cI cJ cZ cG σ))
theorem CK.same {ad : Nat → Nat} {cI cJ cZ cC cG cP : ClassId} {σ σ' : Nat → va_E} {n : Nat} {st : Int32} {A : Nat → Nat → Int32} {rw : Nat} {S : Nat → Int32} {P : Nat → Nat → Int32} {ln : Nat} {Tx : Nat → Int32} (h : CK ad cI cJ cZ cC cG cP σ n st A rw S P ln Tx) (hn : n ≤ 6) (hs : ∀ q, q < 183 → σ' q = σ q) : CK ad cI cJ cZ cC cG cP σ' n st A rw S P ln Tx := by
  obtain ⟨a, b, c, d, e⟩ := h
  refine ⟨(hs 0 (by decide)).trans a, mat_same b (hs 1 (by decide)) (fun q h1 h2 => hs q (by omega)), dkR_same c (fun q hq => hs q (by omega)), spZ_all d (fun q h1 h2 => hs q (by omega)), ?_⟩
  rcases e with ⟨e1, V, rk, e2, e3⟩ | ⟨e1, e2⟩
  · exact Or.inl ⟨e1, V, rk, e2, spV_all e3 hn (fun q h1 h2 => hs q (by omega))⟩
  · exact Or.inr ⟨e1, spN_all e2 (fun q h1 h2 => hs q (by omega))⟩
theorem CK.N {ad : Nat → Nat} {cI cJ cZ cC cG cP : ClassId} {σ : Nat → va_E} {n : Nat} {st : Int32} {A : Nat → Nat → Int32} {rw : Nat} {S : Nat → Int32} {P : Nat → Nat → Int32} {ln : Nat} {Tx : Nat → Int32} (h : CK ad cI cJ cZ cC cG cP σ n st A rw S P ln Tx) (hn : n ≤ 6) : spN ad cI cJ cZ cG σ := by
  obtain ⟨_, _, _, _, ⟨_, V, rk, _, e3⟩ | ⟨_, e2⟩⟩ := h
  · exact spV_N e3 hn
  · exact e2
/-- a V that goes with the matrix -/
theorem CK.V {ad : Nat → Nat} {cI cJ cZ cC cG cP : ClassId} {σ : Nat → va_E} {n : Nat} {st : Int32} {A : Nat → Nat → Int32} {rw : Nat} {S : Nat → Int32} {P : Nat → Nat → Int32} {ln : Nat} {Tx : Nat → Int32} (h : CK ad cI cJ cZ cC cG cP σ n st A rw S P ln Tx) (hV : ∃ V, gdM A n V) : ∃ V, gdM A n V ∧ ((st = nI 0 ∧ ∃ rk, spV ad cI cJ cZ cG σ A n V rk) ∨ (st = nI 1 ∧ spN ad cI cJ cZ cG σ)) := by
  obtain ⟨_, _, _, _, ⟨e1, V, rk, e2, e3⟩ | ⟨e1, e2⟩⟩ := h
  · exact ⟨V, e2, Or.inl ⟨e1, rk, e3⟩⟩
  · obtain ⟨V, hV⟩ := hV
    exact ⟨V, hV, Or.inr ⟨e1, e2⟩⟩
/-- behind a question -/
theorem CK.up {ad : Nat → Nat} {cI cJ cZ cC cG cP : ClassId} {σ σ1 : Nat → va_E} {n : Nat} {st : Int32} {A : Nat → Nat → Int32} {rw : Nat} {S : Nat → Int32} {P : Nat → Nat → Int32} {ln : Nat} {Tx : Nat → Int32} {V : Nat → Int} {rk : Int32} (h : CK ad cI cJ cZ cC cG cP σ n st A rw S P ln Tx) (hV : gdM A n V) (hu : upV ad cI cJ cZ cG cP σ A n V rk σ1) : CK ad cI cJ cZ cC cG cP σ1 n (nI 0) A rw S P ln Tx := by
  obtain ⟨a, b, c, d, e⟩ := h
  exact ⟨hu.2.1, mat_same b (hu.1 1 (by decide) (by omega)) (fun q h1 h2 => hu.1 q (by omega) (by omega)), dkR_same c (fun q hq => hu.1 q (by omega) (by omega)), hu.2.2.1, Or.inl ⟨rfl, V, rk, hV, hu.2.2.2⟩⟩
/-- the reference, with the world around it -/
theorem mS_out {ad : Nat → Nat} {cI cZ : ClassId} {σ σb : Nat → va_E} {th : Int32} {n : Nat} {A9 : Nat → Int32} {rw : Nat} {Dt : Nat → Int32} {ps : Nat} {Pr : Nat → Int32} (h : mS ad cI cZ σb th n A9 rw Dt ps Pr σ) : ∀ q, q < 183 ∨ 191 < q → σ q = σb q := by
  obtain ⟨s0, G, Dg, P, L, M, Z, le, eq, rfl, h1, h2, h3, h4, h5, h6, h7⟩ := h
  intro q hq
  rw [r_o (by omega)]
  exact h6 q hq
theorem mS_in {ad : Nat → Nat} {cI cZ : ClassId} {σ σb σ' : Nat → va_E} {th : Int32} {n : Nat} {A9 : Nat → Int32} {rw : Nat} {Dt : Nat → Int32} {ps : Nat} {Pr : Nat → Int32} (h : mS ad cI cZ σb th n A9 rw Dt ps Pr σ) (hs : ∀ q, 183 ≤ q → q ≤ 191 → σ' q = σ q) : mS ad cI cZ σ' th n A9 rw Dt ps Pr σ' := by
  obtain ⟨s0, G, Dg, P, L, M, Z, le, eq, rfl, h1, h2, h3, h4, h5, h6, h7⟩ := h
  have k : ∀ q, 187 ≤ q → q ≤ 191 → σ' q = s0 q := fun q a b => (hs q (by omega) b).trans (r_o (by omega))
  refine ⟨σ', G, Dg, P, L, M, Z, le, eq, ?_, (k 187 (by decide) (by decide)).trans h1, (k 188 (by decide) (by decide)).trans h2, (k 189 (by decide) (by decide)).trans h3, (k 190 (by decide) (by decide)).trans h4, (k 191 (by decide) (by decide)).trans h5, fun _ _ => rfl, h7⟩
  funext q
  by_cases e : 183 ≤ q ∧ q ≤ 186
  · rw [hs q e.1 (by omega)]
    obtain ⟨a, b⟩ := e
    rcases (by omega : q = 183 ∨ q = 184 ∨ q = 185 ∨ q = 186) with rfl | rfl | rfl | rfl <;> rfl
  · rw [r_o (by omega)]
/-- sums of the data -/
def sm1 (Dt : Nat → Int32) (i : Nat) : Nat → Int32
  | 0 => 0
  | r + 1 => sm1 Dt i r + Dt (6 * r + i)
def sm2 (Dt : Nat → Int32) (i j : Nat) : Nat → Int32
  | 0 => 0
  | r + 1 => sm2 Dt i j r + Dt (6 * r + i) * Dt (6 * r + j)
/-- the desk and the reference hold the same -/
def LR (n : Nat) (A : Nat → Nat → Int32) (A9 : Nat → Int32) (rw : Nat) (S : Nat → Int32) (P : Nat → Nat → Int32) (Dt : Nat → Int32) (ln : Nat) (Tx Pr : Nat → Int32) : Prop :=
  smA A ∧ (∀ i j, i < 6 → j < 6 → bd 1000000 ((A9 (6 * i + j)).toInt)) ∧ (∀ i j, i < n → j < n → A9 (6 * i + j) = A i j ∧ A i j = A j i) ∧ rw ≤ 100 ∧ (∀ r k, r < rw → k < n → bd 1000 (Dt (6 * r + k)).toInt) ∧ (∀ i, i < n → S i = sm1 Dt i rw) ∧ (∀ i j, i < n → j < n → P i j = sm2 Dt i j rw) ∧ ln ≤ 61 ∧ ∀ k, k < ln → Tx k = Pr k
def LI (ad : Nat → Nat) (cI cJ cZ cC cG cP : ClassId) (σ : Nat → va_E) : Prop :=
  ∃ (n : Nat) (st : Int32) (A : Nat → Nat → Int32) (rw : Nat) (S : Nat → Int32) (P : Nat → Nat → Int32) (ln : Nat) (Tx A9 Dt Pr : Nat → Int32) (th : Int32) (fo : Nat → Int64), 1 ≤ n ∧ n ≤ 6 ∧ CK ad cI cJ cZ cC cG cP σ n st A rw S P ln Tx ∧ mS ad cI cZ σ th n A9 rw Dt ln Pr σ ∧ σ 192 = .inl (cJ, 1, .inr (.inl fo)) ∧ LR n A A9 rw S P Dt ln Tx Pr
/-- the reference's object -/
theorem mS_o {ad : Nat → Nat} {cI cZ : ClassId} {σ σb : Nat → va_E} {th : Int32} {n : Nat} {A9 : Nat → Int32} {rw : Nat} {Dt : Nat → Int32} {ps : Nat} {Pr : Nat → Int32} (h : mS ad cI cZ σb th n A9 rw Dt ps Pr σ) : ∃ fs, σ 183 = .inr (ciM, fs) := by
  obtain ⟨s0, G, Dg, P, L, M, Z, le, eq, rfl, h1, h2, h3, h4, h5, h6, h7⟩ := h
  exact ⟨_, rfl⟩
