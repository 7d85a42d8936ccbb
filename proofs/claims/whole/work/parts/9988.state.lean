/-! the desk between two calls -/
abbrev dF0 (ad : Nat → Nat) (n : Nat) (st : Int32) : List Value := [.ref (ad 1), .ref (ad 8), .ref (ad 9), .ref (ad 18), .ref (ad 179), .int (nI n), .int st]
abbrev iA (A : Nat → Nat → Int32) : Nat → Nat → Int := fun i j => (A i j).toInt
/-- what the algorithm of Euclid works on -/
def euE (ad : Nat → Nat) (cI cG : ClassId) (σ : Nat → va_E) : Prop := ∃ (d1 l1 d2 l2 : Nat) (Fa Fb : Nat → Nat → Int32) (sa sb g' : Nat → Int32), pl ad cI cG σ 156 45 d1 l1 Fa sa ∧ pl ad cI cG σ 166 45 d2 l2 Fb sb ∧ σ 176 = .inl (cI, 45, .inl g')
/-- what of the spectrum is always there -/
def spZ (ad : Nat → Nat) (cI cG cP : ClassId) (σ : Nat → va_E) : Prop := σ 19 = .inl (cP, 7, .inr (.inr (.inr (.inr (bl_g ad))))) ∧ σ 140 = .inr (ciB, [.ref (ad 141), .ref (ad 148)]) ∧ (∃ V, mat ad cI cG σ 141 142 V) ∧ (∃ X, mat ad cI cG σ 148 149 X) ∧ prb ad cI cG σ ∧ pr2 ad cI cG σ 120 ∧ pr2 ad cI cG σ 130 ∧ σ 155 = .inr (ciC, [.ref (ad 156), .ref (ad 166), .ref (ad 176)]) ∧ euE ad cI cG σ
/-- the fine polynomial's limbs -/
def lfOK (n bo lf : Nat) : Prop := ∃ b, bo < 2 ^ b ∧ (∀ k, k < b → 2 ^ k ≤ bo) ∧ lf = (n * (b + 30 + 1) + 6) / 30 + 1 ∧ 2 ≤ lf ∧ lf ≤ 12
abbrev pfF (A : Nat → Nat → Int32) (n : Nat) : Nat → Int := mulp 1073741824 n (pB (iA A) n) n
/-- the matrix is small enough -/
def smA (A : Nat → Nat → Int32) : Prop := ∀ i j, i < 6 → j < 6 → -1000000 ≤ (A i j).toInt ∧ (A i j).toInt ≤ 1000000
/-- what the questions rest on, of the numbers alone -/
def gdM (A : Nat → Nat → Int32) (n : Nat) (V : Nat → Int) : Prop :=
  (∀ k, k ≤ n → pl_sz k 6 (pB (iA A) k)) ∧ (∀ lf, lfOK n (bdF A n n) lf → pl_sz n lf (pfF A n) ∧ ∀ x : Int, -((bdF A n n : Int) * 1073741824) ≤ x → x ≤ (bdF A n n : Int) * 1073741824 + 1 → pl_sz n lf (low x n (pfF A n) n)) ∧
  fcH (fun x => lessI (low x n (pfF A n) n) n) n ((bdF A n n : Int) * 1073741824) V ∧ (∀ i, i < n → -((bdF A n n : Int) * 1073741824) ≤ V i ∧ V i ≤ (bdF A n n : Int) * 1073741824) ∧
  (∀ k (tp bt : Int64), k ≤ n → 0 < bt.toInt → pl_sz k 20 (low tp.toInt k (mulp bt.toInt k (pB (iA A) k) k) k)) ∧ (smF V n ≤ trF A n * 1073741824 ∧ trF A n * 1073741824 < smF V n + n) ∧
  (∀ i k, i < n → 1 ≤ k → k < n → ¬ lessI (low (V i) n (pfF A n) n) n < lessI (low (V i) k (mulp 1073741824 k (pB (iA A) k) k) k) k ∧ lessI (low (V i) n (pfF A n) n) n - lessI (low (V i) k (mulp 1073741824 k (pB (iA A) k) k) k) k ≤ nI n - nI k) ∧
  (∀ b, 2 * bdF A n n < 2 ^ b → (∀ k, k < b → 2 ^ k ≤ 2 * bdF A n n) → ceOK ((pwF n * b + 24) / 30 + 1) (pB (iA A) n) n) ∧ pl_sz (ceD (pB (iA A) n) n) 6 (ceF (pB (iA A) n) n) ∧
  ∀ i, i < n → 0 < ceD (pB (iA A) n) n → hmZ n (ceD (pB (iA A) n) n) (nI i) 43 (low (V i) n (mulp 1073741824 n (pB (iA A) n) n) n) (low (V i) (ceD (pB (iA A) n) n) (mulp 1073741824 (ceD (pB (iA A) n) n) (ceF (pB (iA A) n) n) (ceD (pB (iA A) n) n)) (ceD (pB (iA A) n) n))
/-- what has been worked out -/
def spV (ad : Nat → Nat) (cI cJ cZ cG : ClassId) (σ : Nat → va_E) (A : Nat → Nat → Int32) (n : Nat) (V : Nat → Int) (rk : Int32) : Prop := ∃ (t : Int64) (lf : Nat) (Cl : Nat → Int64) (Kn sf : Nat → Int32) (Ff : Nat → Nat → Int32), σ 18 = .inr (ciE, eF ad rk (nI n) (nI (bdF A n n)) t) ∧ t.toInt = trF A n ∧ lfOK n (bdF A n n) lf ∧ bkU ad cI cG σ (iA A) n ∧ σ 177 = .inl (cJ, 6, .inr (.inl Cl)) ∧ σ 178 = .inl (cZ, 6, .inl Kn) ∧ memo n V Cl Kn ∧ pl ad cI cG σ 100 12 n lf Ff sf ∧ pl_is Ff n lf (pfF A n) ∧ (rk = nI 0 ∧ (∃ (d : Nat) (F : Nat → Nat → Int32) (s : Nat → Int32), pl ad cI cG σ 90 6 d 6 F s) ∨ rk = nI 1 ∧ ∃ (F : Nat → Nat → Int32) (s : Nat → Int32), pl ad cI cG σ 90 6 (ceD (pB (iA A) n) n) 6 F s ∧ pl_is F (ceD (pB (iA A) n) n) 6 (ceF (pB (iA A) n) n))
/-- nothing worked out, but all there -/
def spN (ad : Nat → Nat) (cI cJ cZ cG : ClassId) (σ : Nat → va_E) : Prop := ∃ (rk nn bo : Int32) (t : Int64) (d l d2 : Nat) (Cl : Nat → Int64) (Kn sf s2 : Nat → Int32) (Ff F2 : Nat → Nat → Int32), σ 18 = .inr (ciE, eF ad rk nn bo t) ∧ bkU ad cI cG σ (fun _ _ => 0) 0 ∧ σ 177 = .inl (cJ, 6, .inr (.inl Cl)) ∧ σ 178 = .inl (cZ, 6, .inl Kn) ∧ pl ad cI cG σ 100 12 d l Ff sf ∧ pl ad cI cG σ 90 6 d2 6 F2 s2
/-- the rest of the desk: the data, the printer -/
def dkR (ad : Nat → Nat) (cI cC cG : ClassId) (σ : Nat → va_E) (rw : Nat) (S : Nat → Int32) (P : Nat → Nat → Int32) (ln : Nat) (Tx : Nat → Int32) : Prop := (∃ g : Nat → Int32, σ 8 = .inl (cI, 6, .inl g)) ∧ σ 9 = .inr (ciU, [.ref (ad 10), .ref (ad 11), .int (nI rw)]) ∧ σ 10 = .inl (cI, 6, .inl S) ∧ mat ad cI cG σ 11 12 P ∧ σ 179 = .inr (ciR, [.ref (ad 180), .ref (ad 181), .ref (ad 182), .int (nI ln)]) ∧ σ 180 = .inl (cC, 61, .inl Tx) ∧ (∃ g : Nat → Int32, σ 181 = .inl (cI, 60, .inl g)) ∧ ∃ g : Nat → Int32, σ 182 = .inl (cI, 6, .inl g)
theorem bkU_0 {ad : Nat → Nat} {cI cG : ClassId} {σ : Nat → va_E} {A B : Nat → Nat → Int} {k : Nat} (h : bkU ad cI cG σ A k) (hk : k ≤ 6) : bkU ad cI cG σ B 0 := by
  refine ⟨fun a ha => ?_, fun a h1 h2 => ?_⟩
  · obtain rfl : a = 0 := by omega
    obtain ⟨F, s, b, c⟩ := h.1 0 (Nat.zero_le _)
    exact ⟨F, s, b, c⟩
  · rcases Nat.lt_or_ge k a with q | q
    · exact h.2 a q h2
    · obtain ⟨F, s, b, _⟩ := h.1 a q
      exact ⟨_, F, s, b⟩
theorem bkU_bks {ad : Nat → Nat} {cI cG : ClassId} {σ : Nat → va_E} {A : Nat → Nat → Int} {k : Nat} (h : bkU ad cI cG σ A k) (hz : ∀ a, a ≤ k → pl_sz a 6 (pB A a)) : bks ad cI cG σ k (pB A) := fun a ha => by
  obtain ⟨F, s, b, c⟩ := h.1 a ha
  exact ⟨F, s, b, c, hz a ha⟩
theorem pr2_same {ad : Nat → Nat} {cI cG : ClassId} {σ σ' : Nat → va_E} {i : Nat} (h : pr2 ad cI cG σ i) (hs : ∀ q, i ≤ q → q < i + 10 → σ' q = σ q) : pr2 ad cI cG σ' i := by
  obtain ⟨d, l, F, s, b⟩ := h
  exact ⟨d, l, F, s, pl_same b hs⟩
theorem euE_same {ad : Nat → Nat} {cI cG : ClassId} {σ σ' : Nat → va_E} (h : euE ad cI cG σ) (hs : ∀ q, 156 ≤ q → q < 177 → σ' q = σ q) : euE ad cI cG σ' := by
  obtain ⟨d1, l1, d2, l2, Fa, Fb, sa, sb, g, a, b, c⟩ := h
  exact ⟨d1, l1, d2, l2, Fa, Fb, sa, sb, g, pl_same a (fun q h1 h2 => hs q (by omega) (by omega)), pl_same b (fun q h1 h2 => hs q (by omega) (by omega)), (hs 176 (by decide) (by decide)).trans c⟩
/-- the probe, the cells alone have changed -/
theorem spZ_q {ad : Nat → Nat} {cI cG cP : ClassId} {σ σ' : Nat → va_E} (h : spZ ad cI cG cP σ) (hs : ∀ q, (q < 110 ∨ 120 ≤ q) → q ≠ 177 → q ≠ 178 → σ' q = σ q) (hp : prb ad cI cG σ') : spZ ad cI cG cP σ' := by
  obtain ⟨a, b, ⟨V, c⟩, ⟨X, d⟩, _, f, g, i, j⟩ := h
  exact ⟨(hs 19 (by omega) (by decide) (by decide)).trans a, (hs 140 (by omega) (by decide) (by decide)).trans b, ⟨V, mat_same c (hs 141 (by omega) (by decide) (by decide)) (fun q h1 h2 => hs q (by omega) (by omega) (by omega))⟩, ⟨X, mat_same d (hs 148 (by omega) (by decide) (by decide)) (fun q h1 h2 => hs q (by omega) (by omega) (by omega))⟩, hp, pr2_same f (fun q h1 h2 => hs q (by omega) (by omega) (by omega)), pr2_same g (fun q h1 h2 => hs q (by omega) (by omega) (by omega)), (hs 155 (by omega) (by decide) (by decide)).trans i, euE_same j (fun q h1 h2 => hs q (by omega) (by omega) (by omega))⟩
theorem dkR_same {ad : Nat → Nat} {cI cC cG : ClassId} {σ σ' : Nat → va_E} {rw ln : Nat} {S Tx : Nat → Int32} {P : Nat → Nat → Int32} (h : dkR ad cI cC cG σ rw S P ln Tx) (hs : ∀ q, (8 ≤ q ∧ q < 18) ∨ (179 ≤ q ∧ q < 183) → σ' q = σ q) : dkR ad cI cC cG σ' rw S P ln Tx := by
  obtain ⟨⟨g, a⟩, b, c, d, e, f, ⟨g2, i⟩, g3, j⟩ := h
  exact ⟨⟨g, (hs 8 (by omega)).trans a⟩, (hs 9 (by omega)).trans b, (hs 10 (by omega)).trans c, mat_same d (hs 11 (by omega)) (fun q h1 h2 => hs q (by omega)), (hs 179 (by omega)).trans e, (hs 180 (by omega)).trans f, ⟨g2, (hs 181 (by omega)).trans i⟩, g3, (hs 182 (by omega)).trans j⟩
/-- the spectrum is up to date; the rest of the desk is as in σ -/
def upV (ad : Nat → Nat) (cI cJ cZ cG cP : ClassId) (σ : Nat → va_E) (A : Nat → Nat → Int32) (n : Nat) (V : Nat → Int) (rk : Int32) (σ' : Nat → va_E) : Prop := (∀ q, q ≠ 0 → q < 18 ∨ 179 ≤ q → σ' q = σ q) ∧ σ' 0 = .inr (ciS, dF0 ad n (nI 0)) ∧ spZ ad cI cG cP σ' ∧ spV ad cI cJ cZ cG σ' A n V rk
theorem spV_q {ad : Nat → Nat} {cI cJ cZ cG : ClassId} {σ σ' : Nat → va_E} {A : Nat → Nat → Int32} {n : Nat} {V : Nat → Int} {rk : Int32} {Cl : Nat → Int64} {Kn : Nat → Int32} (h : spV ad cI cJ cZ cG σ A n V rk) (hn : n ≤ 6) (hs : ∀ q, (q < 110 ∨ 140 ≤ q) → q ≠ 177 → q ≠ 178 → σ' q = σ q) (hC : σ' 177 = .inl (cJ, 6, .inr (.inl Cl))) (hK : σ' 178 = .inl (cZ, 6, .inl Kn)) (hm : memo n V Cl Kn) : spV ad cI cJ cZ cG σ' A n V rk := by
  obtain ⟨t, lf, _, _, sf, Ff, a, b, c, d, _, _, _, e, f, g⟩ := h
  refine ⟨t, lf, Cl, Kn, sf, Ff, (hs 18 (by omega) (by decide) (by decide)).trans a, b, c, bkU_keep d hn (fun q h1 h2 => hs q (by omega) (by omega) (by omega)), hC, hK, hm, pl_same e (fun q h1 h2 => hs q (by omega) (by omega) (by omega)), f, ?_⟩
  rcases g with ⟨g1, d2, F, s, g2⟩ | ⟨g1, F, s, g2, g3⟩
  · exact Or.inl ⟨g1, d2, F, s, pl_same g2 (fun q h1 h2 => hs q (by omega) (by omega) (by omega))⟩
  · exact Or.inr ⟨g1, F, s, pl_same g2 (fun q h1 h2 => hs q (by omega) (by omega) (by omega)), g3⟩
theorem upV_q {ad : Nat → Nat} {cI cJ cZ cG cP : ClassId} {σ σ1 σ' : Nat → va_E} {A : Nat → Nat → Int32} {n : Nat} {V : Nat → Int} {rk : Int32} {Cl : Nat → Int64} {Kn : Nat → Int32} (h : upV ad cI cJ cZ cG cP σ A n V rk σ1) (hn : n ≤ 6) (hs : ∀ q, (q < 110 ∨ 120 ≤ q) → q ≠ 177 → q ≠ 178 → σ' q = σ1 q) (hC : σ' 177 = .inl (cJ, 6, .inr (.inl Cl))) (hK : σ' 178 = .inl (cZ, 6, .inl Kn)) (hp : prb ad cI cG σ') (hm : memo n V Cl Kn) : upV ad cI cJ cZ cG cP σ A n V rk σ' :=
  ⟨fun q h1 h2 => (hs q (by omega) (by omega) (by omega)).trans (h.1 q h1 h2), (hs 0 (by omega) (by decide) (by decide)).trans h.2.1, spZ_q h.2.2.1 hs hp, spV_q h.2.2.2 hn (fun q h1 h2 h3 => hs q (by omega) h2 h3) hC hK hm⟩
/-- the probe alone has changed -/
theorem upV_p {ad : Nat → Nat} {cI cJ cZ cG cP : ClassId} {σ σ1 σ' : Nat → va_E} {A : Nat → Nat → Int32} {n : Nat} {V : Nat → Int} {rk : Int32} (h : upV ad cI cJ cZ cG cP σ A n V rk σ1) (hn : n ≤ 6) (hs : pl_fr10 σ1 σ' 110) (hp : prb ad cI cG σ') : upV ad cI cJ cZ cG cP σ A n V rk σ' := by
  obtain ⟨t, lf, Cl, Kn, sf, Ff, a, b, c, d, e1, e2, e3, e, f, g⟩ := h.2.2.2
  exact upV_q h hn (fun q h1 h2 h3 => hs q (by omega)) ((hs 177 (by omega)).trans e1) ((hs 178 (by omega)).trans e2) hp e3
