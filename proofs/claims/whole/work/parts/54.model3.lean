theorem wU_any {σ0 σ' : Nat → va_E} {cI cZ : ClassId} {ad : Nat → Nat} {th nn rws ps : Int32} {G : Nat → Int32} {Z : Nat → Int} {t b : Int} {d : Nat} {p : Nat → Int} (hd : d ≤ 6) (h : wU σ0 cI cZ ad th nn rws ps G Z t b d p σ') :
    ∃ (s1 : Nat → va_E) (G1 P1 L1 M1 : Nat → Int32) (Z1 : Nat → Int) (le1 eq1 : Int32), σ' = rw3 s1 ciM cI cZ (mfs ad th nn rws ps le1 eq1) P1 L1 M1 ∧ s1 187 = .inl (cI, 5, .inl G1) ∧ (∀ q, q ≠ 187 → s1 q = σ0 q) ∧ (∀ a, a ≠ 4 → G1 a = G a) ∧ RB P1 L1 M1 Z1 ∧ (∀ w, w < 32 ∨ (40 ≤ w ∧ w ≠ 106) → Z1 w = Z w) := by
  obtain ⟨P1, L1, M1, Z1, rfl, hB1, hE1⟩ := h
  exact ⟨_, _, P1, L1, M1, Z1, _, _, rfl, va_up_self _ _ _, fun q hq => va_up_ne _ _ hq, fun a ha => upd_n ha, hB1, fun w hw => (hE1 w (by omega)).trans (mvX_out (by omega))⟩
theorem bd_1 {n : Nat} {x : Int} (hn : n < 360) (h : bd (2 ^ n) x) : bd (2 ^ 360) (x + 1) := by
  have h1 := p2_lt hn
  have h2 := h.1
  have h3 := h.2
  have h4 : (0 : Int) < 2 ^ n := Int.pow_pos (by decide)
  exact ⟨by omega, by omega⟩
theorem bd_up {n m : Nat} {x : Int} (hn : n ≤ m) (h : bd (2 ^ n) x) : bd (2 ^ m) x := bd_le (p2_le hn) h
theorem sm_1 : sm 1 := sm_of (n := 0) (by decide) ⟨by decide, by decide⟩
/-- within(1): different eigenvalues in the cell, by the counts at its edges -/
def win1 (pl g : Int) (d0 d1 : Nat) (p0 p1 : Nat → Int) : Int32 := (wL (pl + 1) g d0 p0 - wL (pl + 1) g d1 p1) - (wL pl g d0 p0 - wL pl g d1 p1)
def win0 (pl g : Int) (d0 : Nat) (p0 : Nat → Int) : Int32 := (wL (pl + 1) g d0 p0 - nI 0) - (wL pl g d0 p0 - nI 0)
/-- behind halve: the place and the grid are new -/
def mH (σ0 : Nat → va_E) (cI cZ : ClassId) (ad : Nat → Nat) (th nn rws ps : Int32) (G : Nat → Int32) (Z : Nat → Int) (pl g : Int) : (Nat → va_E) → Prop := fun σ' =>
  ∃ (s0 : Nat → va_E) (G' P' L' M' : Nat → Int32) (Z' : Nat → Int) (le eq : Int32), σ' = rw3 s0 ciM cI cZ (mfs ad th nn rws ps le eq) P' L' M' ∧ s0 187 = .inl (cI, 5, .inl G') ∧ (∀ q, q ≠ 187 → s0 q = σ0 q) ∧ (∀ a, a ≠ 4 → G' a = G a) ∧ RB P' L' M' Z' ∧ (∀ w, w < 32 → Z' w = Z w) ∧ Z' 110 = pl ∧ Z' 111 = g
theorem bd_2 {n : Nat} {x : Int} (h : bd (2 ^ n) x) : bd (2 ^ (n + 1)) (x + x) := by
  rw [Int.pow_succ]
  have h2 := h.1
  have h3 := h.2
  exact ⟨by omega, by omega⟩
