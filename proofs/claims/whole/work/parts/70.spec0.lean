/-! the desk's Spectrum: the cell 18; its fields -/
abbrev eF (ad : Nat → Nat) (rk nn bo : Int32) (tr : Int64) : List Value := [.ref (ad 19), .ref (ad 90), .ref (ad 100), .ref (ad 110), .ref (ad 120), .ref (ad 130), .ref (ad 140), .ref (ad 155), .ref (ad 177), .ref (ad 178), .int rk, .int nn, .int bo, .long tr]
def bl_g (ad : Nat → Nat) : Nat → Option Nat := fun k => if k < 7 then some (ad (20 + 10 * k)) else none
theorem bl_at {ad : Nat → Nat} {k : Nat} (hk : k < 7) : bl_g ad k = some (ad (20 + 10 * k)) := if_pos hk
theorem q_shrN {v b : Nat} (hv : v < 2 ^ 62) (hb : b < 63) : lN v >>> ((nI b).toInt64 &&& 63) = lN (v / 2 ^ b) := by
  have hd : v / 2 ^ b ≤ v := Nat.div_le_self _ _
  apply q_linj
  rw [wb_c b (by omega), q_lshr (d := b) (by rw [wb_tb, wb_sm b (by omega), BitVec.toNat_ofNat]; omega), pk_lT (by omega), pk_lT (by omega)]
  rfl
theorem pl_fr_10 {σ σ' : Nat → va_E} {i : Nat} (h : pl_fr σ σ' i) : pl_fr10 σ σ' i := fun q hq => h q (by omega)
theorem pl_fr10_tr {σ σ' σ2 : Nat → va_E} {i : Nat} (a : pl_fr10 σ σ' i) (b : pl_fr10 σ' σ2 i) : pl_fr10 σ σ2 i := fun q hq => (b q hq).trans (a q hq)
theorem pl_fr10_rf {σ : Nat → va_E} {i : Nat} : pl_fr10 σ σ i := fun _ _ => rfl
theorem pl_keep {ad : Nat → Nat} {cI cG : ClassId} {σ σ' : Nat → va_E} {i j most dgr lbs : Nat} {F : Nat → Nat → Int32} {sp : Nat → Int32} (h : pl ad cI cG σ j most dgr lbs F sp) (hf : pl_fr10 σ σ' i) (hij : i + 10 ≤ j ∨ j + 10 ≤ i) : pl ad cI cG σ' j most dgr lbs F sp := pl_same h fun q h1 h2 => hf q (by omega)
/-- the probe, whatever it holds -/
def prb (ad : Nat → Nat) (cI cG : ClassId) (σ : Nat → va_E) : Prop := ∃ (d l : Nat) (F : Nat → Nat → Int32) (s : Nat → Int32), pl ad cI cG σ 110 20 d l F s
/-- the search for the greatest edge, bit by bit -/
def fcS (L : Int → Int32) (last : Int) (i : Int32) : Nat → Int → Int
  | 0, e => e
  | b + 1, e => if e + 2 ^ b ≤ last ∧ L (e + 2 ^ b) ≤ i then fcS L last i b (e + 2 ^ b) else fcS L last i b e
