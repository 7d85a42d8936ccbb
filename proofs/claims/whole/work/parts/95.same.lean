/-! howManySame, purely -/
def hmN (n dr : Nat) (i : Int32) (q r : Nat → Int) : (Nat → Int) × (Nat → Int) :=
  if i < lessI (low 1 n (mulp 2 n q n) n) n then (mulp 2 n q n, mulp 2 dr r dr) else (low 1 n (mulp 2 n q n) n, low 1 dr (mulp 2 dr r dr) dr)
def hmR (dr : Nat) (r : Nat → Int) : Int32 := lessI (low 1 dr r dr) dr - lessI r dr
def hmS (n dr : Nat) (i : Int32) : Nat → (Nat → Int) → (Nat → Int) → Int32
  | 0, _, _ => nI 1
  | f + 1, q, r => if hmR dr r = 0 then nI 1 else if hmR n q - hmR dr r = nI 1 then hmR n q else hmS n dr i f (hmN n dr i q r).1 (hmN n dr i q r).2
def hmZ (n dr : Nat) (i : Int32) : Nat → (Nat → Int) → (Nat → Int) → Prop
  | 0, _, _ => True
  | f + 1, q, r => (pl_sz n 20 q ∧ pl_sz n 20 (low 1 n q n) ∧ pl_sz dr 20 r ∧ pl_sz dr 20 (low 1 dr r dr) ∧ pl_sz n 20 (mulp 2 n q n) ∧ pl_sz n 20 (low 1 n (mulp 2 n q n) n)) ∧ hmZ n dr i f (hmN n dr i q r).1 (hmN n dr i q r).2
/-- a polynomial of twenty limbs, whatever it holds -/
def pr2 (ad : Nat → Nat) (cI cG : ClassId) (σ : Nat → va_E) (i : Nat) : Prop := ∃ (d l : Nat) (F : Nat → Nat → Int32) (s : Nat → Int32), pl ad cI cG σ i 20 d l F s
theorem pl_fr_else {ad : Nat → Nat} {cI cG : ClassId} {σ σ' : Nat → va_E} {i j most dgr lbs : Nat} {F : Nat → Nat → Int32} {sp : Nat → Int32} (h : pl ad cI cG σ i most dgr lbs F sp) (hf : pl_fr10 σ σ' j) (hij : i + 10 ≤ j ∨ j + 10 ≤ i) : pl ad cI cG σ' i most dgr lbs F sp := pl_same h (fun q h1 h2 => hf q (by omega))
