/-! bordering, purely -/
def dot (a v : Nat → Int) : Nat → Int
  | 0 => 0
  | j + 1 => dot a v j + a j * v j
def tlF (p : Nat → Int) (a : Int) (k : Nat) : Nat → Int := fun i => (if i = 0 then 0 else p (i - 1)) + (if i ≤ k then -a * p i else 0)
/-- the numbers of adj(t - A) v, after s steps -/
def bvF (A : Nat → Nat → Int) (p : Nat → Int) (k : Nat) : Nat → Nat → Int
  | 0 => fun j => A j k
  | s + 1 => fun i => dot (A i) (bvF A p k s) k + A i k * p (k - 1 - s)
def grF (A : Nat → Nat → Int) (p : Nat → Int) (k : Nat) : Nat → Int := fun i => if i < k then tlF p (A k k) k i - dot (fun j => A j k) (bvF A p k (k - 1 - i)) k else tlF p (A k k) k i
theorem lm_is_eq {f : Nat → Int32} {n : Nat} {x y : Int} (h : lm_is f n x) (e : x = y) : lm_is f n y := e ▸ h
theorem q_neg32 {x : Int32} (h1 : -1000000 ≤ x.toInt) (h2 : x.toInt ≤ 1000000) : (-x).toInt64.toInt = -x.toInt := by
  rw [Int32.toInt_toInt64, Int32.toInt_neg]
  exact Int.bmod_eq_of_le (by omega) (by omega)
theorem lm_cpy {f g : Nat → Int32} {n : Nat} {x : Int} (h : lm_is g n x) : lm_is (va_cpy g f 0 0 n) n x := lm_is_congr (fun j hj => by rw [pk_cpy_in (by omega) (by omega)]; simp) h
