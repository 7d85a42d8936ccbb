/-! the reference's numbers: parts of 24 bits at the place o, the least first -/
def rg (P : Nat → Int32) (o : Nat) : Nat → Int
  | 0 => 0
  | n + 1 => rg P o n + (P (o + n)).toInt * 16777216 ^ n
def rg_ok (P : Nat → Int32) (o n : Nat) : Prop := ∀ j, j < n → 0 ≤ (P (o + j)).toInt ∧ (P (o + j)).toInt < 16777216
theorem rg_B (n : Nat) : (0 : Int) < 16777216 ^ n := Int.pow_pos (by decide)
theorem rg_congr {P P' : Nat → Int32} {o o' : Nat} : ∀ {n : Nat}, (∀ j, j < n → P (o + j) = P' (o' + j)) → rg P o n = rg P' o' n
  | 0, _ => rfl
  | n + 1, h => by rw [rg, rg, rg_congr (fun j hj => h j (by omega)), h n (by omega)]
theorem rg_ok_congr {P P' : Nat → Int32} {o o' n : Nat} (h : ∀ j, j < n → P (o + j) = P' (o' + j)) (k : rg_ok P' o' n) : rg_ok P o n := fun j hj => by rw [h j hj]; exact k j hj
theorem rg_ok_le {P : Nat → Int32} {o n k : Nat} (h : rg_ok P o n) (hk : k ≤ n) : rg_ok P o k := fun j hj => h j (by omega)
theorem rg_range {P : Nat → Int32} {o : Nat} : ∀ {n : Nat}, rg_ok P o n → 0 ≤ rg P o n ∧ rg P o n < 16777216 ^ n
  | 0, _ => by simp [rg]
  | n + 1, h => by
    have ⟨h1, h2⟩ := rg_range (rg_ok_le h (Nat.le_succ n))
    have ⟨h3, h4⟩ := h n (by omega)
    have hB := rg_B n
    have e1 : 0 ≤ (P (o + n)).toInt * 16777216 ^ n := Int.mul_nonneg h3 (Int.le_of_lt hB)
    have e2 : ((P (o + n)).toInt + 1) * 16777216 ^ n ≤ 16777216 * 16777216 ^ n := Int.mul_le_mul_of_nonneg_right (by omega) (Int.le_of_lt hB)
    rw [rg, Int.pow_succ]
    constructor
    · omega
    · have e3 : ((P (o + n)).toInt + 1) * 16777216 ^ n = (P (o + n)).toInt * 16777216 ^ n + 16777216 ^ n := by rw [Int.add_mul, Int.one_mul]
      have e4 : (16777216 : Int) ^ n * 16777216 = 16777216 * 16777216 ^ n := Int.mul_comm _ _
      omega
/-- the number w is x: so long, its last part not 0, its sign -/
def rb (P L M : Nat → Int32) (w : Nat) (x : Int) : Prop := ∃ n, n ≤ 300 ∧ L w = nI n ∧ rg_ok P (300 * w) n ∧ (0 < n → P (300 * w + (n - 1)) ≠ 0) ∧ ((M w = 0 ∧ x = rg P (300 * w) n) ∨ (M w = 1 ∧ x = -rg P (300 * w) n))
def RB (P L M : Nat → Int32) (X : Nat → Int) : Prop := ∀ w, w < 112 → rb P L M w (X w)
/-- only the number w has changed -/
def rb_fr (P L M P' L' M' : Nat → Int32) (w : Nat) : Prop := (∀ j, j < 300 * w ∨ 300 * w + 300 ≤ j → P' j = P j) ∧ (∀ j, j ≠ w → L' j = L j) ∧ ∀ j, j ≠ w → M' j = M j
theorem rb_keep {P L M P' L' M' : Nat → Int32} {w v : Nat} {x : Int} (h : rb_fr P L M P' L' M' w) (hv : v ≠ w) (k : rb P L M v x) : rb P' L' M' v x := by
  obtain ⟨n, h1, h2, h3, h4, h5⟩ := k
  have hP : ∀ j, j < 300 → P' (300 * v + j) = P (300 * v + j) := fun j hj => h.1 _ (by omega)
  refine ⟨n, h1, by rw [h.2.1 v hv]; exact h2, rg_ok_congr (fun j hj => hP j (by omega)) h3, fun hn => by rw [hP _ (by omega)]; exact h4 hn, ?_⟩
  rw [h.2.2 v hv, rg_congr (P' := P) (o' := 300 * v) (fun j hj => hP j (by omega))]
  exact h5
theorem RB_up {P L M P' L' M' : Nat → Int32} {X : Nat → Int} {w : Nat} {x : Int} (h : RB P L M X) (f : rb_fr P L M P' L' M' w) (k : rb P' L' M' w x) : RB P' L' M' (va_up X w x) := fun v hv => by
  by_cases e : v = w
  · subst e
    rw [va_up_self]
    exact k
  · rw [va_up_ne _ _ e]
    exact rb_keep f e (h v hv)
theorem rb_fr_rf {P L M : Nat → Int32} {w : Nat} : rb_fr P L M P L M w := ⟨fun _ _ => rfl, fun _ _ => rfl, fun _ _ => rfl⟩
theorem rb_fr_tr {P L M P' L' M' P2 L2 M2 : Nat → Int32} {w : Nat} (a : rb_fr P L M P' L' M' w) (b : rb_fr P' L' M' P2 L2 M2 w) : rb_fr P L M P2 L2 M2 w := ⟨fun j hj => (b.1 j hj).trans (a.1 j hj), fun j hj => (b.2.1 j hj).trans (a.2.1 j hj), fun j hj => (b.2.2 j hj).trans (a.2.2 j hj)⟩
theorem rb_fr_P {P L M : Nat → Int32} {w k : Nat} {v : Int32} (h : 300 * w ≤ k ∧ k < 300 * w + 300) : rb_fr P L M (upd P k v) L M w := ⟨fun j hj => if_neg (by omega), fun _ _ => rfl, fun _ _ => rfl⟩
theorem rb_fr_L {P L M : Nat → Int32} {w : Nat} {v : Int32} : rb_fr P L M P (upd L w v) M w := ⟨fun _ _ => rfl, fun _ hj => if_neg hj, fun _ _ => rfl⟩
theorem rb_fr_M {P L M : Nat → Int32} {w : Nat} {v : Int32} : rb_fr P L M P L (upd M w v) w := ⟨fun _ _ => rfl, fun _ _ => rfl, fun _ hj => if_neg hj⟩
/-- the reference's cells in the world -/
def rw3 (σ0 : Nat → va_E) (ci : Nat) (cI cZ : ClassId) (fs : List Value) (P L M : Nat → Int32) : Nat → va_E := fun k =>
  if k = 183 then .inr (ci, fs) else if k = 184 then .inl (cI, 33600, .inl P) else if k = 185 then .inl (cI, 112, .inl L) else if k = 186 then .inl (cZ, 112, .inl M) else σ0 k
theorem rw3_P {σ0 : Nat → va_E} {ci : Nat} {cI cZ : ClassId} {fs : List Value} {P L M P' : Nat → Int32} : va_up (rw3 σ0 ci cI cZ fs P L M) 184 (.inl (cI, 33600, .inl P')) = rw3 σ0 ci cI cZ fs P' L M := by
  funext k
  simp only [va_up, rw3]
  by_cases h : k = 184
  · simp [h]
  · simp [h]
theorem rw3_L {σ0 : Nat → va_E} {ci : Nat} {cI cZ : ClassId} {fs : List Value} {P L M L' : Nat → Int32} : va_up (rw3 σ0 ci cI cZ fs P L M) 185 (.inl (cI, 112, .inl L')) = rw3 σ0 ci cI cZ fs P L' M := by
  funext k
  simp only [va_up, rw3]
  by_cases h : k = 185
  · simp [h]
  · simp [h]
theorem rw3_M {σ0 : Nat → va_E} {ci : Nat} {cI cZ : ClassId} {fs : List Value} {P L M M' : Nat → Int32} : va_up (rw3 σ0 ci cI cZ fs P L M) 186 (.inl (cZ, 112, .inl M')) = rw3 σ0 ci cI cZ fs P L M' := by
  funext k
  simp only [va_up, rw3]
  by_cases h : k = 186
  · simp [h]
  · simp [h]
theorem rw3_F {σ0 : Nat → va_E} {ci : Nat} {cI cZ : ClassId} {fs fs' : List Value} {P L M : Nat → Int32} : va_up (rw3 σ0 ci cI cZ fs P L M) 183 (.inr (ci, fs')) = rw3 σ0 ci cI cZ fs' P L M := by
  funext k
  simp only [va_up, rw3]
  by_cases h : k = 183
  · simp [h]
  · simp [h]
theorem rw3_o {σ0 : Nat → va_E} {ci : Nat} {cI cZ : ClassId} {fs : List Value} {P L M : Nat → Int32} {k : Nat} {e : va_E} (h : k < 183 ∨ 186 < k) : va_up (rw3 σ0 ci cI cZ fs P L M) k e = rw3 (va_up σ0 k e) ci cI cZ fs P L M := by
  funext j
  simp only [va_up, rw3]
  by_cases h' : j = k
  · subst h'
    rw [if_pos rfl, if_pos rfl, if_neg (by omega), if_neg (by omega), if_neg (by omega), if_neg (by omega)]
  · rw [if_neg h', if_neg h']
theorem r183 (σ0 : Nat → va_E) (ci : Nat) (cI cZ : ClassId) (fs : List Value) (P L M : Nat → Int32) : rw3 σ0 ci cI cZ fs P L M 183 = .inr (ci, fs) := by simp [rw3]
theorem r184 (σ0 : Nat → va_E) (ci : Nat) (cI cZ : ClassId) (fs : List Value) (P L M : Nat → Int32) : rw3 σ0 ci cI cZ fs P L M 184 = .inl (cI, 33600, .inl P) := by simp [rw3]
theorem r185 (σ0 : Nat → va_E) (ci : Nat) (cI cZ : ClassId) (fs : List Value) (P L M : Nat → Int32) : rw3 σ0 ci cI cZ fs P L M 185 = .inl (cI, 112, .inl L) := by simp [rw3]
theorem r186 (σ0 : Nat → va_E) (ci : Nat) (cI cZ : ClassId) (fs : List Value) (P L M : Nat → Int32) : rw3 σ0 ci cI cZ fs P L M 186 = .inl (cZ, 112, .inl M) := by simp [rw3]
/-- only the number w becomes another: x -/
def rb_up (σ0 : Nat → va_E) (ci : Nat) (cI cZ : ClassId) (fs : List Value) (P L M : Nat → Int32) (w : Nat) (x : Int) : (Nat → va_E) → Prop := fun σ' =>
  ∃ P' L' M' : Nat → Int32, σ' = rw3 σ0 ci cI cZ fs P' L' M' ∧ rb_fr P L M P' L' M' w ∧ rb P' L' M' w x
/-- a long's size as a natural -/
theorem q_abs {v : Int64} (h : v < 0) : ∃ u : Nat, u < 2 ^ 64 ∧ -v = lN u ∧ (u : Int) = -v.toInt := by
  have h0 : v.toInt < 0 := Int64.lt_iff_toInt_lt.mp h
  have h1 := v.le_toInt
  refine ⟨(-v.toInt).toNat, by omega, ?_, by omega⟩
  apply q_linj
  rw [Int64.toInt_neg, lN_ti (by omega)]
  split
  · rw [Int.bmod_eq_of_le (by omega) (by omega)]
    omega
  · have e : v.toInt = -9223372036854775808 := by omega
    rw [e]
    decide
theorem q_pos {v : Int64} (h : ¬ v < 0) : ∃ u : Nat, u < 2 ^ 64 ∧ v = lN u ∧ (u : Int) = v.toInt := by
  obtain ⟨u, h1, rfl⟩ := pk_lOf h
  exact ⟨u, by omega, rfl, (pk_lT h1).symm⟩
theorem q_u24 {u : Nat} (hu : u < 2 ^ 64) : ((lN u &&& 16777215).toInt32) = nI (u % 16777216) := by
  have h := wb_mask (k := 24) hu (by decide)
  have e : lN (2 ^ 24 - 1) = 16777215 := by decide
  rw [e] at h
  rw [h]
  exact lN_i _
theorem q_ushr24 {u : Nat} (hu : u < 2 ^ 64) : (((lN u).toUInt64 >>> ((nI 24 : Int32).toInt64.toUInt64 &&& Int64.toUInt64 63)).toInt64) = lN (u / 16777216) := wb_shr (k := 24) hu (by decide)
theorem q_lN0 {u : Nat} (hu : u < 2 ^ 64) : lN u = 0 ↔ u = 0 := by
  constructor
  · intro h
    have h2 := lN_ti hu
    rw [h] at h2
    have e : (0 : Int64).toInt = 0 := by decide
    rw [e] at h2
    split at h2 <;> omega
  · intro h
    rw [h]
    rfl
theorem rg_upd {P : Nat → Int32} {o k n : Nat} {v : Int32} (h : k < o ∨ o + n ≤ k) : rg (upd P k v) o n = rg P o n := rg_congr fun j hj => if_neg (by omega)
theorem rg_ok_upd {P : Nat → Int32} {o k n : Nat} {v : Int32} (h : rg_ok P o n) (hv : 0 ≤ v.toInt ∧ v.toInt < 16777216) : rg_ok (upd P k v) o n := fun j hj => by
  unfold upd
  split
  · exact hv
  · exact h j hj
theorem rg_push {P : Nat → Int32} {o n : Nat} {v : Int32} (h : rg_ok P o n) (hv : 0 ≤ v.toInt ∧ v.toInt < 16777216) : rg_ok (upd P (o + n) v) o (n + 1) ∧ rg (upd P (o + n) v) o (n + 1) = rg P o n + v.toInt * 16777216 ^ n := by
  have e : upd P (o + n) v (o + n) = v := if_pos rfl
  refine ⟨fun j hj => ?_, ?_⟩
  · by_cases ej : j = n
    · subst ej
      rw [e]
      exact hv
    · rw [show upd P (o + n) v (o + j) = P (o + j) from if_neg (by omega)]
      exact h j (by omega)
  · rw [rg, e, rg_upd (by omega)]
/-- the last part counts -/
theorem rg_top {P : Nat → Int32} {o n : Nat} (h : rg_ok P o n) (h0 : 0 < n) (ht : P (o + (n - 1)) ≠ 0) : 16777216 ^ (n - 1) ≤ rg P o n := by
  obtain ⟨k, rfl⟩ : ∃ k, n = k + 1 := ⟨n - 1, by omega⟩
  have e : k + 1 - 1 = k := rfl
  rw [e] at ht ⊢
  have h1 := (rg_range (rg_ok_le h (Nat.le_succ k))).1
  have h2 := h k (by omega)
  have h3 : 1 ≤ (P (o + k)).toInt := by
    rcases Int.lt_or_eq_of_le h2.1 with h | h
    · omega
    · exact absurd (q_iinj (by rw [← h]; rfl)) ht
  have := Int.mul_le_mul_of_nonneg_right h3 (Int.le_of_lt (rg_B k))
  rw [rg]
  omega
theorem rb_zero {P L M : Nat → Int32} {w : Nat} {x : Int} (h : rb P L M w x) : x = 0 ↔ L w = nI 0 := by
  obtain ⟨n, h1, h2, h3, h4, h5⟩ := h
  rw [h2, nI_eq (by omega) (by decide)]
  constructor
  · intro hx
    by_cases e : n = 0
    · exact e
    · have := rg_top h3 (by omega) (h4 (by omega))
      have := rg_B (n - 1)
      omega
  · intro e
    subst e
    simp [rg] at h5
    omega
theorem rb_sgp {P L M : Nat → Int32} {w n : Nat} {x : Int} (h2 : L w = nI n) (h3 : rg_ok P (300 * w) n) (h4 : 0 < n → P (300 * w + (n - 1)) ≠ 0) (h5 : (M w = 0 ∧ x = rg P (300 * w) n) ∨ (M w = 1 ∧ x = -rg P (300 * w) n)) (hc : ¬ L w = 0) (hm : M w = 0) : nI 1 = sg x := by
  have h0 : 0 < n := by
    rcases Nat.eq_zero_or_pos n with e | e
    · rw [e] at h2; exact absurd h2 hc
    · exact e
  have := rg_top h3 h0 (h4 h0)
  have := rg_B (n - 1)
  rcases h5 with ⟨-, h5⟩ | ⟨h5, -⟩
  · rw [sg, if_neg (by omega), if_neg (by omega)]; rfl
  · rw [hm] at h5; exact absurd h5 (by decide)
theorem rb_sgn {P L M : Nat → Int32} {w n : Nat} {x : Int} (h2 : L w = nI n) (h3 : rg_ok P (300 * w) n) (h4 : 0 < n → P (300 * w + (n - 1)) ≠ 0) (h5 : (M w = 0 ∧ x = rg P (300 * w) n) ∨ (M w = 1 ∧ x = -rg P (300 * w) n)) (hc : ¬ L w = 0) (hm : ¬ M w = 0) : (-1) = sg x := by
  have h0 : 0 < n := by
    rcases Nat.eq_zero_or_pos n with e | e
    · rw [e] at h2; exact absurd h2 hc
    · exact e
  have := rg_top h3 h0 (h4 h0)
  have := rg_B (n - 1)
  rcases h5 with ⟨h5, -⟩ | ⟨-, h5⟩
  · exact absurd h5 hm
  · rw [sg, if_pos (by omega)]
/-- where the reference's fields lie -/
def mF (ad : Nat → Nat) (fs : List Value) : Prop := fs[0]? = some (.ref (ad 184)) ∧ fs[1]? = some (.ref (ad 185)) ∧ fs[2]? = some (.ref (ad 186)) ∧ fs[3]? = some (.ref (ad 187)) ∧ fs[6]? = some (.ref (ad 188)) ∧ fs[7]? = some (.ref (ad 189)) ∧ fs[9]? = some (.ref (ad 190)) ∧ fs[11]? = some (.ref (ad 191))
theorem mF_parts {ad : Nat → Nat} {fs : List Value} (h : mF ad fs) : fs[0]? = some (.ref (ad 184)) := h.1
theorem mF_lengths {ad : Nat → Nat} {fs : List Value} (h : mF ad fs) : fs[1]? = some (.ref (ad 185)) := h.2.1
theorem mF_minus {ad : Nat → Nat} {fs : List Value} (h : mF ad fs) : fs[2]? = some (.ref (ad 186)) := h.2.2.1
theorem mF_degrees {ad : Nat → Nat} {fs : List Value} (h : mF ad fs) : fs[3]? = some (.ref (ad 187)) := h.2.2.2.1
theorem mF_matrix {ad : Nat → Nat} {fs : List Value} (h : mF ad fs) : fs[6]? = some (.ref (ad 188)) := h.2.2.2.2.1
theorem mF_data {ad : Nat → Nat} {fs : List Value} (h : mF ad fs) : fs[7]? = some (.ref (ad 189)) := h.2.2.2.2.2.1
theorem mF_printed {ad : Nat → Nat} {fs : List Value} (h : mF ad fs) : fs[9]? = some (.ref (ad 190)) := h.2.2.2.2.2.2.1
theorem mF_digits {ad : Nat → Nat} {fs : List Value} (h : mF ad fs) : fs[11]? = some (.ref (ad 191)) := h.2.2.2.2.2.2.2
theorem rb_at {P L M : Nat → Int32} {w n : Nat} (h2 : L w = nI n) : L w = nI n := h2
/-- what is written into a number: it is w's, in n parts -/
theorem rb_mk {P L M : Nat → Int32} {w n : Nat} {x : Int} (h1 : n ≤ 300) (h2 : L w = nI n) (h3 : rg_ok P (300 * w) n) (h4 : 0 < n → P (300 * w + (n - 1)) ≠ 0) (h5 : (M w = 0 ∧ x = rg P (300 * w) n) ∨ (M w = 1 ∧ x = -rg P (300 * w) n)) : rb P L M w x := ⟨n, h1, h2, h3, h4, h5⟩
theorem upd_s {f : Nat → Int32} {k : Nat} {x : Int32} : upd f k x k = x := if_pos rfl
theorem upd_n {f : Nat → Int32} {k j : Nat} {x : Int32} (h : j ≠ k) : upd f k x j = f j := if_neg h
/-- bigSet's loop -/
theorem rs_step {P : Nat → Int32} {o i u u0 : Nat} (hu : (rg P o i) + (u : Int) * 16777216 ^ i = (u0 : Int)) (hok : rg_ok P o i) :
    rg_ok (upd P (o + i) (nI (u % 16777216))) o (i + 1) ∧ rg (upd P (o + i) (nI (u % 16777216))) o (i + 1) + ((u / 16777216 : Nat) : Int) * 16777216 ^ (i + 1) = (u0 : Int) := by
  have hv : (nI (u % 16777216)).toInt = ((u % 16777216 : Nat) : Int) := nI_toInt (by omega)
  obtain ⟨h1, h2⟩ := rg_push (P := P) (v := nI (u % 16777216)) hok (by rw [hv]; omega)
  refine ⟨h1, ?_⟩
  rw [h2, hv, Int.pow_succ]
  have e : (u : Int) = ((u % 16777216 : Nat) : Int) + ((u / 16777216 : Nat) : Int) * 16777216 := by omega
  rw [e] at hu
  grind
theorem rs_few {P : Nat → Int32} {o i u u0 : Nat} (hu : (rg P o i) + (u : Int) * 16777216 ^ i = (u0 : Int)) (hok : rg_ok P o i) (h0 : u ≠ 0) (hb : u0 < 2 ^ 64) : i ≤ 2 := by
  rcases Nat.lt_or_ge 2 i with h | h
  · have h1 := (rg_range hok).1
    have h2 : (16777216 : Int) ^ 3 ≤ 16777216 ^ i := by
      obtain ⟨d, rfl⟩ : ∃ d, i = 3 + d := ⟨i - 3, by omega⟩
      rw [Int.pow_add]
      have := rg_B d
      have := Int.mul_le_mul_of_nonneg_left (show (1 : Int) ≤ 16777216 ^ d by omega) (show (0 : Int) ≤ 16777216 ^ 3 by decide)
      omega
    have h3 : (16777216 : Int) ^ i ≤ (u : Int) * 16777216 ^ i := by
      have := Int.mul_le_mul_of_nonneg_right (show (1 : Int) ≤ (u : Int) by omega) (Int.le_of_lt (rg_B i))
      omega
    have h4 : (16777216 : Int) ^ 3 = 4722366482869645213696 := by decide
    omega
  · exact h
theorem upd_upd {f : Nat → Int32} {k : Nat} {x y : Int32} : upd (upd f k x) k y = upd f k y := by
  funext j
  simp only [upd]
  split <;> rfl
theorem upd_same {f : Nat → Int32} {k : Nat} {x : Int32} (h : f k = x) : upd f k x = f := by
  funext j
  simp only [upd]
  split
  · next e => rw [e, h]
  · rfl
