/-! whole numbers among them; products of t - m; the polynomial of a symmetric matrix is one -/
def iz {K : Type} [Lean.Grind.CommRing K] (x : Int) : K := @IntCast.intCast K Lean.Grind.Ring.intCast x
theorem iz_add {K : Type} [Lean.Grind.CommRing K] (x y : Int) : (iz (x + y) : K) = iz x + iz y := Lean.Grind.Ring.intCast_add x y
theorem iz_mul {K : Type} [Lean.Grind.CommRing K] (x y : Int) : (iz (x * y) : K) = iz x * iz y := Lean.Grind.Ring.intCast_mul x y
theorem iz_neg {K : Type} [Lean.Grind.CommRing K] (x : Int) : (iz (-x) : K) = -iz x := Lean.Grind.Ring.intCast_neg x
theorem iz_sub {K : Type} [Lean.Grind.CommRing K] (x y : Int) : (iz (x - y) : K) = iz x - iz y := Lean.Grind.Ring.intCast_sub x y
theorem iz_0 {K : Type} [Lean.Grind.CommRing K] : (iz 0 : K) = 0 := Lean.Grind.Ring.intCast_zero
theorem iz_1 {K : Type} [Lean.Grind.CommRing K] : (iz 1 : K) = 1 := Lean.Grind.Ring.intCast_one
theorem iz_pos {K : Type} [Lean.Grind.CommRing K] [LE K] [LT K] [Std.LawfulOrderLT K] [Std.IsLinearOrder K] [Lean.Grind.OrderedRing K] {x : Int} (h : 0 < x) : (0 : K) < iz x := Lean.Grind.OrderedRing.pos_intCast_of_pos x h
theorem iz_lt {K : Type} [Lean.Grind.CommRing K] [LE K] [LT K] [Std.LawfulOrderLT K] [Std.IsLinearOrder K] [Lean.Grind.OrderedRing K] {x y : Int} : (iz x : K) < iz y ↔ x < y := ⟨fun h => Lean.Grind.OrderedRing.lt_of_intCast_lt_intCast x y h, fun h => by
  have := iz_pos (K := K) (x := y - x) (by omega)
  rw [iz_sub] at this
  grind⟩
theorem iz_le {K : Type} [Lean.Grind.CommRing K] [LE K] [LT K] [Std.LawfulOrderLT K] [Std.IsLinearOrder K] [Lean.Grind.OrderedRing K] {x y : Int} : (iz x : K) ≤ iz y ↔ x ≤ y := ⟨fun h => Lean.Grind.OrderedRing.le_of_intCast_le_intCast x y h, fun h => by
  rcases Int.lt_or_eq_of_le h with q | q
  · exact Std.le_of_lt (iz_lt.mpr q)
  · rw [q]; exact Std.le_refl _⟩
theorem iz_inj {K : Type} [Lean.Grind.CommRing K] [LE K] [LT K] [Std.LawfulOrderLT K] [Std.IsLinearOrder K] [Lean.Grind.OrderedRing K] {x y : Int} (h : (iz x : K) = iz y) : x = y := Int.le_antisymm (iz_le (K := K).mp (by rw [h]; exact Std.le_refl _)) (iz_le (K := K).mp (by rw [h]; exact Std.le_refl _))
theorem iz_dot {K : Type} [Lean.Grind.CommRing K] (a v : Nat → Int) (n : Nat) : (iz (dot a v n) : K) = kS (fun j => iz (a j) * iz (v j)) n := by
  induction n with
  | zero => exact iz_0
  | succ n ih => rw [dot, iz_add, iz_mul, ih, kS_s]
theorem kS_1 {K : Type} [Lean.Grind.CommRing K] (c : K) (n : Nat) : kS (fun _ => c) n = iz (n : Int) * c := by
  induction n with
  | zero => rw [kS_z, show ((0 : Nat) : Int) = 0 from rfl, iz_0]; grind
  | succ n ih => rw [kS_s, ih, show ((n + 1 : Nat) : Int) = (n : Int) + 1 from rfl, iz_add, iz_1]; grind
/-- Horner's rule, s steps -/
def kH {K : Type} [Lean.Grind.CommRing K] (d : Nat → K) (n : Nat) (x : K) : Nat → K
  | 0 => d n
  | s + 1 => x * kH d n x s + d (n - 1 - s)
theorem kH_z {K : Type} [Lean.Grind.CommRing K] (d : Nat → K) (n : Nat) (x : K) : kH d n x 0 = d n := rfl
theorem kH_s {K : Type} [Lean.Grind.CommRing K] (d : Nat → K) (n : Nat) (x : K) (s : Nat) : kH d n x (s + 1) = x * kH d n x s + d (n - 1 - s) := rfl
/-- the numbers of the product of t - m i, i below n -/
def kP {K : Type} [Lean.Grind.CommRing K] (m : Nat → K) : Nat → Nat → K
  | 0 => fun j => if j = 0 then 1 else 0
  | n + 1 => fun j => (if j = 0 then 0 else kP m n (j - 1)) - m n * kP m n j
theorem kP_s {K : Type} [Lean.Grind.CommRing K] (m : Nat → K) (n j : Nat) : kP m (n + 1) j = (if j = 0 then 0 else kP m n (j - 1)) - m n * kP m n j := rfl
theorem kP_p {K : Type} [Lean.Grind.CommRing K] (m : Nat → K) (n j : Nat) : kP m (n + 1) (j + 1) = kP m n j - m n * kP m n (j + 1) := by
  rw [kP_s, if_neg (Nat.succ_ne_zero j), Nat.add_sub_cancel]
theorem kP_hi {K : Type} [Lean.Grind.CommRing K] (m : Nat → K) (n : Nat) : ∀ j, n < j → kP m n j = 0 := by
  induction n with
  | zero => intro j hj; show (if j = 0 then (1 : K) else 0) = 0; rw [if_neg (by omega)]
  | succ n ih =>
    intro j hj
    obtain ⟨j, rfl⟩ : ∃ q, j = q + 1 := ⟨j - 1, by omega⟩
    rw [kP_p, ih j (by omega), ih (j + 1) (by omega)]; grind
theorem kP_t {K : Type} [Lean.Grind.CommRing K] (m : Nat → K) (n : Nat) : kP m n n = 1 := by
  induction n with
  | zero => rfl
  | succ n ih => rw [kP_p, ih, kP_hi m n (n + 1) (by omega)]; grind
theorem kH_P {K : Type} [Lean.Grind.CommRing K] (m : Nat → K) (n : Nat) (x : K) (s : Nat) : s + 1 ≤ n → kH (kP m (n + 1)) (n + 1) x (s + 1) = kH (kP m n) n x (s + 1) - m n * kH (kP m n) n x s := by
  induction s with
  | zero =>
    intro h
    obtain ⟨q, rfl⟩ : ∃ q, n = q + 1 := ⟨n - 1, by omega⟩
    rw [kH_s, kH_s, kH_z, kH_z, kP_t, kP_t, show q + 1 + 1 - 1 - 0 = q + 1 by omega, show q + 1 - 1 - 0 = q by omega, kP_p m (q + 1) q, kP_t]; grind
  | succ s ih =>
    intro h
    rw [kH_s, ih (by omega), kH_s (kP m n) n x (s + 1), kH_s (kP m n) n x s]
    obtain ⟨q, hq⟩ : ∃ q, n = q + s + 2 := ⟨n - s - 2, by omega⟩
    rw [show n + 1 - 1 - (s + 1) = q + 1 by omega, show n - 1 - (s + 1) = q by omega, show n - 1 - s = q + 1 by omega, kP_p]
    grind
theorem kH_v {K : Type} [Lean.Grind.CommRing K] (m : Nat → K) (n : Nat) (x : K) : kH (kP m (n + 1)) (n + 1) x (n + 1) = (x - m n) * kH (kP m n) n x n := by
  rcases n with _ | n
  · rw [kH_s, kH_z, kH_z, kP_t, kP_t, kP_s, if_pos rfl]
    show x * 1 + (0 - m 0 * kP m 0 0) = (x - m 0) * 1
    rw [kP_t]; grind
  · rw [kH_s, kH_P m (n + 1) x n (by omega), kH_s (kP m (n + 1)) (n + 1) x n, show n + 1 + 1 - 1 - (n + 1) = 0 by omega, show n + 1 - 1 - n = 0 by omega, kP_s m (n + 1) 0, if_pos rfl]; grind
theorem kH_r {K : Type} [Lean.Grind.CommRing K] (m : Nat → K) (n : Nat) : ∀ l, l < n → kH (kP m n) n (m l) n = 0 := by
  induction n with
  | zero => intro l hl; omega
  | succ n ih =>
    intro l hl
    rw [kH_v]
    by_cases e : l = n
    · rw [e]; grind
    · rw [ih l (by omega)]; grind
theorem k_newton {K : Type} [Lean.Grind.CommRing K] (m : Nat → K) (n : Nat) : ∀ s, s ≤ n → kS (fun l => kH (kP m n) n (m l) s) n = iz ((n - s : Nat) : Int) * kP m n (n - s) := by
  induction n with
  | zero => intro s hs; rw [kS_z, show 0 - s = 0 by omega, show ((0 : Nat) : Int) = 0 from rfl, iz_0]; grind
  | succ n ih =>
    intro s hs
    rcases s with _ | s
    · rw [kS_cg (fun l _ => kH_z (kP m (n + 1)) (n + 1) (m l)), kS_1]; rfl
    · by_cases e : s + 1 ≤ n
      · have e1 : kS (fun l => kH (kP m (n + 1)) (n + 1) (m l) (s + 1)) (n + 1) = kS (fun l => kH (kP m n) n (m l) (s + 1) - m n * kH (kP m n) n (m l) s) n + kP m n (n - 1 - s) := by
          rw [kS_s, kH_P m n (m n) s e, kS_cg (fun l _ => kH_P m n (m l) s e), kH_s (kP m n) n (m n) s]; grind
        obtain ⟨q, hq⟩ : ∃ q, n = q + s + 1 := ⟨n - s - 1, by omega⟩
        rw [e1, kS_sub, kS_mul, ih (s + 1) e, ih s (by omega), show n - (s + 1) = q by omega, show n - s = q + 1 by omega, show n - 1 - s = q by omega, show n + 1 - (s + 1) = q + 1 by omega, kP_p, show ((q + 1 : Nat) : Int) = (q : Int) + 1 from rfl, iz_add, iz_1]
        grind
      · obtain rfl : s = n := by omega
        rw [kS_0 (fun l hl => kH_r m (s + 1) l hl), Nat.sub_self, show ((0 : Nat) : Int) = 0 from rfl, iz_0]; grind
theorem kP_u {K : Type} [Lean.Grind.CommRing K] [LE K] [LT K] [Std.LawfulOrderLT K] [Std.IsLinearOrder K] [Lean.Grind.OrderedRing K] {n : Nat} {c m a : Nat → K} (h1 : c n = 1) (h : ∀ s, s < n → kS (fun l => kH c n (m l) s) n = iz ((n - s : Nat) : Int) * c (n - s)) (ha : kS a n = 1) (hl : kS (fun l => a l * kH c n (m l) n) n = 0) : ∀ j, j ≤ n → c j = kP m n j := by
  have key : ∀ s, s ≤ n → c (n - s) = kP m n (n - s) ∧ ∀ x, kH c n x s = kH (kP m n) n x s := by
    intro s
    induction s with
    | zero => exact fun _ => ⟨by rw [Nat.sub_zero, h1, kP_t], fun x => by rw [kH_z, kH_z, h1, kP_t]⟩
    | succ s ih =>
      intro hs
      obtain ⟨_, i2⟩ := ih (by omega)
      have e : c (n - (s + 1)) = kP m n (n - (s + 1)) := by
        by_cases z : s + 1 = n
        · have e1 : kS (fun l => a l * kH c n (m l) n) n = (c (n - (s + 1)) - kP m n (n - (s + 1))) * kS a n := by
            rw [← kS_mul]
            refine kS_cg (fun l hl9 => ?_)
            have r := kH_r m n l hl9
            have f1 : kH c n (m l) n = m l * kH c n (m l) s + c (n - (s + 1)) := by
              have := kH_s c n (m l) s
              rw [z, show n - 1 - s = n - (s + 1) by omega] at this
              exact this
            have f2 : kH (kP m n) n (m l) n = m l * kH (kP m n) n (m l) s + kP m n (n - (s + 1)) := by
              have := kH_s (kP m n) n (m l) s
              rw [z, show n - 1 - s = n - (s + 1) by omega] at this
              exact this
            rw [r] at f2
            rw [f1, i2]; grind
          rw [hl, ha] at e1
          grind
        · have a1 := h (s + 1) (by omega)
          have a2 := k_newton m n (s + 1) hs
          have b1 : kS (fun l => kH c n (m l) (s + 1)) n = kS (fun l => m l * kH (kP m n) n (m l) s) n + iz (n : Int) * c (n - 1 - s) := by
            rw [← kS_1, ← kS_add]
            exact kS_cg (fun l _ => by rw [kH_s, i2])
          have b2 : kS (fun l => kH (kP m n) n (m l) (s + 1)) n = kS (fun l => m l * kH (kP m n) n (m l) s) n + iz (n : Int) * kP m n (n - 1 - s) := by
            rw [← kS_1, ← kS_add]
            exact kS_cg (fun l _ => by rw [kH_s])
          have e0 : (n : Int) = ((n - (s + 1) : Nat) : Int) + ((s + 1 : Nat) : Int) := by omega
          have hp : (0 : K) < iz ((s + 1 : Nat) : Int) := iz_pos (by omega)
          have e5 : (iz (n : Int) : K) = iz ((n - (s + 1) : Nat) : Int) + iz ((s + 1 : Nat) : Int) := by rw [← iz_add, ← e0]
          rw [b1, e5, show n - 1 - s = n - (s + 1) by omega] at a1
          rw [b2, e5, show n - 1 - s = n - (s + 1) by omega] at a2
          generalize c (n - (s + 1)) = X at *
          generalize kP m n (n - (s + 1)) = Y at *
          refine Classical.byContradiction fun q => ?_
          refine k_nz (x := iz ((s + 1 : Nat) : Int)) (y := X - Y) (fun p => by rw [p] at hp; grind) (fun p => q (by grind)) ?_
          grind
      exact ⟨e, fun x => by rw [kH_s, kH_s, i2, show n - 1 - s = n - (s + 1) by omega, e]⟩
  intro j hj
  have := (key (n - j) (by omega)).1
  rw [show n - (n - j) = j by omega] at this
  exact this
theorem k_new {K : Type} [Lean.Grind.CommRing K] [LE K] [LT K] [Std.LawfulOrderLT K] [Std.IsLinearOrder K] [Lean.Grind.OrderedRing K] {k : Nat} {A : Nat → Nat → Int} {p : Nat → Int} {u : Nat → Nat → K} {m g : Nat → K} (hp : p k = 1) (h1 : ∀ i, i < k → kD k (u i) (u i) * g i = 1) (h2 : ∀ i l, i < k → l < k → i ≠ l → kD k (u i) (u l) = 0) (h3 : ∀ i a, i < k → a < k → kM k (fun i j => iz (A i j)) (u i) a = m i * u i a) (s : Nat) : ∀ i j, i < k → j < k → (iz (nwF A p k s i j) : K) = kS (fun l => g l * kH (fun j => iz (p j)) k (m l) s * u l i * u l j) k := by
  have hd : ∀ i j, i < k → j < k → (iz (if i = j then 1 else 0) : K) = kS (fun l => g l * u l i * u l j) k := fun i j hi hj => by
    have h := k_full h1 h2 (fun a => if a = j then 1 else 0) i hi
    have e : ∀ l, kD k (u l) (fun a => if a = j then 1 else 0) = u l j := fun l => by
      rw [kD, kS_one hj (fun a _ q => by rw [if_neg q]; grind), if_pos rfl]; grind
    rw [kS_cg (fun l _ => show g l * kD k (u l) (fun a => if a = j then 1 else 0) * u l i = g l * u l i * u l j by rw [e l]; grind)] at h
    rw [← h]
    split
    · exact iz_1
    · exact iz_0
  induction s with
  | zero =>
    intro i j hi hj
    rw [nwF, hd i j hi hj]
    exact kS_cg (fun l _ => by rw [kH_z]; show g l * u l i * u l j = g l * iz (p k) * u l i * u l j; rw [hp, iz_1]; grind)
  | succ s ih =>
    intro i j hi hj
    rw [nwF, iz_add, iz_dot]
    have e1 : kS (fun b => iz (A i b) * iz (nwF A p k s b j)) k = kS (fun l => g l * (m l * kH (fun j => iz (p j)) k (m l) s) * u l i * u l j) k := by
      have : kS (fun b => iz (A i b) * iz (nwF A p k s b j)) k = kS (fun b => kS (fun l => iz (A i b) * (g l * kH (fun j => iz (p j)) k (m l) s * u l b * u l j)) k) k := kS_cg (fun b hb => by rw [ih b j hb hj, kS_mul])
      rw [this, kS_sw]
      refine kS_cg (fun l hl => ?_)
      have h := h3 l i hl hi
      have e2 : kS (fun b => iz (A i b) * (g l * kH (fun j => iz (p j)) k (m l) s * u l b * u l j)) k = g l * kH (fun j => iz (p j)) k (m l) s * u l j * kM k (fun i j => iz (A i j)) (u l) i := by
        rw [kM, ← kS_mul]
        exact kS_cg (fun b _ => by grind)
      rw [e2, h]; grind
    have e3 : (iz (if i = j then p (k - 1 - s) else 0) : K) = kS (fun l => iz (p (k - 1 - s)) * (g l * u l i * u l j)) k := by
      rw [kS_mul, ← hd i j hi hj, ← iz_mul]
      congr 1
      split <;> omega
    rw [e1, e3, ← kS_add]
    exact kS_cg (fun l _ => by rw [kH_s]; grind)
/-- the polynomial of a symmetric matrix: a basis, and the zeros -/
theorem k_char {K : Type} [Lean.Grind.CommRing K] [LE K] [LT K] [Std.LawfulOrderLT K] [Std.IsLinearOrder K] [Lean.Grind.OrderedRing K] (hinv : ∀ x : K, x ≠ 0 → ∃ y, x * y = 1) (hsup : ∀ S : K → Prop, (∃ s, S s) → (∃ b, ∀ s, S s → s ≤ b) → ∃ m, (∀ s, S s → s ≤ m) ∧ ∀ b, (∀ s, S s → s ≤ b) → m ≤ b) {k : Nat} (h1 : 1 ≤ k) (h6 : k ≤ 6) {A : Nat → Nat → Int} (hA : ∀ i j, i < k → j < k → A i j = A j i) : ∃ (u : Nat → Nat → K) (m g : Nat → K), kE k (fun i j => iz (A i j)) k u m ∧ (∀ i, i < k → kD k (u i) (u i) * g i = 1) ∧ ∀ j, j ≤ k → iz (pB A k j) = kP m k j := by
  obtain ⟨u, m, hE⟩ := k_basis hinv hsup h1 (A := fun i j => iz (A i j)) (fun i j hi hj => by show iz (A i j) = iz (A j i); rw [hA i j hi hj]) k (Nat.le_refl _)
  have hg : ∀ i, ∃ g : K, i < k → kD k (u i) (u i) * g = 1 := fun i => by
    by_cases q : i < k
    · obtain ⟨t, ht⟩ := hinv (kD k (u i) (u i)) (fun e => by have := hE.1 i q; rw [e] at this; grind)
      exact ⟨t, fun _ => ht⟩
    · exact ⟨0, fun p => absurd p q⟩
  obtain ⟨g, hg⟩ := Classical.axiomOfChoice hg
  refine ⟨u, m, g, hE, hg, ?_⟩
  have hd := k_new (pB_top A k) hg hE.2.1 hE.2.2.1 0 0 0 (by omega) (by omega)
  have hz := k_new (pB_top A k) hg hE.2.1 hE.2.2.1 k 0 0 (by omega) (by omega)
  rw [nc_all h1 h6 hA, iz_0] at hz
  refine kP_u (c := fun j => iz (pB A k j)) (a := fun l => g l * u l 0 * u l 0) (by show iz (pB A k k) = 1; rw [pB_top]; exact iz_1) (fun s hs => ?_) ?_ ?_
  rotate_left
  · have hd : (iz 1 : K) = _ := hd
    rw [iz_1] at hd
    rw [hd]
    exact kS_cg (fun l _ => by rw [kH_z]; show _ = g l * iz (pB A k k) * u l 0 * u l 0; rw [pB_top, iz_1]; grind)
  · rw [hz]
    exact kS_cg (fun l _ => by grind)
  have e := congrArg (iz (K := K)) (nw_all h1 h6 hA s hs)
  rw [iz_mul, iz_dot] at e
  show _ = iz ((k - s : Nat) : Int) * iz (pB A k (k - s))
  rw [← e]
  have hn := k_new (pB_top A k) hg hE.2.1 hE.2.2.1 s
  have e1 : kS (fun j => iz 1 * iz (nwF A (pB A k) k s j j)) k = kS (fun j => kS (fun l => g l * kH (fun j => iz (pB A k j)) k (m l) s * u l j * u l j) k) k := kS_cg (fun j hj => by rw [hn j j hj hj, iz_1]; grind)
  rw [e1, kS_sw]
  refine (kS_cg (fun l hl => ?_)).symm
  have e2 : kS (fun j => g l * kH (fun j => iz (pB A k j)) k (m l) s * u l j * u l j) k = g l * kH (fun j => iz (pB A k j)) k (m l) s * kD k (u l) (u l) := by
    rw [kD, ← kS_mul]
    exact kS_cg (fun j _ => by grind)
  rw [e2]
  have e3 : g l * kH (fun j => iz (pB A k j)) k (m l) s * kD k (u l) (u l) = (kD k (u l) (u l) * g l) * kH (fun j => iz (pB A k j)) k (m l) s := by grind
  rw [e3, hg l hl]; grind
