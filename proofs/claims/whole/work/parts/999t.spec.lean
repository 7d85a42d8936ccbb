/-! a symmetric matrix has a basis of vectors that it only stretches -/
theorem kD_cs {K : Type} [Lean.Grind.CommRing K] [LE K] [LT K] [Std.LawfulOrderLT K] [Std.IsLinearOrder K] [Lean.Grind.OrderedRing K] (n : Nat) (x y : Nat → K) : kD n x y * kD n x y ≤ kD n x x * kD n y y := by
  have hD := kD_nn n y
  by_cases e : kD n y y = 0
  · have hz : kD n x y = 0 := kS_0 (fun i hi => by rw [kD_z e i hi]; grind)
    rw [hz, e]; grind
  · have hp : 0 < kD n y y := by grind
    have h := kD_nn n (fun i => kD n y y * x i + (-kD n x y) * y i)
    rw [kD_l, kD_l1, kD_l1, kD_c n y x] at h
    generalize kD n y y = D at *
    generalize kD n x y = c at *
    generalize kD n x x = X at *
    refine k_can hp (k_can (D := 1) Lean.Grind.OrderedRing.zero_lt_one ?_)
    grind
theorem kM_id {K : Type} [Lean.Grind.CommRing K] {n i : Nat} (hi : i < n) (l : K) (A : Nat → Nat → K) (v : Nat → K) : kM n (fun i j => (if i = j then l else 0) - A i j) v i = l * v i - kM n A v i := by
  have e : kM n (fun i j => (if i = j then l else 0) - A i j) v i = kS (fun j => (if i = j then l else 0) * v j - A i j * v j) n := kS_cg (fun j _ => by grind)
  have e2 : kS (fun j => (if i = j then l else 0) * v j) n = (if i = i then l else 0) * v i := kS_one (f := fun j => (if i = j then l else 0) * v j) hi (fun j _ hj => by
    show (if i = j then l else 0) * v j = 0
    rw [if_neg (fun q => hj q.symm)]; grind)
  rw [e, kS_sub, e2, if_pos rfl]; rfl
/-- a matrix that sends no vector to 0 has an inverse -/
theorem k_rinv {K : Type} [Lean.Grind.CommRing K] [LE K] [LT K] [Std.LawfulOrderLT K] [Std.IsLinearOrder K] [Lean.Grind.OrderedRing K] (hinv : ∀ x : K, x ≠ 0 → ∃ y, x * y = 1) {n : Nat} {M : Nat → Nat → K} (hk : ∀ v, (∀ i, i < n → kM n M v i = 0) → ∀ i, i < n → v i = 0) (c : Nat) : ∃ y : Nat → K, ∀ i, i < n → kM n M y i = if i = c then 1 else 0 := by
  obtain ⟨x, _, ⟨j, hj, hx⟩, he⟩ := kCL (n + 1) (fun i j => if j = n then (if i = c then -1 else 0) else M i j) n (fun _ => true) (by rw [kN_all]; omega)
  have he2 : ∀ i, i < n → kM n M x i = (if i = c then 1 else 0) * x n := fun i hi => by
    have h := he i hi
    rw [kS_s] at h
    have e1 : kS (fun j => (if j = n then (if i = c then -1 else 0) else M i j) * x j) n = kM n M x i := kS_cg (fun j hj => by rw [if_neg (show ¬ j = n by omega)])
    rw [e1, if_pos rfl] at h
    by_cases q : i = c
    · rw [if_pos q] at h ⊢; grind
    · rw [if_neg q] at h ⊢; grind
  have hn : x n ≠ 0 := fun q => by
    have hz := hk x (fun i hi => by rw [he2 i hi, q]; grind)
    by_cases e : j = n
    · exact hx (by rw [e]; exact q)
    · exact hx (hz j (by omega))
  obtain ⟨t, ht⟩ := hinv (x n) hn
  refine ⟨fun j => t * x j + 0 * x j, fun i hi => ?_⟩
  rw [kM_l, he2 i hi]
  split <;> grind
theorem k_top {K : Type} [Lean.Grind.CommRing K] [LE K] [LT K] [Std.LawfulOrderLT K] [Std.IsLinearOrder K] [Lean.Grind.OrderedRing K] (hinv : ∀ x : K, x ≠ 0 → ∃ y, x * y = 1) (hsup : ∀ S : K → Prop, (∃ s, S s) → (∃ b, ∀ s, S s → s ≤ b) → ∃ m, (∀ s, S s → s ≤ m) ∧ ∀ b, (∀ s, S s → s ≤ b) → m ≤ b) {n : Nat} (hn : 1 ≤ n) {A : Nat → Nat → K} (hA : ∀ i j, i < n → j < n → A i j = A j i) : ∃ (l : K) (v : Nat → K), 0 < kD n v v ∧ (∀ i, i < n → kM n A v i = l * v i) ∧ ∀ w, kD n w (kM n A w) ≤ l * kD n w w := by
  have h01 : (0 : K) < 1 := Lean.Grind.OrderedRing.zero_lt_one
  obtain ⟨B, hB, hb⟩ := kB n A
  obtain ⟨l, l1, l2⟩ := hsup (fun x => ∃ v, 0 < kD n v v ∧ x * kD n v v ≤ kD n v (kM n A v)) ⟨-B, fun i => if i = 0 then 1 else 0, kD_p (i := 0) (by omega) (by show (if 0 = 0 then (1 : K) else 0) ≠ 0; rw [if_pos rfl]; grind), by have := (hb (fun i => if i = 0 then 1 else 0)).2; grind⟩ ⟨B, fun s ⟨v, h1, h2⟩ => k_can h1 (by have := (hb v).1; grind)⟩
  have hq : ∀ w, kD n w (kM n A w) ≤ l * kD n w w := fun w => by
    by_cases e : kD n w w = 0
    · have hz : kD n w (kM n A w) = 0 := kS_0 (fun i hi => by rw [kD_z e i hi]; grind)
      rw [hz, e]; grind
    · have hp : 0 < kD n w w := by have := kD_nn n w; grind
      obtain ⟨i, hi⟩ := hinv _ e
      have h := l1 (kD n w (kM n A w) * i) ⟨w, hp, by
        have : kD n w (kM n A w) * i * kD n w w = kD n w (kM n A w) * (kD n w w * i) := by grind
        rw [this, hi]; grind⟩
      have h2 := Lean.Grind.OrderedRing.mul_le_mul_of_nonneg_right h (Std.le_of_lt hp)
      have : kD n w (kM n A w) * i * kD n w w = kD n w (kM n A w) * (kD n w w * i) := by grind
      rw [this, hi] at h2
      grind
  by_cases hk : ∃ v, (∀ i, i < n → kM n A v i = l * v i) ∧ ∃ i, i < n ∧ v i ≠ 0
  · obtain ⟨v, h1, i, hi, h2⟩ := hk
    exact ⟨l, v, kD_p hi h2, h1, hq⟩
  · exfalso
    obtain ⟨M, eM⟩ : ∃ M : Nat → Nat → K, M = fun i j => (if i = j then l else 0) - A i j := ⟨_, rfl⟩
    have hM : ∀ v i, i < n → kM n M v i = l * v i - kM n A v i := fun v i hi => by rw [eM]; exact kM_id hi l A v
    have sM : ∀ i j, i < n → j < n → M i j = M j i := fun i j hi hj => by
      rw [eM]
      show (if i = j then l else 0) - A i j = (if j = i then l else 0) - A j i
      rw [hA i j hi hj]
      by_cases q : i = j
      · rw [if_pos q, if_pos q.symm]
      · rw [if_neg q, if_neg (fun p => q p.symm)]
    have hk2 : ∀ v, (∀ i, i < n → kM n M v i = 0) → ∀ i, i < n → v i = 0 := fun v hv i hi => Classical.byContradiction fun q => hk ⟨v, fun i hi => by have := hv i hi; rw [hM v i hi] at this; grind, i, hi, q⟩
    obtain ⟨X, hX⟩ := Classical.axiomOfChoice (k_rinv hinv hk2)
    have qM : ∀ u, 0 ≤ kD n u (kM n M u) := fun u => by
      have e : kD n u (kM n M u) = l * kD n u u - kD n u (kM n A u) := by
        have : kD n u (kM n M u) = kD n u (fun i => l * u i + (-1) * kM n A u i) := kD_cg (fun i hi => by rw [hM u i hi]; grind)
        rw [this, kD_l]; grind
      have := hq u
      rw [e]; grind
    obtain ⟨B2, hB2, hb2⟩ := kB n M
    obtain ⟨t, ht⟩ := hinv B2 (fun q => by rw [q] at hB2; grind)
    have tp := k_ip hB2 ht
    have hG : 0 ≤ kS (fun c => kD n (X c) (X c)) n := kS_nn (fun c _ => kD_nn n (X c))
    have key : ∀ v, kD n v v ≤ (kS (fun c => kD n (X c) (X c)) n * B2 + 1) * kD n v (kM n M v) := fun v => by
      have hv : ∀ c, c < n → v c = kD n (X c) (kM n M v) := fun c hc => by
        rw [kD_sy sM]
        have : kD n v (kM n M (X c)) = v c * (if c = c then 1 else 0) := by
          rw [kD, kS_one hc (fun i hi q => by rw [hX c i hi, if_neg q]; grind), hX c c hc]
        rw [this, if_pos rfl]; grind
      have s1 : kD n v v ≤ kS (fun c => kD n (kM n M v) (kM n M v) * kD n (X c) (X c)) n := kS_le (fun c hc => by
        have := kD_cs n (X c) (kM n M v)
        rw [← hv c hc] at this
        grind)
      rw [kS_mul] at s1
      have s2 := qM (fun i => 1 * v i + (-t) * kM n M v i)
      have e2 : kD n (fun i => 1 * v i + (-t) * kM n M v i) (kM n M (fun i => 1 * v i + (-t) * kM n M v i)) = kD n v (kM n M v) - 2 * t * kD n (kM n M v) (kM n M v) + t * t * kD n (kM n M v) (kM n M (kM n M v)) := by
        have : kD n (fun i => 1 * v i + (-t) * kM n M v i) (kM n M (fun i => 1 * v i + (-t) * kM n M v i)) = kD n (fun i => 1 * v i + (-t) * kM n M v i) (fun i => 1 * kM n M v i + (-t) * kM n M (kM n M v) i) := kD_cg (fun i _ => kM_l n M v (kM n M v) 1 (-t) i)
        rw [this, kD_l, kD_l1, kD_l1, kD_sy sM v (kM n M v)]; grind
      rw [e2] at s2
      have s3 := (hb2 (kM n M v)).1
      have s4 := qM v
      generalize kD n (kM n M v) (kM n M (kM n M v)) = cc at *
      generalize kD n (kM n M v) (kM n M v) = bb at *
      generalize kD n v (kM n M v) = aa at *
      generalize kS (fun c => kD n (X c) (X c)) n = G at *
      have s5 := Lean.Grind.OrderedRing.mul_le_mul_of_nonneg_left s3 (k_sq t)
      have s6 : t * t * (B2 * bb) = t * bb := by
        have : t * t * (B2 * bb) = (B2 * t) * (t * bb) := by grind
        rw [this, ht]; grind
      rw [s6] at s5
      have s7 : t * bb ≤ aa := by grind
      have s8 := Lean.Grind.OrderedRing.mul_le_mul_of_nonneg_left s7 (Std.le_of_lt hB2)
      have s9 : B2 * (t * bb) = bb := by
        have : B2 * (t * bb) = (B2 * t) * bb := by grind
        rw [this, ht]; grind
      rw [s9] at s8
      have s10 := Lean.Grind.OrderedRing.mul_le_mul_of_nonneg_left s8 hG
      grind
    obtain ⟨H, eH⟩ : ∃ H, H = kS (fun c => kD n (X c) (X c)) n * B2 + 1 := ⟨_, rfl⟩
    have hH : 0 < H := by
      have := Lean.Grind.OrderedRing.mul_nonneg hG (Std.le_of_lt hB2)
      rw [eH]; grind
    obtain ⟨r, hr⟩ := hinv H (fun q => by rw [q] at hH; grind)
    have rp := k_ip hH hr
    have := l2 (l - r) (fun s ⟨v, h1, h2⟩ => k_can h1 (by
      have k1 := key v
      rw [← eH] at k1
      have k2 := Lean.Grind.OrderedRing.mul_le_mul_of_nonneg_left k1 (Std.le_of_lt rp)
      have k3 : r * (H * kD n v (kM n M v)) = kD n v (kM n M v) := by
        have : r * (H * kD n v (kM n M v)) = (H * r) * kD n v (kM n M v) := by grind
        rw [this, hr]; grind
      have k4 : kD n v (kM n M v) = l * kD n v v - kD n v (kM n A v) := by
        have : kD n v (kM n M v) = kD n v (fun i => l * v i + (-1) * kM n A v i) := kD_cg (fun i hi => by rw [hM v i hi]; grind)
        rw [this, kD_l]; grind
      rw [k3, k4] at k2
      grind))
    grind
/-- the first j vectors -/
def kE {K : Type} [Lean.Grind.CommRing K] [LE K] [LT K] [Std.LawfulOrderLT K] [Std.IsLinearOrder K] [Lean.Grind.OrderedRing K] (n : Nat) (A : Nat → Nat → K) (j : Nat) (u : Nat → Nat → K) (m : Nat → K) : Prop :=
  (∀ i, i < j → 0 < kD n (u i) (u i)) ∧ (∀ i k, i < j → k < j → i ≠ k → kD n (u i) (u k) = 0) ∧ (∀ i a, i < j → a < n → kM n A (u i) a = m i * u i a) ∧ (∀ i, i + 1 < j → m (i + 1) ≤ m i) ∧ ∀ w, 0 < j → (∀ i, i + 1 < j → kD n (u i) w = 0) → kD n w (kM n A w) ≤ m (j - 1) * kD n w w
theorem k_basis {K : Type} [Lean.Grind.CommRing K] [LE K] [LT K] [Std.LawfulOrderLT K] [Std.IsLinearOrder K] [Lean.Grind.OrderedRing K] (hinv : ∀ x : K, x ≠ 0 → ∃ y, x * y = 1) (hsup : ∀ S : K → Prop, (∃ s, S s) → (∃ b, ∀ s, S s → s ≤ b) → ∃ m, (∀ s, S s → s ≤ m) ∧ ∀ b, (∀ s, S s → s ≤ b) → m ≤ b) {n : Nat} (hn : 1 ≤ n) {A : Nat → Nat → K} (hA : ∀ i j, i < n → j < n → A i j = A j i) (j : Nat) : j ≤ n → ∃ u m, kE n A j u m := by
  have h01 : (0 : K) < 1 := Lean.Grind.OrderedRing.zero_lt_one
  induction j with
  | zero => exact fun _ => ⟨fun _ _ => 0, fun _ => 0, fun i hi => absurd hi (Nat.not_lt_zero _), fun i k hi => absurd hi (Nat.not_lt_zero _), fun i a hi => absurd hi (Nat.not_lt_zero _), fun i hi => absurd hi (Nat.not_lt_zero _), fun w hw => absurd hw (Nat.not_lt_zero _)⟩
  | succ j ih =>
    intro hj
    obtain ⟨u, m, u1, u2, u3, u4, u5⟩ := ih (by omega)
    obtain ⟨B, hB, hb⟩ := kB n A
    have hc : ∀ i, ∃ c : K, i < j → m i - c * kD n (u i) (u i) = -B - 1 := fun i => by
      by_cases q : i < j
      · obtain ⟨t, ht⟩ := hinv (kD n (u i) (u i)) (fun e => by have := u1 i q; rw [e] at this; grind)
        refine ⟨(m i + B + 1) * t, fun _ => ?_⟩
        have : (m i + B + 1) * t * kD n (u i) (u i) = (m i + B + 1) * (kD n (u i) (u i) * t) := by grind
        rw [this, ht]; grind
      · exact ⟨0, fun p => absurd p q⟩
    obtain ⟨c, hc⟩ := Classical.axiomOfChoice hc
    obtain ⟨A', eA⟩ : ∃ A' : Nat → Nat → K, A' = fun a b => A a b - kS (fun i => c i * u i a * u i b) j := ⟨_, rfl⟩
    have hM : ∀ v a, kM n A' v a = kM n A v a - kS (fun i => c i * kD n (u i) v * u i a) j := fun v a => by
      have e1 : kM n A' v a = kS (fun b => A a b * v b - kS (fun i => c i * u i a * u i b * v b) j) n := kS_cg (fun b _ => by
        rw [eA]
        have : kS (fun i => c i * u i a * u i b * v b) j = v b * kS (fun i => c i * u i a * u i b) j := by rw [← kS_mul]; exact kS_cg (fun i _ => by grind)
        rw [this]; grind)
      have e2 : kS (fun b => kS (fun i => c i * u i a * u i b * v b) j) n = kS (fun i => c i * kD n (u i) v * u i a) j := by
        rw [kS_sw]
        refine kS_cg (fun i _ => ?_)
        have : kS (fun b => c i * u i a * u i b * v b) n = c i * u i a * kD n (u i) v := by rw [kD, ← kS_mul]; exact kS_cg (fun b _ => by grind)
        rw [this]; grind
      rw [e1, kS_sub, e2]; rfl
    have sA : ∀ a b, a < n → b < n → A' a b = A' b a := fun a b ha hb => by
      rw [eA]
      show A a b - kS (fun i => c i * u i a * u i b) j = A b a - kS (fun i => c i * u i b * u i a) j
      rw [hA a b ha hb, kS_cg (fun i _ => show c i * u i a * u i b = c i * u i b * u i a by grind)]
    obtain ⟨l, v, v1, v2, v3⟩ := k_top hinv hsup hn sA
    have hW : ∀ w, (∀ i, i < j → kD n (u i) w = 0) → ∀ a, kM n A' w a = kM n A w a := fun w hw a => by
      rw [hM, kS_0 (fun i hi => by rw [hw i hi]; grind)]; grind
    have hl : -B ≤ l := by
      obtain ⟨w, _, ⟨k, hk, hw⟩, he⟩ := kCL n u j (fun _ => true) (by rw [kN_all]; omega)
      have hp := kD_p hk hw
      have h1 := v3 w
      rw [kD_cg (fun a _ => hW w he a)] at h1
      have h2 := (hb w).2
      exact k_can hp (by grind)
    have hu : ∀ i, i < j → ∀ a, a < n → kM n A' (u i) a = (-B - 1) * u i a := fun i hi a ha => by
      rw [hM, u3 i a hi ha, kS_one (a := i) hi (fun k hk q => by rw [u2 k i hk hi q]; grind), ← hc i hi]; grind
    have ho : ∀ i, i < j → kD n (u i) v = 0 := fun i hi => by
      have h1 := kD_sy sA (u i) v
      rw [kD_cg v2, kD_m, kD_cg (hu i hi), kD_m, kD_c n v (u i)] at h1
      by_cases e : kD n (u i) v = 0
      · exact e
      · exfalso
        have : (l - (-B - 1)) * kD n (u i) v = 0 := by grind
        exact k_nz (show l - (-B - 1) ≠ 0 from fun q => by grind) e this
    have hvA : ∀ a, a < n → kM n A v a = l * v a := fun a ha => by rw [← hW v ho a]; exact v2 a ha
    refine ⟨fun i => if i = j then v else u i, fun i => if i = j then l else m i, ?_, ?_, ?_, ?_, ?_⟩
    · intro i hi
      by_cases q : i = j
      · simp only [if_pos q]; exact v1
      · simp only [if_neg q]; exact u1 i (by omega)
    · intro i k hi hk hik
      by_cases q : i = j
      · have q2 : ¬ k = j := fun p => hik (q.trans p.symm)
        simp only [if_pos q, if_neg q2]; rw [kD_c]; exact ho k (by omega)
      · by_cases q2 : k = j
        · simp only [if_neg q, if_pos q2]; exact ho i (by omega)
        · simp only [if_neg q, if_neg q2]; exact u2 i k (by omega) (by omega) hik
    · intro i a hi ha
      by_cases q : i = j
      · simp only [if_pos q]; exact hvA a ha
      · simp only [if_neg q]; exact u3 i a (by omega) ha
    · intro i hi
      have q : ¬ i = j := by omega
      by_cases q2 : i + 1 = j
      · simp only [if_pos q2, if_neg q]
        have h := u5 v (by omega) (fun k hk => ho k (by omega))
        rw [kD_cg hvA, kD_m, show j - 1 = i by omega] at h
        exact k_can v1 h
      · simp only [if_neg q2, if_neg q]; exact u4 i (by omega)
    · intro w _ hw
      have hw2 : ∀ i, i < j → kD n (u i) w = 0 := fun i hi => by
        have := hw i (by omega)
        simp only [if_neg (show ¬ i = j by omega)] at this
        exact this
      simp only [Nat.add_sub_cancel, if_pos]
      rw [← kD_cg (fun a _ => hW w hw2 a)]
      exact v3 w
/-- the vectors span -/
theorem k_full {K : Type} [Lean.Grind.CommRing K] [LE K] [LT K] [Std.LawfulOrderLT K] [Std.IsLinearOrder K] [Lean.Grind.OrderedRing K] {n : Nat} {u : Nat → Nat → K} {g : Nat → K} (h1 : ∀ i, i < n → kD n (u i) (u i) * g i = 1) (h2 : ∀ i k, i < n → k < n → i ≠ k → kD n (u i) (u k) = 0) (y : Nat → K) : ∀ a, a < n → y a = kS (fun i => g i * kD n (u i) y * u i a) n := by
  have h01 : (0 : K) < 1 := Lean.Grind.OrderedRing.zero_lt_one
  obtain ⟨r, er⟩ : ∃ r : Nat → K, ∀ a, r a = y a - kS (fun i => g i * kD n (u i) y * u i a) n := ⟨_, fun _ => rfl⟩
  have hr : ∀ k, k < n → kD n (u k) r = 0 := fun k hk => by
    have e1 : kD n (u k) r = kS (fun a => u k a * y a - u k a * kS (fun i => g i * kD n (u i) y * u i a) n) n := kS_cg (fun a _ => by rw [er]; grind)
    have e2 : kS (fun a => u k a * kS (fun i => g i * kD n (u i) y * u i a) n) n = kS (fun i => g i * kD n (u i) y * kD n (u k) (u i)) n := by
      have : kS (fun a => u k a * kS (fun i => g i * kD n (u i) y * u i a) n) n = kS (fun a => kS (fun i => u k a * (g i * kD n (u i) y * u i a)) n) n := kS_cg (fun a _ => (kS_mul (u k a) _ n).symm)
      rw [this, kS_sw]
      refine kS_cg (fun i _ => ?_)
      have e5 : g i * kD n (u i) y * kD n (u k) (u i) = kS (fun a => g i * kD n (u i) y * (u k a * u i a)) n := (kS_mul _ _ n).symm
      rw [e5]
      exact kS_cg (fun a _ => by grind)
    have e4 : kS (fun i => g i * kD n (u i) y * kD n (u k) (u i)) n = g k * kD n (u k) y * kD n (u k) (u k) := kS_one (f := fun i => g i * kD n (u i) y * kD n (u k) (u i)) hk (fun i hi q => by
      show g i * kD n (u i) y * kD n (u k) (u i) = 0
      rw [h2 k i hk hi (fun p => q p.symm)]; grind)
    rw [e1, kS_sub, e2, e4]
    have e3 : g k * kD n (u k) y * kD n (u k) (u k) = (kD n (u k) (u k) * g k) * kD n (u k) y := by grind
    rw [e3, h1 k hk]
    show kD n (u k) y - 1 * kD n (u k) y = 0
    grind
  have hz : ∀ a, a < n → r a = 0 := by
    refine Classical.byContradiction fun hne => ?_
    have hp : ¬ kD n r r = 0 := fun q => hne (kD_z q)
    obtain ⟨x, _, ⟨j, hj, hx⟩, he⟩ := kCL (n + 1) (fun a i => if i = n then r a else u i a) n (fun _ => true) (by rw [kN_all]; omega)
    have he2 : ∀ a, a < n → kS (fun i => x i * u i a) n + x n * r a = 0 := fun a ha => by
      have h := he a ha
      rw [kS_s] at h
      have e1 : kS (fun i => (if i = n then r a else u i a) * x i) n = kS (fun i => x i * u i a) n := kS_cg (fun i hi => by rw [if_neg (show ¬ i = n by omega)]; grind)
      rw [e1, if_pos rfl] at h
      grind
    have hd : ∀ w : Nat → K, kS (fun i => x i * kD n w (u i)) n + x n * kD n w r = 0 := fun w => by
      have e1 : kS (fun a => w a * (kS (fun i => x i * u i a) n + x n * r a)) n = 0 := kS_0 (fun a ha => by rw [he2 a ha]; grind)
      have e2 : kS (fun a => w a * (kS (fun i => x i * u i a) n + x n * r a)) n = kS (fun a => kS (fun i => w a * (x i * u i a)) n) n + kS (fun a => x n * (w a * r a)) n := by
        rw [← kS_add]
        exact kS_cg (fun a _ => by rw [kS_mul]; grind)
      rw [e2, kS_sw, kS_mul] at e1
      rw [← e1]
      have : kS (fun i => x i * kD n w (u i)) n = kS (fun j => kS (fun i => w i * (x j * u j i)) n) n := kS_cg (fun i _ => by rw [kD, ← kS_mul]; exact kS_cg (fun a _ => by grind))
      rw [this]; rfl
    have hxk : ∀ k, k < n → x k = 0 := fun k hk => by
      have h := hd (u k)
      rw [hr k hk, kS_one hk (fun i hi q => by rw [h2 k i hk hi (fun p => q p.symm)]; grind)] at h
      have h3 : x k * kD n (u k) (u k) = 0 := by grind
      have h4 : x k * kD n (u k) (u k) * g k = x k * (kD n (u k) (u k) * g k) := by grind
      rw [h1 k hk, h3] at h4
      grind
    have hxn : x n = 0 := by
      have h := hd r
      rw [kS_0 (fun i hi => by rw [hxk i hi]; grind)] at h
      have h3 : x n * kD n r r = 0 := by grind
      exact Classical.byContradiction fun q => k_nz q hp h3
    by_cases q : j = n
    · exact hx (by rw [q]; exact hxn)
    · exact hx (hxk j (by omega))
  intro a ha
  have := hz a ha
  rw [er] at this
  grind
