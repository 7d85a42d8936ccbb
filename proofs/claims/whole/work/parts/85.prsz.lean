/-! the sizes of the reference's remainders: by weights -/
def wt (f : Nat → Int) (c w q : Nat) : Prop := ∀ k, k < c → bd (2 ^ (q + 23 * (w - k))) (f k)
theorem wt_up {f : Nat → Int} {c w q w' q' : Nat} (h : wt f c w q) (hw : w ≤ w') (hq : q ≤ q') : wt f c w' q' := fun k hk => bd_up (by omega) (h k hk)
theorem bd_sub {u v x y : Int} (hx : bd u x) (hy : bd v y) : bd (u + v) (x - y) := ⟨by have := hx.1; have := hy.2; omega, by have := hx.2; have := hy.1; omega⟩
theorem bd_div {u x : Int} {g : Nat} (hx : bd u x) (hu : 0 ≤ u) : bd u (x / (g : Int)) := by
  rcases Nat.eq_zero_or_pos g with rfl | hg
  · rw [Int.natCast_zero, Int.ediv_zero]; exact ⟨by omega, hu⟩
  · have hg : (0 : Int) < (g : Int) := by omega
    have h1 := hx.1
    have h2 := hx.2
    constructor
    · rw [Int.le_ediv_iff_mul_le hg]
      have : -u * (g : Int) ≤ -u * 1 := Int.mul_le_mul_of_nonpos_left (by omega) (by omega)
      omega
    · have : x / (g : Int) < u + 1 := by
        rw [Int.ediv_lt_iff_lt_mul hg]
        have : (u + 1) * 1 ≤ (u + 1) * (g : Int) := Int.mul_le_mul_of_nonneg_left (by omega) (by omega)
        omega
      omega
theorem wt_lw {f g : Nat → Int} {c d wf qf wg qg : Nat} (hd : 1 ≤ d) (hc : d ≤ c) (hwf : c ≤ wf + 1) (hwg : d ≤ wg + 1) (hf : wt f c wf qf) (hg : wt g d wg qg) : wt (lwF f c g d) c (wf + (wg - (d - 1))) (qf + (qg + 1)) := by
  intro k hk
  have e2 : ∀ n : Nat, (2 : Int) ^ (n + 1) = 2 ^ n + 2 ^ n := fun n => by rw [Int.pow_succ]; omega
  have h1 := bd_mul (hf k hk) (hg (d - 1) (by omega))
  rw [← Int.pow_add] at h1
  have h1 : bd (2 ^ (qf + qg + 23 * (wf + (wg - (d - 1)) - k))) (f k * g (d - 1)) := bd_up (by omega) h1
  simp only [lwF]
  rw [show qf + (qg + 1) + 23 * (wf + (wg - (d - 1)) - k) = (qf + qg + 23 * (wf + (wg - (d - 1)) - k)) + 1 by omega, e2]
  refine bd_sub h1 ?_
  split
  · have h2 := bd_mul (hf (c - 1) (by omega)) (hg (k - (c - d)) (by omega))
    rw [← Int.pow_add] at h2
    exact bd_up (by omega) h2
  · have : (0 : Int) < 2 ^ (qf + qg + 23 * (wf + (wg - (d - 1)) - k)) := Int.pow_pos (by decide)
    exact ⟨by omega, by omega⟩
theorem wt_st {f g : Nat → Int} {c d wf qf wg qg : Nat} (hd : 1 ≤ d) (hc : d ≤ c) (hwf : c ≤ wf + 1) (hwg : d ≤ wg + 1) (hf : wt f c wf qf) (hg : wt g d wg qg) : wt (stF f c g d) (stC f c g d) (wf + (wg - (d - 1))) (qf + (qg + 1)) := by
  intro k hk
  have := stC_lt (f := f) (g := g) hd hc
  exact bd_div (wt_lw hd hc hwf hwg hf hg k (by omega)) (Int.le_of_lt (Int.pow_pos (by decide)))
theorem wt_in {g : Nat → Int} {d wg qg : Nat} (hd : 1 ≤ d) (hwg : d ≤ wg + 1) (hg : wt g d wg qg) : ∀ (n : Nat) (f : Nat → Int) (c wf qf : Nat), c < n → c ≤ wf + 1 → wt f c wf qf → qf + (c - d) * (qg + 1) + 23 * (wf + (c - d) * (wg - (d - 1))) < 2400 →
    inOK g d n f c ∧ wt (inR g d n f c).1 (inR g d n f c).2 (wf + (c + 1 - d) * (wg - (d - 1))) (qf + (c + 1 - d) * (qg + 1))
  | 0, _, _, _, _, h, _, _, _ => absurd h (Nat.not_lt_zero _)
  | n + 1, f, c, wf, qf, h, hwf, hf, hb => by
    rw [inOK, inR]
    by_cases hcd : c < d
    · rw [if_pos hcd]
      exact ⟨Or.inl hcd, wt_up hf (Nat.le_add_right _ _) (Nat.le_add_right _ _)⟩
    · rw [if_neg hcd]
      have hlt := stC_lt (f := f) (g := g) hd (Nat.not_lt.mp hcd)
      have ew : ∀ a b, a < c → (a - d) * b + b ≤ (c - d) * b ∨ a < d := fun a b ha => by
        by_cases q : a < d
        · exact Or.inr q
        · left
          have : (a - d + 1) * b ≤ (c - d) * b := Nat.mul_le_mul_right b (by omega)
          rw [Nat.add_mul, Nat.one_mul] at this
          exact this
      have ew2 : ∀ a b, a < c → (a + 1 - d) * b + b ≤ (c + 1 - d) * b := fun a b ha => by
        have : (a + 1 - d + 1) * b ≤ (c + 1 - d) * b := Nat.mul_le_mul_right b (by omega)
        rw [Nat.add_mul, Nat.one_mul] at this
        exact this
      have hs : rsm f c := fun k hk => sm_of (n := qf + 23 * (wf - k)) (by
        have : 0 ≤ (c - d) * (qg + 1) := Nat.zero_le _
        have : 0 ≤ (c - d) * (wg - (d - 1)) := Nat.zero_le _
        omega) (hf k hk)
      by_cases h2 : stC f c g d < d
      · obtain ⟨n', rfl⟩ : ∃ n', n = n' + 1 := ⟨n - 1, by omega⟩
        rw [inOK, inR, if_pos h2]
        refine ⟨Or.inr ⟨hs, Or.inl h2⟩, wt_up (wt_st hd (Nat.not_lt.mp hcd) hwf hwg hf hg) ?_ ?_⟩
        · have := Nat.mul_le_mul_right (wg - (d - 1)) (show 1 ≤ c + 1 - d by omega); omega
        · have := Nat.mul_le_mul_right (qg + 1) (show 1 ≤ c + 1 - d by omega); omega
      · have a1 := (ew (stC f c g d) (qg + 1) hlt).resolve_right h2
        have a2 := (ew (stC f c g d) (wg - (d - 1)) hlt).resolve_right h2
        have a3 := ew2 (stC f c g d) (qg + 1) hlt
        have a4 := ew2 (stC f c g d) (wg - (d - 1)) hlt
        obtain ⟨r1, r2⟩ := wt_in hd hwg hg n (stF f c g d) (stC f c g d) (wf + (wg - (d - 1))) (qf + (qg + 1)) (by omega) (by omega) (wt_st hd (Nat.not_lt.mp hcd) hwf hwg hf hg) (by omega)
        exact ⟨Or.inr ⟨hs, r1⟩, wt_up r2 (by omega) (by omega)⟩
def chk : Nat → Nat → Nat → Nat → Nat → Nat → Nat → Bool
  | 0, _, _, _, _, _, _ => false
  | n + 1, c, wf, qf, d, wg, qg => (d == 1) || (d == 0 && (c - 1) * (c - 1) + (qf + 23 * wf) + 360 * (c - 1) + 8 < 2400) || (2 ≤ d && qg + 23 * wg < 2400 && qf + (c - d) * (qg + 1) + 23 * (wf + (c - d) * (wg - (d - 1))) < 2400 && (List.range d).all fun e => chk n d wg qg e (wf + (c + 1 - d) * (wg - (d - 1))) (qf + (c + 1 - d) * (qg + 1)))
theorem wt_ou : ∀ (n : Nat) (f g : Nat → Int) (c d wf qf wg qg : Nat), c ≤ wf + 1 → d ≤ wg + 1 → d < c → wt f c wf qf → wt g d wg qg → chk n c wf qf d wg qg = true →
    ouOK n f c g d ∧ (ouR n f c g d).2.2 ≤ 1 ∧ (ouR n f c g d).1.2 ≤ c ∧ 1 ≤ (ouR n f c g d).1.2 ∧ ((ouR n f c g d).2.2 = 0 → ∃ w q, wt (ouR n f c g d).1.1 (ouR n f c g d).1.2 w q ∧ ((ouR n f c g d).1.2 - 1) * ((ouR n f c g d).1.2 - 1) + (q + 23 * w) + 360 * ((ouR n f c g d).1.2 - 1) + 8 < 2400)
  | 0, _, _, _, _, _, _, _, _, _, _, _, _, _, hk => absurd hk (by simp [chk])
  | n + 1, f, g, c, d, wf, qf, wg, qg, h1, h2, h3, hf, hg, hk => by
    rw [ouOK, ouR]
    rw [chk] at hk
    simp only [Bool.or_eq_true, Bool.and_eq_true, decide_eq_true_eq, List.all_eq_true, List.mem_range, beq_iff_eq] at hk
    by_cases hd : d ≤ 1
    · rw [if_pos hd]
      refine ⟨Or.inl hd, hd, Nat.le_refl _, by show 1 ≤ c; omega, fun h0 => ?_⟩
      have h0 : d = 0 := h0
      rcases hk with (hk | hk) | hk
      · omega
      · exact ⟨wf, qf, hf, hk.2⟩
      · omega
    · rw [if_neg hd]
      obtain ⟨⟨⟨_, k1⟩, k2⟩, k3⟩ := hk.resolve_left (by omega)
      obtain ⟨r1, r2⟩ := wt_in (show 1 ≤ d by omega) h2 hg (c + 1) f c wf qf (by omega) h1 hf k2
      have hlt := inR_lt (g := g) (show 1 ≤ d by omega) (c + 1) f c (by omega)
      obtain ⟨a1, a2, a3, a4, a5⟩ := wt_ou n g _ d _ wg qg _ _ h2 (by omega) hlt hg r2 (k3 _ hlt)
      exact ⟨Or.inr ⟨fun k hk => sm_of (n := qg + 23 * (wg - k)) (by omega) (hg k hk), r1, a1⟩, a2, by omega, a4, a5⟩
theorem chk_ok : ∀ n, n < 7 → 1 ≤ n → chk 7 (n + 1) n 6 n (n - 1) 9 = true := by decide +kernel
theorem prs_all {p : Nat → Int} {n : Nat} (h1 : 1 ≤ n) (h6 : n ≤ 6) (hp : wt p (n + 1) n 6) : prsOK p n ∧ (prs p n).2.2 ≤ 1 ∧ (prs p n).1.2 ≤ n + 1 ∧ 1 ≤ (prs p n).1.2 ∧ ((prs p n).2.2 = 0 → ∃ w q, wt (prs p n).1.1 (prs p n).1.2 w q ∧ ((prs p n).1.2 - 1) * ((prs p n).1.2 - 1) + (q + 23 * w) + 360 * ((prs p n).1.2 - 1) + 8 < 2400) := by
  refine wt_ou 7 _ _ (n + 1) n n 6 (n - 1) 9 (by omega) (by omega) (by omega) hp ?_ (chk_ok n (by omega) h1)
  intro k hk
  have hq : (0 : Int) < 2 ^ (9 + 23 * (n - 1 - k)) := Int.pow_pos (by decide)
  refine bd_div ?_ (Int.le_of_lt hq)
  have h3 : bd (2 ^ 3) ((k : Int) + 1) := ⟨by omega, by omega⟩
  have h4 := bd_mul h3 (hp (k + 1) (by omega))
  rw [← Int.pow_add] at h4
  exact bd_up (by omega) h4
theorem chF_wt {A : Nat → Nat → Int} {k : Nat} (hA : ∀ i j, i < 6 → j < 6 → bd 1000000 (A i j)) (hk : k ≤ 6) : ∀ (st : Nat), st ≤ 2 ^ k → ∀ e, bd ((st : Int) * 2 ^ (23 * (k - e))) (chF A k st e)
  | 0, _, e => by rw [chF]; exact ⟨by simp, by simp⟩
  | st + 1, h, e => by
    have hm := mnF_bd (set := st) hA (pcn st 6) st
    rw [p8] at hm
    obtain ⟨h1, h2⟩ := mb_sz k hk st (by omega)
    have ih := chF_wt hA hk st (by omega)
    have hpos : (0 : Int) < 2 ^ (23 * (k - e)) := Int.pow_pos (by decide)
    have es : (((st + 1 : Nat) : Int)) * 2 ^ (23 * (k - e)) = (st : Int) * 2 ^ (23 * (k - e)) + 2 ^ (23 * (k - e)) := by
      rw [Int.natCast_add, Int.add_mul, Int.natCast_one, Int.one_mul]
    rw [chF]
    by_cases he : e = k - pcn st 6
    · rw [he, va_up_self]
      rw [he, show k - (k - pcn st 6) = pcn st 6 by omega] at es
      have i2 := ih (k - pcn st 6)
      rw [show k - (k - pcn st 6) = pcn st 6 by omega] at i2 ⊢
      rw [es]
      split
      · exact bd_sub i2 hm
      · exact bd_add i2 hm
    · rw [va_up_ne _ _ he, es]
      exact bd_le (by omega) (ih e)
theorem chF_wt6 {A : Nat → Nat → Int} {n : Nat} (hA : ∀ i j, i < 6 → j < 6 → bd 1000000 (A i j)) (h6 : n ≤ 6) : wt (chF A n (2 ^ n)) (n + 1) n 6 := fun k hk => by
  have h := chF_wt hA h6 (2 ^ n) (Nat.le_refl _) k
  have h2 : 2 ^ n ≤ 2 ^ 6 := Nat.pow_le_pow_right (by decide) h6
  refine bd_le ?_ h
  rw [Int.pow_add]
  exact Int.mul_le_mul_of_nonneg_right (by omega) (Int.le_of_lt (Int.pow_pos (by decide)))
theorem chF_ok {A : Nat → Nat → Int} {n : Nat} (hA : ∀ i j, i < 6 → j < 6 → bd 1000000 (A i j)) (h1 : 1 ≤ n) (h6 : n ≤ 6) : prsOK (chF A n (2 ^ n)) n := (prs_all h1 h6 (chF_wt6 hA h6)).1
theorem wH_of2 {t b : Int} {d u : Nat} {p : Nat → Int} (hd : d ≤ 6) (hu : d * d + u + 360 * d + 8 < 2400) (ht : bd (2 ^ 360) t) (hb : bd (2 ^ 360) b) (hp : ∀ k, k ≤ d → bd (2 ^ u) (p k)) : wH t b d p := by
  have hv : ∀ n : Nat, ((2 : Int) ^ 360) ^ n = 2 ^ (360 * n) := fun n => (Int.pow_mul ..).symm
  refine ⟨sm_of (by decide) ht, sm_of (by decide) hb, fun k j hk hj => ?_, fun a j k ha hj hk => ?_⟩
  · simp only [mA]
    split
    · next h =>
      have h1 := bd_mul (hp j hj) (bd_pow hb (k - j))
      rw [hv, ← Int.pow_add] at h1
      exact sm_of (n := u + 360 * (k - j)) (by omega) h1
    · exact sm_of (by omega) (hp j hj)
  · have h1 : ∀ k, k ≤ d → bd (2 ^ u * (2 ^ 360) ^ (d - k)) (mulp b d p d k) := fun k hk => by
      simp only [mulp]
      split
      · exact bd_mul (hp k hk) (bd_pow hb _)
      · refine bd_le ?_ (hp k hk)
        rw [hv, ← Int.pow_add]
        exact p2_le (by omega)
    have h2 := low_bd ht h1 a ha
    have h3 := swp_bd (u := 2 ^ (d * a) * 2 ^ u) ht h2 j hj k hk
    rw [hv, ← Int.pow_add, ← Int.pow_add, ← Int.pow_add] at h3
    have hda : d * a ≤ d * d := Nat.mul_le_mul_left _ ha
    exact sm_of (n := j + (d * a + u) + 360 * (d - k)) (by omega) h3
theorem bd_neg {u x : Int} (h : bd u x) : bd u (-x) := ⟨by have := h.2; omega, by have := h.1; omega⟩
theorem cm_wH {p : Nat → Int} {n : Nat} (h1 : 1 ≤ n) (h6 : n ≤ 6) (hp : wt p (n + 1) n 6) {t b : Int} (ht : bd (2 ^ 360) t) (hb : bd (2 ^ 360) b) : wH t b (cmC p n - 1) (cmF p n) := by
  obtain ⟨_, a2, a3, a4, a5⟩ := prs_all h1 h6 hp
  by_cases hd : (prs p n).2.2 = 1
  · have e1 : cmC p n = 1 := by rw [cmC, if_pos hd]
    have e2 : cm0 p n = fun _ => 1 := by rw [cm0, if_pos hd]
    have e3 : cmF p n = fun _ => 1 := by rw [cmF, e2, if_neg (show ¬ (1 : Int) < 0 by decide)]
    rw [e1, e3]
    exact wH_of2 (u := 0) (by decide) (by decide) ht hb (fun k _ => ⟨by decide, by decide⟩)
  · have e1 : cmC p n = (prs p n).1.2 := by rw [cmC, if_neg hd]
    have e2 : cm0 p n = (prs p n).1.1 := by rw [cm0, if_neg hd]
    obtain ⟨w, q, b1, b2⟩ := a5 (by omega)
    rw [e1]
    refine wH_of2 (u := q + 23 * w) (by omega) b2 ht hb (fun k hk => ?_)
    have b3 : bd (2 ^ (q + 23 * w)) ((prs p n).1.1 k) := bd_up (by omega) (b1 k (by omega))
    rw [cmF, e2]
    split
    · exact bd_neg b3
    · exact b3
theorem cmC_1 {p : Nat → Int} {n : Nat} (h1 : 1 ≤ n) (h6 : n ≤ 6) (hp : wt p (n + 1) n 6) : 1 ≤ cmC p n ∧ cmC p n ≤ 7 := by
  obtain ⟨_, a2, a3, a4, a5⟩ := prs_all h1 h6 hp
  rw [cmC]
  split
  · exact ⟨Nat.le_refl _, by decide⟩
  · exact ⟨a4, by omega⟩
