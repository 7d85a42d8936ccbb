/-! what was left -/
theorem math4 : MATH4 := fun n A A9 h1 h6 hs hb hA9 hm => by
  obtain ⟨K, cr, le, lt, lo, io, od, hinv, hsup⟩ := rl_exists
  have hA : ∀ i j, i < n → j < n → A i j = A j i := fun i j hi hj => (hA9 i j hi hj).2
  obtain ⟨l, s, V, hl, hps, hV, c2, c3, c4, c5, c6, c7⟩ := gd_b (K := K) hinv hsup h1 h6 hs hA
  have hB0 : (0 : Int) ≤ (bdF A n n : Int) := by omega
  have hB6 : (bdF A n n : Int) ≤ 6000000 := by have := bdF_le6 hs h6 n h6; omega
  obtain ⟨r, ρ, γ, N, M, hg, hr1, eD, ceok, sz6, eC, eF, eK, hM, hp⟩ := ce_all hinv h1 h6 hB0 hB6 hl hps
  have hkin : ∀ i, i < n → kin (bdF A n n : Int) (l i) := fun i hi => ⟨(hl.2.2 i hi).2, by rw [← iz_neg]; exact (hl.2.2 i hi).1⟩
  have hγk : ∀ i, i < n - r → kin (bdF A n n : Int) (γ i) := fun i hi => by
    obtain ⟨j, hj, e⟩ := hg.2.2.2.2.2.2.2.2.2.2.2.2.2.1 i hi
    rw [e]; exact hkin j hj
  have hPe : ∀ k, k ≤ n → cF A9 n k = pB (iA A) n k := fun k hk => hm n k h1 (Nat.le_refl _) hk
  have hPk : ∀ j, j ≤ n → (iz (cF A9 n j) : K) = kP l n j := fun j hj => by rw [hPe j hj]; exact hl.2.1 j hj
  obtain ⟨x1, x2, x3, x4⟩ := gcd_of hinv h1 h6 hPk hg
  obtain ⟨x5, _⟩ := cm_one hinv h1 h6 hps hPk hg
  have hP1 : ∀ k, k ≤ n - r → cmF (cF A9 n) n k = ceF (pB (iA A) n) n k := fun k hk => iz_inj (K := K) (by rw [x4 k hk, x5, eK k hk, iz_1]; grind)
  have sep72 : ∀ a j, a < r → j < n - r → γ j = ρ a → ∀ c, c < r → c ≠ a → 1 ≤ iz (2 ^ 72) * (ρ c - ρ a) ∨ 1 ≤ iz (2 ^ 72) * (ρ a - ρ c) := fun a j ha hj e => sep_rep h1 h6 hB0 hB6 hkin hps hg hp hM eK ha hj e
  have sep332 : ∀ a c, a < r → c < r → c ≠ a → 1 ≤ iz (2 ^ 332) * (ρ c - ρ a) ∨ 1 ≤ iz (2 ^ 332) * (ρ a - ρ c) := fun a c ha hc hca => sep_of (sep_D h1 h6 hB0 hkin hps hg hp ha hc (fun q => hca q.symm)) (Int.le_trans (num_c hB0 hB6 r) (num_a r (by have := hg.1; omega)))
  have e30 : (2 : Int) ^ 30 = 1073741824 := by decide
  have h30 : (0 : Int) < 1073741824 := by decide
  have st1 : ∀ x : Int, ∀ j, j ≤ n → iz (low x n (mulp 1073741824 n (pB (iA A) n) n) n j) = kP (fun i => iz (2 ^ 30) * l i - iz x) n j := fun x j hj => by rw [e30]; exact kP_mlow hl.2.1 x 1073741824 j hj
  have st2 : ∀ x : Int, ∀ j, j ≤ n - r → iz (low x (n - r) (mulp 1073741824 (n - r) (ceF (pB (iA A) n) n) (n - r)) (n - r) j) = kP (fun i => iz (2 ^ 30) * γ i - iz x) (n - r) j := fun x j hj => by rw [e30]; exact kP_mlow eK x 1073741824 j hj
  refine ⟨⟨V, sz_1 h6 hb hm, c2, c3, c4, c5, c6, c7, fun b hb2 _ => ceok b ?_, by rw [eD]; exact sz6, fun i hi h0 => ?_⟩, ?_, 332, Nat.le_refl _, fun V' hV' => ?_⟩
  · have e : ((2 ^ b : Nat) : Int) = (2 : Int) ^ b := by rw [Int.natCast_pow]; rfl
    rw [← e]; omega
  · rw [eD]
    exact k_hmZ h6 (by omega) hB0 hB6 hkin hγk hl.1 hi 43 30 (V i) _ _ (by omega) (by rw [e30]; exact hV i hi) (st1 (V i)) (st2 (V i))
  · rw [eD, show cmC (cF A9 n) n = n - r + 1 by omega, nP, nI_sb (by omega), Nat.add_sub_cancel]
  · have eV := fcH_one (by omega) hV'.2.2.1 c3
    have fV : flo n l V' := fun i hi => by rw [eV i hi]; exact hV i hi
    have hwL : ∀ (b : Int), 0 < b → ∀ x, wL x b n (cF A9 n) = nI (kL (fun i => iz b * l i) (iz x) n) := fun b hb9 x => wL_any hl.1 hl.2.1 hPe hb9 x
    have hcel : ∀ (i w9 : Nat) (x : Int64), i < n → cellP (cF A9 n) n w9 (nI i) x → cel (2 ^ w9) x.toInt (l i) := fun i w9 x hi hc => by
      obtain ⟨_, _, b3, b4⟩ := hc
      exact k_cell h6 hl hB6 (Int.pow_pos (by decide)) rfl (hwL (2 ^ w9) (Int.pow_pos (by decide))) hi b3 b4
    have one : (fun i => iz 1 * l i) = l := funext fun i => by rw [iz_1]; grind
    have ed1 : cmC (cF A9 n) n - 1 = n - r := x1
    refine ⟨fun i w9 x hi hw hc => ?_, fun i x hi hc => ?_, fun i x hi hc => ?_, fun r1 r2 a1 a2 => ?_⟩
    · obtain ⟨y1, y2⟩ := hcel i w9 x hi hc
      exact k_div hw (fV i hi).1 (fV i hi).2 y1 y2
    · have y := hcel i 0 x hi hc
      obtain ⟨z1, z2⟩ := k_mlt hinv h6 hg hl.1 hl.2.1 hPe eK hP1 sep332 hi 332 0 x.toInt (by omega) y
      rw [Int.pow_zero] at z1 z2
      rw [ed1]
      refine ⟨z1, z2.trans ?_⟩
      rw [mlC, eD]
      by_cases d0 : n - r = 0
      · rw [if_pos d0]
        have hne : ∀ s c, s < r → c < r → s ≠ c → ρ s ≠ ρ c := fun s c hs hc hsc => by
          have g2 := hg.2.1
          rcases Nat.lt_or_gt_of_ne hsc with w | w
          · have := k_str g2 s (c - s - 1) (by omega)
            rw [show s + (c - s - 1 + 1) = c by omega] at this
            grind
          · have := k_str g2 c (s - c - 1) (by omega)
            rw [show c + (s - c - 1 + 1) = s by omega] at this
            grind
        obtain ⟨a, ha, ea⟩ := hg.2.2.2.2.2.2.2.2.2.2.2.1 i hi
        have g9 := hg.2.2.2.2.2.2.2.2.1 (l i)
        rw [d0, ea, kQ_one hne ha] at g9
        rw [ea, g9]; rfl
      · rw [if_neg d0]
        exact (k_hm hinv h6 hg hl.1 sep72 hi 42 30 (V' i) _ _ (by omega) (by rw [e30]; exact fV i hi) (st1 (V' i)) (st2 (V' i))).symm
    · have y := hcel i 0 x hi hc
      rw [Int.pow_zero] at y
      obtain ⟨y1, y2⟩ := y
      rw [iz_1, show (1 : K) * l i = l i by grind] at y1 y2
      have w1 := hwL 1 (by decide) x.toInt
      have w2 : wE x.toInt 1 n (cF A9 n) = kQ (fun i => iz 1 * l i) (iz x.toInt) n := by
        rw [(count_eq h1 hPe (pB_top _ _)).2]
        exact (rts_cnt hl (by decide) x.toInt).2
      obtain ⟨v1, v2⟩ := rts_cnt hl h30 (V' i)
      rw [one] at w1 w2
      rw [w1, w2, v1, v2]
      exact k_wh h6 hl fV hi y1 y2
    · rw [ed1] at a2
      have eq : ∀ v, v ≤ 30 → (nI (ctF V' v (n - 1)) = nI n - nI (ceD (pB (iA A) n) n) ↔ ∀ i, i < n → win1 (V' i / 2 ^ (30 - v)) (2 ^ v) n (n - r) (cF A9 n) (cmF (cF A9 n) n) = nI 1) := fun v hv => by
        rw [eD]; exact k_ap hinv h1 h6 hg hl.1 hl.2.1 hPe eK hP1 fV hv
      rcases a1 with ⟨v, v1, v2, v3, v4⟩ | ⟨v1, v2⟩
      · rcases a2 with ⟨w, w1, w2, w3, w4⟩ | ⟨w1, w2⟩
        · rw [v2, w2]
          rcases Nat.lt_trichotomy v w with q | q | q
          · obtain ⟨i, hi, hno⟩ := w4 v q
            exact absurd ((eq v v1).mp v3 i hi) hno
          · rw [q]
          · exact absurd ((eq w w1).mpr w3) (v4 w q)
        · obtain ⟨i, hi, hno⟩ := w2 v v1
          exact absurd ((eq v v1).mp v3 i hi) hno
      · rcases a2 with ⟨w, w1, w2, w3, w4⟩ | ⟨w1, w2⟩
        · exact absurd ((eq w w1).mpr w3) (v2 w w1)
        · rw [v1, w1]
