/-! what is asked of THE BOOK -/
theorem ofNat_nI (k : Nat) : Int32.ofNat k = nI k := rfl
theorem nI_num (k : Nat) : nI (@OfNat.ofNat Nat k (instOfNatNat k)) = (@OfNat.ofNat Int32 k Int32.instOfNat) := Int32.toBitVec_inj.mp rfl
theorem c_tellOf {M : Mem} {a T N k : Nat} (hN : GS.2.1 a = N) (hT : T ≤ N) (hN2 : N < 2 ^ 31) (hk : k < 2 ^ 31) : mX10_tellOf a (nI T) (nI k) M = some (if k < T then M a k else -2) := by
  unfold mX10_tellOf
  rw [hN]
  have t0 := nI_t0 hk
  rw [if_neg (by rw [t0]; exact id)]
  by_cases h : k < T
  · rw [if_neg (by rw [nI_leI (by omega) hk]; omega), ofNat_nI, if_neg (by rw [nI_leI (by omega) hk]; omega), chk_n (by omega) (by omega), nI_clamp hk, if_pos h]
  · rw [if_pos (by rw [nI_leI (by omega) hk]; omega), if_neg h]
theorem GS_pl : ∀ p, p < 6 → (GS.2.1 (9 + 5 * p + 1) = 4 ∧ GS.2.1 (9 + 5 * p + 2) = 4 ∧ GS.2.1 (9 + 5 * p + 3) = 3 ∧ GS.2.1 (9 + 5 * p + 4) = 3) := by decide +kernel
theorem q_usage {M N : Mem} {f : Nat → Int32} (hRT : RT 5 M f) (hf : N 209 = f) (hIT : IT f) {n : Nat} (hn : 200 ≤ n) (a b : Int32) : ∃ r, mX10_usage n a b M = some r ∧ mX11_usage n a b N = some r := by
  unfold mX10_usage mX11_usage
  rcases isPlan_c a with ⟨p, -, hp, rfl, e1, e2⟩ | ⟨e1, e2⟩
  · have hp6 : p < 6 := by omega
    rcases areUnits_c b with ⟨u, -, hu, rfl, g1, g2⟩ | ⟨g1, g2⟩
    · refine ⟨nI (US f p u), ?_, ?_⟩
      · simp only [e1, g1, bnp_some]
        rw [if_neg (by decide), if_neg (by decide), c_termsOf hp6]
        simp only [bnp_some]
        rw [c_usage (hRT.2.2.2.2.2 p hp6) (hIT.2.2.2.2.2 p hp6) hu hn]; rfl
      · simp only [e2, g2, bnp_some]
        rw [if_neg (by decide), if_neg (by decide), m_usage hf hp6 (hIT.2.2.2.2.2 p hp6) hu hn]; rfl
    · simp [e1, e2, g1, g2, bnp_some]
  · simp [e1, e2, bnp_some]
theorem cheapest_go {M N : Mem} {f : Nat → Int32} (hRT : RT 5 M f) (hf : N 209 = f) (hIT : IT f) {n u : Nat} (hn : 200 ≤ n) (hu : u ≤ 9999) : ∀ (d k i best : Nat), i + d = 6 → d < k → best < 6 → 0 < i → ∃ r, mX9_cheapestPlan_c7 n k 5 (nI u) (nI best) (nI (US f best u) + fP f best 0) (nI i) M = some r ∧ mX11_cheapest_c17 n k (nI u) (nI best) (nI i) N = some r
  | d, 0, _, _, _, h, _, _ => absurd h (Nat.not_lt_zero _)
  | 0, k + 1, i, best, e, h, hb, hi => by
    have e : i = 6 := e
    subst e
    exact ⟨nI best, rfl, rfl⟩
  | d + 1, k + 1, i, best, e, h, hb, hi => by
    have ih1 := cheapest_go hRT hf hIT hn hu d k (i + 1) best (by omega) (by omega) hb (by omega)
    have ih2 := cheapest_go hRT hf hIT hn hu d k (i + 1) i (by omega) (by omega) (by omega) (by omega)
    have hR := hRT.2.2.2.2.2 i (by omega)
    have hu1 := c_usage hR (hIT.2.2.2.2.2 i (by omega)) hu hn
    have hu2 := m_usage hf (n := n) (p := i) (by omega) (hIT.2.2.2.2.2 i (by omega)) hu hn
    have hu3 := m_usage hf (n := n) hb (hIT.2.2.2.2.2 best hb) hu hn
    unfold mX9_cheapestPlan_c7 mX11_cheapest_c17
    simp (disch := omega) only [nI_lit, nI_add, pk_mul, nI_clamp, nI_leI, nI_ltI, nI_eq, nI_t0, nI_le0, nI_e0, nI_0le, nI_lt0, chk_n, m_planOf, hf, hu2, hu3, bnp_some]
    rw [show 5 + 1 + 3 + 5 * i = 5 + 4 + 5 * i by omega, hu1, hR.1, if_neg (by omega), if_neg (by omega)]
    simp only [bnp_some]
    rw [if_neg (by omega), Int32.add_comm (fP f i 0)]
    by_cases q : nI (US f best u) + fP f best 0 ≤ nI (US f i u) + fP f i 0
    · rw [if_pos q, if_pos q]; exact ih1
    · rw [if_neg q, if_neg q]; exact ih2
theorem q_cheapest {M N : Mem} {f : Nat → Int32} (hRT : RT 5 M f) (hf : N 209 = f) (hIT : IT f) {n : Nat} (hn : 200 ≤ n) (a : Int32) : ∃ r, mX10_cheapest n a M = some r ∧ mX11_cheapest n a N = some r := by
  unfold mX10_cheapest mX11_cheapest mX9_cheapestPlan
  rcases areUnits_c a with ⟨u, -, hu, rfl, g1, g2⟩ | ⟨g1, g2⟩
  · simp only [g1, g2, bnp_some]
    rw [if_neg (by decide), if_neg (by decide)]
    obtain ⟨k, rfl⟩ : ∃ k, n = k + 1 := ⟨n - 1, by omega⟩
    obtain ⟨r, h1, h2⟩ := cheapest_go hRT hf hIT (n := k + 1) (by omega) hu 5 k 1 0 (by omega) (by omega) (by omega) (by omega)
    have hR := hRT.2.2.2.2.2 0 (by omega)
    have hu1 := c_usage (n := k + 1) hR (hIT.2.2.2.2.2 0 (by omega)) hu (by omega)
    refine ⟨r, ?_, ?_⟩
    · unfold mX9_cheapestPlan_c7
      have h3 : mX7_usageOf (k + 1) (5 + 1 + 3 + 5 * 0) (nI u) M = some (nI (US f 0 u)) := hu1
      have h4 : M (5 + 1 + 3 + 5 * 0) 0 = fP f 0 0 := hR.1
      simp (disch := omega) only [nI_lit, nI_add, pk_mul, nI_clamp, nI_leI, nI_ltI, nI_eq, nI_t0, nI_le0, nI_e0, nI_0le, nI_lt0, chk_n, if_true]
      rw [h3, h4]
      rw [if_neg (by omega)]
      simp only [bnp_some]
      rw [Int32.add_comm (fP f 0 0), h1]; rfl
    · have := cheapest_go hRT hf hIT (n := k + 1) (by omega) hu 5 (k + 1) 1 0 (by omega) (by omega) (by omega) (by omega)
      obtain ⟨r2, g3, g4⟩ := this
      have e0 : ∀ (d k1 k2 i best : Nat), i + d = 6 → d < k1 → d < k2 → best < 6 → 0 < i → mX11_cheapest_c17 (k + 1) k1 (nI u) (nI best) (nI i) N = mX11_cheapest_c17 (k + 1) k2 (nI u) (nI best) (nI i) N := by
        intro d
        induction d with
        | zero =>
          intro k1 k2 i best e h1 h2 hb hi
          obtain ⟨k1, rfl⟩ : ∃ j, k1 = j + 1 := ⟨k1 - 1, by omega⟩
          obtain ⟨k2, rfl⟩ : ∃ j, k2 = j + 1 := ⟨k2 - 1, by omega⟩
          have e : i = 6 := e
          subst e
          rfl
        | succ d ih =>
          intro k1 k2 i best e h1 h2 hb hi
          obtain ⟨k1, rfl⟩ : ∃ j, k1 = j + 1 := ⟨k1 - 1, by omega⟩
          obtain ⟨k2, rfl⟩ : ∃ j, k2 = j + 1 := ⟨k2 - 1, by omega⟩
          unfold mX11_cheapest_c17
          rw [show nI i + 1 = nI (i + 1) from nI_1 i, ih k1 k2 (i + 1) best (by omega) (by omega) (by omega) hb (by omega), ih k1 k2 (i + 1) i (by omega) (by omega) (by omega) (by omega) (by omega)]
      rw [← h2]
      exact e0 5 (k + 1) k 1 0 (by omega) (by omega) (by omega) (by omega) (by omega)
  · simp [g1, g2, bnp_some]
theorem plan_out {M N : Mem} {q : Nat} {a b : Int32} (hne : ∀ j, j ≤ 42 → ¬ b = nI j) : ∃ r, (bnp (mX7_tell q b M) fun r5 => some r5) = some r ∧ (bnp (mX11_in b (0 : Int32) (5 : Int32)) fun r8 => (if r8 = 0 then (bnp (mX11_in b (10 : Int32) (13 : Int32)) fun r10 => (if r10 = 0 then (bnp (mX11_in b (20 : Int32) (23 : Int32)) fun r12 => (if r12 = 0 then (bnp (mX11_in b (30 : Int32) (32 : Int32)) fun r14 => (if r14 = 0 then (bnp (mX11_in b (40 : Int32) (42 : Int32)) fun r16 => (if r16 = 0 then (some (-1 : Int32)) else (if (30 : Int32) ≤ b then (mX11_plan_c89 a b (14 : Int32) a (b - b / (10 : Int32) * (10 : Int32)) N) else (mX11_plan_c89 a b (2 : Int32) a (b - b / (10 : Int32) * (10 : Int32)) N)))) else (if (30 : Int32) ≤ b then (mX11_plan_c89 a b (14 : Int32) a (b - b / (10 : Int32) * (10 : Int32)) N) else (mX11_plan_c89 a b (2 : Int32) a (b - b / (10 : Int32) * (10 : Int32)) N)))) else (if (30 : Int32) ≤ b then (mX11_plan_c89 a b (14 : Int32) a (b - b / (10 : Int32) * (10 : Int32)) N) else (mX11_plan_c89 a b (2 : Int32) a (b - b / (10 : Int32) * (10 : Int32)) N)))) else (if (30 : Int32) ≤ b then (mX11_plan_c89 a b (14 : Int32) a (b - b / (10 : Int32) * (10 : Int32)) N) else (mX11_plan_c89 a b (2 : Int32) a (b - b / (10 : Int32) * (10 : Int32)) N)))) else (bnp (mX11_planOf a b N) fun r18 => (some r18)))) = some r := by
  refine ⟨-1, ?_, ?_⟩
  · unfold mX7_tell
    have n0 : ¬ b = (0 : Int32) := hne 0 (by decide)
    have n1 : ¬ b = (1 : Int32) := hne 1 (by decide)
    have n2 : ¬ b = (2 : Int32) := hne 2 (by decide)
    have n3 : ¬ b = (3 : Int32) := hne 3 (by decide)
    have n4 : ¬ b = (4 : Int32) := hne 4 (by decide)
    have n5 : ¬ b = (5 : Int32) := hne 5 (by decide)
    have n6 : ¬ b = (6 : Int32) := hne 6 (by decide)
    have n7 : ¬ b = (7 : Int32) := hne 7 (by decide)
    have n8 : ¬ b = (8 : Int32) := hne 8 (by decide)
    have n9 : ¬ b = (9 : Int32) := hne 9 (by decide)
    have n10 : ¬ b = (10 : Int32) := hne 10 (by decide)
    have n11 : ¬ b = (11 : Int32) := hne 11 (by decide)
    have n12 : ¬ b = (12 : Int32) := hne 12 (by decide)
    have n13 : ¬ b = (13 : Int32) := hne 13 (by decide)
    have n14 : ¬ b = (14 : Int32) := hne 14 (by decide)
    have n15 : ¬ b = (15 : Int32) := hne 15 (by decide)
    have n16 : ¬ b = (16 : Int32) := hne 16 (by decide)
    have n17 : ¬ b = (17 : Int32) := hne 17 (by decide)
    have n18 : ¬ b = (18 : Int32) := hne 18 (by decide)
    have n19 : ¬ b = (19 : Int32) := hne 19 (by decide)
    have n20 : ¬ b = (20 : Int32) := hne 20 (by decide)
    have n21 : ¬ b = (21 : Int32) := hne 21 (by decide)
    have n22 : ¬ b = (22 : Int32) := hne 22 (by decide)
    have n23 : ¬ b = (23 : Int32) := hne 23 (by decide)
    have n24 : ¬ b = (24 : Int32) := hne 24 (by decide)
    have n25 : ¬ b = (25 : Int32) := hne 25 (by decide)
    have n26 : ¬ b = (26 : Int32) := hne 26 (by decide)
    have n27 : ¬ b = (27 : Int32) := hne 27 (by decide)
    have n28 : ¬ b = (28 : Int32) := hne 28 (by decide)
    have n29 : ¬ b = (29 : Int32) := hne 29 (by decide)
    have n30 : ¬ b = (30 : Int32) := hne 30 (by decide)
    have n31 : ¬ b = (31 : Int32) := hne 31 (by decide)
    have n32 : ¬ b = (32 : Int32) := hne 32 (by decide)
    have n33 : ¬ b = (33 : Int32) := hne 33 (by decide)
    have n34 : ¬ b = (34 : Int32) := hne 34 (by decide)
    have n35 : ¬ b = (35 : Int32) := hne 35 (by decide)
    have n36 : ¬ b = (36 : Int32) := hne 36 (by decide)
    have n37 : ¬ b = (37 : Int32) := hne 37 (by decide)
    have n38 : ¬ b = (38 : Int32) := hne 38 (by decide)
    have n39 : ¬ b = (39 : Int32) := hne 39 (by decide)
    have n40 : ¬ b = (40 : Int32) := hne 40 (by decide)
    have n41 : ¬ b = (41 : Int32) := hne 41 (by decide)
    have n42 : ¬ b = (42 : Int32) := hne 42 (by decide)
    rw [if_neg n0, if_neg n1, if_neg n2, if_neg n3, if_neg n4, if_neg n5, if_neg n6, if_neg n7, if_neg n8, if_neg n9, if_neg n10, if_neg n11, if_neg n12, if_neg n13, if_neg n14, if_neg n15, if_neg n16, if_neg n17, if_neg n18, if_neg n19, if_neg n20, if_neg n21, if_neg n22, if_neg n23, if_neg n24, if_neg n25, if_neg n26, if_neg n27, if_neg n28, if_neg n29, if_neg n30, if_neg n31, if_neg n32, if_neg n33, if_neg n34, if_neg n35, if_neg n36, if_neg n37, if_neg n38, if_neg n39, if_neg n40, if_neg n41, if_neg n42]
    rfl
  · rcases in_c b 0 5 6 0 5 rfl rfl rfl (by decide) (by decide) with ⟨k, -, hk, e, -⟩ | ⟨z0, -⟩
    · exact absurd e (hne k (by omega))
    rcases in_c b 10 13 14 10 13 rfl rfl rfl (by decide) (by decide) with ⟨k, -, hk, e, -⟩ | ⟨z1, -⟩
    · exact absurd e (hne k (by omega))
    rcases in_c b 20 23 24 20 23 rfl rfl rfl (by decide) (by decide) with ⟨k, -, hk, e, -⟩ | ⟨z2, -⟩
    · exact absurd e (hne k (by omega))
    rcases in_c b 30 32 33 30 32 rfl rfl rfl (by decide) (by decide) with ⟨k, -, hk, e, -⟩ | ⟨z3, -⟩
    · exact absurd e (hne k (by omega))
    rcases in_c b 40 42 43 40 42 rfl rfl rfl (by decide) (by decide) with ⟨k, -, hk, e, -⟩ | ⟨z4, -⟩
    · exact absurd e (hne k (by omega))
    rw [z0, z1, z2, z3, z4]
    rfl
set_option maxHeartbeats 4000000 in
theorem q_plan {M N : Mem} {f : Nat → Int32} (hRT : RT 5 M f) (hf : N 209 = f) (hIT : IT f) (a b : Int32) : ∃ r, mX10_plan a b M = some r ∧ mX11_plan a b N = some r := by
  unfold mX10_plan mX11_plan
  rcases isPlan_c a with ⟨p, -, hp, rfl, e1, e2⟩ | ⟨e1, e2⟩
  · have hp6 : p < 6 := by omega
    obtain ⟨r0, r1, r2, r3, r4, r5, r6, r7, r8⟩ := hRT.2.2.2.2.2 p hp6
    obtain ⟨i0, i1, i2, i3, i4, i5, i6, i7, i8, i9, i10⟩ := hIT.2.2.2.2.2 p hp6
    obtain ⟨g1, g2, g3, g4⟩ := GS_pl p hp6
    have h2 := i2.1; have h2' := i2.2; have h6 := i6.1; have h6' := i6.2; have h4 := i4.1; have h4' := i4.2
    simp only [e1, e2, bnp_some]
    rw [if_neg (by decide), if_neg (by decide), c_termsOf hp6]
    simp only [bnp_some]
    have m2 : (-2 : Int32) = nI 0 - nI 2 := by decide
    rw [show 5 + 4 + 5 * p = 9 + 5 * p by omega] at *
    rcases rng_c b 0 42 43 0 42 rfl rfl rfl (by decide) (by decide) with ⟨k, -, hk, rfl, c3, c4, c5⟩ | h | ⟨h1, h2, h3⟩
    · have q1 : ∀ j, j < 4 → mX10_tellOf (9 + 5 * p + 1) (nI (pT f p)) (nI j) M = some (if j < pT f p then fP f p (6 + j) else -2) := by
        intro j hj
        rw [c_tellOf g1 h2' (by omega) (by omega)]
        by_cases z : j < pT f p
        · rw [if_pos z, if_pos z, (r7 j z).1]
        · rw [if_neg z, if_neg z]
      have q2 : ∀ j, j < 4 → mX10_tellOf (9 + 5 * p + 2) (nI (pT f p)) (nI j) M = some (if j < pT f p then fP f p (10 + j) else -2) := by
        intro j hj
        rw [c_tellOf g2 h2' (by omega) (by omega)]
        by_cases z : j < pT f p
        · rw [if_pos z, if_pos z, (r7 j z).2]
        · rw [if_neg z, if_neg z]
      have q3 : ∀ j, j < 3 → mX10_tellOf (9 + 5 * p + 3) (nI (pK f p)) (nI j) M = some (if j < pK f p then fP f p (15 + j) else -2) := by
        intro j hj
        rw [c_tellOf g3 h6' (by omega) (by omega)]
        by_cases z : j < pK f p
        · rw [if_pos z, if_pos z, (r8 j z).1]
        · rw [if_neg z, if_neg z]
      have q4 : ∀ j, j < 3 → mX10_tellOf (9 + 5 * p + 4) (nI (pK f p)) (nI j) M = some (if j < pK f p then fP f p (18 + j) else -2) := by
        intro j hj
        rw [c_tellOf g4 h6' (by omega) (by omega)]
        by_cases z : j < pK f p
        · rw [if_pos z, if_pos z, (r8 j z).2]
        · rw [if_neg z, if_neg z]
      have pl : ∀ w, w < 24 → mX11_planOf (nI p) (nI w) N = some (fP f p w) := fun w hw => by rw [m_planOf hp6 hw, hf]
      have hk2 : k = 0 ∨ k = 1 ∨ k = 2 ∨ k = 3 ∨ k = 4 ∨ k = 5 ∨ k = 6 ∨ k = 7 ∨ k = 8 ∨ k = 9 ∨ k = 10 ∨ k = 11 ∨ k = 12 ∨ k = 13 ∨ k = 14 ∨ k = 15 ∨ k = 16 ∨ k = 17 ∨ k = 18 ∨ k = 19 ∨ k = 20 ∨ k = 21 ∨ k = 22 ∨ k = 23 ∨ k = 24 ∨ k = 25 ∨ k = 26 ∨ k = 27 ∨ k = 28 ∨ k = 29 ∨ k = 30 ∨ k = 31 ∨ k = 32 ∨ k = 33 ∨ k = 34 ∨ k = 35 ∨ k = 36 ∨ k = 37 ∨ k = 38 ∨ k = 39 ∨ k = 40 ∨ k = 41 ∨ k = 42 := by omega
      rcases hk2 with rfl | rfl | rfl | rfl | rfl | rfl | rfl | rfl | rfl | rfl | rfl | rfl | rfl | rfl | rfl | rfl | rfl | rfl | rfl | rfl | rfl | rfl | rfl | rfl | rfl | rfl | rfl | rfl | rfl | rfl | rfl | rfl | rfl | rfl | rfl | rfl | rfl | rfl | rfl | rfl | rfl | rfl | rfl
      · refine ⟨fP f p 0, ?_, ?_⟩
        · show some (M (9 + 5 * p) 0) = _
          rw [r0]
        · show (bnp (mX11_planOf (nI p) (nI 0) N) fun r18 => some r18) = _
          rw [pl 0 (by decide)]; rfl
      · refine ⟨fP f p 1, ?_, ?_⟩
        · show some (M (9 + 5 * p) 1) = _
          rw [r1]
        · show (bnp (mX11_planOf (nI p) (nI 1) N) fun r18 => some r18) = _
          rw [pl 1 (by decide)]; rfl
      · refine ⟨fP f p 2, ?_, ?_⟩
        · show some (M (9 + 5 * p) 2) = _
          rw [r2]
        · show (bnp (mX11_planOf (nI p) (nI 2) N) fun r18 => some r18) = _
          rw [pl 2 (by decide)]; rfl
      · refine ⟨fP f p 3, ?_, ?_⟩
        · show some (M (9 + 5 * p) 5) = _
          rw [r3]
        · show (bnp (mX11_planOf (nI p) (nI 3) N) fun r18 => some r18) = _
          rw [pl 3 (by decide)]; rfl
      · refine ⟨fP f p 4, ?_, ?_⟩
        · show (bnp (if M (9 + 5 * p) 6 = 0 then some 0 else some 1) fun r5 => some r5) = _
          rw [r4, h4]
          rcases (show pW f p = 0 ∨ pW f p = 1 by omega) with z | z
          · rw [z]; rfl
          · rw [z]; rfl
        · show (bnp (mX11_planOf (nI p) (nI 4) N) fun r18 => some r18) = _
          rw [pl 4 (by decide)]; rfl
      · refine ⟨fP f p 5, ?_, ?_⟩
        · show some (M (9 + 5 * p) 7) = _
          rw [r5]
        · show (bnp (mX11_planOf (nI p) (nI 5) N) fun r18 => some r18) = _
          rw [pl 5 (by decide)]; rfl
      · exact ⟨-1, rfl, rfl⟩
      · exact ⟨-1, rfl, rfl⟩
      · exact ⟨-1, rfl, rfl⟩
      · exact ⟨-1, rfl, rfl⟩
      · refine ⟨if 0 < pT f p then fP f p (6 + 0) else -2, ?_, ?_⟩
        · show (bnp (bnp (mX10_tellOf (9 + 5 * p + 1) (M (9 + 5 * p) 2) (nI 0) M) fun r11 => some r11) fun r5 => some r5) = _
          rw [r2, h2, q1 0 (by decide)]; rfl
        · show (bnp (mX11_planOf (nI p) (nI 2) N) fun r1 => if nI 0 < r1 then (bnp (mX11_planOf (nI p) (nI 6) N) fun r2 => some r2) else some (-2)) = _
          rw [pl 2 (by decide), h2, pl 6 (by decide)]
          simp only [bnp_some]
          by_cases z : 0 < pT f p
          · rw [if_pos ((nI_ltI (by omega) (by omega)).mpr z), if_pos z]
          · rw [if_neg (fun y => z ((nI_ltI (by omega) (by omega)).mp y)), if_neg z]
      · refine ⟨if 1 < pT f p then fP f p (6 + 1) else -2, ?_, ?_⟩
        · show (bnp (bnp (mX10_tellOf (9 + 5 * p + 1) (M (9 + 5 * p) 2) (nI 1) M) fun r11 => some r11) fun r5 => some r5) = _
          rw [r2, h2, q1 1 (by decide)]; rfl
        · show (bnp (mX11_planOf (nI p) (nI 2) N) fun r1 => if nI 1 < r1 then (bnp (mX11_planOf (nI p) (nI 7) N) fun r2 => some r2) else some (-2)) = _
          rw [pl 2 (by decide), h2, pl 7 (by decide)]
          simp only [bnp_some]
          by_cases z : 1 < pT f p
          · rw [if_pos ((nI_ltI (by omega) (by omega)).mpr z), if_pos z]
          · rw [if_neg (fun y => z ((nI_ltI (by omega) (by omega)).mp y)), if_neg z]
      · refine ⟨if 2 < pT f p then fP f p (6 + 2) else -2, ?_, ?_⟩
        · show (bnp (bnp (mX10_tellOf (9 + 5 * p + 1) (M (9 + 5 * p) 2) (nI 2) M) fun r11 => some r11) fun r5 => some r5) = _
          rw [r2, h2, q1 2 (by decide)]; rfl
        · show (bnp (mX11_planOf (nI p) (nI 2) N) fun r1 => if nI 2 < r1 then (bnp (mX11_planOf (nI p) (nI 8) N) fun r2 => some r2) else some (-2)) = _
          rw [pl 2 (by decide), h2, pl 8 (by decide)]
          simp only [bnp_some]
          by_cases z : 2 < pT f p
          · rw [if_pos ((nI_ltI (by omega) (by omega)).mpr z), if_pos z]
          · rw [if_neg (fun y => z ((nI_ltI (by omega) (by omega)).mp y)), if_neg z]
      · refine ⟨if 3 < pT f p then fP f p (6 + 3) else -2, ?_, ?_⟩
        · show (bnp (bnp (mX10_tellOf (9 + 5 * p + 1) (M (9 + 5 * p) 2) (nI 3) M) fun r11 => some r11) fun r5 => some r5) = _
          rw [r2, h2, q1 3 (by decide)]; rfl
        · show (bnp (mX11_planOf (nI p) (nI 2) N) fun r1 => if nI 3 < r1 then (bnp (mX11_planOf (nI p) (nI 9) N) fun r2 => some r2) else some (-2)) = _
          rw [pl 2 (by decide), h2, pl 9 (by decide)]
          simp only [bnp_some]
          by_cases z : 3 < pT f p
          · rw [if_pos ((nI_ltI (by omega) (by omega)).mpr z), if_pos z]
          · rw [if_neg (fun y => z ((nI_ltI (by omega) (by omega)).mp y)), if_neg z]
      · exact ⟨-1, rfl, rfl⟩
      · exact ⟨-1, rfl, rfl⟩
      · exact ⟨-1, rfl, rfl⟩
      · exact ⟨-1, rfl, rfl⟩
      · exact ⟨-1, rfl, rfl⟩
      · exact ⟨-1, rfl, rfl⟩
      · refine ⟨if 0 < pT f p then fP f p (10 + 0) else -2, ?_, ?_⟩
        · show (bnp (bnp (mX10_tellOf (9 + 5 * p + 2) (M (9 + 5 * p) 2) (nI 0) M) fun r11 => some r11) fun r5 => some r5) = _
          rw [r2, h2, q2 0 (by decide)]; rfl
        · show (bnp (mX11_planOf (nI p) (nI 2) N) fun r1 => if nI 0 < r1 then (bnp (mX11_planOf (nI p) (nI 10) N) fun r2 => some r2) else some (-2)) = _
          rw [pl 2 (by decide), h2, pl 10 (by decide)]
          simp only [bnp_some]
          by_cases z : 0 < pT f p
          · rw [if_pos ((nI_ltI (by omega) (by omega)).mpr z), if_pos z]
          · rw [if_neg (fun y => z ((nI_ltI (by omega) (by omega)).mp y)), if_neg z]
      · refine ⟨if 1 < pT f p then fP f p (10 + 1) else -2, ?_, ?_⟩
        · show (bnp (bnp (mX10_tellOf (9 + 5 * p + 2) (M (9 + 5 * p) 2) (nI 1) M) fun r11 => some r11) fun r5 => some r5) = _
          rw [r2, h2, q2 1 (by decide)]; rfl
        · show (bnp (mX11_planOf (nI p) (nI 2) N) fun r1 => if nI 1 < r1 then (bnp (mX11_planOf (nI p) (nI 11) N) fun r2 => some r2) else some (-2)) = _
          rw [pl 2 (by decide), h2, pl 11 (by decide)]
          simp only [bnp_some]
          by_cases z : 1 < pT f p
          · rw [if_pos ((nI_ltI (by omega) (by omega)).mpr z), if_pos z]
          · rw [if_neg (fun y => z ((nI_ltI (by omega) (by omega)).mp y)), if_neg z]
      · refine ⟨if 2 < pT f p then fP f p (10 + 2) else -2, ?_, ?_⟩
        · show (bnp (bnp (mX10_tellOf (9 + 5 * p + 2) (M (9 + 5 * p) 2) (nI 2) M) fun r11 => some r11) fun r5 => some r5) = _
          rw [r2, h2, q2 2 (by decide)]; rfl
        · show (bnp (mX11_planOf (nI p) (nI 2) N) fun r1 => if nI 2 < r1 then (bnp (mX11_planOf (nI p) (nI 12) N) fun r2 => some r2) else some (-2)) = _
          rw [pl 2 (by decide), h2, pl 12 (by decide)]
          simp only [bnp_some]
          by_cases z : 2 < pT f p
          · rw [if_pos ((nI_ltI (by omega) (by omega)).mpr z), if_pos z]
          · rw [if_neg (fun y => z ((nI_ltI (by omega) (by omega)).mp y)), if_neg z]
      · refine ⟨if 3 < pT f p then fP f p (10 + 3) else -2, ?_, ?_⟩
        · show (bnp (bnp (mX10_tellOf (9 + 5 * p + 2) (M (9 + 5 * p) 2) (nI 3) M) fun r11 => some r11) fun r5 => some r5) = _
          rw [r2, h2, q2 3 (by decide)]; rfl
        · show (bnp (mX11_planOf (nI p) (nI 2) N) fun r1 => if nI 3 < r1 then (bnp (mX11_planOf (nI p) (nI 13) N) fun r2 => some r2) else some (-2)) = _
          rw [pl 2 (by decide), h2, pl 13 (by decide)]
          simp only [bnp_some]
          by_cases z : 3 < pT f p
          · rw [if_pos ((nI_ltI (by omega) (by omega)).mpr z), if_pos z]
          · rw [if_neg (fun y => z ((nI_ltI (by omega) (by omega)).mp y)), if_neg z]
      · exact ⟨-1, rfl, rfl⟩
      · exact ⟨-1, rfl, rfl⟩
      · exact ⟨-1, rfl, rfl⟩
      · exact ⟨-1, rfl, rfl⟩
      · exact ⟨-1, rfl, rfl⟩
      · exact ⟨-1, rfl, rfl⟩
      · refine ⟨if 0 < pK f p then fP f p (15 + 0) else -2, ?_, ?_⟩
        · show (bnp (bnp (mX10_tellOf (9 + 5 * p + 3) (M (9 + 5 * p) 8) (nI 0) M) fun r11 => some r11) fun r5 => some r5) = _
          rw [r6, h6, q3 0 (by decide)]; rfl
        · show (bnp (mX11_planOf (nI p) (nI 14) N) fun r1 => if nI 0 < r1 then (bnp (mX11_planOf (nI p) (nI 15) N) fun r2 => some r2) else some (-2)) = _
          rw [pl 14 (by decide), h6, pl 15 (by decide)]
          simp only [bnp_some]
          by_cases z : 0 < pK f p
          · rw [if_pos ((nI_ltI (by omega) (by omega)).mpr z), if_pos z]
          · rw [if_neg (fun y => z ((nI_ltI (by omega) (by omega)).mp y)), if_neg z]
      · refine ⟨if 1 < pK f p then fP f p (15 + 1) else -2, ?_, ?_⟩
        · show (bnp (bnp (mX10_tellOf (9 + 5 * p + 3) (M (9 + 5 * p) 8) (nI 1) M) fun r11 => some r11) fun r5 => some r5) = _
          rw [r6, h6, q3 1 (by decide)]; rfl
        · show (bnp (mX11_planOf (nI p) (nI 14) N) fun r1 => if nI 1 < r1 then (bnp (mX11_planOf (nI p) (nI 16) N) fun r2 => some r2) else some (-2)) = _
          rw [pl 14 (by decide), h6, pl 16 (by decide)]
          simp only [bnp_some]
          by_cases z : 1 < pK f p
          · rw [if_pos ((nI_ltI (by omega) (by omega)).mpr z), if_pos z]
          · rw [if_neg (fun y => z ((nI_ltI (by omega) (by omega)).mp y)), if_neg z]
      · refine ⟨if 2 < pK f p then fP f p (15 + 2) else -2, ?_, ?_⟩
        · show (bnp (bnp (mX10_tellOf (9 + 5 * p + 3) (M (9 + 5 * p) 8) (nI 2) M) fun r11 => some r11) fun r5 => some r5) = _
          rw [r6, h6, q3 2 (by decide)]; rfl
        · show (bnp (mX11_planOf (nI p) (nI 14) N) fun r1 => if nI 2 < r1 then (bnp (mX11_planOf (nI p) (nI 17) N) fun r2 => some r2) else some (-2)) = _
          rw [pl 14 (by decide), h6, pl 17 (by decide)]
          simp only [bnp_some]
          by_cases z : 2 < pK f p
          · rw [if_pos ((nI_ltI (by omega) (by omega)).mpr z), if_pos z]
          · rw [if_neg (fun y => z ((nI_ltI (by omega) (by omega)).mp y)), if_neg z]
      · exact ⟨-1, rfl, rfl⟩
      · exact ⟨-1, rfl, rfl⟩
      · exact ⟨-1, rfl, rfl⟩
      · exact ⟨-1, rfl, rfl⟩
      · exact ⟨-1, rfl, rfl⟩
      · exact ⟨-1, rfl, rfl⟩
      · exact ⟨-1, rfl, rfl⟩
      · refine ⟨if 0 < pK f p then fP f p (18 + 0) else -2, ?_, ?_⟩
        · show (bnp (bnp (mX10_tellOf (9 + 5 * p + 4) (M (9 + 5 * p) 8) (nI 0) M) fun r11 => some r11) fun r5 => some r5) = _
          rw [r6, h6, q4 0 (by decide)]; rfl
        · show (bnp (mX11_planOf (nI p) (nI 14) N) fun r1 => if nI 0 < r1 then (bnp (mX11_planOf (nI p) (nI 18) N) fun r2 => some r2) else some (-2)) = _
          rw [pl 14 (by decide), h6, pl 18 (by decide)]
          simp only [bnp_some]
          by_cases z : 0 < pK f p
          · rw [if_pos ((nI_ltI (by omega) (by omega)).mpr z), if_pos z]
          · rw [if_neg (fun y => z ((nI_ltI (by omega) (by omega)).mp y)), if_neg z]
      · refine ⟨if 1 < pK f p then fP f p (18 + 1) else -2, ?_, ?_⟩
        · show (bnp (bnp (mX10_tellOf (9 + 5 * p + 4) (M (9 + 5 * p) 8) (nI 1) M) fun r11 => some r11) fun r5 => some r5) = _
          rw [r6, h6, q4 1 (by decide)]; rfl
        · show (bnp (mX11_planOf (nI p) (nI 14) N) fun r1 => if nI 1 < r1 then (bnp (mX11_planOf (nI p) (nI 19) N) fun r2 => some r2) else some (-2)) = _
          rw [pl 14 (by decide), h6, pl 19 (by decide)]
          simp only [bnp_some]
          by_cases z : 1 < pK f p
          · rw [if_pos ((nI_ltI (by omega) (by omega)).mpr z), if_pos z]
          · rw [if_neg (fun y => z ((nI_ltI (by omega) (by omega)).mp y)), if_neg z]
      · refine ⟨if 2 < pK f p then fP f p (18 + 2) else -2, ?_, ?_⟩
        · show (bnp (bnp (mX10_tellOf (9 + 5 * p + 4) (M (9 + 5 * p) 8) (nI 2) M) fun r11 => some r11) fun r5 => some r5) = _
          rw [r6, h6, q4 2 (by decide)]; rfl
        · show (bnp (mX11_planOf (nI p) (nI 14) N) fun r1 => if nI 2 < r1 then (bnp (mX11_planOf (nI p) (nI 20) N) fun r2 => some r2) else some (-2)) = _
          rw [pl 14 (by decide), h6, pl 20 (by decide)]
          simp only [bnp_some]
          by_cases z : 2 < pK f p
          · rw [if_pos ((nI_ltI (by omega) (by omega)).mpr z), if_pos z]
          · rw [if_neg (fun y => z ((nI_ltI (by omega) (by omega)).mp y)), if_neg z]
    · have hne : ∀ j, j ≤ 42 → ¬ b = nI j := by
        intro j hj e
        subst e
        exact absurd h (by rw [show (0 : Int32) = nI 0 from rfl, nI_ltI (by omega) (by omega)]; omega)
      exact plan_out hne
    · have hne : ∀ j, j ≤ 42 → ¬ b = nI j := by
        intro j hj e
        subst e
        exact absurd h3 (by rw [show (43 : Int32) = nI 43 from rfl, nI_leI (by omega) (by omega)]; omega)
      exact plan_out hne
  · simp [e1, e2, bnp_some]
