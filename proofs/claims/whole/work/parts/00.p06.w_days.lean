/-! what is asked of days; all queries under the total relation -/
theorem len_tab : ∀ m, m < 121 → 1 ≤ m → mX11_lengthOf (nI m) = some (iI (ms (m + 1) - ms m)) := by decide +kernel
theorem q_date {M N : Mem} {n : Nat} (hT : TOT M N) (hn : 20000 ≤ n) (a b : Int32) : PQ (mX10_date n a b M) (mX11_date n a b N) := by
  have e10 : ((1 : Int32) = 0) = False := eq_false (by decide)
  obtain ⟨⟨hb, hC, hM, hRS, hI⟩, -⟩ := id hT
  unfold mX10_date mX11_date mX11_dateOf mX3_yearOf mX3_monthOf mX3_dayOfMonth mX11_yearOf
  simp only [bnp_id]
  rcases isDay_c a with ⟨d, d1, d2, rfl, f1, f2⟩ | ⟨f1, f2⟩
  · obtain ⟨s1, s2, s3, s4⟩ := mo_spec d2
    rw [f1, f2, cal_mw hC d2 (by omega), cal_mo hM d2 (by omega)]
    simp only [bnp_some, e10, if_false]
    rw [chk_n (show mo d < 123 by omega) (by decide), nI_clamp (by omega), hC _ (by omega), chk_n (show mo d < 127 by omega) (by decide), hM _ (by omega)]
    rcases in_c b 0 2 3 0 2 rfl rfl rfl (by decide) (by decide) with ⟨q, hq1, hq, rfl, g1, g2, g3, g4⟩ | ⟨g4, g1⟩
    · rw [g4]
      simp only [bnp_some, e10, if_false]
      rcases (show q = 0 ∨ q = 1 ∨ q = 2 by omega) with rfl | rfl | rfl
      · exact ⟨_, rfl, rfl⟩
      · exact ⟨_, rfl, rfl⟩
      · exact ⟨_, rfl, rfl⟩
    · rw [g4]
      simp only [bnp_some, if_true]
      have c0 : ¬ b = 0 := by rintro rfl; revert g1; decide
      have c1 : ¬ b = 1 := by rintro rfl; revert g1; decide
      have c2 : ¬ b = 2 := by rintro rfl; revert g1; decide
      rw [if_neg c0, if_neg c1, if_neg c2]
      exact ⟨_, rfl, rfl⟩
  · rw [f1, f2]; exact ⟨_, rfl, rfl⟩
theorem q_day {M N : Mem} (hT : TOT M N) (a b c : Int32) : PQ (mX10_day a b c M) (mX11_day a b c N) := by
  have e10 : ((1 : Int32) = 0) = False := eq_false (by decide)
  obtain ⟨⟨hb, hC, hM, hRS, hI⟩, -⟩ := id hT
  unfold mX10_day mX11_day mX3_dayOf
  simp only [bnp_id]
  rcases in_c a 2024 2033 2034 2024 2033 (nI_lit 2024) (nI_lit 2033) (nI_lit 2034) (by decide) (by decide) with ⟨y, y1, y2, rfl, g1, g2, g3, g4⟩ | ⟨g4, g1⟩
  · rw [if_neg g1, if_neg g2, g4]
    simp only [bnp_some, e10, if_false]
    rcases in_c b 1 12 13 1 12 rfl rfl rfl (by decide) (by decide) with ⟨m, m1, m2, rfl, k1, k2, k3, k4⟩ | ⟨k4, k1⟩
    · rw [if_neg k1, if_neg k2, k4]
      simp only [bnp_some, e10, if_false]
      obtain ⟨w, hw⟩ : ∃ w, w = (y - 2024) * 12 + m := ⟨_, rfl⟩
      have w1 : 1 ≤ w := by omega
      have w2 : w < 121 := by omega
      have ew : (nI y - (2024 : Int32)) * (12 : Int32) + nI m = nI w := by
        rw [nI_lit 2024, pk_sub (by omega), show (12 : Int32) = nI 12 from rfl, pk_mul, nI_add, hw]
      have ew2 : (12 : Int32) * (nI y - (2024 : Int32)) + nI m = nI w := by
        rw [nI_lit 2024, pk_sub (by omega), show (12 : Int32) = nI 12 from rfl, pk_mul, nI_add, hw, show 12 * (y - 2024) = (y - 2024) * 12 from Nat.mul_comm _ _]
      have hstep := ms_stepB w (by omega)
      have hr := ms_rngB w (by omega)
      rw [ew, ew2, len_tab w w2 w1, show nI w + (1 : Int32) = nI (w + 1) from nI_add .., if_neg (show ¬ (123 : Int32) ≤ nI (w + 1) by rw [show (123 : Int32) = nI 123 from rfl, nI_leI (by omega) (by omega)]; omega), chk_n (show w + 1 < 123 by omega) (by decide), chk_n (show w < 123 by omega) (by decide), chk_n (show w < 123 by omega) (by decide), nI_clamp (by omega), nI_clamp (by omega), hC _ (by omega), hC _ (by omega), chk_n (show w < 127 by omega) (by decide), hM _ (by omega), iI_sub]
      simp only [bnp_some]
      unfold mX11_in
      by_cases h : c < 1
      · rw [if_neg (Int32.not_le.mpr h), if_pos h]; exact ⟨_, rfl, rfl⟩
      · rw [if_pos (Int32.not_lt.mp h), if_neg h]
        by_cases h2 : iI (ms (w + 1) - ms w) < c
        · rw [if_neg (Int32.not_le.mpr h2), if_pos h2]; exact ⟨_, rfl, rfl⟩
        · rw [if_pos (Int32.not_lt.mp h2), if_neg h2]; exact ⟨_, rfl, rfl⟩
    · rw [k4]
      rcases k1 with k1 | ⟨k1, k2, k3⟩
      · rw [if_pos k1]; exact ⟨_, rfl, rfl⟩
      · rw [if_neg k1, if_pos k2]; exact ⟨_, rfl, rfl⟩
  · rw [g4]
    rcases g1 with g1 | ⟨g1, g2, g3⟩
    · rw [if_pos g1]; exact ⟨_, rfl, rfl⟩
    · rw [if_neg g1, if_pos g2]; exact ⟨_, rfl, rfl⟩
theorem q_part {M N : Mem} {n : Nat} (hT : TOT M N) (hn : 20000 ≤ n) (a b c d : Int32) : PQ (mX10_part n a b c d M) (mX11_part n a b c d N) := by
  have e10 : ((1 : Int32) = 0) = False := eq_false (by decide)
  obtain ⟨⟨hb, hC, hM, hRS, hI⟩, -⟩ := id hT
  unfold mX10_part mX11_part
  simp only [bnp_id]
  rcases in_c a 0 999999 1000000 0 999999 (nI_lit 0) (nI_lit 999999) (nI_lit 1000000) (by decide) (by decide) with ⟨y, y1, y2, rfl, g1, g2, g3, g4⟩ | ⟨g4, g1⟩
  · rw [if_neg g1, if_neg g2, g4]
    simp only [bnp_some, e10, if_false]
    rcases isAnchor_c b with ⟨k, k1, k2, rfl, e1, e2⟩ | ⟨e1, e2⟩
    · rw [e1, e2]
      simp only [bnp_some, e10, if_false]
      rcases isDay_c c with ⟨p, d1, d2, rfl, f1, f2⟩ | ⟨f1, f2⟩
      · rw [f1, f2]
        simp only [bnp_some, e10, if_false]
        rcases isDay_c d with ⟨q, q1, q2, rfl, h1, h2⟩ | ⟨h1, h2⟩
        · rw [h1, h2]
          simp only [bnp_some, e10, if_false]
          obtain ⟨b1, b2, b3, b4, b5⟩ := LT_NT k1 d2
          by_cases hle : nI p ≤ nI q
          · rw [if_pos hle, if_neg (Int32.not_lt.mpr hle)]
            unfold mX11_slice
            rw [cal_lt hC k1 k2 d2 (by omega), cal_nt hC k1 k2 d2 (by omega), mod_nt hM k1 k2 d2 (by omega), mod_lt hM k1 k2 d2 (by omega)]
            simp only [bnp_some]
            by_cases hN : nI q ≤ iI (NT k p)
            · rw [if_pos hN, if_pos hN]
              have e : iI (NT k p) - iI (LT k p) = iI (NT k p - LT k p) := iI_sub _ _
              have e1 : (1 : Int32) ≤ iI (NT k p - LT k p) := by
                have : ((1 : Int32) ≤ iI (NT k p - LT k p)) = ((1 : Int) ≤ NT k p - LT k p) := iI_le (a := 1) (by omega) (by omega) (by omega) (by omega)
                rw [this]; omega
              unfold mX3_slice
              rw [e, if_pos e1, dvi_i (by omega) (by omega) (by omega), dvi_i (by omega) (by omega) (by omega)]
              exact ⟨_, rfl, rfl⟩
            · rw [if_neg hN, if_neg hN]; exact ⟨_, rfl, rfl⟩
          · rw [if_neg hle, if_pos (Int32.not_le.mp hle)]; exact ⟨_, rfl, rfl⟩
        · rw [h1, h2]; exact ⟨_, rfl, rfl⟩
      · rw [f1, f2]; exact ⟨_, rfl, rfl⟩
    · rw [e1, e2]; exact ⟨_, rfl, rfl⟩
  · rw [g4]
    rcases g1 with g1 | ⟨g1, g2, g3⟩
    · rw [if_pos g1]; exact ⟨_, rfl, rfl⟩
    · rw [if_neg g1, if_pos g2]; exact ⟨_, rfl, rfl⟩
theorem t_span {M N : Mem} {n : Nat} (hT : TOT M N) (hn : 20000 ≤ n) (a b c : Int32) : PQ (mX10_span n a b c M) (mX11_span n a b c N) :=
  q_span hT.1.2.1 hT.1.2.2.1 (by omega) a b c
theorem t_usage {M N : Mem} {n : Nat} (hT : TOT M N) (hn : 20000 ≤ n) (a b : Int32) : PQ (mX10_usage n a b M) (mX11_usage n a b N) :=
  q_usage hT.1.2.2.2.1.2.2.1 rfl hT.1.2.2.2.2.1.2.2.2.1 (by omega) a b
theorem t_units {M N : Mem} {n : Nat} (hT : TOT M N) (hn : 20000 ≤ n) (a b : Int32) : PQ (mX10_units n a b M) (mX11_units n a b N) :=
  q_units hT.1.2.2.2.1.2.2.1 rfl hT.1.2.2.2.2.1.2.2.2.1 hn a b
theorem t_cheapest {M N : Mem} {n : Nat} (hT : TOT M N) (hn : 20000 ≤ n) (a : Int32) : PQ (mX10_cheapest n a M) (mX11_cheapest n a N) :=
  q_cheapest hT.1.2.2.2.1.2.2.1 rfl hT.1.2.2.2.2.1.2.2.2.1 (by omega) a
theorem t_plan {M N : Mem} (hT : TOT M N) (a b : Int32) : PQ (mX10_plan a b M) (mX11_plan a b N) :=
  q_plan hT.1.2.2.2.1.2.2.1 rfl hT.1.2.2.2.2.1.2.2.2.1 a b
