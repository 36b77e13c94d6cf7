/-! pay -/
theorem le9 {q u : Nat} (hu : u ≤ 99999999) (hq : q ≤ 999999) : (nI q ≤ (99999999 : Int32) - nI u) = (q + u ≤ 99999999) := by
  have e : (99999999 : Int32) = nI 99999999 := nI_lit 99999999
  rw [e, pk_sub hu, nI_leI (by omega) (by omega)]
  exact propext (by omega)
theorem c_pay1 {b x q : Nat} {M : Mem} {f : Nat → Int32} (hx : x < 6) (hA : RA (b + 35 + 12 + x) x M f) (e1 : mX1_hasBegun b (nI x) M = some 1) (hu1 : fA f x 9 = nI (aP f x)) (hu2 : aP f x ≤ 99999999) (hq1 : 1 ≤ q) (hq : q ≤ 999999) (h : q + aP f x ≤ 99999999) : mX1_takePayment b (nI x) (nI q) M = some (nI (aP f x + q), upd2 M (b + 35 + 12 + x) 12 (nI (aP f x + q))) := by
  have g1 : ¬ nI q < (1 : Int32) := by rw [show (1 : Int32) = nI 1 from rfl, nI_ltI (by omega) (by omega)]; omega
  have g2 : nI q ≤ (999999 : Int32) := by rw [show (999999 : Int32) = nI 999999 from rfl, nI_leI (by omega) (by omega)]; exact hq
  have h12 : M (b + 35 + 12 + x) 12 = nI (aP f x) := by rw [← hu1]; exact hA.2.2.2.2.2.2.2.2.2.2.2.2.1
  have h9 : nI q ≤ (99999999 : Int32) - nI (aP f x) := by rw [le9 hu2 hq]; exact h
  unfold mX1_takePayment
  rw [e1, bnp_some, if_neg (show ¬ (1 : Int32) = 0 by decide), if_neg g1, if_pos g2, chk_n (by omega) (by omega), nI_clamp (by omega), h12, if_pos h9, lt_eq, u2s, nI_add]
theorem c_pay0 {b x q : Nat} {M : Mem} {f : Nat → Int32} (hx : x < 6) (hA : RA (b + 35 + 12 + x) x M f) (e1 : mX1_hasBegun b (nI x) M = some 1) (hu1 : fA f x 9 = nI (aP f x)) (hu2 : aP f x ≤ 99999999) (hq1 : 1 ≤ q) (hq : q ≤ 999999) (h : ¬ q + aP f x ≤ 99999999) : mX1_takePayment b (nI x) (nI q) M = some (-1, M) := by
  have g1 : ¬ nI q < (1 : Int32) := by rw [show (1 : Int32) = nI 1 from rfl, nI_ltI (by omega) (by omega)]; omega
  have g2 : nI q ≤ (999999 : Int32) := by rw [show (999999 : Int32) = nI 999999 from rfl, nI_leI (by omega) (by omega)]; exact hq
  have h12 : M (b + 35 + 12 + x) 12 = nI (aP f x) := by rw [← hu1]; exact hA.2.2.2.2.2.2.2.2.2.2.2.2.1
  have h9 : ¬ nI q ≤ (99999999 : Int32) - nI (aP f x) := by rw [le9 hu2 hq]; exact h
  unfold mX1_takePayment
  rw [e1, bnp_some, if_neg (show ¬ (1 : Int32) = 0 by decide), if_neg g1, if_pos g2, chk_n (by omega) (by omega), nI_clamp (by omega), h12, if_neg h9]
theorem m_pay1 {x q : Nat} {N : Mem} {f : Nat → Int32} (hx : x < 6) (e1 : mX11_isBegun (nI x) (stF N f) = some 1) (hu1 : fA f x 9 = nI (aP f x)) (hu2 : aP f x ≤ 99999999) (hq : q ≤ 999999) (hin : mX11_in (nI q) (1 : Int32) (999999 : Int32) = some 1) (h : q + aP f x ≤ 99999999) : mX11_pay (nI x) (nI q) (stF N f) = some (nI (aP f x + q), stF N (upd f (170 + 12 * x + 9) (nI (aP f x + q)))) := by
  have h9 : nI q ≤ (99999999 : Int32) - nI (aP f x) := by rw [le9 hu2 hq]; exact h
  have e9 : (9 : Int32) = nI 9 := rfl
  unfold mX11_pay
  rw [e1, bnp_some, if_neg (show ¬ (1 : Int32) = 0 by decide), hin, bnp_some, if_neg (show ¬ (1 : Int32) = 0 by decide), e9, m_ofS hx (by decide), bnp_some, hu1, if_pos h9, bnp_some, nI_add, m_sets hx (by decide), bnp_some, m_ofS hx (by decide), bnp_some, fA_us]
theorem m_pay0 {x q : Nat} {N : Mem} {f : Nat → Int32} (hx : x < 6) (e1 : mX11_isBegun (nI x) (stF N f) = some 1) (hu1 : fA f x 9 = nI (aP f x)) (hu2 : aP f x ≤ 99999999) (hq : q ≤ 999999) (hin : mX11_in (nI q) (1 : Int32) (999999 : Int32) = some 1) (h : ¬ q + aP f x ≤ 99999999) : mX11_pay (nI x) (nI q) (stF N f) = some (-1, stF N f) := by
  have h9 : ¬ nI q ≤ (99999999 : Int32) - nI (aP f x) := by rw [le9 hu2 hq]; exact h
  have e9 : (9 : Int32) = nI 9 := rfl
  unfold mX11_pay
  rw [e1, bnp_some, if_neg (show ¬ (1 : Int32) = 0 by decide), hin, bnp_some, if_neg (show ¬ (1 : Int32) = 0 by decide), e9, m_ofS hx (by decide), bnp_some, hu1, if_neg h9]
theorem op_pay {b : Nat} {M N : Mem} {f : Nat → Int32} (hS : SIM b M N f) (a v : Int32) : OPR b M N f (mX1_takePayment b a v M) (mX11_pay a v (stF N f)) := by
  obtain ⟨hb, hC, hM, hRS, ⟨hI0, hRun⟩⟩ := id hS
  rcases beg_c hS a with ⟨x, hx, rfl, hA, e1, e3⟩ | ⟨e1, e3⟩
  · have hRA := hRS.2.2.2.1 x hx
    have i11 := hA.2.2.2.2.2.2.2.2.2.2.2.1
    have u1 := i11.1; have u2 := i11.2
    rcases in_c v 1 999999 1000000 1 999999 rfl rfl rfl (by decide) (by decide) with ⟨q, hq1, hq, rfl, g1, g2, g3, g4⟩ | ⟨g4, g1⟩
    · by_cases h : q + aP f x ≤ 99999999
      · obtain ⟨s1, s2⟩ := s_put (w := 9) (k := 12) (v := aP f x + q) hS hx hA (by omega) (by unfold okV; omega)
        exact ⟨_, _, N, _, c_pay1 hx hRA e1 u1 u2 hq1 hq h, m_pay1 hx e3 u1 u2 hq g4 h, s1, s2, NE.rfl', FX_up (by omega)⟩
      · exact ⟨_, _, N, _, c_pay0 hx hRA e1 u1 u2 hq1 hq h, m_pay0 hx e3 u1 u2 hq g4 h, hS, FD.rfl', NE.rfl', FX.rfl'⟩
    · refine ⟨-1, M, N, f, ?_, ?_, hS, FD.rfl', NE.rfl', FX.rfl'⟩
      · unfold mX1_takePayment
        rw [e1, bnp_some, if_neg (show ¬ (1 : Int32) = 0 by decide)]
        rcases g1 with g1 | ⟨g1, g2, g3⟩
        · rw [if_pos g1]
        · rw [if_neg g1, if_neg (Int32.not_le.mpr g2)]
      · unfold mX11_pay
        rw [e3, bnp_some, if_neg (show ¬ (1 : Int32) = 0 by decide), g4]; rfl
  · refine ⟨-1, M, N, f, ?_, ?_, hS, FD.rfl', NE.rfl', FX.rfl'⟩
    · unfold mX1_takePayment; rw [e1]; rfl
    · unfold mX11_pay; rw [e3]; rfl
