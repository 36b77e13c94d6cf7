/-! pay -/
theorem op_payA {b : Nat} {M N : Mem} {f : Nat → Int32} (hS : SIM b M N f) (a v : Int32) : OPR b M N (mX1_takePayment b a v M) (mX11_pay a v (stF N f)) := by
  unfold mX1_takePayment mX11_pay
  obtain ⟨hb, hC, hM, hRS, ⟨hI0, hRun⟩⟩ := id hS
  have h1 := hI0.2.1.1; have h1' := hI0.2.1.2
  have e10 : ((1 : Int32) = 0) = False := eq_false (by decide)
  rcases beg_c hS a with ⟨x, hx, rfl, hA, e1, e3⟩ | ⟨e1, e3⟩
  · rw [e1, e3]
    simp only [bnp_some, e10, if_false]
    obtain ⟨a0, a1, a2, a3, a4, a5, a6, a7, a8, a9, a10, a11, a12, a13⟩ := hRS.2.2.2.1 x hx
    obtain ⟨i0, i1, i2, i3, i4, i5, i6, i7, i8, i9, i10, i11, i12, i13, i14, i15⟩ := id hA
    have u1 := i11.1; have u2 := i11.2
    rcases in_c v 1 999999 1000000 1 999999 rfl rfl rfl (by decide) (by decide) with ⟨q, hq1, hq, rfl, g1, g2, g3, g4⟩ | ⟨g4, g1⟩
    · sorry
    · rw [g4]
      rcases g1 with g1 | ⟨g1, g2, g3⟩
      · rw [if_pos g1]; exact OPR_no hS _
      · rw [if_neg g1, if_neg (Int32.not_le.mpr g2)]; exact OPR_no hS _
  · rw [e1, e3]; exact OPR_no hS _

theorem op_payB {b : Nat} {M N : Mem} {f : Nat → Int32} (hS : SIM b M N f) (a v : Int32) : OPR b M N (mX1_takePayment b a v M) (mX11_pay a v (stF N f)) := by
  unfold mX1_takePayment mX11_pay
  obtain ⟨hb, hC, hM, hRS, ⟨hI0, hRun⟩⟩ := id hS
  have h1 := hI0.2.1.1; have h1' := hI0.2.1.2
  have e10 : ((1 : Int32) = 0) = False := eq_false (by decide)
  rcases beg_c hS a with ⟨x, hx, rfl, hA, e1, e3⟩ | ⟨e1, e3⟩
  · rw [e1, e3]
    simp only [bnp_some, e10, if_false]
    obtain ⟨a0, a1, a2, a3, a4, a5, a6, a7, a8, a9, a10, a11, a12, a13⟩ := hRS.2.2.2.1 x hx
    obtain ⟨i0, i1, i2, i3, i4, i5, i6, i7, i8, i9, i10, i11, i12, i13, i14, i15⟩ := id hA
    have u1 := i11.1; have u2 := i11.2
    sorry
  · rw [e1, e3]; exact OPR_no hS _

theorem op_payC {b : Nat} {M N : Mem} {f : Nat → Int32} (hS : SIM b M N f) (a v : Int32) : OPR b M N (mX1_takePayment b a v M) (mX11_pay a v (stF N f)) := by
  unfold mX1_takePayment mX11_pay
  obtain ⟨hb, hC, hM, hRS, ⟨hI0, hRun⟩⟩ := id hS
  have h1 := hI0.2.1.1; have h1' := hI0.2.1.2
  have e10 : ((1 : Int32) = 0) = False := eq_false (by decide)
  rcases beg_c hS a with ⟨x, hx, rfl, hA, e1, e3⟩ | ⟨e1, e3⟩
  · rw [e1, e3]
    simp only [bnp_some, e10, if_false]
    obtain ⟨a0, a1, a2, a3, a4, a5, a6, a7, a8, a9, a10, a11, a12, a13⟩ := hRS.2.2.2.1 x hx
    obtain ⟨i0, i1, i2, i3, i4, i5, i6, i7, i8, i9, i10, i11, i12, i13, i14, i15⟩ := id hA
    have u1 := i11.1; have u2 := i11.2
    rcases in_c v 1 999999 1000000 1 999999 rfl rfl rfl (by decide) (by decide) with ⟨q, hq1, hq, rfl, g1, g2, g3, g4⟩ | ⟨g4, g1⟩
    · rw [g4, if_neg g1, if_pos (Int32.not_lt.mp g2)]
      simp only [bnp_some, e10, if_false]
      sorry
    · sorry
  · rw [e1, e3]; exact OPR_no hS _

theorem op_payD {b : Nat} {M N : Mem} {f : Nat → Int32} (hS : SIM b M N f) (a v : Int32) : OPR b M N (mX1_takePayment b a v M) (mX11_pay a v (stF N f)) := by
  unfold mX1_takePayment mX11_pay
  obtain ⟨hb, hC, hM, hRS, ⟨hI0, hRun⟩⟩ := id hS
  have h1 := hI0.2.1.1; have h1' := hI0.2.1.2
  have e10 : ((1 : Int32) = 0) = False := eq_false (by decide)
  rcases beg_c hS a with ⟨x, hx, rfl, hA, e1, e3⟩ | ⟨e1, e3⟩
  · rw [e1, e3]
    simp only [bnp_some, e10, if_false]
    obtain ⟨a0, a1, a2, a3, a4, a5, a6, a7, a8, a9, a10, a11, a12, a13⟩ := hRS.2.2.2.1 x hx
    obtain ⟨i0, i1, i2, i3, i4, i5, i6, i7, i8, i9, i10, i11, i12, i13, i14, i15⟩ := id hA
    have u1 := i11.1; have u2 := i11.2
    rcases in_c v 1 999999 1000000 1 999999 rfl rfl rfl (by decide) (by decide) with ⟨q, hq1, hq, rfl, g1, g2, g3, g4⟩ | ⟨g4, g1⟩
    · rw [g4, if_neg g1, if_pos (Int32.not_lt.mp g2)]
      simp only [bnp_some, e10, if_false]
      simp (disch := omega) only [nI_lit, chk_n, nI_clamp, m_ofS, bnp_some, a12, u1, lt_eq, u2s]
      sorry
    · sorry
  · rw [e1, e3]; exact OPR_no hS _

theorem op_payE {b : Nat} {M N : Mem} {f : Nat → Int32} (hS : SIM b M N f) (a v : Int32) : OPR b M N (mX1_takePayment b a v M) (mX11_pay a v (stF N f)) := by
  unfold mX1_takePayment mX11_pay
  obtain ⟨hb, hC, hM, hRS, ⟨hI0, hRun⟩⟩ := id hS
  have h1 := hI0.2.1.1; have h1' := hI0.2.1.2
  have e10 : ((1 : Int32) = 0) = False := eq_false (by decide)
  rcases beg_c hS a with ⟨x, hx, rfl, hA, e1, e3⟩ | ⟨e1, e3⟩
  · rw [e1, e3]
    simp only [bnp_some, e10, if_false]
    obtain ⟨a0, a1, a2, a3, a4, a5, a6, a7, a8, a9, a10, a11, a12, a13⟩ := hRS.2.2.2.1 x hx
    obtain ⟨i0, i1, i2, i3, i4, i5, i6, i7, i8, i9, i10, i11, i12, i13, i14, i15⟩ := id hA
    have u1 := i11.1; have u2 := i11.2
    rcases in_c v 1 999999 1000000 1 999999 rfl rfl rfl (by decide) (by decide) with ⟨q, hq1, hq, rfl, g1, g2, g3, g4⟩ | ⟨g4, g1⟩
    · rw [g4, if_neg g1, if_pos (Int32.not_lt.mp g2)]
      simp only [bnp_some, e10, if_false]
      simp (disch := omega) only [nI_lit, chk_n, nI_clamp, m_ofS, bnp_some, a12, u1, lt_eq, u2s]
      have hle := sub_le' (v := nI q) (B := 99999999) (u := aP f x) (Nat.le_refl _) u2 (nI_pos' (by omega))
      sorry
    · sorry
  · rw [e1, e3]; exact OPR_no hS _
