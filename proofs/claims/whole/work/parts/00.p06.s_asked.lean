/-! what is asked of ENTRIES and their sums -/
def PQ (mc mm : Option Int32) : Prop := ∃ r, mc = some r ∧ mm = some r
def PX (M : Mem) (mc : Option Int32) (mm : Option (Int32 × Mem)) : Prop := ∃ r N', mc = some r ∧ mm = some (r, N') ∧ TOT M N'
theorem T_ne {M N N' : Mem} (hT : TOT M N) (h : NE N N') : TOT M (stF N' (N 209)) := by
  obtain ⟨⟨hb, hC, hM, hRS, hI⟩, h57, h110, ⟨T, t1, t2, t3, t4⟩, h6, hK⟩ := hT
  exact ⟨⟨hb, hC, CalM_stF (CalM_NE hM h), hRS, hI⟩, h57, h110, ⟨T, t1, t2, by rw [stF_o _ _ (by decide), h 207 4 (by decide) (by decide) (by decide)]; exact t3, fun i hi => by rw [stF_o _ _ (by decide), h 210 i (by decide) (fun h => absurd h (by decide)) (by decide)]; exact t4 i hi⟩,
    by rw [stF_o _ _ (by decide), h 207 2 (by decide) (by decide) (by decide)]; exact h6, hK⟩
/-- a query that is begun, of an account -/
theorem ltI {a b : Nat} (hb : b < 2 ^ 31) (ha : a < 2 ^ 31) : (nI a ≤ nI b) = (a ≤ b) := propext (nI_leI ha hb)
theorem period_go {n x : Nat} {M N : Mem} {f : Nat → Int32} {b : Int32} (hE : RE 40 M f) (h1 : f 1 = nI (sz f)) (hs : sz f ≤ 400) : ∀ (d k i : Nat) (s : Int32), i + d = sz f → d < k → PQ (mX5_sumOfPeriod_c5 n k 40 (nI x) b s (nI i) M) (mX11_period_c27 n k (nI x) b s (nI i) (stF N f))
  | d, 0, _, _, _, h => absurd h (Nat.not_lt_zero _)
  | 0, k + 1, i, s, e0, h => by
    unfold mX5_sumOfPeriod_c5 mX11_period_c27
    rw [hE.1, h1, ck1, show Int32.toNatClampNeg (1 : Int32) = 1 from rfl, stF_f, h1, if_pos (by rw [nI_leI (by omega) (by omega)]; omega), if_pos (by rw [nI_leI (by omega) (by omega)]; omega)]
    exact ⟨_, rfl, rfl⟩
  | d + 1, k + 1, i, s, e0, h => by
    have ih := fun s => period_go (n := n) (x := x) (N := N) (b := b) hE h1 hs d k (i + 1) s (by omega) (by omega)
    have hi : i < sz f := by omega
    obtain ⟨r1, r2, r3, r4, r5, r6, r7, r8, r9, r10⟩ := hE.2 i hi
    unfold mX5_sumOfPeriod_c5 mX11_period_c27
    rw [c_isOf hE h1 hs hi, hE.1, h1, if_neg (by rw [nI_leI (by omega) (by omega)]; omega)]
    simp (disch := omega) only [nI_lit, chk_n, nI_clamp, stF_f, h1, nI_leI, m_entS, bnp_some, nI_add, r4, r8]
    rw [if_neg (show ¬ sz f ≤ i by omega)]
    by_cases t : fE f i 1 = nI x
    · rw [if_pos t, if_neg (by decide), if_pos t]
      by_cases t2 : fE f i 3 = b
      · rw [if_pos t2, if_pos t2]; exact ih _
      · rw [if_neg t2, if_neg t2]; exact ih _
    · rw [if_neg t, if_pos (by decide), if_neg t]; exact ih _
theorem q_period {M N : Mem} {n : Nat} (hT : TOT M N) (hn : 20000 ≤ n) (a b : Int32) : PQ (mX10_period n a b M) (mX11_period n a b N) := by
  have e10 : ((1 : Int32) = 0) = False := eq_false (by decide)
  obtain ⟨⟨hb, hC, hM, hRS, hI⟩, -⟩ := id hT
  unfold mX10_period mX11_period mX5_sumOfPeriod
  simp only [bnp_id]
  rcases T_beg hT a with ⟨x, hx, rfl, hA, e1, e3⟩ | ⟨e1, e3⟩
  · rw [e1, e3]
    simp only [bnp_some, e10, if_false]
    rcases in_c b 0 199 200 0 199 rfl rfl rfl (by decide) (by decide) with ⟨q, hq1, hq, rfl, g1, g2, g3, g4⟩ | ⟨g4, g1⟩
    · rw [if_neg g1, if_pos (Int32.not_lt.mp g2), g4]
      simp only [bnp_some, e10, if_false]
      have := period_go (n := n) (x := x) (N := N) (b := nI q) hRS.2.2.2.2 hI.1.2.1.1 hI.1.2.1.2 (sz (N 209)) n 0 0 (by omega) (by have := hI.1.2.1.2; omega)
      rw [stF_self] at this
      exact this
    · rw [g4]
      rcases g1 with g1 | ⟨g1, g2, g3⟩
      · rw [if_pos g1]; exact ⟨_, rfl, rfl⟩
      · rw [if_neg g1, if_neg (Int32.not_le.mpr g2)]; exact ⟨_, rfl, rfl⟩
  · rw [e1, e3]; exact ⟨_, rfl, rfl⟩
theorem written_go {n : Nat} {M N : Mem} {f : Nat → Int32} {a b : Int32} (hE : RE 40 M f) (h1 : f 1 = nI (sz f)) (hs : sz f ≤ 400) : ∀ (d k i : Nat) (s : Int32), i + d = sz f → d < k → PQ (mX5_sumWritten_c5 n k 40 a b s (nI i) M) (mX11_written_c27 n k a b s (nI i) (stF N f))
  | d, 0, _, _, _, h => absurd h (Nat.not_lt_zero _)
  | 0, k + 1, i, s, e0, h => by
    unfold mX5_sumWritten_c5 mX11_written_c27
    rw [hE.1, h1, ck1, show Int32.toNatClampNeg (1 : Int32) = 1 from rfl, stF_f, h1, if_pos (by rw [nI_leI (by omega) (by omega)]; omega), if_pos (by rw [nI_leI (by omega) (by omega)]; omega)]
    exact ⟨_, rfl, rfl⟩
  | d + 1, k + 1, i, s, e0, h => by
    have ih := fun s => written_go (n := n) (N := N) (a := a) (b := b) hE h1 hs d k (i + 1) s (by omega) (by omega)
    have hi : i < sz f := by omega
    obtain ⟨r1, r2, r3, r4, r5, r6, r7, r8, r9, r10⟩ := hE.2 i hi
    unfold mX5_sumWritten_c5 mX11_written_c27 mX11_in
    rw [hE.1, h1, if_neg (by rw [nI_leI (by omega) (by omega)]; omega), if_neg (by rw [show (400 : Int32) = nI 400 from rfl, nI_leI (by omega) (by omega)]; omega)]
    simp (disch := omega) only [nI_lit, chk_n, nI_clamp, stF_f, h1, nI_leI, m_entS, bnp_some, nI_add, r3, r8]
    rw [if_neg (show ¬ sz f ≤ i by omega)]
    by_cases t : fE f i 2 < a
    · rw [if_pos t, if_pos t]
      simp only [bnp_some, if_true]; exact ih _
    · rw [if_neg t, if_neg t]
      by_cases t2 : b < fE f i 2
      · rw [if_pos t2, if_pos t2]
        simp only [bnp_some, if_true]; exact ih _
      · rw [if_neg t2, if_neg t2]
        simp only [bnp_some]
        rw [if_neg (show ¬ nI 1 = nI 0 by decide)]; exact ih _
theorem q_written {M N : Mem} {n : Nat} (hT : TOT M N) (hn : 20000 ≤ n) (a b : Int32) : PQ (mX10_written n a b M) (mX11_written n a b N) := by
  have e10 : ((1 : Int32) = 0) = False := eq_false (by decide)
  obtain ⟨⟨hb, hC, hM, hRS, hI⟩, -⟩ := id hT
  have main := written_go (n := n) (N := N) (a := a) (b := b) hRS.2.2.2.2 hI.1.2.1.1 hI.1.2.1.2 (sz (N 209)) n 0 0 (by omega) (by have := hI.1.2.1.2; omega)
  rw [stF_self] at main
  unfold mX10_written mX11_written mX5_sumWritten mX11_isDay
  simp only [bnp_id]
  rcases in_c a 0 3652 3653 0 3652 (nI_lit 0) (nI_lit 3652) (nI_lit 3653) (by decide) (by decide) with ⟨p, hp1, hp, rfl, g1, g2, g3, g4⟩ | ⟨g4, g1⟩
  · rw [if_neg g1, g4]
    simp only [bnp_some, e10, if_false]
    rcases in_c b 0 3652 3653 0 3652 (nI_lit 0) (nI_lit 3652) (nI_lit 3653) (by decide) (by decide) with ⟨q, hq1, hq, rfl, k1, k2, k3, k4⟩ | ⟨k4, k1⟩
    · rw [if_pos (Int32.not_lt.mp k2), k4]
      simp only [bnp_some, e10, if_false]
      by_cases h : nI q < nI p
      · rw [if_pos h, if_neg (Int32.not_le.mpr h)]; exact ⟨_, rfl, rfl⟩
      · rw [if_neg h, if_pos (Int32.not_lt.mp h)]; exact main
    · rw [k4]
      simp only [bnp_some, if_true]
      by_cases h : b < nI p
      · rw [if_pos h]; exact ⟨_, rfl, rfl⟩
      · rw [if_neg h]
        rcases k1 with k1 | ⟨k1, k2, k3⟩
        · exact absurd (Int32.lt_of_lt_of_le k1 (Int32.not_lt.mp g1)) h
        · rw [if_neg (Int32.not_le.mpr k2)]; exact ⟨_, rfl, rfl⟩
  · rw [g4]
    simp only [bnp_some, if_true]
    rcases g1 with g1 | ⟨g1, g2, g3⟩
    · rw [if_pos g1]; exact ⟨_, rfl, rfl⟩
    · rw [if_neg g1]
      by_cases h : b < a
      · rw [if_pos h]; exact ⟨_, rfl, rfl⟩
      · rw [if_neg h, if_neg (Int32.not_le.mpr (Int32.lt_of_lt_of_le g2 (Int32.not_lt.mp h)))]; exact ⟨_, rfl, rfl⟩
/-! earned -/
theorem gone_c {F T dd : Nat} (hF : F < T) (hT : T ≤ 3652) (hd : dd ≤ 3653) : (if (0 : Int32) < (if nI dd - nI F < nI T - nI F then nI dd - nI F else nI T - nI F) then (if nI dd - nI F < nI T - nI F then nI dd - nI F else nI T - nI F) else (0 : Int32)) = nI (min (T - F) (dd - F)) := by
  have e1 : nI T - nI F = nI (T - F) := pk_sub (by omega)
  have e2 : (nI dd - nI F < nI (T - F)) = ((dd : Int) - F < ((T - F : Nat) : Int)) := by rw [nI_subI, iI_n, iI_lt (by omega) (by omega) (by omega) (by omega)]
  rw [e1]
  by_cases h : dd < T
  · have p : nI dd - nI F < nI (T - F) := by rw [e2]; omega
    rw [if_pos p]
    by_cases h2 : F < dd
    · have e3 : nI dd - nI F = nI (dd - F) := pk_sub (by omega)
      have p2 : (0 : Int32) < nI (dd - F) := by rw [show (0 : Int32) = nI 0 from rfl, nI_ltI (by omega) (by omega)]; omega
      rw [e3, if_pos p2]
      congr 1; omega
    · have p2 : ¬ (0 : Int32) < iI ((dd : Int) - F) := by rw [show (0 : Int32) = iI 0 from rfl, iI_lt (by omega) (by omega) (by omega) (by omega)]; omega
      rw [nI_subI, if_neg p2, show min (T - F) (dd - F) = 0 by omega]; rfl
  · have p : ¬ nI dd - nI F < nI (T - F) := by rw [e2]; omega
    have p2 : (0 : Int32) < nI (T - F) := by rw [show (0 : Int32) = nI 0 from rfl, nI_ltI (by omega) (by omega)]; omega
    rw [if_neg p, if_pos p2]
    congr 1; omega
theorem gone_m {F T dd : Nat} (hF : F < T) (hT : T ≤ 3652) (hd : dd ≤ 3653) : ∃ r7, mX11_min (nI T - nI F) (nI dd - nI F) = some r7 ∧ mX11_max (0 : Int32) r7 = some (nI (min (T - F) (dd - F))) := by
  have e1 : nI T - nI F = nI (T - F) := pk_sub (by omega)
  have e2 : (nI dd - nI F ≤ nI (T - F)) = ((dd : Int) - F ≤ ((T - F : Nat) : Int)) := by rw [nI_subI, iI_n, iI_le (by omega) (by omega) (by omega) (by omega)]
  unfold mX11_min mX11_max
  rw [e1]
  by_cases h : dd ≤ T
  · rw [if_pos (by rw [e2]; omega)]
    refine ⟨_, rfl, ?_⟩
    by_cases h2 : F ≤ dd
    · have e3 : nI dd - nI F = nI (dd - F) := pk_sub (by omega)
      rw [e3, if_pos (by rw [show (0 : Int32) = nI 0 from rfl, nI_leI (by omega) (by omega)]; omega)]
      congr 2; omega
    · rw [nI_subI, if_neg (by rw [show (0 : Int32) = iI 0 from rfl, iI_le (by omega) (by omega) (by omega) (by omega)]; omega), show min (T - F) (dd - F) = 0 by omega]; rfl
  · rw [if_neg (by rw [e2]; omega)]
    refine ⟨_, rfl, ?_⟩
    rw [if_pos (by rw [show (0 : Int32) = nI 0 from rfl, nI_leI (by omega) (by omega)]; omega)]
    congr 2; omega
theorem muldiv {c : Int32} {g L : Nat} (h1 : -899991 ≤ c.toInt) (h2 : c.toInt ≤ 899991) (hg : g ≤ 31) (hL : 0 < L) (hL2 : L ≤ 31) : Int64.toInt32 ((Int32.toInt64 c * Int32.toInt64 (nI g)) / Int32.toInt64 (nI L)) = c * nI g / nI L := by
  obtain ⟨w, hw⟩ : ∃ w, w = c.toInt * (g : Int) := ⟨_, rfl⟩
  have m1 : c.toInt * (g : Int) ≤ 899991 * (g : Int) := Int.mul_le_mul_of_nonneg_right (by omega) (by omega)
  have m2 : -899991 * (g : Int) ≤ c.toInt * (g : Int) := Int.mul_le_mul_of_nonneg_right (by omega) (by omega)
  rw [← hw] at m1 m2
  have eL := nI_toInt (n := L) (by omega)
  have e64 : (Int32.toInt64 c * Int32.toInt64 (nI g)).toInt = w := by
    rw [Int64.toInt_mul, Int32.toInt_toInt64, Int32.toInt_toInt64, nI_toInt (by omega), ← hw]
    exact Int.bmod_eq_of_le (by omega) (by omega)
  have e32 : (c * nI g).toInt = w := by
    rw [Int32.toInt_mul, nI_toInt (by omega), ← hw]
    exact Int.bmod_eq_of_le (by omega) (by omega)
  have eL64 : (Int32.toInt64 (nI L)).toInt = (L : Int) := by rw [Int32.toInt_toInt64, eL]
  have n64 : Int32.toInt64 (nI L) ≠ -1 := by
    intro h
    have := congrArg Int64.toInt h
    rw [eL64] at this
    have e : (-1 : Int64).toInt = -1 := by decide
    rw [e] at this; omega
  have n32 : nI L ≠ -1 := by
    intro h
    have := congrArg Int32.toInt h
    rw [eL] at this
    have e : (-1 : Int32).toInt = -1 := by decide
    rw [e] at this; omega
  have b : -2147483648 ≤ w.tdiv (L : Int) ∧ w.tdiv (L : Int) < 2147483648 := by
    rcases Int.le_total 0 w with h | h
    · rw [Int.tdiv_eq_ediv_of_nonneg h]
      have d1 : w / (L : Int) ≤ w := Int.ediv_le_self _ h
      have d2 : 0 ≤ w / (L : Int) := Int.ediv_nonneg h (by omega)
      omega
    · obtain ⟨v, hv⟩ : ∃ v, w = -v := ⟨-w, by omega⟩
      rw [hv, Int.neg_tdiv, Int.tdiv_eq_ediv_of_nonneg (by omega)]
      have d1 : v / (L : Int) ≤ v := Int.ediv_le_self _ (by omega)
      have d2 : 0 ≤ v / (L : Int) := Int.ediv_nonneg (by omega) (by omega)
      omega
  apply Int32.toInt_inj.mp
  rw [Int64.toInt_toInt32, Int64.toInt_div_of_ne_right _ _ n64, e64, eL64, Int32.toInt_div_of_ne_right _ _ n32, e32, eL]
  exact Int.bmod_eq_of_le (by omega) (by omega)
theorem earn_eq {i dd : Nat} {M N : Mem} {f : Nat → Int32} (hE : RE 40 M f) (hI : INV0 f) (hi : i < sz f) (hd : dd ≤ 3653) : PQ (mX5_earnedOf 40 (nI i) (nI dd) M) (mX11_earnedOf (nI i) (nI dd) (stF N f)) := by
  have h1 := hI.2.1.1; have hs := hI.2.1.2
  obtain ⟨r1, r2, r3, r4, r5, r6, r7, r8, r9, r10⟩ := hE.2 i hi
  obtain ⟨i0, i1, i2, i3, i4, i5, i6, i7, i8, i9, i10, i11, i12⟩ := hI.2.2.2.2.2 i hi
  have k1 := i0.1; have k2 := i0.2; have F1 := i4.1; have F2 := i4.2; have T1 := i5.1; have T2 := i5.2
  unfold mX5_earnedOf mX11_earnedOf
  rw [has_c hE h1 hs (by omega), if_pos hi]
  simp only [bnp_some]
  rw [if_neg (show ¬ (1 : Int32) = 0 by decide)]
  rw [chk_n (show i < 400 by omega) (by decide), chk_n (show i < 400 by omega) (by decide), chk_n (show i < 400 by omega) (by decide), nI_clamp (by omega), r1, r3, r5, r6, r8, show (4 : Int32) = nI 4 from rfl, show (5 : Int32) = nI 5 from rfl, show (0 : Int32) = nI 0 from rfl, show (2 : Int32) = nI 2 from rfl, show (7 : Int32) = nI 7 from rfl, m_entS (by omega) (by decide), m_entS (by omega) (by decide), m_entS (by omega) (by decide), m_entS (by omega) (by decide), m_entS (by omega) (by decide)]
  simp only [bnp_some]
  rw [chk_n (show i < 400 by omega) (by decide), chk_n (show i < 400 by omega) (by decide)]
  have eW : ∀ (g : Option Int32), (if nI dd ≤ fE f i 2 then some (nI 0) else some (fE f i 7)) = g → PQ g (if nI dd ≤ fE f i 2 then some (nI 0) else some (fE f i 7)) := fun g hg => by
    subst hg
    by_cases q : nI dd ≤ fE f i 2
    · rw [if_pos q]; exact ⟨_, rfl, rfl⟩
    · rw [if_neg q]; exact ⟨_, rfl, rfl⟩
  by_cases hk : (1 : Int32) < fE f i 0
  · rw [if_pos hk, if_pos hk]; exact eW _ rfl
  · rw [if_neg hk, if_neg hk]
    have hk2 : eK f i ≤ 1 := by
      rw [k1, show (1 : Int32) = nI 1 from rfl, nI_ltI (by omega) (by omega)] at hk; omega
    obtain ⟨j1, j2, j3⟩ := i8 hk2
    by_cases hL : eF f i < eT f i
    · have e1 : nI (eT f i) - nI (eF f i) = nI (eT f i - eF f i) := pk_sub (by omega)
      have c1 : (1 : Int32) ≤ fE f i 5 - fE f i 4 := by
        rw [T1, F1, e1, show (1 : Int32) = nI 1 from rfl, nI_leI (by omega) (by omega)]; omega
      have c2 : ¬ fE f i 5 - fE f i 4 = nI 0 := by
        rw [T1, F1, e1, nI_eq (by omega) (by omega)]; omega
      have g1 := gone_c hL T2 hd
      obtain ⟨r7', g2, g3⟩ := gone_m hL T2 hd
      rw [if_pos c1, if_neg c2, T1, F1]
      rw [show nI 0 = (0 : Int32) from rfl, g1, g2]
      simp only [bnp_some]
      rw [g3]
      simp only [bnp_some]
      have hd0 : ¬ Int32.toInt64 (nI (eT f i) - nI (eF f i)) = 0 := by
        intro h
        have := congrArg Int64.toInt h
        rw [Int32.toInt_toInt64, e1, nI_toInt (by omega)] at this
        have e : (0 : Int64).toInt = 0 := by decide
        rw [e] at this; omega
      rw [chk_n (show i < 400 by omega) (by decide), chk_n (show i < 400 by omega) (by decide), e1, dvi_n (by omega) (by omega)]
      unfold dvl
      rw [e1] at hd0
      rw [if_neg hd0, muldiv j2 j3 (by omega) (by omega) (by omega)]
      exact ⟨_, rfl, rfl⟩
    · have e0 : eT f i = eF f i := by omega
      have c0 : fE f i 5 - fE f i 4 = nI 0 := by rw [T1, F1, e0, pk_sub (Nat.le_refl _), Nat.sub_self]
      rw [c0, if_neg (show ¬ (1 : Int32) ≤ nI 0 by decide), if_pos rfl]
      exact eW _ rfl
theorem earned_go {n x dd : Nat} {M N : Mem} {f : Nat → Int32} (hE : RE 40 M f) (hI : INV0 f) (hd : dd ≤ 3653) : ∀ (d k i : Nat) (s : Int32), i + d = sz f → d < k → PQ (mX5_sumEarned_c5 n k 40 (nI x) (nI dd) s (nI i) M) (mX11_earned_c27 n k (nI x) (nI dd) s (nI i) (stF N f))
  | d, 0, _, _, _, h => absurd h (Nat.not_lt_zero _)
  | 0, k + 1, i, s, e0, h => by
    have h1 := hI.2.1.1; have hs := hI.2.1.2
    unfold mX5_sumEarned_c5 mX11_earned_c27
    rw [hE.1, h1, ck1, show Int32.toNatClampNeg (1 : Int32) = 1 from rfl, stF_f, h1, if_pos (by rw [nI_leI (by omega) (by omega)]; omega), if_pos (by rw [nI_leI (by omega) (by omega)]; omega)]
    exact ⟨_, rfl, rfl⟩
  | d + 1, k + 1, i, s, e0, h => by
    have h1 := hI.2.1.1; have hs := hI.2.1.2
    have ih := fun s => earned_go (n := n) (x := x) (N := N) hE hI hd d k (i + 1) s (by omega) (by omega)
    have hi : i < sz f := by omega
    obtain ⟨v, v1, v2⟩ := earn_eq (N := N) hE hI hi hd
    unfold mX5_sumEarned_c5 mX11_earned_c27
    rw [c_isOf hE h1 hs hi, hE.1, h1, if_neg (by rw [nI_leI (by omega) (by omega)]; omega)]
    simp (disch := omega) only [nI_lit, chk_n, nI_clamp, stF_f, h1, nI_leI, m_entS, bnp_some, nI_add, v1, v2]
    rw [if_neg (show ¬ sz f ≤ i by omega)]
    by_cases t : fE f i 1 = nI x
    · rw [if_pos t, if_neg (by decide), if_pos t]; exact ih _
    · rw [if_neg t, if_pos (by decide), if_neg t]; exact ih _
theorem q_earned {M N : Mem} {n : Nat} (hT : TOT M N) (hn : 20000 ≤ n) (a b : Int32) : PQ (mX10_earned n a b M) (mX11_earned n a b N) := by
  have e10 : ((1 : Int32) = 0) = False := eq_false (by decide)
  obtain ⟨⟨hb, hC, hM, hRS, hI⟩, -⟩ := id hT
  unfold mX10_earned mX11_earned mX5_sumEarned
  simp only [bnp_id]
  rcases T_beg hT a with ⟨x, hx, rfl, hA, e1, e3⟩ | ⟨e1, e3⟩
  · rw [e1, e3]
    simp only [bnp_some, e10, if_false]
    rcases in_c b 0 3653 3654 0 3653 (nI_lit 0) (nI_lit 3653) (nI_lit 3654) (by decide) (by decide) with ⟨q, hq1, hq, rfl, g1, g2, g3, g4⟩ | ⟨g4, g1⟩
    · rw [if_neg g1, if_pos (Int32.not_lt.mp g2), g4]
      simp only [bnp_some, e10, if_false]
      have := earned_go (n := n) (x := x) (N := N) hRS.2.2.2.2 hI.1 hq (sz (N 209)) n 0 0 (by omega) (by have := hI.1.2.1.2; omega)
      rw [stF_self] at this
      exact this
    · rw [g4]
      rcases g1 with g1 | ⟨g1, g2, g3⟩
      · rw [if_pos g1]; exact ⟨_, rfl, rfl⟩
      · rw [if_neg g1, if_neg (Int32.not_le.mpr g2)]; exact ⟨_, rfl, rfl⟩
  · rw [e1, e3]; exact ⟨_, rfl, rfl⟩
