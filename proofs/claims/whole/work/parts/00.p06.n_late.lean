/-! what is late; remind -/
def lateG (f : Nat → Int32) (x : Nat) (day : Int32) (j : Nat) : Int32 := if fE f j 1 = nI x ∧ ¬ day ≤ fE f j 2 + nI 14 then OPV f x j (LF f x 0 j (COV f x)) else 0
def LATE (f : Nat → Int32) (x : Nat) (day : Int32) : Int32 := sumR (lateG f x day) 0 (sz f)
theorem lateG_0 {f : Nat → Int32} {x j : Nat} {day : Int32} (h : ¬ opC f x j) : lateG f x day j = 0 := by
  unfold lateG OPV
  rw [if_neg h]; split <;> rfl
theorem m_late_go {n x : Nat} {f : Nat → Int32} {N : Mem} {day : Int32} (h1 : f 1 = nI (sz f)) (hs : sz f ≤ 400) (hN : ∀ j, j < sz f → N 217 j = OPV f x j (LF f x 0 j (COV f x))) : ∀ (d k i : Nat) (a : Int32), i + d = sz f → d < k → mX11_lateOn_c10 n k (nI x) day a (nI i) (stF N f) = some (a + sumR (lateG f x day) i d, stF N f)
  | d, 0, _, _, _, h => absurd h (Nat.not_lt_zero _)
  | 0, k + 1, i, a, e, h => by
    unfold mX11_lateOn_c10
    simp (disch := omega) only [nI_lit, chk_n, nI_clamp, stF_f, h1, nI_leI]
    rw [if_pos (by omega)]
    show some (a, stF N f) = some (a + 0, stF N f)
    rw [Int32.add_zero]
  | d + 1, k + 1, i, a, e, h => by
    have ih := fun a => m_late_go (n := n) (x := x) (day := day) h1 hs hN d k (i + 1) a (by omega) (by omega)
    unfold mX11_lateOn_c10
    simp (disch := omega) only [nI_lit, chk_n, nI_clamp, stF_f, h1, nI_leI, m_entS, bnp_some, nI_add, stF_o, hN]
    rw [if_neg (by omega), sumR_s]
    by_cases t : fE f i 1 = nI x
    · rw [if_pos t]
      by_cases t2 : day ≤ fE f i 2 + nI 14
      · rw [if_pos t2, ih, show lateG f x day i = 0 from if_neg (fun q => q.2 t2), Int32.zero_add]
      · rw [if_neg t2, ih, show lateG f x day i = OPV f x i (LF f x 0 i (COV f x)) from if_pos ⟨t, t2⟩, Int32.add_assoc]
    · rw [if_neg t, ih, show lateG f x day i = 0 from if_neg (fun q => t q.1), Int32.zero_add]
theorem m_late {n x : Nat} {f : Nat → Int32} {N : Mem} (hI : INV0 f) (hx : x < 6) (hn : 500 ≤ n) (day : Int32) : ∃ N', mX11_lateOn n (nI x) day (stF N f) = some (LATE f x day, stF N' f) ∧ NE N N' := by
  have h1 := hI.2.1.1; have h2 := hI.2.1.2
  obtain ⟨N', p1, p2, p3, p4⟩ := m_covers (N := N) hI hx hn
  unfold mX11_lateOn
  rw [p1]
  simp only [bnp_some]
  rw [show (0 : Int32) = nI 0 from rfl, m_late_go h1 h2 p4 (sz f) n 0 _ (by omega) (by omega), show nI 0 = (0 : Int32) from rfl, Int32.zero_add]
  exact ⟨N', rfl, p2⟩
theorem c_late_go {e n x : Nat} {M : Mem} {f : Nat → Int32} {day : Int32} (hE : RE e M f) (h1 : f 1 = nI (sz f)) (hs : sz f ≤ 400) : ∀ (d k i : Nat) (l a : Int32), i + d = sz f → d < k → l = LF f x 0 i (COV f x) → mX5_sumLate_c14 n k e (nI x) day l a (nI i) M = some (a + sumR (lateG f x day) i d)
  | d, 0, _, _, _, _, h, _ => absurd h (Nat.not_lt_zero _)
  | 0, k + 1, i, l, a, e0, h, hl => by
    unfold mX5_sumLate_c14
    rw [hE.1, h1]
    simp (disch := omega) only [nI_leI]
    rw [if_pos (by omega)]
    show some a = some (a + 0)
    rw [Int32.add_zero]
  | d + 1, k + 1, i, l, a, e0, h, hl => by
    have ih := fun l a => c_late_go (x := x) (n := n) (day := day) hE h1 hs d k (i + 1) l a (by omega) (by omega)
    have hi : i < sz f := by omega
    have e10 : ((1 : Int32) = 0) = False := eq_false (by decide)
    have r8 := (hE.2 i hi).2.2.2.2.2.2.2.1
    have r3 := (hE.2 i hi).2.2.1
    have hL := LF_last f x i 0 (COV f x)
    rw [Nat.zero_add, ← hl] at hL
    unfold mX5_sumLate_c14
    rw [c_isOf hE h1 hs hi, hE.1, h1, if_neg (by rw [nI_leI (by omega) (by omega)]; omega), sumR_s, show (1 : Int32) = nI 1 from rfl, nI_add]
    simp (disch := omega) only [bnp_some, chk_n, nI_clamp, r8, r3]
    by_cases t : fE f i 1 = nI x
    · simp only [t, if_true]
      rw [if_neg (show ¬ nI 1 = 0 by decide)]
      by_cases t2 : fE f i 7 ≤ 0
      · have hno : ¬ opC f x i := fun q => absurd q.2 (Int32.not_lt.mpr t2)
        rw [if_neg hno] at hL
        rw [if_pos t2, ih l a hL.symm, lateG_0 hno, Int32.zero_add]
      · have hyes : opC f x i := ⟨t, Int32.not_le.mp t2⟩
        rw [if_pos hyes] at hL
        rw [if_neg t2]
        by_cases t3 : day ≤ fE f i 2 + nI 14
        · have := ih _ a hL.symm
          rw [if_pos (show day ≤ fE f i 2 + 14 from t3), show lateG f x day i = 0 from if_neg (fun q => q.2 t3), Int32.zero_add]
          exact this
        · have := ih _ (a + (fE f i 7 - mnC l (fE f i 7))) hL.symm
          have hg : lateG f x day i = fE f i 7 - mnC l (fE f i 7) := by
            unfold lateG OPV
            rw [if_pos ⟨t, t3⟩, if_pos hyes, ← hl]
          rw [if_neg (show ¬ day ≤ fE f i 2 + 14 from t3), hg, ← Int32.add_assoc]
          exact this
    · have hno : ¬ opC f x i := fun q => t q.1
      rw [if_neg hno] at hL
      simp only [t, if_false, if_true]
      rw [ih l a hL.symm, lateG_0 hno, Int32.zero_add]
theorem c_late {e n x : Nat} {M : Mem} {f : Nat → Int32} {p day : Int32} (hE : RE e M f) (hI : INV0 f) (hn : 500 ≤ n) (hp : p = fA f x 9) : mX5_sumLate n e (nI x) p day M = some (LATE f x day) := by
  have h1 := hI.2.1.1; have h2 := hI.2.1.2
  unfold mX5_sumLate
  rw [c_cov hE hI hn hp]
  simp only [bnp_some]
  have := c_late_go (x := x) (n := n) (day := day) hE h1 h2 (sz f) n 0 (COV f x) 0 (by omega) (by omega) rfl
  rw [Int32.zero_add] at this
  exact this
def feO (f : Nat → Int32) (x : Nat) (day : Int32) : Nat → Nat → Int32
  | _, 0 => 0
  | i, d + 1 => if fE f i 1 = nI x ∧ fE f i 0 = nI 5 ∧ fE f i 2 = day then 1 else feO f x day (i + 1) d
theorem feO_s (f : Nat → Int32) (x : Nat) (day : Int32) (i d : Nat) : feO f x day i (d + 1) = if fE f i 1 = nI x ∧ fE f i 0 = nI 5 ∧ fE f i 2 = day then 1 else feO f x day (i + 1) d := rfl
theorem feO_01 (f : Nat → Int32) (x : Nat) (day : Int32) : ∀ (d i : Nat), feO f x day i d = 0 ∨ feO f x day i d = 1
  | 0, _ => Or.inl rfl
  | d + 1, i => by
    rw [feO_s]
    split
    · exact Or.inr rfl
    · exact feO_01 f x day d (i + 1)
theorem m_fee_go {n x : Nat} {f : Nat → Int32} {N : Mem} (h1 : f 1 = nI (sz f)) (hs : sz f ≤ 400) : ∀ (d k i : Nat), i + d = sz f → d < k → mX11_isRemindedToday_c2 n k (nI x) (nI i) (stF N f) = some (feO f x (f 0) i d)
  | d, 0, _, _, h => absurd h (Nat.not_lt_zero _)
  | 0, k + 1, i, e, h => by
    unfold mX11_isRemindedToday_c2
    simp (disch := omega) only [nI_lit, chk_n, nI_clamp, stF_f, h1, nI_leI]
    rw [if_pos (by omega)]; rfl
  | d + 1, k + 1, i, e, h => by
    have ih := m_fee_go (n := n) (x := x) (N := N) h1 hs d k (i + 1) (by omega) (by omega)
    unfold mX11_isRemindedToday_c2
    simp (disch := omega) only [nI_lit, chk_n, nI_clamp, stF_f, h1, nI_leI, m_entS, bnp_some, nI_add, ih]
    rw [if_neg (by omega), feO_s]
    by_cases t1 : fE f i 1 = nI x
    · rw [if_pos t1]
      by_cases t2 : fE f i 0 = nI 5
      · rw [if_pos t2]
        by_cases t3 : fE f i 2 = f 0
        · rw [if_pos t3, if_pos ⟨t1, t2, t3⟩]; rfl
        · rw [if_neg t3, if_neg (fun q => t3 q.2.2)]
      · rw [if_neg t2, if_neg (fun q => t2 q.2.1)]
    · rw [if_neg t1, if_neg (fun q => t1 q.1)]
theorem c_fee_go {e n x : Nat} {M : Mem} {f : Nat → Int32} {day : Int32} (hE : RE e M f) (h1 : f 1 = nI (sz f)) (hs : sz f ≤ 400) : ∀ (d k i : Nat), i + d = sz f → d < k → mX5_haveFeeOn_c2 n k e (nI x) day (nI i) M = some (feO f x day i d)
  | d, 0, _, _, h => absurd h (Nat.not_lt_zero _)
  | 0, k + 1, i, e0, h => by
    unfold mX5_haveFeeOn_c2
    rw [hE.1, h1]
    simp (disch := omega) only [nI_leI]
    rw [if_pos (by omega)]; rfl
  | d + 1, k + 1, i, e0, h => by
    have ih := c_fee_go (x := x) (n := n) (day := day) hE h1 hs d k (i + 1) (by omega) (by omega)
    have hi : i < sz f := by omega
    have r1 := (hE.2 i hi).1
    have r3 := (hE.2 i hi).2.2.1
    unfold mX5_haveFeeOn_c2
    rw [c_isOf hE h1 hs hi, hE.1, h1, if_neg (by rw [nI_leI (by omega) (by omega)]; omega), feO_s, show (1 : Int32) = nI 1 from rfl, nI_add]
    simp (disch := omega) only [bnp_some, chk_n, nI_clamp, r1, r3, ih]
    by_cases t1 : fE f i 1 = nI x
    · simp only [t1, if_true]
      rw [if_neg (show ¬ nI 1 = 0 by decide)]
      by_cases t2 : fE f i 0 = nI 5
      · rw [if_pos (show fE f i 0 = 5 from t2)]
        by_cases t3 : fE f i 2 = day
        · rw [if_pos t3, if_pos ⟨trivial, t2, t3⟩]
        · rw [if_neg t3, if_neg (fun q => t3 q.2.2)]
      · rw [if_neg (show ¬ fE f i 0 = 5 from t2), if_neg (fun q => t2 q.2.1)]
    · have g : ¬ (fE f i 1 = nI x ∧ fE f i 0 = nI 5 ∧ fE f i 2 = day) := fun q => t1 q.1
      rw [if_neg g]
      simp only [t1, if_false, if_true]
theorem fee_q (r : Int32) {p : Nat} (hp : p ≤ 20) : ∃ z : Int, -500000000 ≤ z ∧ z ≤ 500000000 ∧ (Int32.toInt64 r * Int32.toInt64 (nI p) / (100 : Int64)).toInt = z := by
  have h1 := Int32.toInt_lt r
  have h2 := Int32.le_toInt r
  have c100 : (100 : Int64).toInt = 100 := by decide
  obtain ⟨w, hw⟩ : ∃ w, w = r.toInt * (p : Int) := ⟨_, rfl⟩
  have m1 : r.toInt * (p : Int) ≤ 2147483648 * (p : Int) := Int.mul_le_mul_of_nonneg_right (by omega) (by omega)
  have m2 : -2147483648 * (p : Int) ≤ r.toInt * (p : Int) := Int.mul_le_mul_of_nonneg_right (by omega) (by omega)
  rw [← hw] at m1 m2
  have e : (Int32.toInt64 r * Int32.toInt64 (nI p)).toInt = w := by
    rw [Int64.toInt_mul, Int32.toInt_toInt64, Int32.toInt_toInt64, nI_toInt (by omega), ← hw]
    exact Int.bmod_eq_of_le (by omega) (by omega)
  rcases Int.le_total 0 w with h | h
  · refine ⟨w / 100, by omega, by omega, ?_⟩
    rw [Int64.toInt_div_of_ne_right _ _ (by decide), e, c100, Int.tdiv_eq_ediv_of_nonneg h]
  · refine ⟨-((-w) / 100), by omega, by omega, ?_⟩
    rw [Int64.toInt_div_of_ne_right _ _ (by decide), e, c100]
    obtain ⟨v, hv⟩ : ∃ v, w = -v := ⟨-w, by omega⟩
    rw [hv, Int.neg_tdiv, Int.tdiv_eq_ediv_of_nonneg (by omega), Int.neg_neg]
theorem fee_eq (r : Int32) {p : Nat} (hp : p ≤ 20) : ∃ c : Int32, Int64.toInt32 (if (Int32.toInt64 r * Int32.toInt64 (nI p) / (100 : Int64)) < (99999 : Int64) then (Int32.toInt64 r * Int32.toInt64 (nI p) / (100 : Int64)) else (99999 : Int64)) = c ∧ mX11_min (nI 99999) (Int64.toInt32 (Int32.toInt64 r * Int32.toInt64 (nI p) / (100 : Int64))) = some c ∧ -2147483647 ≤ c.toInt := by
  obtain ⟨z, z1, z2, z3⟩ := fee_q r hp
  obtain ⟨q, hq⟩ : ∃ q, q = Int32.toInt64 r * Int32.toInt64 (nI p) / (100 : Int64) := ⟨_, rfl⟩
  rw [← hq] at z3 ⊢
  have c9 : (99999 : Int64).toInt = 99999 := by decide
  have q32 : q.toInt32.toInt = z := by rw [Int64.toInt_toInt32, z3]; exact Int.bmod_eq_of_le (by omega) (by omega)
  have n9 := nI_toInt (n := 99999) (by omega)
  unfold mX11_min
  by_cases h : q < (99999 : Int64)
  · have h' := Int64.lt_iff_toInt_lt.mp h
    rw [z3, c9] at h'
    rw [if_pos h, if_pos (by rw [Int32.le_iff_toInt_le, q32, n9]; omega)]
    exact ⟨_, rfl, rfl, by rw [q32]; omega⟩
  · have h' : ¬ z < 99999 := fun g => h (Int64.lt_iff_toInt_lt.mpr (by rw [z3, c9]; exact g))
    rw [if_neg h]
    refine ⟨nI 99999, by decide, ?_, by rw [n9]; omega⟩
    by_cases g : q.toInt32 ≤ nI 99999
    · rw [if_pos g]
      have g' := Int32.le_iff_toInt_le.mp g
      rw [q32, n9] at g'
      congr 1
      exact Int32.toInt_inj.mp (by rw [q32, n9]; omega)
    · rw [if_neg g]
theorem ck0 {α : Type} {y : Option α} : chk (0 : Int32) 12750 y = y := chk_n (i := 0) (by decide) (by decide)
theorem ck1 {α : Type} {y : Option α} : chk (1 : Int32) 12750 y = y := chk_n (i := 1) (by decide) (by decide)
theorem op_remind {b n : Nat} {M N : Mem} {f : Nat → Int32} (hS : SIM b M N f) (hn : 500 ≤ n) (a : Int32) : OPR b M N f (mX1_writeReminder n b a M) (mX11_remind n a (stF N f)) := by
  unfold mX1_writeReminder mX11_remind
  obtain ⟨hb, hC, hM, hRS, ⟨hI0, hRun⟩⟩ := id hS
  have h1 := hI0.2.1.1; have h1' := hI0.2.1.2
  have t1 := hI0.1.1; have t1' := hI0.1.2
  have e10 : ((1 : Int32) = 0) = False := eq_false (by decide)
  rcases beg_c hS a with ⟨x, hx, rfl, hA, e1, e3⟩ | ⟨e1, e3⟩
  · have hRA := hRS.2.2.2.1 x hx
    have a12 := hRA.2.2.2.2.2.2.2.2.2.2.2.2.1
    have hE := hRS.2.2.2.2
    obtain ⟨N', l1, l2⟩ := m_late (N := N) hI0 hx hn (f 0)
    have hS' : SIM b M N' f := ⟨hb, hC, CalM_NE hM l2, hRS, hI0, hRun⟩
    rw [e1, e3]
    simp only [bnp_some, e10, if_false]
    rw [chk_n hx (by decide), nI_clamp (by omega), hRS.1, a12, c_late hE hI0 hn rfl, ck0, show Int32.toNatClampNeg (0 : Int32) = 0 from rfl, stF_f, l1]
    simp only [bnp_some, bnd_some]
    by_cases L0 : LATE f x (f 0) = 0
    · rw [if_pos L0, if_pos L0]; exact ⟨_, M, N', f, rfl, rfl, hS', FD.rfl', l2, FX.rfl'⟩
    · rw [if_neg L0, if_neg L0]
      have room := room_c (k := 1) hRS hI0 (by decide)
      unfold mX5_haveFeeOn mX11_isRemindedToday
      have f5 := hI0.2.2.2.1.2.2.1
      have f51 := f5.1
      have hm := m_fee_go (n := n) (x := x) (N := N') h1 h1' (sz f) n 0 (by omega) (by omega)
      have hc := c_fee_go (n := n) (x := x) (day := f 0) hE h1 h1' (sz f) n 0 (by omega) (by omega)
      obtain ⟨c, c1, c2, c3⟩ := fee_eq (LATE f x (f 0)) f5.2
      simp (disch := omega) only [nI_lit, chk_n, nI_clamp, bnp_some, stF_f, h1, room, nI_eq, hm, hc]
      by_cases hs : sz f ≤ 399
      · rw [if_pos (show sz f + 1 ≤ 400 by omega), if_neg (by decide), if_neg (show ¬ sz f = 400 by omega)]
        rcases feO_01 f x (f 0) (sz f) 0 with q | q
        · rw [q, if_pos (show (0 : Int32) = nI 0 from rfl), if_pos (show (0 : Int32) = nI 0 from rfl), hRS.2.2.1.2.2.1, f51, c1, c2]
          obtain ⟨M', w1, w2, w3⟩ := c_write (k := 5) (fr := f 0) (to := f 0) (c := c) hRS hI0.2.2.2.1 h1 (by omega) hx
          have hI' := INV0_wr (k := 5) (c := c) hI0 hx hA (by omega) (by decide) t1 t1 t1' (Nat.le_refl _) (fun h => absurd h (by decide)) c3
          simp only [bnp_some]
          rw [w1, m_writes h1 (by omega) hx]
          exact ⟨_, _, N', _, rfl, rfl, ⟨hb, CalC_FD hb hC w3, CalM_NE hM l2, w2, hI', fun y hy => RUN_same hI' hy (hRun y hy) wr_tD (fun u hu => wr_A hy (by omega))⟩, w3, l2, FX_wr (by omega)⟩
        · rw [q, if_neg (show ¬ (1 : Int32) = nI 0 by decide), if_neg (show ¬ (1 : Int32) = nI 0 by decide)]
          exact ⟨_, M, N', f, rfl, rfl, hS', FD.rfl', l2, FX.rfl'⟩
      · rw [if_neg (show ¬ sz f + 1 ≤ 400 by omega), if_pos rfl, if_pos (show sz f = 400 by omega)]
        exact ⟨_, M, N', f, rfl, rfl, hS', FD.rfl', l2, FX.rfl'⟩
  · rw [e1, e3]; exact OPR_no hS _
