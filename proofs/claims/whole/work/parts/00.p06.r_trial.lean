/-! what is tried aside: ahead, when, check -/
theorem T_trial {M N M4 M7 N' : Mem} {f7 : Nat → Int32} (hT : TOT M N) (h4 : Fr 110 163 M M4) (hS : SIM 110 M7 N' f7) (hF : FD 110 M4 M7) (hN : NE N N') (hX : FX (cpR (N 209) 0 2 4250) f7) : TOT M7 (stF N' (cpR f7 2 0 4250)) := by
  obtain ⟨⟨hb, hC, hM, hRS, hI⟩, h57, h110, ⟨T, t1, t2, t3, t4⟩, h6, hK⟩ := hT
  have e7 : ∀ o k, o < 110 → M7 o k = M o k := fun o k h => (hF o k (by omega)).trans (h4 o k (by omega))
  have hf : ∀ j, j < 4250 → cpR f7 2 0 4250 j = N 209 j := fun j hj => by
    have h1 := cpR_i (f := f7) (p := 2) (q := 0) hj
    rw [show 4250 * 0 + j = j by omega] at h1
    rw [h1, hX _ (by omega), cpR_i hj]; congr 1; omega
  have hs : ∀ j, j < 4250 → secR (cpR f7 2 0 4250) 1 j = secR (N 209) 1 j := fun j hj => by
    unfold secR
    rw [cpR_o (by omega), hX _ (by omega), cpR_o (by omega)]
  refine ⟨⟨hb, CalC_eq hC (fun k => e7 _ _ (by omega)), CalM_stF (CalM_NE hM hN), ?_, ?_⟩, fun x hx => ?_, fun x hx => ?_, ⟨T, t1, ?_, ?_, fun i hi => ?_⟩, ?_, ?_⟩
  · rw [stF_f]; exact RS_row (RS_frame hRS hI.1 (fun o k g1 g2 => e7 _ _ (by omega))) hI.1 hf
  · rw [stF_f]; exact INV_row hI hf
  · rw [e7 _ _ (by omega)]; exact h57 x hx
  · exact (hS.2.2.2.1.2.2.2.1 x hx).1
  · rw [e7 _ _ (by omega)]; exact t2
  · rw [stF_o _ _ (by decide), hN 207 4 (by decide) (by decide) (by decide)]; exact t3
  · rw [e7 _ _ (by omega), stF_o _ _ (by decide), hN 210 i (by decide) (fun h => absurd h (by decide)) (by decide)]; exact t4 i hi
  · rw [e7 _ _ (by omega), stF_o _ _ (by decide), hN 207 2 (by decide) (by decide) (by decide)]; exact h6
  · rw [stF_f]
    rcases hK with q | ⟨q1, q2, q3⟩
    · exact Or.inl ((e7 _ _ (by omega)).trans q)
    · exact Or.inr ⟨(e7 _ _ (by omega)).trans q1, RS_row (RS_frame q2 q3.1 (fun o k g1 g2 => e7 _ _ (by omega))) q3.1 hs, INV_row q3 hs⟩
/-- the trial's start -/
theorem T_start {M N : Mem} {n : Nat} (hT : TOT M N) (hn : 20000 ≤ n) : ∃ M4, mX1_copyFrom n 110 4 M = some M4 ∧ Fr 110 163 M M4 ∧ mX11_copies n (0 : Int32) (2 : Int32) N = some (stF N (cpR (N 209) 0 2 4250)) ∧ SIM 110 M4 N (cpR (N 209) 0 2 4250) := by
  obtain ⟨⟨hb, hC, hM, hRS, hI⟩, h57, h110, hTap, h6, hK⟩ := hT
  obtain ⟨M4, p1, p2, p3⟩ := c_copy (b := 110) (s := 4) (n := n) hI.1 (by omega) hRS h110 (by omega)
  have hm := m_copies (p := 0) (q := 2) (n := n) (N := N) (f := N 209) (by decide) (by decide) (by decide) (by omega)
  rw [stF_self] at hm
  have hf : ∀ j, j < 4250 → cpR (N 209) 0 2 4250 j = N 209 j := fun j hj => cpR_o (by omega)
  exact ⟨M4, p1, p3, hm, by omega, CalC_eq hC (fun k => p3 _ _ (by omega)), hM, RS_row p2 hI.1 hf, INV_row hI hf⟩
theorem T_end {n : Nat} {N : Mem} {f : Nat → Int32} (hn : 20000 ≤ n) : mX11_copies n (2 : Int32) (0 : Int32) (stF N f) = some (stF N (cpR f 2 0 4250)) :=
  m_copies (p := 2) (q := 0) (n := n) (by decide) (by decide) (by decide) (by omega)
/-- both sides of begun, of the total relation -/
theorem T_beg {M N : Mem} (hT : TOT M N) (a : Int32) : (∃ x, x < 6 ∧ a = nI x ∧ IA1 (N 209) x ∧ mX1_hasBegun 4 a M = some 1 ∧ mX11_isBegun a N = some 1) ∨ (mX1_hasBegun 4 a M = some 0 ∧ mX11_isBegun a N = some 0) := by
  have := beg_c hT.1 a
  rw [stF_self] at this
  exact this
theorem RA13 {b x : Nat} {M : Mem} {f : Nat → Int32} (hR : RS b M f) (hx : x < 6) : M (b + 35 + 12 + x) 13 = allS f x := (hR.2.2.2.1 x hx).2.2.2.2.2.2.2.2.2.2.2.2.2
theorem q_ahead {M N : Mem} {n : Nat} (hT : TOT M N) (hn : 20000 ≤ n) (a c : Int32) : RES (mX10_ahead n a c M) (mX11_ahead n a c N) := by
  have e10 : ((1 : Int32) = 0) = False := eq_false (by decide)
  unfold mX10_ahead mX11_ahead
  rcases T_beg hT a with ⟨x, hx, rfl, hA, e1, e3⟩ | ⟨e1, e3⟩
  · rw [e1, e3]
    simp only [bnp_some, e10, if_false]
    rcases in_c c 0 400 401 0 400 rfl rfl rfl (by decide) (by decide) with ⟨q, hq1, hq, rfl, g1, g2, g3, g4⟩ | ⟨g4, g1⟩
    · rw [if_neg g1, if_pos (Int32.not_lt.mp g2), g4]
      obtain ⟨M4, p1, p2, p3, p4⟩ := T_start (n := n) hT hn
      simp only [bnp_some, e10, if_false]
      rw [p1, p3]
      simp only [bnp_some]
      rw [chk_n hx (by decide), nI_clamp (by omega)]
      obtain ⟨r, M7, f7, r1, r2, r3, r4, r5, r6⟩ := pass_go (N := N) (m := q) (b := 110) hq (n := n) (by omega) q n 0 M4 _ (by omega) (by omega) p4
      by_cases hq0 : nI q ≤ 0
      · have hq0' : q = 0 := by
          rw [show (0 : Int32) = nI 0 from rfl, nI_leI (by omega) (by omega)] at hq0; omega
        subst hq0'
        obtain ⟨n', rfl⟩ : ∃ n', n = n' + 1 := ⟨n - 1, by omega⟩
        rw [if_pos hq0]
        have hp : mX11_pass (n' + 1) (nI 0) (stF N (cpR (N 209) 0 2 4250)) = some (nI 0, stF N (cpR (N 209) 0 2 4250)) := by
          unfold mX11_pass mX11_pass_c2
          rw [if_pos (show nI 0 ≤ (0 : Int32) by decide)]; rfl
        rw [hp]
        simp only [bnd_some]
        rw [m_all p4.2.2.2.2.1 (by omega), T_end hn, show 145 + 12 + x = 110 + 35 + 12 + x by omega, RA13 p4.2.2.2.1 hx]
        exact ⟨_, _, _, rfl, rfl, T_trial hT p2 p4 FD.rfl' NE.rfl' FX.rfl'⟩
      · rw [if_neg hq0]
        have hq1 : ¬ nI q < 1 := fun h => hq0 (by
          rw [show (1 : Int32) = nI 1 from rfl, nI_ltI (by omega) (by omega)] at h
          rw [show (0 : Int32) = nI 0 from rfl, nI_leI (by omega) (by omega)]; omega)
        have hp : mX1_passDays n 110 (nI q) M4 = some (r, M7) := by
          unfold mX1_passDays
          rw [if_neg hq1, if_pos (Int32.not_lt.mp g2)]; exact r1
        have hp2 : mX11_pass n (nI q) (stF N (cpR (N 209) 0 2 4250)) = some (r, stF N f7) := r2
        rw [hp, hp2]
        simp only [bnd_some]
        rw [m_all r3.2.2.2.2.1 (by omega), T_end hn, chk_n hx (by decide), show 145 + 12 + x = 110 + 35 + 12 + x by omega, RA13 r3.2.2.2.1 hx]
        exact ⟨_, _, _, rfl, rfl, T_trial hT p2 r3 r4 NE.rfl' r5⟩
    · rw [g4]
      simp only [bnp_some, if_true]
      rcases g1 with g1 | ⟨g1, g2, g3⟩
      · rw [if_pos g1]; exact ⟨_, _, _, rfl, rfl, hT⟩
      · rw [if_neg g1, if_neg (Int32.not_le.mpr g2)]; exact ⟨_, _, _, rfl, rfl, hT⟩
  · rw [e1, e3]; exact ⟨_, _, _, rfl, rfl, hT⟩
/-- one day at most -/
theorem pass_1 {b n : Nat} {M N : Mem} {f : Nat → Int32} (hS : SIM b M N f) (hn : 20000 ≤ n) : (mX1_canPassDay n b M = some 0 ∧ mX11_pass n (1 : Int32) (stF N f) = some (0, stF N f)) ∨
    (mX1_canPassDay n b M = some 1 ∧ ∃ M' f', mX1_passDay n b M = some M' ∧ mX11_pass n (1 : Int32) (stF N f) = some (1, stF N f') ∧ SIM b M' N f' ∧ FD b M M' ∧ FX f f') := by
  have t1 := hS.2.2.2.2.1.1.1; have t1' := hS.2.2.2.2.1.1.2
  have e10 : ((1 : Int32) = 0) = False := eq_false (by decide)
  obtain ⟨n', rfl⟩ : ∃ n', n = n' + 1 + 1 := ⟨n - 2, by omega⟩
  rcases day_1 (n := n' + 1 + 1) hS (by omega) with ⟨e1, e2⟩ | ⟨e1, e2, M1, f1, e3, e4, e5, e6, e7⟩
  · refine Or.inl ⟨e1, ?_⟩
    unfold mX11_pass mX11_pass_c2
    rw [if_neg (show ¬ (1 : Int32) ≤ 0 by decide), e2]; rfl
  · refine Or.inr ⟨e1, M1, f1, e3, ?_, e5, e6, e7⟩
    unfold mX11_pass mX11_pass_c2
    rw [if_neg (show ¬ (1 : Int32) ≤ 0 by decide), e2]
    simp only [bnp_some, e10, if_false]
    rw [ck0, ck0, tn0, stF_f, t1, upd2_stF, show (1 : Int32) = nI 1 from rfl, nI_add]
    simp only [lt_eq]
    rw [show (0 : Int32) = nI 0 from rfl, e4]
    unfold mX11_pass_c2
    rw [if_pos (show nI 1 ≤ nI 0 + nI 1 by decide)]; rfl
theorem when_go {x n : Nat} {c : Int32} {N : Mem} (hx : x < 6) (hn : 20000 ≤ n) : ∀ (d k i : Nat) (M : Mem) (f : Nat → Int32), i + d = 400 → d + 1 < k → SIM 110 M N f → ∃ r M' f', mX10_when_c26 n k (nI x) c (nI i) M = some (r, M') ∧ mX11_when_c21 n k (nI x) c (nI i) (1 : Int32) (stF N f) = some (r, stF N (cpR f' 2 0 4250)) ∧ SIM 110 M' N f' ∧ FD 110 M M' ∧ FX f f'
  | d, 0, _, _, _, _, h, _ => absurd h (Nat.not_lt_zero _)
  | d, k + 1, i, M, f, e, h, hS => by
    have hall := m_all (N := N) (x := x) (n := n) hS.2.2.2.2.1 (by omega)
    have e10 : ((1 : Int32) = 0) = False := eq_false (by decide)
    have hi1 : ¬ (400 : Int32) < nI i := by rw [show (400 : Int32) = nI 400 from rfl, nI_ltI (by omega) (by omega)]; omega
    have fin : ∀ (f : Nat → Int32), SIM 110 M N f → mX11_when_c70 n (nI x) c (nI i) (stF N f) = if allS f x < c then some (-2, stF N (cpR f 2 0 4250)) else some (nI i, stF N (cpR f 2 0 4250)) := by
      intro f hS
      unfold mX11_when_c70
      rw [m_all hS.2.2.2.2.1 (by omega), T_end hn]
      rfl
    unfold mX10_when_c26
    rw [if_neg hi1, chk_n hx (by decide), nI_clamp (by omega), show 145 + 12 + x = 110 + 35 + 12 + x by omega, RA13 hS.2.2.2.1 hx]
    rcases Nat.eq_zero_or_pos d with hd | hd
    · have hi : i = 400 := by omega
      subst hi
      have hR : mX11_when_c21 n (k + 1) (nI x) c (nI 400) (1 : Int32) (stF N f) = mX11_when_c70 n (nI x) c (nI 400) (stF N f) := by
        unfold mX11_when_c21
        rw [if_neg (show ¬ (1 : Int32) = 0 by decide), if_pos (show (400 : Int32) ≤ nI 400 by decide)]
      rw [hR, fin f hS, if_pos (show nI 400 = (400 : Int32) from rfl)]
      by_cases q : allS f x < c
      · rw [if_pos q, if_pos q]; exact ⟨_, M, f, rfl, rfl, hS, FD.rfl', FX.rfl'⟩
      · rw [if_neg q, if_neg q]; exact ⟨_, M, f, rfl, rfl, hS, FD.rfl', FX.rfl'⟩
    · have hi2 : ¬ nI i = (400 : Int32) := by rw [show (400 : Int32) = nI 400 from rfl, nI_eq (by omega) (by omega)]; omega
      have hi3 : ¬ (400 : Int32) ≤ nI i := by rw [show (400 : Int32) = nI 400 from rfl, nI_leI (by omega) (by omega)]; omega
      rw [if_neg hi2]
      by_cases q : allS f x < c
      · rw [if_pos q]
        rcases pass_1 hS hn with ⟨e1, e2⟩ | ⟨e1, M1, f1, e3, e4, e5, e6, e7⟩
        · have hR : mX11_when_c21 n (k + 1) (nI x) c (nI i) (1 : Int32) (stF N f) = mX11_when_c70 n (nI x) c (nI i) (stF N f) := by
            obtain ⟨k', rfl⟩ : ∃ k', k = k' + 1 := ⟨k - 1, by omega⟩
            unfold mX11_when_c21
            rw [if_neg (show ¬ (1 : Int32) = 0 by decide), if_neg hi3, hall]
            simp only [bnp_some]
            rw [if_neg (Int32.not_le.mpr q), e2]
            simp only [bnd_some]
            rw [if_neg (show ¬ (0 : Int32) = 1 by decide), if_pos trivial]
            unfold mX11_when_c21
            rw [if_pos rfl]
          rw [hR, fin f hS, if_pos q, e1]
          exact ⟨_, M, f, rfl, rfl, hS, FD.rfl', FX.rfl'⟩
        · obtain ⟨r, M', f', r1, r2, r3, r4, r5⟩ := when_go (c := c) hx hn (d - 1) k (i + 1) M1 f1 (by omega) (by omega) e5
          refine ⟨r, M', f', ?_, ?_, r3, e6.trans r4, e7.trans r5⟩
          · rw [e1]
            simp only [bnp_some, e10, if_false]
            rw [e3]
            simp only [bnp_some]
            rw [show (1 : Int32) = nI 1 from rfl, nI_add]
            exact r1
          · unfold mX11_when_c21
            rw [if_neg (show ¬ (1 : Int32) = 0 by decide), if_neg hi3, hall]
            simp only [bnp_some]
            rw [if_neg (Int32.not_le.mpr q), e4]
            simp only [bnd_some]
            rw [if_pos trivial, if_neg (show ¬ (1 : Int32) = 0 by decide)]
            rw [show nI i + (1 : Int32) = nI (i + 1) from nI_add ..]
            exact r2
      · rw [if_neg q]
        have hR : mX11_when_c21 n (k + 1) (nI x) c (nI i) (1 : Int32) (stF N f) = mX11_when_c70 n (nI x) c (nI i) (stF N f) := by
          unfold mX11_when_c21
          rw [if_neg (show ¬ (1 : Int32) = 0 by decide), if_neg hi3, hall]
          simp only [bnp_some]
          rw [if_pos (Int32.not_lt.mp q)]
        rw [hR, fin f hS, if_neg q]
        exact ⟨_, M, f, rfl, rfl, hS, FD.rfl', FX.rfl'⟩
theorem q_when {M N : Mem} {n : Nat} (hT : TOT M N) (hn : 20000 ≤ n) (a c : Int32) : RES (mX10_when n a c M) (mX11_when n a c N) := by
  have e10 : ((1 : Int32) = 0) = False := eq_false (by decide)
  unfold mX10_when mX11_when
  rcases T_beg hT a with ⟨x, hx, rfl, hA, e1, e3⟩ | ⟨e1, e3⟩
  · rw [e1, e3]
    simp only [bnp_some, e10, if_false]
    obtain ⟨M4, p1, p2, p3, p4⟩ := T_start (n := n) hT hn
    rw [p1, p3]
    simp only [bnp_some]
    obtain ⟨r, M7, f7, r1, r2, r3, r4, r5⟩ := when_go (c := c) (N := N) hx hn 400 n 0 M4 _ (by omega) (by omega) p4
    exact ⟨r, M7, _, r1, r2, T_trial hT p2 r3 r4 NE.rfl' r5⟩
  · rw [e1, e3]; exact ⟨_, _, _, rfl, rfl, hT⟩
/-! check -/
def badC (f : Nat → Int32) (t : Nat → Int32) (i : Nat) : Prop := ¬ (i < sz f ∧ fE f i 7 &&& 255 = t i &&& 255)
noncomputable def fbC (f : Nat → Int32) (t : Nat → Int32) : Nat → Nat → Int32
  | _, 0 => -1
  | i, d + 1 => @ite _ (badC f t i) (Classical.propDecidable _) (nI i) (fbC f t (i + 1) d)
theorem fbC_b {f t : Nat → Int32} {i d : Nat} (h : badC f t i) : fbC f t i (d + 1) = nI i := by unfold fbC; exact if_pos h
theorem fbC_g {f t : Nat → Int32} {i d : Nat} (h : ¬ badC f t i) : fbC f t i (d + 1) = fbC f t (i + 1) d := by
  show @ite _ (badC f t i) (Classical.propDecidable _) (nI i) (fbC f t (i + 1) d) = _
  exact if_neg h
theorem has_c {e i : Nat} {M : Mem} {f : Nat → Int32} (hE : RE e M f) (h1 : f 1 = nI (sz f)) (hs : sz f ≤ 400) (hi : i < 400) : mX5_has e (nI i) M = some (if i < sz f then 1 else 0) := by
  unfold mX5_has
  rw [if_neg (nI_pos (by omega)), hE.1, h1]
  by_cases q : i < sz f
  · rw [if_neg (by rw [nI_leI (by omega) (by omega)]; omega), if_neg (by rw [show (400 : Int32) = nI 400 from rfl, nI_leI (by omega) (by omega)]; omega), if_pos q]
  · rw [if_pos (by rw [nI_leI (by omega) (by omega)]; omega), if_neg q]
theorem c_chk_go {n m : Nat} {M : Mem} {f : Nat → Int32} (hE : RE 40 M f) (h1 : f 1 = nI (sz f)) (hs : sz f ≤ 400) (hm : m ≤ 400) : ∀ (d k i : Nat), i + d = m → d < k → mX10_check_c29 n k (nI m) (nI i) M = some (fbC f (M 1) i d, M)
  | d, 0, _, _, h => absurd h (Nat.not_lt_zero _)
  | 0, k + 1, i, e, h => by
    unfold mX10_check_c29
    rw [if_pos (by rw [nI_leI (by omega) (by omega)]; omega)]; rfl
  | d + 1, k + 1, i, e, h => by
    have ih := c_chk_go (n := n) hE h1 hs hm d k (i + 1) (by omega) (by omega)
    unfold mX10_check_c29
    rw [if_neg (by rw [nI_leI (by omega) (by omega)]; omega), if_neg (by rw [show (400 : Int32) = nI 400 from rfl, nI_leI (by omega) (by omega)]; omega), has_c hE h1 hs (by omega)]
    simp only [bnp_some]
    by_cases q : i < sz f
    · rw [if_pos q, if_neg (show ¬ (1 : Int32) = 0 by decide), chk_n (by omega) (by omega), chk_n (by omega) (by omega), nI_clamp (by omega), show M 48 i = fE f i 7 from (hE.2 i q).2.2.2.2.2.2.2.1]
      by_cases q2 : fE f i 7 &&& 255 = M 1 i &&& 255
      · rw [if_pos q2, show (1 : Int32) = nI 1 from rfl, nI_add, ih, fbC_g (fun g => g ⟨q, q2⟩)]
      · rw [if_neg q2, fbC_b (fun g => q2 g.2)]
    · rw [if_neg q, if_pos rfl, fbC_b (fun g => q g.1)]
theorem m_chk_go {n m : Nat} {t : Nat → Int32} {N : Mem} {f : Nat → Int32} (hf : N 209 = f) (h1 : f 1 = nI (sz f)) (hs : sz f ≤ 400) (hm : m ≤ 400) (ht : ∀ i, i < m → N 210 i = t i) : ∀ (i k d : Nat), i + d = m → i < k → mX11_check_c28 n k (fbC f t i d) (iI ((i : Int) - 1)) N = some (fbC f t 0 m, upd2 N 207 4 0)
  | i, 0, _, _, h => absurd h (Nat.not_lt_zero _)
  | 0, k + 1, d, e, h => by
    unfold mX11_check_c28
    rw [if_pos (show iI (((0 : Nat) : Int) - 1) < 0 by decide)]
    have : d = m := by omega
    rw [this]
  | i + 1, k + 1, d, e, h => by
    have ih := m_chk_go (n := n) hf h1 hs hm ht i k (d + 1) (by omega) (by omega)
    have e1 : iI (((i + 1 : Nat) : Int) - 1) = nI i := by rw [iI_n]; congr 1; omega
    have e2 : nI i + -1 = iI ((i : Int) - 1) := by
      rw [show (-1 : Int32) = iI (-1) from rfl, iI_n, iI_add]; congr 1
    have hent : mX11_entryOf (nI i) (7 : Int32) N = some (fE f i 7) := by
      rw [← hf]; exact m_entryOf (by omega) (by decide)
    unfold mX11_check_c28
    rw [e1, if_neg (nI_pos (by omega)), ck1, show Int32.toNatClampNeg (1 : Int32) = 1 from rfl, hf, h1, e2]
    by_cases q : i < sz f
    · rw [if_neg (by rw [nI_leI (by omega) (by omega)]; omega), chk_n (by omega) (by omega), hent, nI_clamp (by omega), ht i (by omega)]
      simp only [bnp_some]
      by_cases q2 : fE f i 7 &&& 255 = t i &&& 255
      · rw [if_pos q2.symm]
        rw [fbC_g (fun g => g ⟨q, q2⟩)] at ih
        exact ih
      · rw [if_neg (fun g => q2 g.symm)]
        rw [fbC_b (fun g => q2 g.2)] at ih
        exact ih
    · rw [if_pos (by rw [nI_leI (by omega) (by omega)]; omega)]
      rw [fbC_b (fun g => q g.1)] at ih
      exact ih
theorem q_check {M N : Mem} {n : Nat} (hT : TOT M N) (hn : 20000 ≤ n) (a : Int32) : RES (mX10_check n a M) (mX11_check n a N) := by
  have e10 : ((1 : Int32) = 0) = False := eq_false (by decide)
  obtain ⟨⟨hb, hC, hM, hRS, hI⟩, h57, h110, ⟨T, t1, t2, t3, t4⟩, h6, hK⟩ := id hT
  unfold mX10_check mX11_check
  rcases in_c a 0 400 401 0 400 rfl rfl rfl (by decide) (by decide) with ⟨q, hq1, hq, rfl, g1, g2, g3, g4⟩ | ⟨g4, g1⟩
  · rw [if_neg g1, if_neg g2, g4]
    simp only [bnp_some, e10, if_false]
    rw [t2, t3]
    by_cases h : q ≤ T
    · have h' : nI q ≤ nI T := by rw [nI_leI (by omega) (by omega)]; exact h
      rw [if_pos h', if_pos h']
      have hE' : RE 40 (upd2 M 0 1 0) (N 209) := RE_congrM hRS.2.2.2.2 (fun o k g1 g2 => u2o _ _ (by omega))
      have hc := c_chk_go (n := n) hE' hI.1.2.1.1 hI.1.2.1.2 hq q n 0 (by omega) (by omega)
      have e1 : upd2 M 0 1 0 1 = M 1 := funext fun k => u2o _ _ (by decide)
      rw [e1] at hc
      have hm := m_chk_go (n := n) (t := M 1) (N := N) rfl hI.1.2.1.1 hI.1.2.1.2 hq (fun i hi => (t4 i (by omega)).symm) q n 0 (by omega) (by omega)
      have e2 : nI q - 1 = iI ((q : Int) - 1) := by
        rw [show (1 : Int32) = nI 1 from rfl, nI_subI]; congr 1
      rw [e2, show mX10_check_c29 n n (nI q) 0 (upd2 M 0 1 0) = _ from hc, show mX11_check_c28 n n (-1) (iI ((q : Int) - 1)) N = _ from hm]
      refine ⟨_, _, _, rfl, rfl, T_tape hT (fun o k g => ?_) (fun o k g => ?_) ⟨0, by omega, u2s _ _ _ _, u2s _ _ _ _, fun i hi => absurd hi (Nat.not_lt_zero _)⟩⟩
      · by_cases z : o = 0
        · subst z; exact u2k _ _ (by omega)
        · exact u2o _ _ z
      · by_cases z : o = 207
        · subst z; exact u2k _ _ (by omega)
        · exact u2o _ _ z
    · have h' : ¬ nI q ≤ nI T := by rw [nI_leI (by omega) (by omega)]; exact h
      rw [if_neg h', if_neg h']
      exact ⟨_, _, _, rfl, rfl, hT⟩
  · rw [g4]
    simp only [bnp_some, if_true]
    rcases g1 with g1 | ⟨g1, g2, g3⟩
    · rw [if_pos g1]; exact ⟨_, _, _, rfl, rfl, hT⟩
    · rw [if_neg g1, if_pos g2]; exact ⟨_, _, _, rfl, rfl, hT⟩
