/-! late, open, owes; taxes -/
theorem T_ne2 {M N N' : Mem} {r : Int32} {mc : Option Int32} {mm : Option (Int32 × Mem)} (hT : TOT M N) (h1 : mc = some r) (h2 : mm = some (r, stF N' (N 209))) (h : NE N N') : PX M mc mm := ⟨r, _, h1, h2, T_ne hT h⟩
theorem q_late {M N : Mem} {n : Nat} (hT : TOT M N) (hn : 20000 ≤ n) (a b : Int32) : PX M (mX10_late n a b M) (mX11_late n a b N) := by
  have e10 : ((1 : Int32) = 0) = False := eq_false (by decide)
  obtain ⟨⟨hb, hC, hM, hRS, hI⟩, -⟩ := id hT
  have t1 := hI.1.1.1; have t2 := hI.1.1.2
  unfold mX10_late mX11_late
  rcases T_beg hT a with ⟨x, hx, rfl, hA, e1, e3⟩ | ⟨e1, e3⟩
  · have hRA := hRS.2.2.2.1 x hx
    have a12 := hRA.2.2.2.2.2.2.2.2.2.2.2.2.1
    rw [e1, e3]
    simp only [bnp_some, e10, if_false]
    rw [ck0, tn0, hRS.1, t1]
    rcases in_c b (nI (tD (N 209))) 3652 3653 (tD (N 209)) 3652 rfl (nI_lit 3652) (nI_lit 3653) t2 (by decide) with ⟨q, hq1, hq, rfl, g1, g2, g3, g4⟩ | ⟨g4, g1⟩
    · rw [if_neg g1, if_pos (Int32.not_lt.mp g2), g4]
      simp only [bnp_some, e10, if_false]
      rw [chk_n hx (by decide), nI_clamp (by omega), show 39 + 12 + x = 4 + 35 + 12 + x by omega, a12, c_late hRS.2.2.2.2 hI.1 (by omega) rfl]
      obtain ⟨N', l1, l2⟩ := m_late (N := N) (n := n) hI.1 hx (by omega) (nI q)
      rw [stF_self] at l1
      rw [l1]
      exact T_ne2 hT rfl rfl l2
    · rw [g4]
      rcases g1 with g1 | ⟨g1, g2, g3⟩
      · rw [if_pos g1]; exact ⟨_, _, rfl, rfl, hT⟩
      · rw [if_neg g1, if_neg (Int32.not_le.mpr g2)]; exact ⟨_, _, rfl, rfl, hT⟩
  · rw [e1, e3]; exact ⟨_, _, rfl, rfl, hT⟩
theorem c_open_go {n e x : Nat} {M : Mem} {f : Nat → Int32} (hE : RE 40 M f) (h1 : f 1 = nI (sz f)) (hs : sz f ≤ 400) (he : e < sz f) (hx : fE f e 1 = nI x) : ∀ (d k i : Nat) (l : Int32), i + d = e → d < k → l = LF f x 0 i (COV f x) → mX5_openOf_c34 n k 40 (nI e) l (nI i) M = some (fE f e 7 - mnC (LF f x 0 e (COV f x)) (fE f e 7))
  | d, 0, _, _, _, h, _ => absurd h (Nat.not_lt_zero _)
  | 0, k + 1, i, l, e0, h, hl => by
    have hi : i = e := by omega
    subst hi
    have r8 := (hE.2 i he).2.2.2.2.2.2.2.1
    unfold mX5_openOf_c34
    rw [if_pos (by rw [nI_leI (by omega) (by omega)]; omega), chk_n (show i < 400 by omega) (by decide), chk_n (show i < 400 by omega) (by decide), nI_clamp (by omega), r8, hl]
    rfl
  | d + 1, k + 1, i, l, e0, h, hl => by
    have ih := fun l => c_open_go (n := n) hE h1 hs he hx d k (i + 1) l (by omega) (by omega)
    have hi : i < sz f := by omega
    have r8 := (hE.2 i hi).2.2.2.2.2.2.2.1
    have r2 := (hE.2 e he).2.1
    have hL := LF_last f x i 0 (COV f x)
    rw [Nat.zero_add, ← hl] at hL
    unfold mX5_openOf_c34
    rw [if_neg (by rw [nI_leI (by omega) (by omega)]; omega), chk_n (show e < 400 by omega) (by decide), show (Int32.toNatClampNeg (nI e)) = e from nI_clamp (by omega), show M (40 + 2) e = nI x from r2.trans hx, c_isOf hE h1 hs hi]
    simp (disch := omega) only [bnp_some, chk_n, nI_clamp, r8]
    rw [show nI i + (1 : Int32) = nI (i + 1) from nI_add ..]
    by_cases t : fE f i 1 = nI x
    · simp only [t, if_true]
      rw [if_neg (show ¬ (1 : Int32) = 0 by decide)]
      by_cases t2 : fE f i 7 ≤ 0
      · have hno : ¬ opC f x i := fun q => absurd q.2 (Int32.not_lt.mpr t2)
        rw [if_neg hno] at hL
        rw [if_pos t2, ih l hL.symm]
      · have hyes : opC f x i := ⟨t, Int32.not_le.mp t2⟩
        rw [if_pos hyes] at hL
        rw [if_neg t2]
        exact ih _ hL.symm
    · have hno : ¬ opC f x i := fun q => t q.1
      rw [if_neg hno] at hL
      simp only [t, if_false, if_true]
      rw [ih l hL.symm]
theorem c_openOf {n e x : Nat} {M : Mem} {f : Nat → Int32} {p : Int32} (hE : RE 40 M f) (hI : INV0 f) (he : e < sz f) (hx : fE f e 1 = nI x) (hp : p = fA f x 9) (hn : 20000 ≤ n) : mX5_openOf n 40 (nI e) p M = some (OPV f x e (LF f x 0 e (COV f x))) := by
  have h1 := hI.2.1.1; have hs := hI.2.1.2
  have r8 := (hE.2 e he).2.2.2.2.2.2.2.1
  have r2 := (hE.2 e he).2.1
  unfold mX5_openOf
  rw [has_c hE h1 hs (by omega), if_pos he]
  simp only [bnp_some]
  rw [if_neg (show ¬ (1 : Int32) = 0 by decide), chk_n (show e < 400 by omega) (by decide), chk_n (show e < 400 by omega) (by decide), show (Int32.toNatClampNeg (nI e)) = e from nI_clamp (by omega), show M (40 + 8) e = fE f e 7 from r8, show M (40 + 2) e = nI x from r2.trans hx, c_cov hE hI (by omega) hp]
  simp only [bnp_some]
  unfold OPV
  by_cases t : 0 < fE f e 7
  · rw [if_pos t, if_pos ⟨hx, t⟩]
    exact c_open_go (n := n) hE h1 hs he hx e n 0 _ (by omega) (by omega) rfl
  · rw [if_neg t, if_neg (fun q => t q.2)]
theorem q_open {M N : Mem} {n : Nat} (hT : TOT M N) (hn : 20000 ≤ n) (a : Int32) : PX M (mX10_open n a M) (mX11_open n a N) := by
  have e10 : ((1 : Int32) = 0) = False := eq_false (by decide)
  obtain ⟨⟨hb, hC, hM, hRS, hI⟩, -⟩ := id hT
  have h1 := hI.1.2.1.1; have hs := hI.1.2.1.2
  have hE : RE 40 M (N 209) := hRS.2.2.2.2
  unfold mX10_open mX11_open
  have := ent_c (N := N) hE h1 hs a
  rw [stF_self] at this
  rcases this with ⟨e, he, rfl, e1, e3⟩ | ⟨e1, e3⟩
  · rw [e1, e3]
    simp only [bnp_some, e10, if_false]
    obtain ⟨i0, i1, i2⟩ := hI.1.2.2.2.2.2 e he
    have ho := i1.1; have hox := i1.2
    have r2 : M 42 e = nI (eO (N 209) e) := ((hE.2 e he).2.1).trans ho
    have a12 := (hRS.2.2.2.1 (eO (N 209) e) (by omega)).2.2.2.2.2.2.2.2.2.2.2.2.1
    have hent : mX11_entryOf (nI e) (1 : Int32) N = some (nI (eO (N 209) e)) := by
      rw [← ho]; exact m_entryOf (by omega) (by decide)
    obtain ⟨N', p1, p2, p3, p4⟩ := m_covers (N := N) (n := n) hI.1 (show eO (N 209) e < 6 by omega) (by omega)
    rw [stF_self] at p1
    rw [hent, chk_n (show e < 400 by omega) (by decide), show (Int32.toNatClampNeg (nI e)) = e from nI_clamp (by omega), r2, isAcc1 _ (by omega)]
    simp only [bnp_some, e10, if_false]
    rw [p1, chk_n (show eO (N 209) e < 6 by omega) (by decide), nI_clamp (by omega), show 39 + 12 + eO (N 209) e = 4 + 35 + 12 + eO (N 209) e by omega, a12, c_openOf hE hI.1 he ho rfl hn]
    simp only [bnp_some]
    rw [chk_n (show e < 400 by omega) (by decide), stF_o _ _ (by decide), p4 e he]
    exact T_ne2 hT rfl rfl p2
  · rw [e1, e3]; exact ⟨_, _, rfl, rfl, hT⟩
theorem owes_go {n x : Nat} {M N : Mem} {f : Nat → Int32} {w : Int32} (hE : RE 40 M f) (h1 : f 1 = nI (sz f)) (hs : sz f ≤ 400) (h21 : N 207 21 = LF f x 0 (sz f) (COV f x)) (hN : ∀ j, j < sz f → N 217 j = OPV f x j (LF f x 0 j (COV f x))) :
    ∀ (d k i m : Nat) (l q s : Int32), i + d = sz f → d < k → l = LF f x 0 i (COV f x) → m ≤ i → ((m = 0 ∧ q = -2) ∨ (0 < m ∧ ∃ j, j < 400 ∧ q = nI j)) → ∃ r, mX5_tellOpen_c21 n k 40 (nI x) w l (nI m) q s (nI i) M = some r ∧ mX11_owes_c36 n k w (nI m) q s (nI i) (stF N f) = some (r, stF N f)
  | d, 0, _, _, _, _, _, _, h, _, _, _ => absurd h (Nat.not_lt_zero _)
  | 0, k + 1, i, m, l, q, s, e0, h, hl, hm, hq => by
    have hi : i = sz f := by omega
    have hp : nI (sz f) ≤ nI i := by rw [nI_leI (by omega) (by omega)]; omega
    unfold mX5_tellOpen_c21 mX11_owes_c36
    rw [hE.1, h1, ck1, show Int32.toNatClampNeg (1 : Int32) = 1 from rfl, stF_f, h1, if_pos hp, if_pos hp, show stF N f 207 = N 207 from stF_o _ _ (by decide), h21, hl, hi]
    by_cases c0 : w = 0
    · rw [if_pos c0, if_pos c0]; exact ⟨_, rfl, rfl⟩
    · rw [if_neg c0, if_neg c0]
      by_cases c1 : w = 1
      · rw [if_pos c1, if_pos c1]; exact ⟨_, rfl, rfl⟩
      · rw [if_neg c1, if_neg c1]
        by_cases c2 : w = 2
        · rw [if_pos c2, if_pos c2]; exact ⟨_, rfl, rfl⟩
        · rw [if_neg c2, if_neg c2]; exact ⟨_, rfl, rfl⟩
  | d + 1, k + 1, i, m, l, q, s, e0, h, hl, hm, hq => by
    have ih := fun m l q s => owes_go (n := n) (w := w) hE h1 hs h21 hN d k (i + 1) m l q s (by omega) (by omega)
    have hi : i < sz f := by omega
    have r8 : M (40 + 8) i = fE f i 7 := (hE.2 i hi).2.2.2.2.2.2.2.1
    have hL := LF_last f x i 0 (COV f x)
    rw [Nat.zero_add, ← hl] at hL
    have hNi := hN i hi
    rw [← hl] at hNi
    have hp : ¬ nI (sz f) ≤ nI i := by rw [nI_leI (by omega) (by omega)]; omega
    unfold mX5_tellOpen_c21 mX11_owes_c36
    rw [c_isOf hE h1 hs hi, hE.1, h1, ck1, show Int32.toNatClampNeg (1 : Int32) = 1 from rfl, stF_f, h1, if_neg hp, if_neg hp, show stF N f 217 = N 217 from stF_o _ _ (by decide)]
    simp (disch := omega) only [bnp_some, chk_n, nI_clamp, r8, hNi]
    rw [show nI i + (1 : Int32) = nI (i + 1) from nI_add .., show nI m + (1 : Int32) = nI (m + 1) from nI_add ..]
    by_cases hyes : opC f x i
    · have hO : OPV f x i l = fE f i 7 - mnC l (fE f i 7) := if_pos hyes
      rw [if_pos hyes] at hL
      rw [hO, if_pos hyes.1, if_neg (show ¬ (1 : Int32) = 0 by decide), if_neg (Int32.not_le.mpr hyes.2)]
      show ∃ r, (if fE f i 7 ≤ mnC l (fE f i 7) then mX5_tellOpen_c21 n k 40 (nI x) w (l - mnC l (fE f i 7)) (nI m) q s (nI (i + 1)) M else if nI m = 0 then mX5_tellOpen_c21 n k 40 (nI x) w (l - mnC l (fE f i 7)) (nI (m + 1)) (nI i) (s + (fE f i 7 - mnC l (fE f i 7))) (nI (i + 1)) M else mX5_tellOpen_c21 n k 40 (nI x) w (l - mnC l (fE f i 7)) (nI (m + 1)) q (s + (fE f i 7 - mnC l (fE f i 7))) (nI (i + 1)) M) = some r ∧ _
      have hle : mnC l (fE f i 7) ≤ fE f i 7 := by
        unfold mnC
        by_cases z : fE f i 7 < l
        · rw [if_pos z]; exact Int32.le_refl _
        · rw [if_neg z]; exact Int32.not_lt.mp z
      by_cases t : fE f i 7 ≤ mnC l (fE f i 7)
      · have eq : mnC l (fE f i 7) = fE f i 7 := Int32.le_antisymm hle t
        rw [if_pos t]
        have z0 : fE f i 7 - mnC l (fE f i 7) = 0 := by rw [eq, Int32.sub_self]
        rw [if_pos z0]
        exact ih m _ q s hL.symm (by omega) hq
      · rw [if_neg t]
        have z0 : ¬ fE f i 7 - mnC l (fE f i 7) = 0 := by
          intro z
          have : fE f i 7 = mnC l (fE f i 7) := by
            have := congrArg (· + mnC l (fE f i 7)) z
            simp only [Int32.sub_add_cancel, Int32.zero_add] at this
            exact this
          exact t (by rw [← this]; exact Int32.le_refl _)
        rw [if_neg z0]
        rcases hq with ⟨q1, q2⟩ | ⟨q1, j, j1, j2⟩
        · have c1 : nI m = 0 := by rw [q1]; rfl
          have c2 : ¬ (0 : Int32) ≤ q := by rw [q2]; decide
          rw [if_pos c1, if_neg c2]
          exact ih (m + 1) _ (nI i) _ hL.symm (by omega) (Or.inr ⟨by omega, i, by omega, rfl⟩)
        · have c1 : ¬ nI m = 0 := by rw [show (0 : Int32) = nI 0 from rfl, nI_eq (by omega) (by omega)]; omega
          have c2 : (0 : Int32) ≤ q := by rw [j2, show (0 : Int32) = nI 0 from rfl, nI_leI (by omega) (by omega)]; omega
          rw [if_neg c1, if_pos c2]
          exact ih (m + 1) _ q _ hL.symm (by omega) (Or.inr ⟨by omega, j, j1, j2⟩)
    · have hO : OPV f x i l = 0 := if_neg hyes
      rw [if_neg hyes] at hL
      rw [hO, if_pos rfl]
      by_cases t : fE f i 1 = nI x
      · have t2 : fE f i 7 ≤ 0 := Int32.not_lt.mp (fun z => hyes ⟨t, z⟩)
        rw [if_pos t, if_neg (show ¬ (1 : Int32) = 0 by decide), if_pos t2]
        exact ih m _ q s hL.symm (by omega) hq
      · rw [if_neg t, if_pos rfl]
        exact ih m _ q s hL.symm (by omega) hq
theorem q_owes {M N : Mem} {n : Nat} (hT : TOT M N) (hn : 20000 ≤ n) (a b : Int32) : PX M (mX10_owes n a b M) (mX11_owes n a b N) := by
  have e10 : ((1 : Int32) = 0) = False := eq_false (by decide)
  obtain ⟨⟨hb, hC, hM, hRS, hI⟩, -⟩ := id hT
  have h1 := hI.1.2.1.1; have hs := hI.1.2.1.2
  unfold mX10_owes mX11_owes
  rcases T_beg hT a with ⟨x, hx, rfl, hA, e1, e3⟩ | ⟨e1, e3⟩
  · have a12 := (hRS.2.2.2.1 x hx).2.2.2.2.2.2.2.2.2.2.2.2.1
    rw [e1, e3]
    simp only [bnp_some, e10, if_false]
    rcases in_c b 0 3 4 0 3 rfl rfl rfl (by decide) (by decide) with ⟨q, hq1, hq, rfl, g1, g2, g3, g4⟩ | ⟨g4, g1⟩
    · rw [if_neg g1, if_pos (Int32.not_lt.mp g2), g4]
      simp only [bnp_some, e10, if_false]
      obtain ⟨N', p1, p2, p3, p4⟩ := m_covers (N := N) (n := n) hI.1 hx (by omega)
      rw [stF_self] at p1
      obtain ⟨r, o1, o2⟩ := owes_go (n := n) (w := nI q) hRS.2.2.2.2 h1 hs p3 p4 (sz (N 209)) n 0 0 (COV (N 209) x) (-2) 0 (by omega) (by omega) rfl (Nat.le_refl _) (Or.inl ⟨rfl, rfl⟩)
      rw [p1, chk_n hx (by decide), nI_clamp (by omega), show 39 + 12 + x = 4 + 35 + 12 + x by omega, a12]
      unfold mX5_tellOpen
      rw [c_cov hRS.2.2.2.2 hI.1 (by omega) rfl]
      simp only [bnp_some, bnp_id]
      exact T_ne2 hT o1 o2 p2
    · rw [g4]
      rcases g1 with g1 | ⟨g1, g2, g3⟩
      · rw [if_pos g1]; exact ⟨_, _, rfl, rfl, hT⟩
      · rw [if_neg g1, if_neg (Int32.not_le.mpr g2)]; exact ⟨_, _, rfl, rfl, hT⟩
  · rw [e1, e3]; exact ⟨_, _, rfl, rfl, hT⟩
/-! taxes -/
def rtF (f : Nat → Int32) (day : Int32) : Nat → Nat → Int32 → Int32
  | _, 0, r => r
  | i, d + 1, r => rtF f day (i + 1) d (if day < f (7 + i) then r else f (11 + i))
def RATE (f : Nat → Int32) (day : Int32) : Int32 := rtF f day 0 (nX f) 0
theorem rtF_s (f : Nat → Int32) (day : Int32) (i d : Nat) (r : Int32) : rtF f day i (d + 1) r = rtF f day (i + 1) d (if day < f (7 + i) then r else f (11 + i)) := rfl
theorem c_rate_go {n t : Nat} {M : Mem} {f : Nat → Int32} {day : Int32} (hT : RT t M f) (hI : IT f) : ∀ (d k i : Nat) (r : Int32), i + d = nX f → d < k → mX9_rateOn_c4 n k t day r (nI i) M = some (rtF f day i d r)
  | d, 0, _, _, _, h => absurd h (Nat.not_lt_zero _)
  | 0, k + 1, i, r, e, h => by
    have h6 := hI.2.2.2.1.1; have h6' := hI.2.2.2.1.2
    unfold mX9_rateOn_c4
    rw [hT.2.2.2.1, h6, if_pos (by rw [nI_leI (by omega) (by omega)]; omega)]; rfl
  | d + 1, k + 1, i, r, e, h => by
    have h6 := hI.2.2.2.1.1; have h6' := hI.2.2.2.1.2
    have ih := fun r => c_rate_go (n := n) (day := day) hT hI d k (i + 1) r (by omega) (by omega)
    obtain ⟨r1, r2⟩ := hT.2.2.2.2.1 i (by omega)
    unfold mX9_rateOn_c4
    rw [hT.2.2.2.1, h6, if_neg (by rw [nI_leI (by omega) (by omega)]; omega), if_neg (by rw [show (4 : Int32) = nI 4 from rfl, nI_leI (by omega) (by omega)]; omega), chk_n (show i < 4 by omega) (by decide), chk_n (show i < 4 by omega) (by decide), nI_clamp (by omega), r1, r2, show nI i + (1 : Int32) = nI (i + 1) from nI_add .., rtF_s]
    by_cases q : day < f (7 + i)
    · rw [if_pos q, if_pos q, ih]
    · rw [if_neg q, if_neg q, ih]
theorem m_rate_go {n : Nat} {N : Mem} {f : Nat → Int32} {day : Int32} (hI : IT f) : ∀ (d k i : Nat) (r : Int32), i + d = nX f → d < k → mX11_rateOn_c4 n k day r (nI i) (stF N f) = some (rtF f day i d r)
  | d, 0, _, _, _, h => absurd h (Nat.not_lt_zero _)
  | 0, k + 1, i, r, e, h => by
    have h6 := hI.2.2.2.1.1; have h6' := hI.2.2.2.1.2
    unfold mX11_rateOn_c4
    simp (disch := omega) only [nI_lit, chk_n, nI_clamp, stF_f, h6]
    rw [if_pos (by rw [nI_leI (by omega) (by omega)]; omega)]; rfl
  | d + 1, k + 1, i, r, e, h => by
    have h6 := hI.2.2.2.1.1; have h6' := hI.2.2.2.1.2
    have ih := fun r => m_rate_go (n := n) (N := N) (day := day) hI d k (i + 1) r (by omega) (by omega)
    unfold mX11_rateOn_c4
    simp (disch := omega) only [nI_lit, chk_n, nI_clamp, stF_f, h6, nI_add]
    rw [if_neg (by rw [nI_leI (by omega) (by omega)]; omega), rtF_s]
    by_cases q : day < f (7 + i)
    · rw [if_pos q, if_pos q, ih]
    · rw [if_neg q, if_neg q, ih]
theorem c_rate {n t : Nat} {M : Mem} {f : Nat → Int32} (day : Int32) (hT : RT t M f) (hI : IT f) (hn : 500 ≤ n) : mX9_rateOn n t day M = some (RATE f day) :=
  c_rate_go (n := n) hT hI (nX f) n 0 0 (by omega) (by have := hI.2.2.2.1.2; omega)
theorem m_rate {n : Nat} {N : Mem} {f : Nat → Int32} (day : Int32) (hI : IT f) (hn : 500 ≤ n) : mX11_rateOn n day (stF N f) = some (RATE f day) :=
  m_rate_go (n := n) hI (nX f) n 0 0 (by omega) (by have := hI.2.2.2.1.2; omega)
abbrev txC (f : Nat → Int32) (a rt : Int32) (i : Nat) : Prop := fE f i 1 = a ∧ RATE f (fE f i 2) = rt
def SX (f : Nat → Int32) (a rt : Int32) : Nat → Nat → Int64 → Int64
  | _, 0, s => s
  | i, d + 1, s => SX f a rt (i + 1) d (if txC f a rt i then s + Int32.toInt64 (fE f i 7) else s)
theorem SX_s (f : Nat → Int32) (a rt : Int32) (i d : Nat) (s : Int64) : SX f a rt i (d + 1) s = SX f a rt (i + 1) d (if txC f a rt i then s + Int32.toInt64 (fE f i 7) else s) := rfl
theorem SX_last (f : Nat → Int32) (a rt : Int32) : ∀ (d i : Nat) (s : Int64), SX f a rt i (d + 1) s = (if txC f a rt (i + d) then SX f a rt i d s + Int32.toInt64 (fE f (i + d) 7) else SX f a rt i d s)
  | 0, i, s => rfl
  | d + 1, i, s => by
    rw [SX_s, SX_last f a rt d (i + 1), SX_s]
    rw [show i + 1 + d = i + (d + 1) by omega]
theorem c_hasRate {n b i : Nat} {M : Mem} {f : Nat → Int32} {a rt : Int32} (hRS : RS b M f) (hI : INV0 f) (hi : i < sz f) (hn : 500 ≤ n) : mX1_hasRate n b (nI i) a rt M = some (if txC f a rt i then 1 else 0) := by
  have h1 := hI.2.1.1; have hs := hI.2.1.2
  have r3 := (hRS.2.2.2.2.2 i hi).2.2.1
  unfold mX1_hasRate
  rw [c_isOf hRS.2.2.2.2 h1 hs hi, chk_n (show i < 400 by omega) (by decide), nI_clamp (by omega), r3, c_rate _ hRS.2.2.1 hI.2.2.2.1 hn]
  simp only [bnp_some]
  by_cases t : fE f i 1 = a
  · rw [if_pos t, if_neg (show ¬ (1 : Int32) = 0 by decide)]
    by_cases t2 : RATE f (fE f i 2) = rt
    · rw [if_pos t2, if_pos ⟨t, t2⟩]
    · rw [if_neg t2, if_neg (fun q => t2 q.2)]
  · rw [if_neg t, if_pos rfl, if_neg (fun q => t q.1)]
theorem c_taxes_go {n : Nat} {M : Mem} {f : Nat → Int32} {a rt : Int32} (hRS : RS 4 M f) (hI : INV0 f) (hn : 500 ≤ n) : ∀ (d k i : Nat) (s : Int64), i + d = sz f → d < k → mX1_taxesOf_c5 n k 4 a rt s (nI i) M = some (Int64.toInt32 ((SX f a rt i d s * Int32.toInt64 rt) / (100 : Int64)))
  | d, 0, _, _, _, h => absurd h (Nat.not_lt_zero _)
  | 0, k + 1, i, s, e, h => by
    have h1 := hI.2.1.1; have hs := hI.2.1.2
    unfold mX1_taxesOf_c5
    rw [hRS.2.2.2.2.1, h1, if_pos (by rw [nI_leI (by omega) (by omega)]; omega)]; rfl
  | d + 1, k + 1, i, s, e, h => by
    have h1 := hI.2.1.1; have hs := hI.2.1.2
    have ih := fun s => c_taxes_go (n := n) (a := a) (rt := rt) hRS hI hn d k (i + 1) s (by omega) (by omega)
    have hi : i < sz f := by omega
    have r8 := (hRS.2.2.2.2.2 i hi).2.2.2.2.2.2.2.1
    unfold mX1_taxesOf_c5
    rw [hRS.2.2.2.2.1, h1, if_neg (by rw [nI_leI (by omega) (by omega)]; omega), c_hasRate hRS hI hi hn, chk_n (show i < 400 by omega) (by decide), nI_clamp (by omega), r8, show nI i + (1 : Int32) = nI (i + 1) from nI_add .., SX_s]
    simp only [bnp_some]
    by_cases t : txC f a rt i
    · rw [if_pos t, if_neg (show ¬ (1 : Int32) = 0 by decide), if_pos t, ih]
    · rw [if_neg t, if_pos rfl, if_neg t, ih]
theorem m_taxes_go {n m : Nat} {N : Mem} {f : Nat → Int32} {a rt : Int32} (hI : INV0 f) (hm : m ≤ sz f) (hn : 500 ≤ n) : ∀ (d k i : Nat) (s : Int64), i + d = m → d < k → mX11_taxAhead_c6 n k a rt (nI m) s (nI i) (stF N f) = some (Int64.toInt32 ((SX f a rt i d s * Int32.toInt64 rt) / (100 : Int64)))
  | d, 0, _, _, _, h => absurd h (Nat.not_lt_zero _)
  | 0, k + 1, i, s, e, h => by
    have h1 := hI.2.1.1; have hs := hI.2.1.2
    unfold mX11_taxAhead_c6
    rw [if_pos (by rw [nI_leI (by omega) (by omega)]; omega)]; rfl
  | d + 1, k + 1, i, s, e, h => by
    have h1 := hI.2.1.1; have hs := hI.2.1.2
    have ih := fun s => m_taxes_go (n := n) (N := N) (a := a) (rt := rt) hI hm hn d k (i + 1) s (by omega) (by omega)
    have hi : i < sz f := by omega
    unfold mX11_taxAhead_c6
    rw [if_neg (by rw [nI_leI (by omega) (by omega)]; omega), show (1 : Int32) = nI 1 from rfl, show (2 : Int32) = nI 2 from rfl, show (7 : Int32) = nI 7 from rfl, m_entS (by omega) (by decide), m_entS (by omega) (by decide), m_entS (by omega) (by decide), nI_add, SX_s]
    simp only [bnp_some]
    rw [m_rate _ hI.2.2.2.1 hn]
    simp only [bnp_some]
    by_cases t : fE f i 1 = a
    · rw [if_pos t]
      by_cases t2 : RATE f (fE f i 2) = rt
      · rw [if_pos t2, if_pos ⟨t, t2⟩, ih]
      · rw [if_neg t2, if_neg (fun q => t2 q.2), ih]
    · rw [if_neg t, if_neg (fun q => t q.1), ih]
theorem q_taxes {M N : Mem} {n : Nat} (hT : TOT M N) (hn : 20000 ≤ n) (a b : Int32) : PQ (mX10_taxes n a b M) (mX11_taxes n a b N) := by
  have e10 : ((1 : Int32) = 0) = False := eq_false (by decide)
  obtain ⟨⟨hb, hC, hM, hRS, hI⟩, -⟩ := id hT
  have h1 := hI.1.2.1.1; have hs := hI.1.2.1.2
  unfold mX10_taxes mX11_taxes mX1_taxesOf mX11_taxAhead
  simp only [bnp_id]
  rcases T_beg hT a with ⟨x, hx, rfl, hA, e1, e3⟩ | ⟨e1, e3⟩
  · rw [e1, e3]
    simp only [bnp_some, e10, if_false]
    rcases in_c b 0 100 101 0 100 rfl rfl rfl (by decide) (by decide) with ⟨q, hq1, hq, rfl, g1, g2, g3, g4⟩ | ⟨g4, g1⟩
    · rw [if_neg g1, if_pos (Int32.not_lt.mp g2), g4]
      simp only [bnp_some, e10, if_false]
      have c := c_taxes_go (n := n) (a := nI x) (rt := nI q) hRS hI.1 (by omega) (sz (N 209)) n 0 0 (by omega) (by omega)
      have m := m_taxes_go (n := n) (N := N) (a := nI x) (rt := nI q) hI.1 (Nat.le_refl _) (by omega) (sz (N 209)) n 0 0 (by omega) (by omega)
      rw [stF_self] at m
      rw [ck1, show Int32.toNatClampNeg (1 : Int32) = 1 from rfl, h1]
      exact ⟨_, c, m⟩
    · rw [g4]
      rcases g1 with g1 | ⟨g1, g2, g3⟩
      · rw [if_pos g1]; exact ⟨_, rfl, rfl⟩
      · rw [if_neg g1, if_neg (Int32.not_le.mpr g2)]; exact ⟨_, rfl, rfl⟩
  · rw [e1, e3]; exact ⟨_, rfl, rfl⟩
theorem c_tax_go {n e : Nat} {M : Mem} {f : Nat → Int32} {a rt : Int32} (hRS : RS 4 M f) (hI : INV0 f) (he : e < sz f) (hn : 500 ≤ n) : ∀ (d k i : Nat) (s : Int64), i + d = e → d < k → mX1_taxOf_c47 n k 4 (nI e) a rt s (nI i) M = some (Int64.toInt32 (((SX f a rt i d s + Int32.toInt64 (fE f e 7)) * Int32.toInt64 rt) / (100 : Int64) - (SX f a rt i d s * Int32.toInt64 rt) / (100 : Int64)))
  | d, 0, _, _, _, h => absurd h (Nat.not_lt_zero _)
  | 0, k + 1, i, s, e0, h => by
    have h1 := hI.2.1.1; have hs := hI.2.1.2
    have r8 := (hRS.2.2.2.2.2 e he).2.2.2.2.2.2.2.1
    unfold mX1_taxOf_c47
    rw [if_pos (by rw [nI_leI (by omega) (by omega)]; omega), chk_n (show e < 400 by omega) (by decide), nI_clamp (by omega), r8]; rfl
  | d + 1, k + 1, i, s, e0, h => by
    have h1 := hI.2.1.1; have hs := hI.2.1.2
    have ih := fun s => c_tax_go (n := n) (a := a) (rt := rt) hRS hI he hn d k (i + 1) s (by omega) (by omega)
    have hi : i < sz f := by omega
    have r8 := (hRS.2.2.2.2.2 i hi).2.2.2.2.2.2.2.1
    unfold mX1_taxOf_c47
    rw [if_neg (by rw [nI_leI (by omega) (by omega)]; omega), c_hasRate hRS hI hi hn, chk_n (show i < 400 by omega) (by decide), show Int32.toNatClampNeg (nI i) = i from nI_clamp (by omega), r8, show nI i + (1 : Int32) = nI (i + 1) from nI_add .., SX_s]
    simp only [bnp_some]
    by_cases t : txC f a rt i
    · rw [if_pos t, if_neg (show ¬ (1 : Int32) = 0 by decide), if_pos t, ih]
    · rw [if_neg t, if_pos rfl, if_neg t, ih]
theorem q_tax {M N : Mem} {n : Nat} (hT : TOT M N) (hn : 20000 ≤ n) (a : Int32) : PQ (mX10_tax n a M) (mX11_tax n a N) := by
  have e10 : ((1 : Int32) = 0) = False := eq_false (by decide)
  obtain ⟨⟨hb, hC, hM, hRS, hI⟩, -⟩ := id hT
  have h1 := hI.1.2.1.1; have hs := hI.1.2.1.2
  have hE : RE 40 M (N 209) := hRS.2.2.2.2
  have hIT := hI.1.2.2.2.1
  unfold mX10_tax mX11_tax mX1_taxOf mX11_taxAhead
  simp only [bnp_id]
  have := ent_c (N := N) hE h1 hs a
  rw [stF_self] at this
  rcases this with ⟨e, he, rfl, e1, e3⟩ | ⟨e1, e3⟩
  · rw [show (4 + 36) = 40 from rfl, e1, e3]
    simp only [bnp_some, e10, if_false]
    obtain ⟨r1, r2, r3, r4, r5, r6, r7, r8, r9, r10⟩ := hE.2 e he
    have hent : ∀ w, w < 10 → mX11_entryOf (nI e) (nI w) N = some (fE (N 209) e w) := fun w hw => m_entryOf (by omega) hw
    have mr : ∀ day, mX11_rateOn n day N = some (RATE (N 209) day) := fun day => by
      have := m_rate (n := n) (N := N) day hIT (by omega)
      rw [stF_self] at this
      exact this
    have mt : ∀ (a rt : Int32) (m : Nat), m ≤ sz (N 209) → mX11_taxAhead_c6 n n a rt (nI m) 0 0 N = some (Int64.toInt32 ((SX (N 209) a rt 0 m 0 * Int32.toInt64 rt) / (100 : Int64))) := fun a rt m hm => by
      have := m_taxes_go (n := n) (N := N) (a := a) (rt := rt) hI.1 hm (by omega) m n 0 0 (by omega) (by omega)
      rw [stF_self] at this
      exact this
    rw [show mX11_entryOf (nI e) 1 N = _ from hent 1 (by decide), show mX11_entryOf (nI e) 2 N = _ from hent 2 (by decide), chk_n (show e < 400 by omega) (by decide), chk_n (show e < 400 by omega) (by decide), nI_clamp (by omega), show M (40 + 3) e = _ from r3, show M (40 + 2) e = _ from r2, show (4 + 1) = 5 from rfl, c_rate _ hRS.2.2.1 hIT (by omega)]
    simp only [bnp_some]
    rw [mr]
    simp only [bnp_some]
    rw [show nI e + (1 : Int32) = nI (e + 1) from nI_add .., mt _ _ _ (by omega), mt _ _ _ (by omega)]
    simp only [bnp_some]
    have c := c_tax_go (n := n) (a := fE (N 209) e 1) (rt := RATE (N 209) (fE (N 209) e 2)) hRS hI.1 he (by omega) e n 0 0 (by omega) (by omega)
    have hL := SX_last (N 209) (fE (N 209) e 1) (RATE (N 209) (fE (N 209) e 2)) e 0 0
    rw [Nat.zero_add, if_pos ⟨rfl, rfl⟩] at hL
    refine ⟨_, c, ?_⟩
    rw [hL, Int64.toInt32_sub]
  · rw [show (4 + 36) = 40 from rfl, e1, e3]; exact ⟨_, rfl, rfl⟩
