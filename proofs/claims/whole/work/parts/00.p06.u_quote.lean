/-! quote, best; what is asked of accounts, of THE BOOK, of days -/
def QV (f : Nat → Int32) (x p : Nat) (dy : Int32) : Int32 := PTE (WO f x p) (aN f x) (aD f x) dy - PTE (WO f x (aB f x)) (aN f x) (aD f x) dy
theorem c_qu {n x p : Nat} {M : Mem} {f : Nat → Int32} (dy : Int32) (hRS : RS 4 M f) (hI : INV0 f) (hx : x < 6) (hA : IA1 f x) (hp : p < 6) (hn : 500 ≤ n) : mX1_quoteOn n 4 (4 + 35 + 12 + x) (nI p) dy M = some (QV f x p dy) := by
  obtain ⟨i0, i1, i2, i3, i4, i5, i6, i7, i8, i9, i10, i11, i12, i13, i14, i15⟩ := id hA
  have hRA := hRS.2.2.2.1 x hx
  have hb : aB f x < 6 := by have := i1.2; omega
  unfold mX1_quoteOn
  rw [show (4 + 1) = 5 from rfl, c_worth hRS.2.2.1 hI.2.2.2.1 hRA hp i9 (by omega)]
  simp only [bnp_some]
  rw [c_part hRA hA, hRA.2.2.2.2.1, i1.1]
  simp only [bnp_some]
  rw [c_worth hRS.2.2.1 hI.2.2.2.1 hRA hb i9 (by omega)]
  simp only [bnp_some]
  rw [c_part hRA hA]; rfl
theorem m_qu {n x p dy : Nat} {N : Mem} {f : Nat → Int32} (hM : CalM N) (hI : INV0 f) (hx : x < 6) (hA : IA1 f x) (hp : p < 6) (hd : dy ≤ 3652) (h1 : aD f x ≤ dy) (h2 : (dy : Int) < NT (aN f x) (aD f x)) (hn : 500 ≤ n) : mX11_quoteOf n (nI x) (nI p) (nI dy) (stF N f) = some (QV f x p (nI dy)) := by
  obtain ⟨i0, i1, i2, i3, i4, i5, i6, i7, i8, i9, i10, i11, i12, i13, i14, i15⟩ := id hA
  have hb : aB f x < 6 := by have := i1.2; omega
  have l := fun q (hq : q < 6) => m_left (n := n) hM hx hq (hI.2.2.2.1.2.2.2.2.2 q hq) hA hd h1 h2 (by omega)
  unfold mX11_quoteOf
  rw [show (1 : Int32) = nI 1 from rfl, m_ofS hx (by decide), i1.1]
  simp only [bnp_some]
  by_cases q : p = aB f x
  · rw [if_pos (by rw [q])]
    unfold QV
    rw [q, Int32.sub_self]
  · rw [if_neg (by rw [nI_eq (by omega) (by omega)]; exact q), l p hp, l _ hb]
    rfl
/-- both sides of running, of the total relation -/
theorem T_run {M N : Mem} (hT : TOT M N) (a : Int32) : (∃ x, x < 6 ∧ a = nI x ∧ IA1 (N 209) x ∧ (tD (N 209) : Int) < NT (aN (N 209) x) (aD (N 209) x) ∧ mX1_isRunning 4 a M = some 1 ∧ mX11_isOn a N = some 1) ∨ (mX1_isRunning 4 a M = some 0 ∧ mX11_isOn a N = some 0) := by
  have h := run_c hT.1 a
  rw [stF_self] at h
  rcases h with ⟨x, hx, rfl, hA, h0, hr, e1, e2, e3, e4⟩ | ⟨x, hx, rfl, hA, h0, e1, e2, e3, e4⟩ | ⟨e1, e2, e3, e4⟩
  · exact Or.inl ⟨x, hx, rfl, hA, hr, e2, e4⟩
  · exact Or.inr ⟨e2, e4⟩
  · exact Or.inr ⟨e2, e4⟩
theorem q_quote {M N : Mem} {n : Nat} (hT : TOT M N) (hn : 20000 ≤ n) (a b c : Int32) : PQ (mX10_quote n a b c M) (mX11_quote n a b c N) := by
  have e10 : ((1 : Int32) = 0) = False := eq_false (by decide)
  obtain ⟨⟨hb, hC, hM, hRS, hI⟩, -⟩ := id hT
  have t1 := hI.1.1.1; have t2 := hI.1.1.2
  unfold mX10_quote mX11_quote
  simp only [bnp_id]
  rcases T_run hT a with ⟨x, hx, rfl, hA, hr, e1, e3⟩ | ⟨e1, e3⟩
  · rw [e1, e3]
    simp only [bnp_some, e10, if_false]
    rcases isPlan_c b with ⟨p, -, hp, rfl, g1, g2⟩ | ⟨g1, g2⟩
    · rw [g1, g2]
      simp only [bnp_some, e10, if_false]
      obtain ⟨T, hT1, eT, hT2, hT3⟩ := NT_nI hA hr
      have a9 := (hRS.2.2.2.1 x hx).2.2.2.2.2.2.2.2.2.1
      have hof : mX11_of (nI x) (5 : Int32) N = some (nI T) := by rw [← eT]; exact m_of hx (by decide)
      rw [ck0, tn0, hRS.1, t1, hof, chk_n hx (by decide), nI_clamp (by omega), show 39 + 12 + x = 4 + 35 + 12 + x by omega, a9, eT]
      simp only [bnp_some]
      have eT1 : nI T - 1 = nI (T - 1) := by rw [show (1 : Int32) = nI 1 from rfl]; exact pk_sub (by omega)
      rw [eT1]
      rcases in_c c (nI (tD (N 209))) (nI (T - 1)) (nI (T - 1 + 1)) (tD (N 209)) (T - 1) rfl rfl rfl (by omega) (by omega) with ⟨q, hq1, hq, rfl, g1, g2, g3, g4⟩ | ⟨g4, g1⟩
      · have c1 : nI q < nI T := by rw [nI_ltI (by omega) (by omega)]; omega
        rw [if_neg g1, if_pos c1, g4]
        simp only [bnp_some, e10, if_false]
        have m := m_qu (n := n) (p := p) (dy := q) hM hI.1 hx hA (by omega) (by omega) (by have := hA.2.2.2.2.2.2.2.2.2.2.2.2.2.2.1; omega) (by have := hA.2.2.2.2.2.2.1; rw [eT] at this; have l := LT_NT hA.2.2.2.1 hA.2.2.2.2.2.1.2; have z := congrArg Int32.toInt this; rw [nI_toInt (by omega), iI_toInt (by omega) (by omega)] at z; omega) (by omega)
        rw [stF_self] at m
        exact ⟨_, c_qu (n := n) (nI q) hRS hI.1 hx hA (by omega) (by omega), m⟩
      · rw [g4]
        simp only [bnp_some, if_true]
        rcases g1 with g1 | ⟨g1, g2, g3⟩
        · rw [if_pos g1]; exact ⟨_, rfl, rfl⟩
        · have c1 : ¬ c < nI T := by
            rw [show T - 1 + 1 = T by omega] at g3
            exact Int32.not_lt.mpr g3
          rw [if_neg g1, if_neg c1]; exact ⟨_, rfl, rfl⟩
    · rw [g1, g2]; exact ⟨_, rfl, rfl⟩
  · rw [e1, e3]; exact ⟨_, rfl, rfl⟩
/-! best -/
def bD (f : Nat → Int32) (x p : Nat) : Nat → Nat → Nat → Nat
  | _, 0, best => best
  | i, d + 1, best => bD f x p (i + 1) d (if QV f x p (nI best) ≤ QV f x p (nI i) then best else i)
def bP (f : Nat → Int32) (x : Nat) : Nat → Nat → Nat → Nat
  | _, 0, best => best
  | i, d + 1, best => bP f x (i + 1) d (if QV f x best (f 0) ≤ QV f x i (f 0) then best else i)
theorem bD_s (f : Nat → Int32) (x p i d best : Nat) : bD f x p i (d + 1) best = bD f x p (i + 1) d (if QV f x p (nI best) ≤ QV f x p (nI i) then best else i) := rfl
theorem bP_s (f : Nat → Int32) (x i d best : Nat) : bP f x i (d + 1) best = bP f x (i + 1) d (if QV f x best (f 0) ≤ QV f x i (f 0) then best else i) := rfl
theorem bD_le {f : Nat → Int32} {x p lo T : Nat} : ∀ (d i best : Nat), i + d ≤ T → lo ≤ best → lo ≤ i → best < T → lo ≤ bD f x p i d best ∧ bD f x p i d best < T
  | 0, i, best, _, h1, _, h2 => ⟨h1, h2⟩
  | d + 1, i, best, h, h1, h2, h3 => by
    rw [bD_s]
    split
    · exact bD_le d (i + 1) best (by omega) h1 (by omega) h3
    · exact bD_le d (i + 1) i (by omega) h2 (by omega) (by omega)
theorem bP_le {f : Nat → Int32} {x : Nat} : ∀ (d i best : Nat), i + d ≤ 6 → best < 6 → bP f x i d best < 6
  | 0, i, best, _, h => h
  | d + 1, i, best, h, h1 => by
    rw [bP_s]
    split
    · exact bP_le d (i + 1) best (by omega) h1
    · exact bP_le d (i + 1) i (by omega) (by omega)
theorem c_day_go {n x p T : Nat} {M : Mem} {f : Nat → Int32} (hRS : RS 4 M f) (hI : INV0 f) (hx : x < 6) (hA : IA1 f x) (hp : p < 6) (hn : 500 ≤ n) (hT : fA f x 5 = nI T) (hT2 : T ≤ 3652) : ∀ (d k i best : Nat), i + d = T → d < k → mX1_cheapestDay_c25 n k 4 (4 + 35 + 12 + x) (nI p) (nI best) (QV f x p (nI best)) (nI i) M = some (nI (bD f x p i d best))
  | d, 0, _, _, _, h => absurd h (Nat.not_lt_zero _)
  | 0, k + 1, i, best, e, h => by
    have a9 := (hRS.2.2.2.1 x hx).2.2.2.2.2.2.2.2.2.1
    unfold mX1_cheapestDay_c25
    rw [a9, hT, if_pos (by rw [nI_leI (by omega) (by omega)]; omega)]; rfl
  | d + 1, k + 1, i, best, e, h => by
    have a9 := (hRS.2.2.2.1 x hx).2.2.2.2.2.2.2.2.2.1
    have ih := fun best => c_day_go (n := n) hRS hI hx hA hp hn hT hT2 d k (i + 1) best (by omega) (by omega)
    unfold mX1_cheapestDay_c25
    rw [a9, hT, if_neg (by rw [nI_leI (by omega) (by omega)]; omega), c_qu _ hRS hI hx hA hp hn, show nI i + (1 : Int32) = nI (i + 1) from nI_add .., bD_s]
    simp only [bnp_some]
    by_cases q : QV f x p (nI best) ≤ QV f x p (nI i)
    · rw [if_pos q, if_pos q, ih]
    · rw [if_neg q, if_neg q, ih]
theorem c_chg_go {n x : Nat} {M : Mem} {f : Nat → Int32} (hRS : RS 4 M f) (hI : INV0 f) (hx : x < 6) (hA : IA1 f x) (hn : 500 ≤ n) : ∀ (d k i best : Nat), i + d = 6 → d < k → best < 6 → mX1_cheapestChange_c16 n k 4 (4 + 35 + 12 + x) (nI best) (QV f x best (f 0)) (nI i) M = some (nI (bP f x i d best))
  | d, 0, _, _, _, h, _ => absurd h (Nat.not_lt_zero _)
  | 0, k + 1, i, best, e, h, _ => by
    have hi : i = 6 := by omega
    subst hi
    unfold mX1_cheapestChange_c16
    rw [if_pos (show (6 : Int32) ≤ nI 6 by decide)]; rfl
  | d + 1, k + 1, i, best, e, h, hb => by
    have ih := fun best hb => c_chg_go (n := n) hRS hI hx hA hn d k (i + 1) best (by omega) (by omega) hb
    unfold mX1_cheapestChange_c16
    rw [if_neg (by rw [show (6 : Int32) = nI 6 from rfl, nI_leI (by omega) (by omega)]; omega), hRS.1, c_qu _ hRS hI hx hA (show i < 6 by omega) hn, show nI i + (1 : Int32) = nI (i + 1) from nI_add .., bP_s]
    simp only [bnp_some]
    by_cases q : QV f x best (f 0) ≤ QV f x i (f 0)
    · rw [if_pos q, if_pos q, ih _ hb]
    · rw [if_neg q, if_neg q, ih _ (by omega)]
theorem m_chg_go {n x p D : Nat} {N : Mem} {f : Nat → Int32} {w : Int32} (hM : CalM N) (hI : INV0 f) (hx : x < 6) (hA : IA1 f x) (hr : (tD f : Int) < NT (aN f x) (aD f x)) (hp : p < 6) (hD : D ≤ 3652) (h1 : aD f x ≤ D) (h2 : (D : Int) < NT (aN f x) (aD f x)) (hn : 500 ≤ n) : ∀ (d k i best : Nat), i + d = 6 → d < k → best < 6 → mX11_best_c87 n k (nI x) (nI p) w (nI D) (nI best) (nI i) (stF N f) = (if w = 0 then some (nI D) else if w = 1 then some (QV f x p (nI D)) else some (nI (bP f x i d best)))
  | d, 0, _, _, _, h, _ => absurd h (Nat.not_lt_zero _)
  | 0, k + 1, i, best, e, h, _ => by
    have hi : i = 6 := by omega
    subst hi
    unfold mX11_best_c87
    rw [if_pos (show (6 : Int32) ≤ nI 6 by decide), m_qu hM hI hx hA hp hD h1 h2 hn]; rfl
  | d + 1, k + 1, i, best, e, h, hb => by
    have t1 := hI.1.1
    have i14 := hA.2.2.2.2.2.2.2.2.2.2.2.2.2.2.1
    have ih := fun best hb => m_chg_go (n := n) (N := N) (w := w) hM hI hx hA hr hp hD h1 h2 hn d k (i + 1) best (by omega) (by omega) hb
    unfold mX11_best_c87
    rw [if_neg (by rw [show (6 : Int32) = nI 6 from rfl, nI_leI (by omega) (by omega)]; omega), ck0, tn0, stF_f, bP_s, t1, m_qu hM hI hx hA (show i < 6 by omega) hI.1.2 i14 hr hn, m_qu hM hI hx hA hb hI.1.2 i14 hr hn, show nI i + (1 : Int32) = nI (i + 1) from nI_add ..]
    simp only [bnp_some]
    rw [ck0]
    by_cases q : QV f x best (nI (tD f)) ≤ QV f x i (nI (tD f))
    · rw [if_pos q, if_pos q, ih _ hb]
    · rw [if_neg q, if_neg q, ih _ (by omega)]
theorem m_day_go {n x p T : Nat} {N : Mem} {f : Nat → Int32} {w : Int32} (hM : CalM N) (hI : INV0 f) (hx : x < 6) (hA : IA1 f x) (hr : (tD f : Int) < NT (aN f x) (aD f x)) (hp : p < 6) (hn : 500 ≤ n) (hT : fA f x 5 = nI T) (hT2 : T ≤ 3652) (hT3 : (T : Int) = NT (aN f x) (aD f x)) : ∀ (d k i best : Nat), i + d = T → d < k → aD f x ≤ i → aD f x ≤ best → best < T → mX11_best_c41 n k (nI x) (nI p) w (nI best) (nI i) (stF N f) = mX11_best_c87 n n (nI x) (nI p) w (nI (bD f x p i d best)) 0 1 (stF N f)
  | d, 0, _, _, _, h, _, _, _ => absurd h (Nat.not_lt_zero _)
  | 0, k + 1, i, best, e, h, h1, h2, h3 => by
    unfold mX11_best_c41
    rw [show (5 : Int32) = nI 5 from rfl, m_ofS hx (by decide), hT]
    simp only [bnp_some]
    rw [if_pos (by rw [nI_leI (by omega) (by omega)]; omega)]; rfl
  | d + 1, k + 1, i, best, e, h, h1, h2, h3 => by
    have ih := fun best => m_day_go (n := n) (N := N) (w := w) hM hI hx hA hr hp hn hT hT2 hT3 d k (i + 1) best (by omega) (by omega) (by omega)
    unfold mX11_best_c41
    rw [show (5 : Int32) = nI 5 from rfl, m_ofS hx (by decide), hT]
    simp only [bnp_some]
    rw [if_neg (by rw [nI_leI (by omega) (by omega)]; omega), m_qu hM hI hx hA hp (by omega) h1 (by omega) hn, m_qu hM hI hx hA hp (by omega) h2 (by omega) hn, show nI i + (1 : Int32) = nI (i + 1) from nI_add .., bD_s]
    simp only [bnp_some]
    by_cases q : QV f x p (nI best) ≤ QV f x p (nI i)
    · rw [if_pos q, if_pos q, ih _ h2 h3]
    · rw [if_neg q, if_neg q, ih _ h1 (by omega)]
theorem q_best {M N : Mem} {n : Nat} (hT : TOT M N) (hn : 20000 ≤ n) (a b c : Int32) : PQ (mX10_best n a b c M) (mX11_best n a b c N) := by
  have e10 : ((1 : Int32) = 0) = False := eq_false (by decide)
  obtain ⟨⟨hb, hC, hM, hRS, hI⟩, -⟩ := id hT
  have t1 := hI.1.1.1; have t2 := hI.1.1.2
  unfold mX10_best mX11_best
  simp only [bnp_id]
  rcases T_run hT a with ⟨x, hx, rfl, hA, hr, e1, e3⟩ | ⟨e1, e3⟩
  · rw [e1, e3]
    simp only [bnp_some, e10, if_false]
    rcases isPlan_c b with ⟨p, -, hp, rfl, g1, g2⟩ | ⟨g1, g2⟩
    · rw [g1, g2]
      simp only [bnp_some, e10, if_false]
      obtain ⟨T, hT1, eT, hT2, hT3⟩ := NT_nI hA hr
      have i14 := hA.2.2.2.2.2.2.2.2.2.2.2.2.2.2.1
      have eNT : (T : Int) = NT (aN (N 209) x) (aD (N 209) x) := by
        have := hA.2.2.2.2.2.2.1
        rw [eT] at this
        have l := LT_NT hA.2.2.2.1 hA.2.2.2.2.2.1.2
        have z := congrArg Int32.toInt this
        rw [nI_toInt (by omega), iI_toInt (by omega) (by omega)] at z
        exact z
      have hday : mX1_cheapestDay n 4 (4 + 35 + 12 + x) (nI p) M = some (nI (bD (N 209) x p (tD (N 209) + 1) (T - (tD (N 209) + 1)) (tD (N 209)))) := by
        unfold mX1_cheapestDay
        rw [hRS.1, t1, c_qu _ hRS hI.1 hx hA (show p < 6 by omega) (by omega), show nI (tD (N 209)) + (1 : Int32) = nI (tD (N 209) + 1) from nI_add ..]
        simp only [bnp_some]
        exact c_day_go (n := n) hRS hI.1 hx hA (by omega) (by omega) eT hT1 _ n _ _ (by omega) (by omega)
      have hchg : mX1_cheapestChange n 4 (4 + 35 + 12 + x) M = some (nI (bP (N 209) x 1 5 0)) := by
        unfold mX1_cheapestChange
        rw [hRS.1, show (0 : Int32) = nI 0 from rfl, c_qu _ hRS hI.1 hx hA (show 0 < 6 by decide) (by omega)]
        simp only [bnp_some]
        exact c_chg_go (n := n) hRS hI.1 hx hA (by omega) 5 n 1 0 rfl (by omega) (by decide)
      have hbd := bD_le (f := N 209) (x := x) (p := p) (lo := tD (N 209)) (T := T) (T - (tD (N 209) + 1)) (tD (N 209) + 1) (tD (N 209)) (by omega) (Nat.le_refl _) (by omega) (by omega)
      have m1 := m_day_go (n := n) (N := N) (w := c) hM hI.1 hx hA hr (show p < 6 by omega) (by omega) eT hT1 eNT (T - (tD (N 209) + 1)) n (tD (N 209) + 1) (tD (N 209)) (by omega) (by omega) (by omega) i14 (by omega)
      have m2 := m_chg_go (n := n) (N := N) (w := c) hM hI.1 hx hA hr (show p < 6 by omega) (D := bD (N 209) x p (tD (N 209) + 1) (T - (tD (N 209) + 1)) (tD (N 209))) (by omega) (by omega) (by omega) (by omega) 5 n 1 0 rfl (by omega) (by decide)
      rw [show nI 0 = (0 : Int32) from rfl, show nI 1 = (1 : Int32) from rfl] at m2
      rw [m2, stF_self] at m1
      rw [chk_n hx (by decide), nI_clamp (by omega), show 39 + 12 + x = 4 + 35 + 12 + x by omega, ck0, tn0, t1, show nI (tD (N 209)) + (1 : Int32) = nI (tD (N 209) + 1) from nI_add .., hday, hchg]
      simp only [bnp_some]
      rw [c_qu _ hRS hI.1 hx hA (show p < 6 by omega) (by omega)]
      rcases in_c c 0 2 3 0 2 rfl rfl rfl (by decide) (by decide) with ⟨q, hq1, hq, rfl, g1, g2, g3, g4⟩ | ⟨g4, g1⟩
      · rw [g4]
        simp only [bnp_some, e10, if_false]
        rw [m1]
        rcases (show q = 0 ∨ q = 1 ∨ q = 2 by omega) with rfl | rfl | rfl
        · exact ⟨_, rfl, rfl⟩
        · exact ⟨_, rfl, rfl⟩
        · exact ⟨_, rfl, rfl⟩
      · rw [g4]
        simp only [bnp_some, if_true]
        have c0 : ¬ c = 0 := by rintro rfl; revert g1; decide
        have c1 : ¬ c = 1 := by rintro rfl; revert g1; decide
        have c2 : ¬ c = 2 := by rintro rfl; revert g1; decide
        rw [if_neg c0, if_neg c1, if_neg c2]; exact ⟨_, rfl, rfl⟩
    · rw [g1, g2]; exact ⟨_, rfl, rfl⟩
  · rw [e1, e3]; exact ⟨_, rfl, rfl⟩
theorem q_entry {M N : Mem} (hT : TOT M N) (a b : Int32) : PQ (mX10_entry a b M) (mX11_entry a b N) := by
  have e10 : ((1 : Int32) = 0) = False := eq_false (by decide)
  obtain ⟨⟨hb, hC, hM, hRS, hI⟩, -⟩ := id hT
  have h1 := hI.1.2.1.1; have hs := hI.1.2.1.2
  have hE : RE 40 M (N 209) := hRS.2.2.2.2
  unfold mX10_entry mX11_entry mX5_tell
  simp only [bnp_id]
  have := ent_c (N := N) hE h1 hs a
  rw [stF_self] at this
  rcases this with ⟨e, he, rfl, e1, e3⟩ | ⟨e1, e3⟩
  · rw [e1, e3]
    simp only [bnp_some, e10, if_false]
    obtain ⟨r1, r2, r3, r4, r5, r6, r7, r8, r9, r10⟩ := hE.2 e he
    have hent : ∀ w, w < 10 → mX11_entryOf (nI e) (nI w) N = some (fE (N 209) e w) := fun w hw => m_entryOf (by omega) hw
    have ck : ∀ (y : Option Int32), chk (nI e) 400 y = y := fun y => chk_n (by omega) (by decide)
    simp only [ck]
    rw [nI_clamp (by omega), r1, r2, r3, r4, r5, r6, r7, r8, r9, r10]
    rcases in_c b 0 9 10 0 9 rfl rfl rfl (by decide) (by decide) with ⟨q, hq1, hq, rfl, g1, g2, g3, g4⟩ | ⟨g4, g1⟩
    · rw [g4]
      simp only [bnp_some, e10, if_false]
      rw [hent q (by omega)]
      rcases (show q = 0 ∨ q = 1 ∨ q = 2 ∨ q = 3 ∨ q = 4 ∨ q = 5 ∨ q = 6 ∨ q = 7 ∨ q = 8 ∨ q = 9 by omega) with rfl | rfl | rfl | rfl | rfl | rfl | rfl | rfl | rfl | rfl <;> exact ⟨_, rfl, rfl⟩
    · rw [g4]
      simp only [bnp_some, if_true]
      have c0 : ¬ b = 0 := by rintro rfl; revert g1; decide
      have c1 : ¬ b = 1 := by rintro rfl; revert g1; decide
      have c2 : ¬ b = 2 := by rintro rfl; revert g1; decide
      have c3 : ¬ b = 3 := by rintro rfl; revert g1; decide
      have c4 : ¬ b = 4 := by rintro rfl; revert g1; decide
      have c5 : ¬ b = 5 := by rintro rfl; revert g1; decide
      have c6 : ¬ b = 6 := by rintro rfl; revert g1; decide
      have c7 : ¬ b = 7 := by rintro rfl; revert g1; decide
      have c8 : ¬ b = 8 := by rintro rfl; revert g1; decide
      have c9 : ¬ b = 9 := by rintro rfl; revert g1; decide
      rw [if_neg c0, if_neg c1, if_neg c2, if_neg c3, if_neg c4, if_neg c5, if_neg c6, if_neg c7, if_neg c8, if_neg c9]
      exact ⟨_, rfl, rfl⟩
  · rw [e1, e3]; exact ⟨_, rfl, rfl⟩
