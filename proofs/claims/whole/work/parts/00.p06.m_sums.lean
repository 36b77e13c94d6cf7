/-! sums over ENTRIES: ALL, what covers, what is late -/
theorem sumR_s (g : Nat → Int32) (i d : Nat) : sumR g i (d + 1) = g i + sumR g (i + 1) d := rfl
theorem m_entS {N : Mem} {f : Nat → Int32} {i w : Nat} (hi : i < 400) (hw : w < 10) : mX11_entryOf (nI i) (nI w) (stF N f) = some (fE f i w) := m_entryOf hi hw
theorem m_all_go {N : Mem} {f : Nat → Int32} {x n : Nat} {g : Nat → Int32} (h1 : f 1 = nI (sz f)) (hs : sz f ≤ 400) (hg : ∀ j, g j = if fE f j 1 = nI x then fE f j 7 else 0) : ∀ (d k i : Nat) (a : Int32), i + d = sz f → d < k → mX11_allOf_c4 n k (nI x) a (nI i) (stF N f) = some (a + sumR g i d)
  | d, 0, _, _, _, h => absurd h (Nat.not_lt_zero _)
  | 0, k + 1, i, a, e, h => by
    unfold mX11_allOf_c4
    simp (disch := omega) only [nI_lit, chk_n, nI_clamp, stF_f, h1, nI_leI]
    rw [if_pos (by omega)]
    show some a = some (a + 0)
    rw [Int32.add_zero]
  | d + 1, k + 1, i, a, e, h => by
    have ih := fun a => m_all_go (N := N) (f := f) (x := x) (n := n) h1 hs hg d k (i + 1) a (by omega) (by omega)
    unfold mX11_allOf_c4
    simp (disch := omega) only [nI_lit, chk_n, nI_clamp, stF_f, h1, nI_leI, m_entS, bnp_some, nI_add]
    rw [if_neg (by omega), sumR_s, hg]
    by_cases t : fE f i 1 = nI x
    · rw [if_pos t, ih, if_pos t, Int32.add_assoc]
    · rw [if_neg t, ih, if_neg t, Int32.zero_add]
theorem m_all {N : Mem} {f : Nat → Int32} {x n : Nat} (hI : INV0 f) (hn : 500 ≤ n) : mX11_allOf n (nI x) (stF N f) = some (allS f x) := by
  have h1 := hI.2.1.1; have h2 := hI.2.1.2
  unfold mX11_allOf
  rw [show (0 : Int32) = nI 0 from rfl, m_all_go h1 h2 (fun j => rfl) (sz f) n 0 _ (by omega) (by omega)]
  unfold allS
  rw [show nI 0 = (0 : Int32) from rfl, Int32.zero_add]
theorem neg_toInt' {c : Int32} (h : -2147483647 ≤ c.toInt) : (-c).toInt = -c.toInt := by
  have h2 := Int32.toInt_lt c
  have e : -c = iI (-c.toInt) := by rw [← iI_neg, ← iI_of]
  rw [e]
  exact iI_toInt (by omega) (by omega)
theorem op_favour {b n : Nat} {M N : Mem} {f : Nat → Int32} (hS : SIM b M N f) (hn : 500 ≤ n) (a c : Int32) : OPR b M N f (mX1_grantFavour b a c M) (mX11_favour n a c (stF N f)) := by
  unfold mX1_grantFavour mX11_favour
  obtain ⟨hb, hC, hM, hRS, ⟨hI0, hRun⟩⟩ := id hS
  have h1 := hI0.2.1.1; have h1' := hI0.2.1.2
  have t1 := hI0.1.1; have t1' := hI0.1.2
  have e10 : ((1 : Int32) = 0) = False := eq_false (by decide)
  rcases beg_c hS a with ⟨x, hx, rfl, hA, e1, e3⟩ | ⟨e1, e3⟩
  · have hRA := hRS.2.2.2.1 x hx
    have a13 := hRA.2.2.2.2.2.2.2.2.2.2.2.2.2
    rw [e1, e3]
    simp only [bnp_some, e10, if_false]
    by_cases c1 : c < 1
    · rw [if_pos c1, if_pos c1]; exact OPR_no hS _
    · rw [if_neg c1, if_neg c1, m_all hI0 hn, chk_n hx (by decide), nI_clamp (by omega), a13]
      simp only [bnp_some]
      by_cases c2 : c ≤ allS f x
      · rw [if_pos c2, if_pos c2]
        have room := room_c (k := 1) hRS hI0 (by decide)
        simp (disch := omega) only [nI_lit, chk_n, nI_clamp, bnp_some, stF_f, h1, room, nI_eq, hRS.1]
        by_cases hs : sz f ≤ 399
        · rw [if_pos (show sz f + 1 ≤ 400 by omega), if_neg (by decide), if_neg (show ¬ sz f = 400 by omega)]
          obtain ⟨M', w1, w2, w3⟩ := c_write (k := 3) (fr := f 0) (to := f 0) (c := -c) hRS hI0.2.2.2.1 h1 (by omega) hx
          have c3 : 1 ≤ c.toInt := by
            have := Int32.le_iff_toInt_le.mp (Int32.not_lt.mp c1)
            exact this
          have c4 := neg_toInt' (c := c) (by omega)
          have c5 := Int32.toInt_lt c
          have hI' := INV0_wr (k := 3) (c := -c) hI0 hx hA (by omega) (by decide) t1 t1 t1' (Nat.le_refl _) (fun h => absurd h (by decide)) (by omega)
          rw [w1, m_writes h1 (by omega) hx]
          simp only [bnd_some]
          rw [m_all hI' hn, (w2.2.2.2.1 x hx).2.2.2.2.2.2.2.2.2.2.2.2.2]
          exact ⟨_, _, N, _, rfl, rfl, ⟨hb, CalC_FD hb hC w3, hM, w2, hI', fun y hy => RUN_same hI' hy (hRun y hy) wr_tD (fun u hu => wr_A hy (by omega))⟩, w3, NE.rfl', FX_wr (by omega)⟩
        · rw [if_neg (show ¬ sz f + 1 ≤ 400 by omega), if_pos rfl, if_pos (show sz f = 400 by omega)]; exact OPR_no hS _
      · rw [if_neg c2, if_neg c2]; exact OPR_no hS _
  · rw [e1, e3]; exact OPR_no hS _
/-! what covers -/
def mnC (l c : Int32) : Int32 := if c < l then c else l
theorem mnC_m {l c : Int32} : mX11_min l c = some (mnC l c) := by
  unfold mX11_min mnC
  by_cases h : c < l
  · rw [if_pos h, if_pos (Int32.le_of_lt h)]
  · rw [if_neg h]
    by_cases h2 : c ≤ l
    · rw [if_pos h2]
      have : c = l := Int32.le_antisymm h2 (Int32.not_lt.mp h)
      rw [this]
    · rw [if_neg h2]
abbrev covC (f : Nat → Int32) (x i : Nat) : Prop := fE f i 1 = nI x ∧ fE f i 7 < 0
abbrev opC (f : Nat → Int32) (x i : Nat) : Prop := fE f i 1 = nI x ∧ 0 < fE f i 7
def covS (f : Nat → Int32) (x : Nat) : Nat → Nat → Int32 → Int32
  | _, 0, a => a
  | i, d + 1, a => covS f x (i + 1) d (if covC f x i then a - fE f i 7 else a)
def LF (f : Nat → Int32) (x : Nat) : Nat → Nat → Int32 → Int32
  | _, 0, l => l
  | i, d + 1, l => LF f x (i + 1) d (if opC f x i then l - mnC l (fE f i 7) else l)
theorem covS_s (f : Nat → Int32) (x i d : Nat) (a : Int32) : covS f x i (d + 1) a = covS f x (i + 1) d (if covC f x i then a - fE f i 7 else a) := rfl
theorem LF_s (f : Nat → Int32) (x i d : Nat) (l : Int32) : LF f x i (d + 1) l = LF f x (i + 1) d (if opC f x i then l - mnC l (fE f i 7) else l) := rfl
theorem LF_last (f : Nat → Int32) (x : Nat) : ∀ (d i : Nat) (l : Int32), LF f x i (d + 1) l = (if opC f x (i + d) then LF f x i d l - mnC (LF f x i d l) (fE f (i + d) 7) else LF f x i d l)
  | 0, i, l => rfl
  | d + 1, i, l => by
    rw [LF_s, LF_last f x d (i + 1), LF_s]
    rw [show i + 1 + d = i + (d + 1) by omega]
def OPV (f : Nat → Int32) (x i : Nat) (l : Int32) : Int32 := if opC f x i then fE f i 7 - mnC l (fE f i 7) else 0
def COV (f : Nat → Int32) (x : Nat) : Int32 := covS f x 0 (sz f) (fA f x 9)
theorem c_isOf {e : Nat} {M : Mem} {f : Nat → Int32} {i : Nat} {a : Int32} (hE : RE e M f) (h1 : f 1 = nI (sz f)) (hs : sz f ≤ 400) (hi : i < sz f) : mX5_isOf e (nI i) a M = some (if fE f i 1 = a then 1 else 0) := by
  unfold mX5_isOf
  simp (disch := omega) only [nI_lit, nI_lt0, if_false, hE.1, h1, nI_leI, chk_n, nI_clamp, (hE.2 i hi).2.1]
  rw [if_neg (by omega), if_neg (by omega)]
  split <;> rfl
theorem c_cov_go {e n x : Nat} {M : Mem} {f : Nat → Int32} (hE : RE e M f) (h1 : f 1 = nI (sz f)) (hs : sz f ≤ 400) : ∀ (d k i : Nat) (a : Int32), i + d = sz f → d < k → mX5_coverOf_c5 n k e (nI x) a (nI i) M = some (covS f x i d a)
  | d, 0, _, _, _, h => absurd h (Nat.not_lt_zero _)
  | 0, k + 1, i, a, e0, h => by
    unfold mX5_coverOf_c5
    rw [hE.1, h1]
    simp (disch := omega) only [nI_leI]
    rw [if_pos (by omega)]; rfl
  | d + 1, k + 1, i, a, e0, h => by
    have ih := fun a => c_cov_go (x := x) (n := n) hE h1 hs d k (i + 1) a (by omega) (by omega)
    have hi : i < sz f := by omega
    have e10 : ((1 : Int32) = 0) = False := eq_false (by decide)
    unfold mX5_coverOf_c5
    rw [c_isOf hE h1 hs hi, hE.1, h1, if_neg (by rw [nI_leI (by omega) (by omega)]; omega), covS_s]
    simp only [bnp_some]
    by_cases t : fE f i 1 = nI x
    · simp only [t, if_true, e10, if_false]
      rw [chk_n (by omega) (by omega), chk_n (by omega) (by omega), nI_clamp (by omega), (hE.2 i hi).2.2.2.2.2.2.2.1, show (1 : Int32) = nI 1 from rfl, nI_add]
      by_cases t2 : 0 ≤ fE f i 7
      · rw [if_pos t2, if_neg (fun q => absurd q.2 (Int32.not_lt.mpr t2)), ih]
      · rw [if_neg t2, if_pos ⟨t, Int32.not_le.mp t2⟩, ih]
    · simp only [t, if_false, if_true]
      rw [show (1 : Int32) = nI 1 from rfl, nI_add, ih, if_neg (fun q => t q.1)]
theorem c_cov {e n x : Nat} {M : Mem} {f : Nat → Int32} {p : Int32} (hE : RE e M f) (hI : INV0 f) (hn : 500 ≤ n) (hp : p = fA f x 9) : mX5_coverOf n e (nI x) p M = some (COV f x) := by
  unfold mX5_coverOf
  rw [show (0 : Int32) = nI 0 from rfl, c_cov_go hE hI.2.1.1 hI.2.1.2 (sz f) n 0 p (by omega) (by have := hI.2.1.2; omega), hp]
  rfl
theorem upd2_oS (N : Mem) (g : Nat → Int32) {o : Nat} (k : Nat) (v : Int32) (h : o ≠ 209) : upd2 (stF N g) o k v = stF (upd2 N o k v) g := by
  funext a i
  unfold upd2 stF
  by_cases h1 : a = 209
  · subst h1; simp [Ne.symm h]
  · simp [h1]
theorem upd2_two (N : Mem) (o k : Nat) (v w : Int32) : upd2 (upd2 N o k v) o k w = upd2 N o k w := by
  funext a i; unfold upd2; split <;> rfl
theorem upd2_id (N : Mem) (o k : Nat) : upd2 N o k (N o k) = N := by
  funext a i; unfold upd2; split
  · next h => obtain ⟨rfl, rfl⟩ := h; rfl
  · rfl
theorem NE_217 {N : Mem} {k : Nat} {v : Int32} : NE N (upd2 N 217 k v) := fun o k' a b c => u2o _ _ a
theorem NE_21 {N : Mem} {v : Int32} : NE N (upd2 N 207 21 v) := fun o k' a b c => by
  by_cases h : o = 207
  · subst h; exact u2k _ _ (b rfl)
  · exact u2o _ _ h
theorem m_cov_go {n x : Nat} {f : Nat → Int32} (h1 : f 1 = nI (sz f)) (hs : sz f ≤ 400) : ∀ (d k i : Nat) (N : Mem), i + d = sz f → d < k → mX11_covers_c13 n k (nI x) (nI i) (stF N f) = mX11_covers_c67 n n (nI x) (nI 0) (stF (upd2 N 207 21 (covS f x i d (N 207 21))) f)
  | d, 0, _, _, _, h => absurd h (Nat.not_lt_zero _)
  | 0, k + 1, i, N, e0, h => by
    unfold mX11_covers_c13
    simp (disch := omega) only [nI_lit, chk_n, nI_clamp, stF_f, h1, nI_leI]
    rw [if_pos (by omega)]
    unfold covS
    rw [upd2_id]
  | d + 1, k + 1, i, N, e0, h => by
    have ih := fun N => m_cov_go (x := x) (n := n) h1 hs d k (i + 1) N (by omega) (by omega)
    unfold mX11_covers_c13
    simp (disch := omega) only [nI_lit, chk_n, nI_clamp, stF_f, h1, nI_leI, m_entS, bnp_some, nI_add]
    rw [if_neg (by omega), covS_s]
    by_cases t : fE f i 1 = nI x
    · rw [if_pos t]
      by_cases t2 : nI 0 ≤ fE f i 7
      · rw [if_pos t2, if_neg (fun q => absurd q.2 (Int32.not_lt.mpr t2)), ih]
      · rw [if_neg t2, if_pos ⟨t, Int32.not_le.mp t2⟩, stF_o _ _ (by decide), upd2_oS _ _ _ _ (by decide), ih, u2s, upd2_two]
    · rw [if_neg t, if_neg (fun q => t q.1), ih]
theorem m_cv67 {n x : Nat} {f : Nat → Int32} (h1 : f 1 = nI (sz f)) (hs : sz f ≤ 400) : ∀ (d k i : Nat) (N : Mem), i + d = sz f → d < k → ∃ N', mX11_covers_c67 n k (nI x) (nI i) (stF N f) = some (stF N' f) ∧ NE N N' ∧ N' 207 21 = LF f x i d (N 207 21) ∧
      (∀ j, i ≤ j → j < sz f → N' 217 j = OPV f x j (LF f x i (j - i) (N 207 21))) ∧ (∀ j, j < i → N' 217 j = N 217 j)
  | d, 0, _, _, _, h => absurd h (Nat.not_lt_zero _)
  | 0, k + 1, i, N, e0, h => by
    unfold mX11_covers_c67
    simp (disch := omega) only [nI_lit, chk_n, nI_clamp, stF_f, h1, nI_leI]
    rw [if_pos (by omega)]
    exact ⟨N, rfl, NE.rfl', rfl, fun j q1 q2 => absurd q2 (by omega), fun _ _ => rfl⟩
  | d + 1, k + 1, i, N, e0, h => by
    have ih := fun N => m_cv67 (x := x) (n := n) h1 hs d k (i + 1) N (by omega) (by omega)
    have fin : ∀ (v l : Int32) (N1 : Mem), N1 = upd2 (upd2 N 217 i v) 207 21 l → v = OPV f x i (N 207 21) → l = (if opC f x i then N 207 21 - mnC (N 207 21) (fE f i 7) else N 207 21) → ∃ N', mX11_covers_c67 n k (nI x) (nI (i + 1)) (stF N1 f) = some (stF N' f) ∧ NE N N' ∧ N' 207 21 = LF f x i (d + 1) (N 207 21) ∧
      (∀ j, i ≤ j → j < sz f → N' 217 j = OPV f x j (LF f x i (j - i) (N 207 21))) ∧ (∀ j, j < i → N' 217 j = N 217 j) := by
      intro v l N1 hN1 hv hl
      obtain ⟨N', p1, p2, p3, p4, p5⟩ := ih N1
      have l1 : N1 207 21 = l := by rw [hN1, u2s]
      have l2 : N1 217 i = v := by rw [hN1, u2o _ _ (by decide), u2s]
      refine ⟨N', p1, NE.trans (N1 := N1) ?_ p2, ?_, fun j q1 q2 => ?_, fun j q => ?_⟩
      · subst hN1; exact NE_217.trans NE_21
      · rw [p3, l1, LF_s, ← hl]
      · rcases Nat.eq_or_lt_of_le q1 with q | q
        · subst q
          rw [p5 i (by omega), l2, Nat.sub_self, hv]; rfl
        · rw [p4 j (by omega) q2, l1, show j - i = (j - (i + 1)) + 1 by omega, LF_s, ← hl]
      · rw [p5 j (by omega), hN1, u2o _ _ (by decide), u2k _ _ (by omega)]
    unfold mX11_covers_c67
    simp (disch := omega) only [nI_lit, chk_n, nI_clamp, stF_f, h1, nI_leI, upd2_oS, m_entS, bnp_some, nI_add, mnC_m, lt_eq, stF_o, upd2_two]
    rw [if_neg (by omega)]
    by_cases t : fE f i 1 = nI x
    · rw [if_pos t]
      by_cases t2 : nI 0 < fE f i 7
      · rw [if_pos t2]
        simp (disch := omega) only [u2o]
        exact fin _ _ _ rfl (by unfold OPV; rw [if_pos ⟨t, t2⟩]) (by rw [if_pos ⟨t, t2⟩])
      · rw [if_neg t2]
        refine fin 0 (N 207 21) _ ?_ (by unfold OPV; rw [if_neg (fun q => t2 q.2)]) (by rw [if_neg (fun q => t2 q.2)])
        have : N 207 21 = upd2 N 217 i (nI 0) 207 21 := (u2o _ _ (by decide)).symm
        rw [this]; exact (upd2_id _ _ _).symm
    · rw [if_neg t]
      refine fin 0 (N 207 21) _ ?_ (by unfold OPV; rw [if_neg (fun q => t q.1)]) (by rw [if_neg (fun q => t q.1)])
      have : N 207 21 = upd2 N 217 i (nI 0) 207 21 := (u2o _ _ (by decide)).symm
      rw [this]; exact (upd2_id _ _ _).symm
theorem m_covers {n x : Nat} {f : Nat → Int32} {N : Mem} (hI : INV0 f) (hx : x < 6) (hn : 500 ≤ n) : ∃ N', mX11_covers n (nI x) (stF N f) = some (stF N' f) ∧ NE N N' ∧ N' 207 21 = LF f x 0 (sz f) (COV f x) ∧ ∀ j, j < sz f → N' 217 j = OPV f x j (LF f x 0 j (COV f x)) := by
  have h1 := hI.2.1.1; have h2 := hI.2.1.2
  unfold mX11_covers
  rw [show (9 : Int32) = nI 9 from rfl, m_ofS hx (by decide)]
  simp only [bnp_some]
  rw [upd2_oS _ _ _ _ (by decide), show (0 : Int32) = nI 0 from rfl, m_cov_go h1 h2 (sz f) n 0 _ (by omega) (by omega), u2s, upd2_two]
  obtain ⟨N', p1, p2, p3, p4, p5⟩ := m_cv67 (x := x) (n := n) h1 h2 (sz f) n 0 (upd2 N 207 21 (covS f x 0 (sz f) (fA f x 9))) (by omega) (by omega)
  rw [u2s] at p3
  refine ⟨N', p1, NE_21.trans p2, p3, fun j hj => ?_⟩
  have := p4 j (Nat.zero_le _) hj
  rw [u2s] at this
  exact this
