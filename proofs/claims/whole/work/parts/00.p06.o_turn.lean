/-! an ENTRY turned round -/
theorem ent_c {e : Nat} {M N : Mem} {f : Nat → Int32} (hE : RE e M f) (h1 : f 1 = nI (sz f)) (hs : sz f ≤ 400) (a : Int32) : (∃ i, i < sz f ∧ a = nI i ∧ mX5_has e a M = some 1 ∧ mX11_isEntry a (stF N f) = some 1) ∨ (mX5_has e a M = some 0 ∧ mX11_isEntry a (stF N f) = some 0) := by
  unfold mX5_has mX11_isEntry mX11_in
  rw [ck1, show Int32.toNatClampNeg (1 : Int32) = 1 from rfl, stF_f, hE.1, h1]
  by_cases h0 : a < 0
  · rw [if_pos h0, if_pos h0]; exact Or.inr ⟨rfl, rfl⟩
  · rw [if_neg h0, if_neg h0]
    have h0' := Int32.not_lt.mp h0
    have hm : a ≤ nI 2147483647 := by
      rw [Int32.le_iff_toInt_le, nI_toInt (by omega)]
      have := Int32.toInt_lt a
      omega
    obtain ⟨k, hk, rfl⟩ := of_range h0' hm (by omega)
    have e1 : (nI (sz f) ≤ nI k) = (sz f ≤ k) := propext (nI_leI (by omega) (by omega))
    have e2 : ((400 : Int32) ≤ nI k) = (400 ≤ k) := by rw [show (400 : Int32) = nI 400 from rfl]; exact propext (nI_leI (by omega) (by omega))
    have e3 : (nI (sz f) - 1 < nI k) = (sz f ≤ k) := by
      rw [show (1 : Int32) = nI 1 from rfl, nI_subI, iI_n, iI_lt (by omega) (by omega) (by omega) (by omega)]
      exact propext (by omega)
    by_cases q : sz f ≤ k
    · rw [if_pos (by rw [e1]; exact q), if_pos (by rw [e3]; exact q)]; exact Or.inr ⟨rfl, rfl⟩
    · rw [if_neg (by rw [e1]; exact q), if_neg (by rw [e2]; omega), if_neg (by rw [e3]; exact q)]
      exact Or.inl ⟨k, by omega, rfl, rfl, rfl⟩
def cpE (f : Nat → Int32) (s e k : Nat) : Nat → Int32 := fun j => if s ≤ j ∧ j < s + k then fE f e (j - s) else f j
theorem cpE_0 (f : Nat → Int32) (s e : Nat) : cpE f s e 0 = f := by
  funext j; unfold cpE; rw [if_neg (by omega)]
theorem cpE_s (f : Nat → Int32) (s e k : Nat) : upd (cpE f s e k) (s + k) (fE f e k) = cpE f s e (k + 1) := by
  funext j
  unfold upd cpE
  by_cases h : j = s + k
  · rw [if_pos h, if_pos (by omega), h, Nat.add_sub_cancel_left]
  · rw [if_neg h]
    by_cases h2 : s ≤ j ∧ j < s + k
    · rw [if_pos h2, if_pos (by omega)]
    · rw [if_neg h2, if_neg (by omega)]
theorem cpE_o {f : Nat → Int32} {s e k j : Nat} (h : j < s ∨ s + k ≤ j) : cpE f s e k j = f j := by
  unfold cpE; rw [if_neg (by omega)]
theorem cpE_i {f : Nat → Int32} {s e k w : Nat} (h : w < k) : cpE f s e k (s + w) = fE f e w := by
  unfold cpE; rw [if_pos (by omega), Nat.add_sub_cancel_left]
def tnF (f : Nat → Int32) (e : Nat) : Nat → Int32 :=
  upd (upd (upd (upd (upd (upd (cpE f (250 + 10 * sz f) e 10) (250 + 10 * sz f) (nI 4)) (250 + 10 * sz f + 2) (f 0)) (250 + 10 * sz f + 7) (-fE f e 7)) (250 + 10 * sz f + 8) (nI e)) (250 + 10 * e + 9) (nI (sz f))) 1 (nI (sz f + 1))
theorem tn_lo {f : Nat → Int32} {e j : Nat} (h : j < 250) (h1 : j ≠ 1) : tnF f e j = f j := by
  unfold tnF
  simp (disch := omega) only [upd_n, cpE_o]
theorem tn_1 {f : Nat → Int32} {e : Nat} : tnF f e 1 = nI (sz f + 1) := upd_s _ _ _
theorem tn_sz {f : Nat → Int32} {e : Nat} (hs : sz f < 400) : sz (tnF f e) = sz f + 1 := by
  show na (tnF f e 1) = _
  rw [tn_1, na, nI_clamp (by omega)]
theorem tn_E {f : Nat → Int32} {e i w : Nat} (h : i < sz f) (hw : w < 10) (hne : i ≠ e ∨ w ≠ 9) : fE (tnF f e) i w = fE f i w := by
  unfold tnF fE
  simp (disch := omega) only [upd_n, cpE_o]
theorem tn_e9 {f : Nat → Int32} {e : Nat} : fE (tnF f e) e 9 = nI (sz f) := by
  unfold tnF fE
  simp (disch := omega) only [upd_n, upd_s]
theorem tn_A {f : Nat → Int32} {e y w : Nat} (h : y < 6) (hw : w < 12) : fA (tnF f e) y w = fA f y w := tn_lo (by omega) (by omega)
theorem tn_new {f : Nat → Int32} {e : Nat} (he : e < sz f) : fE (tnF f e) (sz f) 0 = nI 4 ∧ fE (tnF f e) (sz f) 1 = fE f e 1 ∧ fE (tnF f e) (sz f) 2 = f 0 ∧ fE (tnF f e) (sz f) 3 = fE f e 3 ∧ fE (tnF f e) (sz f) 4 = fE f e 4 ∧ fE (tnF f e) (sz f) 5 = fE f e 5 ∧ fE (tnF f e) (sz f) 6 = fE f e 6 ∧ fE (tnF f e) (sz f) 7 = -fE f e 7 ∧ fE (tnF f e) (sz f) 8 = nI e ∧ fE (tnF f e) (sz f) 9 = fE f e 9 := by
  unfold tnF
  refine ⟨?_, ?_, ?_, ?_, ?_, ?_, ?_, ?_, ?_, ?_⟩
  · show upd _ _ _ (250 + 10 * sz f + 0) = _
    simp (disch := omega) only [upd_n, upd_s, Nat.add_zero]
  · show upd _ _ _ (250 + 10 * sz f + 1) = _
    simp (disch := omega) only [upd_n, cpE_i]
  · show upd _ _ _ (250 + 10 * sz f + 2) = _
    simp (disch := omega) only [upd_n, upd_s]
  · show upd _ _ _ (250 + 10 * sz f + 3) = _
    simp (disch := omega) only [upd_n, cpE_i]
  · show upd _ _ _ (250 + 10 * sz f + 4) = _
    simp (disch := omega) only [upd_n, cpE_i]
  · show upd _ _ _ (250 + 10 * sz f + 5) = _
    simp (disch := omega) only [upd_n, cpE_i]
  · show upd _ _ _ (250 + 10 * sz f + 6) = _
    simp (disch := omega) only [upd_n, cpE_i]
  · show upd _ _ _ (250 + 10 * sz f + 7) = _
    simp (disch := omega) only [upd_n, upd_s]
  · show upd _ _ _ (250 + 10 * sz f + 8) = _
    simp (disch := omega) only [upd_n, upd_s]
  · show upd _ _ _ (250 + 10 * sz f + 9) = _
    simp (disch := omega) only [upd_n, cpE_i]
theorem tn_all {f : Nat → Int32} {e y : Nat} (hs : sz f < 400) (he : e < sz f) : allS (tnF f e) y = allS f y + (if fE f e 1 = nI y then -fE f e 7 else 0) := by
  unfold allS
  rw [tn_sz hs, sumR_last]
  congr 1
  · apply sumR_congr
    intro j _ hj
    rw [tn_E (by omega) (by decide) (Or.inr (by decide)), tn_E (by omega) (by decide) (Or.inr (by decide))]
  · obtain ⟨n0, n1, n2, n3, n4, n5, n6, n7, n8, n9⟩ := tn_new he
    simp only [Nat.zero_add]
    rw [n1, n7]
theorem m_turn_go {n e : Nat} {N : Mem} {f : Nat → Int32} (hs : sz f < 400) (he : e < sz f) : ∀ (d k i : Nat), i + d = 10 → d < k → mX11_turn_c81 n k (nI e) (nI (sz f)) (nI i) (stF N (cpE f (250 + 10 * sz f) e i)) = some (nI (sz f), stF N (tnF f e))
  | d, 0, _, _, h => absurd h (Nat.not_lt_zero _)
  | 0, k + 1, i, e0, h => by
    have hi : i = 10 := by omega
    subst hi
    unfold mX11_turn_c81
    rw [if_pos (show (10 : Int32) ≤ nI 10 by decide)]
    simp (disch := omega) only [nI_lit, nI_add, pk_mul, nI_clamp, chk_n, upd2_stF, lt_eq, stF_f, m_entS, bnp_some]
    unfold fE tnF
    simp (disch := omega) only [upd_n, cpE_o]
    rfl
  | d + 1, k + 1, i, e0, h => by
    have ih := m_turn_go (n := n) (N := N) hs he d k (i + 1) (by omega) (by omega)
    unfold mX11_turn_c81
    rw [if_neg (by rw [show (10 : Int32) = nI 10 from rfl, nI_leI (by omega) (by omega)]; omega)]
    simp (disch := omega) only [nI_lit, nI_add, pk_mul, nI_clamp, chk_n, upd2_stF, m_entS, bnp_some]
    rw [show fE (cpE f (250 + 10 * sz f) e i) e i = fE f e i from cpE_o (by omega), cpE_s]
    exact ih
theorem INV0_tn {f : Nat → Int32} {e : Nat} (hI : INV0 f) (hs : sz f < 400) (he : e < sz f) (h9 : fE f e 9 = -2) : INV0 (tnF f e) := by
  obtain ⟨t0, t1, t2, hIT, hIA, hIE⟩ := hI
  have eTD : tD (tnF f e) = tD f := by unfold tD; rw [tn_lo (by decide) (by decide)]
  have eS := tn_sz (e := e) hs
  have eC : cL (tnF f e) = cL f := by unfold cL; rw [tn_lo (by decide) (by decide)]
  have hb : ∀ y, y < 6 → fA f y 0 = nI 1 → fA (tnF f e) y 0 = nI 1 := fun y hy h => by rw [tn_A hy (by decide)]; exact h
  unfold INV0
  rw [eTD, eS, eC, tn_lo (by decide) (by decide), tn_1, tn_lo (by decide) (by decide)]
  refine ⟨t0, ⟨rfl, hs⟩, t2, IT_congr hIT (fun j _ h2 _ => tn_lo (by omega) (by omega)), fun y hy => IA_congr (hIA y hy) (fun w hw => tn_A hy hw) (by rw [eTD]; exact Nat.le_refl _) (by rw [eS]; omega), fun i hi => ?_⟩
  by_cases h : i = sz f
  · subst h
    obtain ⟨n0, n1, n2, n3, n4, n5, n6, n7, n8, n9⟩ := tn_new he
    obtain ⟨i0, i1, i2, i3, i4, i5, i6, i7, i8, i9, i10, i11, i12⟩ := hIE e he
    have hO : eO (tnF f e) (sz f) = eO f e := by unfold eO; rw [n1]
    have hF : eF (tnF f e) (sz f) = eF f e := by unfold eF; rw [n4]
    have hT : eT (tnF f e) (sz f) = eT f e := by unfold eT; rw [n5]
    have hQ : eQ (tnF f e) (sz f) = eQ f e := by unfold eQ; rw [n3]
    have hP : eP (tnF f e) (sz f) = eP f e := by unfold eP; rw [n6]
    have hK : eK (tnF f e) (sz f) = 4 := by unfold eK; rw [n0]; exact na_nI (by omega)
    have ho := i1.2
    have c5 := Int32.toInt_lt (fE f e 7)
    have c4 := neg_toInt' i9
    unfold IE
    rw [hO, hF, hT, hQ, hP, hK, n0, n1, n2, n3, n4, n5, n6, n7, n8, n9, eS]
    refine ⟨⟨rfl, by decide⟩, i1, ?_, i3, i4, i5, i6, i7, fun h => absurd h (by decide), by omega, Or.inr ⟨e, by omega, rfl⟩, Or.inl h9, hb _ (by omega) i12⟩
    unfold eW; rw [n2]; exact t0
  · by_cases h2 : i = e
    · subst h2
      obtain ⟨i0, i1, i2, i3, i4, i5, i6, i7, i8, i9, i10, i11, i12⟩ := hIE i he
      have k : ∀ w, w < 9 → fE (tnF f i) i w = fE f i w := fun w hw => tn_E he (by omega) (Or.inr (by omega))
      have ho := i1.2
      have e0 : eO (tnF f i) i = eO f i := by unfold eO; rw [k 1 (by decide)]
      unfold IE
      rw [e0]
      unfold eK eW eQ eF eT eP
      rw [k 0 (by decide), k 1 (by decide), k 2 (by decide), k 3 (by decide), k 4 (by decide), k 5 (by decide), k 6 (by decide), k 7 (by decide), k 8 (by decide), tn_e9, eS]
      refine ⟨i0, i1, i2, i3, i4, i5, i6, i7, i8, i9, ?_, Or.inr ⟨sz f, by omega, rfl⟩, hb _ (by omega) i12⟩
      rcases i10 with q | ⟨k, k1, k2⟩
      · exact Or.inl q
      · exact Or.inr ⟨k, by omega, k2⟩
    · exact IE_congr (hIE i (by omega)) (fun w hw => tn_E (by omega) hw (Or.inl h2)) (by rw [eS]; omega) hb
def adM (e z : Nat) (k o d c : Int32) (M : Mem) : Mem := upd2 (upd2 (upd2 (upd2 (upd2 (upd2 (upd2 M (e + 1) z k) (e + 2) z o) (e + 3) z d) (e + 8) z c) (e + 9) z (-2)) (e + 10) z (-2)) e 0 (nI (z + 1))
def dsM (e z : Nat) (q p fr to : Int32) (M : Mem) : Mem := upd2 (upd2 (upd2 (upd2 M (e + 4) z q) (e + 7) z p) (e + 5) z fr) (e + 6) z to
theorem c_add {e z : Nat} {k o d c : Int32} {M : Mem} (h0 : M e 0 = nI z) (hz : z < 400) : mX5_add e k o d c M = some (nI z, adM e z k o d c M) := by
  unfold mX5_add adM
  rw [h0, if_neg (nI_pos (by omega)), if_pos (by rw [show (400 : Int32) = nI 400 from rfl, nI_ltI (by omega) (by omega)]; exact hz)]
  simp (disch := omega) only [chk_n, nI_clamp, lt_eq, u2o, h0]
  rw [show (1 : Int32) = nI 1 from rfl, nI_add]
theorem c_ds {e z : Nat} {q p fr to : Int32} {M : Mem} (hz : z < 400) : mX5_describe e (nI z) q p fr to M = some (dsM e z q p fr to M) := by
  unfold mX5_describe dsM
  rw [if_neg (nI_pos (by omega)), if_neg (by rw [show (400 : Int32) = nI 400 from rfl, nI_leI (by omega) (by omega)]; omega)]
  simp (disch := omega) only [chk_n, nI_clamp, lt_eq]
theorem c_has {e z i : Nat} {M : Mem} (h0 : M e 0 = nI z) (hz : z ≤ 400) (hi : i < z) : mX5_has e (nI i) M = some 1 := by
  unfold mX5_has
  rw [h0, if_neg (nI_pos (by omega)), if_neg (by rw [nI_leI (by omega) (by omega)]; omega), if_neg (by rw [show (400 : Int32) = nI 400 from rfl, nI_leI (by omega) (by omega)]; omega)]
theorem c_link {e z i j : Nat} {M : Mem} (h0 : M e 0 = nI z) (hz : z ≤ 400) (hi : i < z) (hj : j < z) : mX5_link e (nI i) (nI j) M = some (upd2 (upd2 M (e + 9) i (nI j)) (e + 10) j (nI i)) := by
  unfold mX5_link
  rw [c_has h0 hz hi, c_has h0 hz hj]
  simp only [bnp_some]
  rw [if_neg (show ¬ (1 : Int32) = 0 by decide), if_neg (show ¬ (1 : Int32) = 0 by decide)]
  simp (disch := omega) only [chk_n, nI_clamp]
def tM (b e o : Nat) (M : Mem) (f : Nat → Int32) : Mem := upd2 (upd2 (upd2 (dsM (b + 36) (sz f) (fE f e 3) (fE f e 6) (fE f e 4) (fE f e 5) (adM (b + 36) (sz f) (nI 4) (nI o) (f 0) (-fE f e 7) M)) (b + 36 + 9) (sz f) (nI e)) (b + 36 + 10) e (nI (sz f))) (b + 35 + 12 + o) 13 (M (b + 35 + 12 + o) 13 + -fE f e 7)
set_option maxHeartbeats 4000000 in
theorem RS_turn {b e o : Nat} {M : Mem} {f : Nat → Int32} (hRS : RS b M f) (hI : INV0 f) (hs : sz f < 400) (he : e < sz f) (ho : fE f e 1 = nI o) (hox : o < 6) (h9 : fE f e 9 = -2) : RS b (tM b e o M f) (tnF f e) ∧ FD b M (tM b e o M f) := by
  obtain ⟨q0, q1, qT, qA, e0, eE⟩ := hRS
  have hIT := hI.2.2.2.1
  unfold tM dsM adM
  refine ⟨⟨?_, ?_, ?_, fun y hy => ?_, ?_, fun i hi => ?_⟩, fun o' k h => ?_⟩
  · simp (disch := omega) only [u2o]; rw [q0, tn_lo (by decide) (by decide)]
  · simp (disch := omega) only [u2o]; rw [q1, tn_lo (by decide) (by decide)]
  · refine RT_congr qT hIT (fun o k g1 g2 => ?_) (fun j g1 g2 _ => tn_lo (by omega) (by omega))
    simp (disch := omega) only [u2o]
  · obtain ⟨c0, c1, c2, c3, c4, c5, c6, c7, c8, c9, c10, c11, c12, c13⟩ := qA y hy
    have hAll := tn_all (y := y) hs he
    have eN : aN (tnF f e) y = aN f y := by unfold aN; rw [tn_A hy (by decide)]
    have eD : aD (tnF f e) y = aD f y := by unfold aD; rw [tn_A hy (by decide)]
    unfold RA
    rw [hAll, eN, eD, ho]
    simp (disch := omega) only [tn_A]
    by_cases h : o = y
    · subst h
      simp (disch := omega) only [u2o, u2s, u2k, if_true]
      exact ⟨c0, c1, c2, c3, c4, c5, c6, c7, c8, c9, c10, c11, c12, by rw [c13]⟩
    · have h' : ¬ nI o = nI y := by rw [nI_eq (by omega) (by omega)]; exact h
      simp (disch := omega) only [u2o, h', if_false, Int32.add_zero]
      exact ⟨c0, c1, c2, c3, c4, c5, c6, c7, c8, c9, c10, c11, c12, c13⟩
  · simp (disch := omega) only [u2o, u2s]; rw [tn_1]
  · rw [tn_sz hs] at hi
    by_cases h : i = sz f
    · subst h
      obtain ⟨n0, n1, n2, n3, n4, n5, n6, n7, n8, n9⟩ := tn_new he
      rw [n0, n1, n2, n3, n4, n5, n6, n7, n8, n9, h9, ho]
      simp (disch := omega) only [u2o, u2s, u2k]
      exact ⟨trivial, trivial, trivial, trivial, trivial, trivial, trivial, trivial, trivial, trivial⟩
    · have hi2 : i < sz f := by omega
      have k : ∀ w, w < 9 → fE (tnF f e) i w = fE f i w := fun w hw => tn_E hi2 (by omega) (Or.inr (by omega))
      obtain ⟨d0, d1, d2, d3, d4, d5, d6, d7, d8, d9⟩ := eE i hi2
      simp (disch := omega) only [k]
      by_cases h2 : i = e
      · subst h2
        rw [tn_e9]
        simp (disch := omega) only [u2o, u2k, u2s]
        exact ⟨d0, d1, d2, d3, d4, d5, d6, d7, d8, trivial⟩
      · rw [tn_E hi2 (by decide) (Or.inl h2)]
        simp (disch := omega) only [u2o, u2k]
        exact ⟨d0, d1, d2, d3, d4, d5, d6, d7, d8, d9⟩
  · simp (disch := omega) only [u2o]
theorem op_turn {b n : Nat} {M N : Mem} {f : Nat → Int32} (hS : SIM b M N f) (hn : 500 ≤ n) (a : Int32) : OPR b M N f (mX1_turnRound b a M) (mX11_turn n a (stF N f)) := by
  unfold mX1_turnRound mX11_turn
  obtain ⟨hb, hC, hM, hRS, ⟨hI0, hRun⟩⟩ := id hS
  have h1 := hI0.2.1.1; have h1' := hI0.2.1.2
  have e10 : ((1 : Int32) = 0) = False := eq_false (by decide)
  rcases ent_c (N := N) hRS.2.2.2.2 h1 h1' a with ⟨e, he, rfl, e1, e3⟩ | ⟨e1, e3⟩
  · rw [e1, e3]
    simp only [bnp_some, e10, if_false]
    obtain ⟨d0, d1, d2, d3, d4, d5, d6, d7, d8, d9⟩ := hRS.2.2.2.2.2 e he
    obtain ⟨i0, i1, i2, i3, i4, i5, i6, i7, i8, i9, i10, i11, i12⟩ := hI0.2.2.2.2.2 e he
    have ho := i1.1; have hox := i1.2
    have room := room_c (k := 1) hRS hI0 (by decide)
    have hacc := isAcc1 (eO f e) (by omega)
    have hall := m_all (N := N) (x := eO f e) hI0 hn
    have ho13 := (hRS.2.2.2.1 (eO f e) (by omega)).2.2.2.2.2.2.2.2.2.2.2.2.2
    simp (disch := omega) only [nI_lit, chk_n, nI_clamp, bnp_some, stF_f, m_entS, d0, d1, d7, d9, ho, h1, room, hacc, hall, nI_eq, ho13]
    by_cases k4 : fE f e 0 = nI 4
    · rw [if_pos k4, if_pos k4]; exact OPR_no hS _
    · rw [if_neg k4, if_neg k4]
      rcases i11 with h9 | ⟨k, k1, h9⟩
      · rw [h9, if_pos (show (-2 : Int32) < nI 0 by decide), if_pos (show (-2 : Int32) < nI 0 by decide)]
        by_cases hs : sz f ≤ 399
        · rw [if_pos (show sz f + 1 ≤ 400 by omega), if_neg (by decide), if_neg (show ¬ sz f = 400 by omega), if_neg (by decide), Int32.sub_eq_add_neg]
          by_cases hpos : nI 0 ≤ allS f (eO f e) + -fE f e 7
          · rw [if_pos hpos, if_pos hpos]
            obtain ⟨r1, r2⟩ := RS_turn (o := eO f e) hRS hI0 (by omega) he ho (by omega) h9
            have hI' := INV0_tn hI0 (by omega) he h9
            have hm := m_turn_go (n := n) (N := N) (f := f) (by omega) he 10 n 0 rfl (by omega)
            rw [cpE_0] at hm
            rw [hm, hRS.1, c_add (hRS.2.2.2.2.1.trans h1) (by omega)]
            simp only [bnd_some]
            have g3 : adM (b + 36) (sz f) (nI 4) (nI (eO f e)) (f 0) (-fE f e 7) M (b + 36 + 4) e = fE f e 3 := by unfold adM; simp (disch := omega) only [u2o]; exact d3
            have g6 : adM (b + 36) (sz f) (nI 4) (nI (eO f e)) (f 0) (-fE f e 7) M (b + 36 + 7) e = fE f e 6 := by unfold adM; simp (disch := omega) only [u2o]; exact d6
            have g4 : adM (b + 36) (sz f) (nI 4) (nI (eO f e)) (f 0) (-fE f e 7) M (b + 36 + 5) e = fE f e 4 := by unfold adM; simp (disch := omega) only [u2o]; exact d4
            have g5 : adM (b + 36) (sz f) (nI 4) (nI (eO f e)) (f 0) (-fE f e 7) M (b + 36 + 6) e = fE f e 5 := by unfold adM; simp (disch := omega) only [u2o]; exact d5
            rw [g3, g4, g5, g6, c_ds (by omega)]
            simp only [bnp_some]
            have g0 : dsM (b + 36) (sz f) (fE f e 3) (fE f e 6) (fE f e 4) (fE f e 5) (adM (b + 36) (sz f) (nI 4) (nI (eO f e)) (f 0) (-fE f e 7) M) (b + 36) 0 = nI (sz f + 1) := by unfold dsM adM; simp (disch := omega) only [u2o, u2s]
            rw [c_link g0 (by omega) (by omega) (by omega)]
            simp only [bnp_some, lt_eq]
            have g13 : upd2 (upd2 (dsM (b + 36) (sz f) (fE f e 3) (fE f e 6) (fE f e 4) (fE f e 5) (adM (b + 36) (sz f) (nI 4) (nI (eO f e)) (f 0) (-fE f e 7) M)) (b + 36 + 9) (sz f) (nI e)) (b + 36 + 10) e (nI (sz f)) (b + 35 + 12 + eO f e) 13 = M (b + 35 + 12 + eO f e) 13 := by unfold dsM adM; simp (disch := omega) only [u2o]
            rw [g13]
            have hFX : FX f (tnF f e) := fun j hj => by unfold tnF; simp (disch := omega) only [upd_n, cpE_o]
            exact ⟨_, tM b e (eO f e) M f, N, _, rfl, rfl, ⟨hb, CalC_FD hb hC r2, hM, r1, hI', fun y hy => RUN_same hI' hy (hRun y hy) (by unfold tD; rw [tn_lo (by decide) (by decide)]) (fun u hu => tn_A hy (by omega))⟩, r2, NE.rfl', hFX⟩
          · rw [if_neg hpos, if_neg hpos]; exact OPR_no hS _
        · rw [if_neg (show ¬ sz f + 1 ≤ 400 by omega), if_pos rfl, if_pos (show sz f = 400 by omega)]; exact OPR_no hS _
      · have : ¬ nI k < nI 0 := nI_pos (by omega)
        rw [h9, if_neg this, if_neg this]; exact OPR_no hS _
  · rw [e1, e3]; exact OPR_no hS _
