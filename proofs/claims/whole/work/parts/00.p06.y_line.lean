/-! line -/
theorem m_entN {M0 N0 M N : Mem} {T i w : Nat} (h : LL M0 N0 T M N) (hi : i < 400) (hw : w < 10) : mX11_entryOf (nI i) (nI w) N = some (fE (N0 209) i w) := by
  have e : N 209 = N0 209 := funext fun k => h.2.2.2.2.2 209 k (by decide) (fun h => absurd h (by decide))
  rw [← e]; exact m_entryOf hi hw
theorem line_go {M0 N0 M N : Mem} {n i : Nat} (hE : RE 40 M0 (N0 209)) (hI : INV0 (N0 209)) (hC : CalC M0) (hM : CalM N0) (hi : i < sz (N0 209)) (hn : 20000 ≤ n) (hM1 : M = upd2 M0 205 2 0) (hN1 : N = upd2 N0 207 19 0) : ∃ T M' N', mX6_write n 40 (nI i) M0 = some M' ∧ mX11_laysLine n (nI i) N0 = some N' ∧ LL M0 N0 T M' N' := by
  have h1 := hI.2.1.1; have hs := hI.2.1.2
  obtain ⟨r1, r2, r3, r4, r5, r6, r7, r8, r9, r10⟩ := hE.2 i hi
  obtain ⟨i0, i1, i2, i3, i4, i5, i6, i7, i8, i9, i10, i11, i12⟩ := hI.2.2.2.2.2 i hi
  have k0 := i0.1; have k0' := i0.2; have k3 := i3.1; have k3' := i3.2; have k4 := i4.1; have k4' := i4.2; have k5 := i5.1; have k5' := i5.2; have k6 := i6.1; have k6' := i6.2
  have L0 : LL M0 N0 0 M N := by
    subst hM1; subst hN1
    refine ⟨by omega, u2s _ _ _ _, u2s _ _ _ _, fun i hi => absurd hi (Nat.not_lt_zero _), fun o k g => ?_, fun o k g1 g2 => ?_⟩
    · rcases g with g | ⟨g, g2⟩
      · exact u2o _ _ (by omega)
      · subst g; exact u2k _ _ g2
    · by_cases q : o = 207
      · subst q; exact u2k _ _ (g2 rfl)
      · exact u2o _ _ q
  have hhas : mX5_has 40 (nI i) M = some 1 := by
    rw [has_c (RE_congrM hE (fun o k g1 g2 => L0.2.2.2.2.1 o k (by omega))) h1 hs (by omega), if_pos hi]
  have rd : ∀ {T : Nat} {M N : Mem} (o k : Nat), LL M0 N0 T M N → o < 205 → M o k = M0 o k := fun o k h g => h.2.2.2.2.1 o k (Or.inl g)
  unfold mX6_write mX11_laysLine
  rw [← hM1, ← hN1, hhas]
  simp only [bnp_some]
  rw [if_neg (show ¬ (1 : Int32) = 0 by decide)]
  have ck : ∀ (y : Option Mem), chk (nI i) 400 y = y := fun y => chk_n (by omega) (by decide)
  simp only [ck]
  rw [nI_clamp (by omega)]
  obtain ⟨M1, N1, a1, a2, L1⟩ := L_put (v := 80) L0 (by omega) (by decide)
  rw [show mX6_put (80 : Int32) M = _ from a1, show mX11_says (80 : Int32) N = _ from a2]
  simp only [bnp_some]
  rw [show M1 (40 + 4) i = nI (eQ (N0 209) i) from (rd 44 i L1 (by decide)).trans (r4.trans k3), show mX11_entryOf (nI i) (3 : Int32) N1 = _ from m_entN (w := 3) L1 (by omega) (by decide), k3]
  simp only [bnp_some]
  obtain ⟨T2, M2, N2, t2, a1, a2, L2⟩ := L_num (n := n) (v := eQ (N0 209) i) (least := 1) (m := 3) L1 hn (by omega) (by decide) (by decide) (by decide) (by omega)
  rw [show mX6_putNumber n (nI (eQ (N0 209) i)) (1 : Int32) M1 = _ from a1, show mX11_saysNumber n (nI (eQ (N0 209) i)) (1 : Int32) N1 = _ from a2]
  simp only [bnp_some]
  obtain ⟨M3, N3, a1, a2, L3⟩ := L_put (v := 32) L2 (by omega) (by decide)
  rw [show mX6_put (32 : Int32) M2 = _ from a1, show mX11_says (32 : Int32) N2 = _ from a2]
  simp only [bnp_some]
  rw [show M3 (40 + 5) i = nI (eF (N0 209) i) from (rd 45 i L3 (by decide)).trans (r5.trans k4), show mX11_entryOf (nI i) (4 : Int32) N3 = _ from m_entN (w := 4) L3 (by omega) (by decide), k4]
  simp only [bnp_some]
  obtain ⟨T4, M4, N4, t4, a1, a2, L4⟩ := L_date (n := n) L3 hC hM hn k4' (by omega)
  rw [a1, a2]
  simp only [bnp_some]
  obtain ⟨M5, N5, a1, a2, L5⟩ := L_put (v := 32) L4 (by omega) (by decide)
  rw [show mX6_put (32 : Int32) M4 = _ from a1, show mX11_says (32 : Int32) N4 = _ from a2]
  simp only [bnp_some]
  obtain ⟨M6, M7, N7, a0, a1, a2, L7⟩ := L_to (n := n) L5 hn (by omega)
  rw [a0, a2]
  simp only [bnp_some]
  rw [a1]
  simp only [bnp_some]
  obtain ⟨M8, N8, a1, a2, L8⟩ := L_put (v := 32) L7 (by omega) (by decide)
  rw [show mX6_put (32 : Int32) M7 = _ from a1, show mX11_says (32 : Int32) N7 = _ from a2]
  simp only [bnp_some]
  rw [show M8 (40 + 6) i = nI (eT (N0 209) i) from (rd 46 i L8 (by decide)).trans (r6.trans k5), show mX11_entryOf (nI i) (5 : Int32) N8 = _ from m_entN (w := 5) L8 (by omega) (by decide), k5]
  simp only [bnp_some]
  obtain ⟨T9, M9, N9, t9, a1, a2, L9⟩ := L_date (n := n) L8 hC hM hn k5' (by omega)
  rw [a1, a2]
  simp only [bnp_some]
  obtain ⟨M10, N10, a1, a2, L10⟩ := L_put (v := 32) L9 (by omega) (by decide)
  rw [show mX6_put (32 : Int32) M9 = _ from a1, show mX11_says (32 : Int32) N9 = _ from a2]
  simp only [bnp_some]
  rw [show M10 (40 + 7) i = nI (eP (N0 209) i) from (rd 47 i L10 (by decide)).trans (r7.trans k6), show mX11_entryOf (nI i) (6 : Int32) N10 = _ from m_entN (w := 6) L10 (by omega) (by decide), k6]
  simp only [bnp_some]
  obtain ⟨M11, N11, a1, a2, L11⟩ := L_put (v := 65 + eP (N0 209) i) L10 (by omega) (by omega)
  rw [show (65 : Int32) + nI (eP (N0 209) i) = nI (65 + eP (N0 209) i) from nI_add .., a1, a2]
  simp only [bnp_some]
  obtain ⟨M12, N12, a1, a2, L12⟩ := L_put (v := 32) L11 (by omega) (by decide)
  rw [show mX6_put (32 : Int32) M11 = _ from a1, show mX11_says (32 : Int32) N11 = _ from a2]
  simp only [bnp_some]
  rw [show M12 (40 + 1) i = nI (eK (N0 209) i) from (rd 41 i L12 (by decide)).trans (r1.trans k0), show mX11_entryOf (nI i) (0 : Int32) N12 = _ from m_entN (w := 0) L12 (by omega) (by decide), k0]
  simp only [bnp_some]
  obtain ⟨T13, M13, N13, t13, a1, a2, a3, L13⟩ := L_kind (n := n) L12 hn k0' (by omega)
  rw [a1, a2]
  simp only [bnp_some]
  rw [a3]
  simp only [bnp_some]
  obtain ⟨M14, N14, a1, a2, L14⟩ := L_put (v := 32) L13 (by omega) (by decide)
  rw [show mX6_put (32 : Int32) M13 = _ from a1, show mX11_says (32 : Int32) N13 = _ from a2]
  simp only [bnp_some]
  rw [show M14 (40 + 8) i = fE (N0 209) i 7 from (rd 48 i L14 (by decide)).trans r8, show mX11_entryOf (nI i) (7 : Int32) N14 = _ from m_entN (w := 7) L14 (by omega) (by decide)]
  simp only [bnp_some]
  obtain ⟨T15, M15, N15, t15, a1, a2, L15⟩ := L_euro (n := n) L14 hn i9 (by omega)
  rw [a1, a2]
  exact ⟨T15, M15, N15, rfl, rfl, L15⟩
theorem q_line {M N : Mem} {n : Nat} (hT : TOT M N) (hn : 20000 ≤ n) (a b : Int32) : RES (mX10_line n a b M) (mX11_line n a b N) := by
  have e10 : ((1 : Int32) = 0) = False := eq_false (by decide)
  obtain ⟨⟨hb, hC, hM, hRS, hI⟩, h57, h110, ⟨T, t1, t2, t3, t4⟩, h6, hK⟩ := id hT
  have h1 := hI.1.2.1.1; have hs := hI.1.2.1.2
  have hE : RE 40 M (N 209) := hRS.2.2.2.2
  unfold mX10_line mX11_line
  have := ent_c (N := N) hE h1 hs a
  rw [stF_self] at this
  rcases this with ⟨i, hi, rfl, e1, e3⟩ | ⟨e1, e3⟩
  · rw [e1, e3]
    simp only [bnp_some, e10, if_false]
    by_cases hb : (-1 : Int32) ≤ b
    · rw [if_pos hb, if_pos hb]
      obtain ⟨T', M', N', p1, p2, L⟩ := line_go (M := upd2 M 205 2 0) (N := upd2 N 207 19 0) hE hI.1 hC hM hi hn rfl rfl
      have fin : TOT M' N' := T_tape hT (fun o k g => L.2.2.2.2.1 o k (by omega)) (fun o k g => by
          rcases g with rfl | rfl | ⟨rfl, rfl⟩
          · exact L.2.2.2.2.2 _ _ (by decide) (fun h => absurd h (by decide))
          · exact L.2.2.2.2.2 _ _ (by decide) (fun h => absurd h (by decide))
          · exact L.2.2.2.2.2 _ _ (by decide) (fun _ => by decide))
        ⟨T, t1, by rw [L.2.2.2.2.1 0 1 (by omega)]; exact t2, by rw [L.2.2.2.2.2 207 4 (by decide) (fun _ => by decide)]; exact t3, fun i hi => by rw [L.2.2.2.2.1 1 i (by omega), L.2.2.2.2.2 210 i (by decide) (fun h => absurd h (by decide))]; exact t4 i hi⟩
      rw [p1, p2]
      simp only [bnp_some]
      obtain ⟨l0, l1, l2, l3, l4, l5⟩ := L
      by_cases hb1 : b = (-1 : Int32)
      · rw [if_pos hb1, if_pos hb1, l1, l2]
        exact ⟨_, _, _, rfl, rfl, fin⟩
      · rw [if_neg hb1, if_neg hb1]
        unfold mX6_byteAt
        have hb0 : ¬ b < 0 := by
          intro z
          apply hb1
          apply Int32.toInt_inj.mp
          have z1 := Int32.lt_iff_toInt_lt.mp z
          have z2 := Int32.le_iff_toInt_le.mp hb
          have e : (-1 : Int32).toInt = -1 := by decide
          rw [Int32.toInt_zero] at z1
          rw [e] at z2 ⊢
          omega
        have hm : b ≤ nI 2147483647 := by
          rw [Int32.le_iff_toInt_le, nI_toInt (by omega)]
          have := Int32.toInt_lt b
          omega
        obtain ⟨k, hk, rfl⟩ := of_range (Int32.not_lt.mp hb0) hm (by omega)
        rw [if_neg hb0, l1, l2]
        by_cases q : T' ≤ k
        · have q' : nI T' ≤ nI k := by rw [nI_leI (by omega) (by omega)]; exact q
          rw [if_pos q', if_pos q']
          exact ⟨_, _, _, rfl, rfl, fin⟩
        · have q' : ¬ nI T' ≤ nI k := by rw [nI_leI (by omega) (by omega)]; exact q
          obtain ⟨v, v1, v2, v3⟩ := l3 k (by omega)
          rw [if_neg q', if_neg q', if_neg (show ¬ (80 : Int32) ≤ nI k by rw [show (80 : Int32) = nI 80 from rfl, nI_leI (by omega) (by omega)]; omega), chk_n (show k < 80 by omega) (by decide), chk_n (show k < 80 by omega) (by decide), nI_clamp (by omega), v2, v3, and_b v v1]
          exact ⟨_, _, _, rfl, rfl, fin⟩
    · rw [if_neg hb, if_neg hb]
      exact ⟨_, _, _, rfl, rfl, hT⟩
  · rw [e1, e3]; exact ⟨_, _, _, rfl, rfl, hT⟩
