/-! deeds, tried -/
theorem text_c {M N : Mem} {T : Nat} (hT : T ≤ 400) (h1 : M 0 1 = nI T) (h2 : N 207 4 = nI T) (a : Int32) : (∃ L, 1 ≤ L ∧ L ≤ 200 ∧ L ≤ T ∧ a = nI L ∧ mX10_hasText a M = some 1 ∧ mX11_isLong a N = some 1 ∧ mX11_in a (1 : Int32) (200 : Int32) = some 1 ∧ a ≤ N 207 4) ∨
    (mX10_hasText a M = some 0 ∧ mX11_isLong a N = some 0 ∧ (mX11_in a (1 : Int32) (200 : Int32) = some 0 ∨ (mX11_in a (1 : Int32) (200 : Int32) = some 1 ∧ ¬ a ≤ N 207 4))) := by
  unfold mX10_hasText mX11_isLong
  rw [h1, h2]
  rcases in_c a 1 200 201 1 200 rfl rfl rfl (by decide) (by decide) with ⟨q, hq1, hq, rfl, g1, g2, g3, g4⟩ | ⟨g4, g1⟩
  · rw [if_neg g1, if_neg g2, g4]
    simp only [bnp_some]
    rw [if_neg (show ¬ (1 : Int32) = 0 by decide)]
    by_cases z : nI T < nI q
    · rw [if_pos z]; exact Or.inr ⟨rfl, rfl, Or.inr ⟨trivial, Int32.not_le.mpr z⟩⟩
    · rw [if_neg z]
      have z' := z
      rw [nI_ltI (by omega) (by omega)] at z'
      exact Or.inl ⟨q, hq1, hq, by omega, rfl, rfl, rfl, trivial, Int32.not_lt.mp z⟩
  · rw [g4]
    simp only [bnp_some]
    rw [if_pos trivial]
    refine Or.inr ⟨?_, rfl, Or.inl trivial⟩
    rcases g1 with g1 | ⟨g1, g2, g3⟩
    · rw [if_pos g1]
    · rw [if_neg g1, if_pos g2]
theorem start_c {rd L : Nat} {M : Mem} (hL : L ≤ 200) : mX8_start rd (nI L) M = some (upd2 (upd2 (upd2 (upd2 M rd 1 (nI L)) rd 2 0) rd 3 0) rd 4 0) := by
  have hm : (if (0 : Int32) < (if (400 : Int32) < nI L then (400 : Int32) else nI L) then (if (400 : Int32) < nI L then (400 : Int32) else nI L) else (0 : Int32)) = nI L := by
    rw [if_neg (show ¬ (400 : Int32) < nI L by rw [show (400 : Int32) = nI 400 from rfl, nI_ltI (by omega) (by omega)]; omega)]
    by_cases h : (0 : Int32) < nI L
    · rw [if_pos h]
    · rw [if_neg h]
      have : ¬ 0 < L := fun q => h (by rw [show (0 : Int32) = nI 0 from rfl, nI_ltI (by omega) (by omega)]; exact q)
      have h0 : L = 0 := by omega
      rw [h0]; rfl
  unfold mX8_start
  rw [hm]; rfl
theorem deeds_read {M N : Mem} {n L T : Nat} (hn : 20000 ≤ n) (hL : L ≤ 200) (hLT : L ≤ T) (t4 : ∀ i, i < T → M 1 i = N 210 i) : ∃ M0 N0, RdO M0 N0 (mX4_read n (nI L) (upd2 M 0 1 0)) (mX11_readsDeeds n (nI L) N) ∧ FT M M0 ∧ GT N N0 ∧ M0 0 1 = 0 ∧ N0 207 4 = 0 := by
  obtain ⟨M0, hM0⟩ : ∃ M0, M0 = upd2 (upd2 (upd2 (upd2 (upd2 (upd2 M 0 1 0) 204 1 (nI L)) 204 2 0) 204 3 0) 204 4 0) 199 1 0 := ⟨_, rfl⟩
  obtain ⟨N0, hN0⟩ : ∃ N0, N0 = upd2 (upd2 (upd2 (upd2 N 207 5 0) 207 6 (nI L)) 207 4 0) 207 17 0 := ⟨_, rfl⟩
  have e1 : mX4_read n (nI L) (upd2 M 0 1 0) = mX4_read_c17 n n 1 (nI 0) M0 := by
    unfold mX4_read
    rw [start_c hL, hM0]; rfl
  have e2 : mX11_readsDeeds n (nI L) N = refG n n N0 := by
    rw [hN0]; rfl
  have hR : RD 204 L 0 M0 N0 := by
    subst hM0; subst hN0
    refine ⟨Nat.zero_le _, hL, ?_, ?_, ?_, ?_, ?_, ?_, fun i hi => ?_⟩
    · rw [u2o _ _ (by decide), u2k _ _ (by decide), u2k _ _ (by decide), u2k _ _ (by decide), u2s]
    · rw [u2o _ _ (by decide), u2k _ _ (by decide), u2k _ _ (by decide), u2s]; rfl
    · rw [u2o _ _ (by decide), u2k _ _ (by decide), u2s]
    · rw [u2o _ _ (by decide), u2s]
    · rw [u2k _ _ (by decide), u2k _ _ (by decide), u2s]
    · rw [u2k _ _ (by decide), u2k _ _ (by decide), u2k _ _ (by decide), u2s]; rfl
    · rw [u2o _ _ (by decide), u2o _ _ (by decide), u2o _ _ (by decide), u2o _ _ (by decide), u2o _ _ (by decide), u2o _ _ (by decide), u2o _ _ (by decide), u2o _ _ (by decide), u2o _ _ (by decide), u2o _ _ (by decide)]
      exact t4 i (by omega)
  rw [e1, e2]
  refine ⟨M0, N0, read_go hn 24 n 0 0 M0 N0 rfl (by omega) hR (by rw [hM0, u2s]; rfl) (by rw [hN0, u2s]; rfl) (fun j hj => absurd hj (Nat.not_lt_zero _)), fun o k g => ?_, fun o k g => ?_, ?_, ?_⟩
  · rw [hM0, u2o _ _ (by omega), u2o _ _ (by omega), u2o _ _ (by omega), u2o _ _ (by omega), u2o _ _ (by omega)]
    by_cases z : o = 0
    · subst z; exact u2k _ _ (by omega)
    · exact u2o _ _ z
  · rw [hN0]
    by_cases z : o = 207
    · subst z; rw [u2k _ _ (by omega), u2k _ _ (by omega), u2k _ _ (by omega), u2k _ _ (by omega)]
    · rw [u2o _ _ z, u2o _ _ z, u2o _ _ z, u2o _ _ z]
  · rw [hM0, u2o _ _ (by decide), u2o _ _ (by decide), u2o _ _ (by decide), u2o _ _ (by decide), u2o _ _ (by decide), u2s]
  · rw [hN0, u2k _ _ (by decide), u2s]
theorem FSr.ft {M M' : Mem} (h : FSr M M') : FT M M' := fun o k g => h o k (by omega)
theorem GSr.gt {N N' : Mem} (h : GSr N N') : GT N N' := fun o k g => h o k (by
  have := hHI 2 (by decide)
  rcases g with g | g | g <;> omega)
theorem T_read {M N M0 N0 M' N' : Mem} (hT : TOT M N) (f1 : FT M M0) (f2 : GT N N0) (z1 : M0 0 1 = 0) (z2 : N0 207 4 = 0) (g1 : FSr M0 M') (g2 : GSr N0 N') : TOT M' N' :=
  T_tape hT (f1.trans g1.ft) (f2.trans g2.gt) ⟨0, by omega, by rw [g1 0 1 (by omega)]; exact z1, by rw [g2 207 4 (by have := hHI 4 (by decide); omega)]; exact z2, fun i hi => absurd hi (Nat.not_lt_zero _)⟩
theorem q_deeds {M N : Mem} {n : Nat} (hT : TOT M N) (hn : 20000 ≤ n) (a : Int32) : RES (mX10_deeds n a M) (mX11_deeds n a N) := by
  obtain ⟨hS, h57, h110, ⟨T, t1, t2, t3, t4⟩, h6, hK⟩ := id hT
  unfold mX10_deeds mX11_deeds
  rcases text_c t1 t2 t3 a with ⟨L, l1, l2, l3, rfl, e1, e2, -, -⟩ | ⟨e1, e2, -⟩
  · rw [e1, e2]
    simp only [bnp_some]
    rw [if_neg (show ¬ (1 : Int32) = 0 by decide), if_neg (show ¬ (1 : Int32) = 0 by decide)]
    obtain ⟨M0, N0, hO, f1, f2, z1, z2⟩ := deeds_read hn l2 l3 t4
    rcases hO with ⟨s, M1, N1, a1, a2, a3, a4, a5, a6, a7, a8⟩ | ⟨r, M1, N1, a1, a2, a3, a4, a5, a6⟩
    · have hT1 := T_read hT f1 f2 z1 z2 a7 a8
      rw [a1, a2]
      simp only [bnd_some]
      rw [if_pos trivial, if_neg (show ¬ (1 : Int32) = 0 by decide), bnd_id]
      obtain ⟨r, M2, N2, f', b1, b2, b3, b4, b5, b6, b7⟩ := do_go (b := 4) (Or.inl rfl) hn a3 s n 0 M1 N1 (N1 209) (by omega) (by omega) hT1.1 a4 a5 (fun j _ hj => a6 j hj)
      rw [stF_self] at b3
      have b1' := b1 rfl
      exact T_op hT1 ⟨r, M2, N2, f', b1', b3, b4, b5, b6, b7⟩
    · have hT1 := T_read hT f1 f2 z1 z2 a5 a6
      rw [a1, a2]
      simp only [bnd_some]
      rw [if_neg a3, if_pos trivial, a4]
      exact ⟨_, _, _, rfl, rfl, hT1⟩
  · rw [e1, e2]; exact ⟨_, _, _, rfl, rfl, hT⟩
theorem q_tried {M N : Mem} {n : Nat} (hT : TOT M N) (hn : 20000 ≤ n) (a b : Int32) : RES (mX10_tried n a b M) (mX11_tried n a b N) := by
  obtain ⟨hS, h57, h110, ⟨T, t1, t2, t3, t4⟩, h6, hK⟩ := id hT
  unfold mX10_tried mX11_tried
  rcases text_c t1 t2 t3 a with ⟨L, l1, l2, l3, rfl, e1, e2, -, -⟩ | ⟨e1, e2, -⟩
  · rcases isAccount_c b with ⟨x, -, hx5, rfl, g1, g2⟩ | ⟨g1, g2⟩
    · rw [e1, e2, g1, g2]
      simp only [bnp_some]
      rw [if_neg (show ¬ (1 : Int32) = 0 by decide), if_neg (show ¬ (1 : Int32) = 0 by decide), if_neg (show ¬ (1 : Int32) = 0 by decide), if_neg (show ¬ (1 : Int32) = 0 by decide)]
      obtain ⟨M0, N0, hO, f1, f2, z1, z2⟩ := deeds_read hn l2 l3 t4
      rcases hO with ⟨s, M1, N1, a1, a2, a3, a4, a5, a6, a7, a8⟩ | ⟨r, M1, N1, a1, a2, a3, a4, a5, a6⟩
      · have hT1 := T_read hT f1 f2 z1 z2 a7 a8
        rw [a1, a2]
        simp only [bnd_some]
        rw [if_pos trivial, if_neg (show ¬ (1 : Int32) = 0 by decide)]
        obtain ⟨M4, p1, p2, p3, p4⟩ := T_start (n := n) hT1 hn
        rw [p1, p3]
        simp only [bnp_some]
        obtain ⟨r, M2, N2, f', b1, b2, b3, b4, b5, b6, b7⟩ := do_go (b := 110) (Or.inr rfl) hn a3 s n 0 M4 N1 (cpR (N1 209) 0 2 4250) (by omega) (by omega) p4 (by rw [p2 199 1 (by omega)]; exact a4) a5 (fun j _ hj => STP_cg (a6 j hj) (fun o u v => p2 o j (by omega)) (fun _ _ _ => rfl) rfl rfl)
        have hfin := T_trial hT1 p2 b4 b5 b6 b7
        have b3' : mX11_doesAll n (stF N1 (cpR (N1 209) 0 2 4250)) = some (r, stF N2 f') := b3
        rw [show mX10_tried_c51 n n (nI x) 0 M4 = _ from b2 rfl (nI x), b3']
        simp only [bnd_some]
        unfold mX10_tried_c85
        have hbc := beg_c b4 (nI x)
        rcases hbc with ⟨y, hy, hxy, hA, k1, k2⟩ | ⟨k1, k2⟩
        · have hyx : y = x := by
            have := hxy
            rw [nI_eq (by omega) (by omega)] at this
            omega
          subst hyx
          rw [k1, k2]
          simp only [bnp_some]
          rw [if_neg (show ¬ (1 : Int32) = 0 by decide), if_neg (show ¬ (1 : Int32) = 0 by decide), chk_n hy (by decide), nI_clamp (by omega), show 145 + 12 + y = 110 + 35 + 12 + y by omega, RA13 b4.2.2.2.1 hy, m_all b4.2.2.2.2.1 (by omega), T_end hn]
          exact ⟨_, _, _, rfl, rfl, hfin⟩
        · rw [k1, k2]
          simp only [bnp_some]
          rw [if_pos trivial, if_pos trivial, T_end hn]
          exact ⟨_, _, _, rfl, rfl, hfin⟩
      · have hT1 := T_read hT f1 f2 z1 z2 a5 a6
        rw [a1, a2]
        simp only [bnd_some]
        rw [if_neg a3, if_pos trivial, a4]
        exact ⟨_, _, _, rfl, rfl, hT1⟩
    · rw [e1, e2, g1, g2]; exact ⟨_, _, _, rfl, rfl, hT⟩
  · rw [e1, e2]
    rcases isAccount_c b with ⟨x, -, hx5, rfl, g1, g2⟩ | ⟨g1, g2⟩
    · rw [g1]; exact ⟨_, _, _, rfl, rfl, hT⟩
    · rw [g1]; exact ⟨_, _, _, rfl, rfl, hT⟩
