/-! the deeds: change, seats, pause, quit, use, pay -/
theorem op_change {b n : Nat} {M N : Mem} {f : Nat → Int32} (hS : SIM b M N f) (hn : 200 ≤ n) (a p : Int32) : OPR b M N f (mX1_putPlan n b a p M) (mX11_change n a p (stF N f)) := by
  unfold mX1_putPlan mX11_change
  obtain ⟨hb, hC, hM, hRS, ⟨hI0, hRun⟩⟩ := id hS
  have h1 := hI0.2.1.1; have h1' := hI0.2.1.2
  have e10 : ((1 : Int32) = 0) = False := eq_false (by decide)
  rcases run_c hS a with ⟨x, hx, rfl, hA, h0, hr, e1, e2, e3, e4⟩ | ⟨x, hx, rfl, hA, h0, e1, e2, e3, e4⟩ | ⟨e1, e2, e3, e4⟩
  · rw [e2, e4]
    simp only [bnp_some, e10, if_false]
    obtain ⟨a0, a1, a2, a3, a4, a5, a6, a7, a8, a9, a10, a11, a12, a13⟩ := hRS.2.2.2.1 x hx
    obtain ⟨i0, i1, i2, i3, i4, i5, i6, i7, i8, i9, i10, i11, i12, i13, i14, i15⟩ := id hA
    have room := room_c (k := 2) hRS hI0 (by decide)
    have hv1 := i1.1; have hv2 := i1.2
    rcases isPlan_c p with ⟨q, -, hq, rfl, g1, g2⟩ | ⟨g1, g2⟩
    · rw [g1, g2]
      simp only [bnp_some, e10, if_false]
      simp (disch := omega) only [nI_lit, chk_n, nI_clamp, m_ofS, bnp_some, stF_f, a4, hv1, h1, room, nI_eq, nI_leI]
      by_cases hp : aB f x = q
      · rw [if_pos hp, if_pos hp.symm]; exact OPR_no hS _
      · rw [if_neg hp, if_neg (Ne.symm hp)]
        by_cases hs : sz f ≤ 398
        · obtain ⟨c1, c2, M1, M2, f', w1, w2, w3, w4, w5, w6, w7⟩ := s_swap (w := 1) (k := 4) (v := q) hS hx hA h0 hr hs hn (by omega) (Or.inl ⟨rfl, hq⟩)
          rw [if_pos (show sz f + 2 ≤ 400 by omega), if_neg (by decide), if_pos hs, w1, w2]
          simp (disch := omega) only [bnd_some, bnp_some, m_sets]
          rw [w3, w4]
          exact ⟨_, _, N, _, rfl, rfl, w5, w6, NE.rfl', w7⟩
        · rw [if_neg (show ¬ sz f + 2 ≤ 400 by omega), if_pos rfl, if_neg hs]; exact OPR_no hS _
    · rw [g1, g2]; exact OPR_no hS _
  · rw [e2, e4]; exact OPR_no hS _
  · rw [e2, e4]; exact OPR_no hS _

theorem op_seats {b n : Nat} {M N : Mem} {f : Nat → Int32} (hS : SIM b M N f) (hn : 200 ≤ n) (a p : Int32) : OPR b M N f (mX1_putSeats n b a p M) (mX11_seats n a p (stF N f)) := by
  unfold mX1_putSeats mX11_seats
  obtain ⟨hb, hC, hM, hRS, ⟨hI0, hRun⟩⟩ := id hS
  have h1 := hI0.2.1.1; have h1' := hI0.2.1.2
  have e10 : ((1 : Int32) = 0) = False := eq_false (by decide)
  rcases run_c hS a with ⟨x, hx, rfl, hA, h0, hr, e1, e2, e3, e4⟩ | ⟨x, hx, rfl, hA, h0, e1, e2, e3, e4⟩ | ⟨e1, e2, e3, e4⟩
  · rw [e2, e4]
    simp only [bnp_some, e10, if_false]
    obtain ⟨a0, a1, a2, a3, a4, a5, a6, a7, a8, a9, a10, a11, a12, a13⟩ := hRS.2.2.2.1 x hx
    obtain ⟨i0, i1, i2, i3, i4, i5, i6, i7, i8, i9, i10, i11, i12, i13, i14, i15⟩ := id hA
    have room := room_c (k := 2) hRS hI0 (by decide)
    have hv1 := i12.1; have hv2 := i12.2
    rcases in_c p 1 9 10 1 9 rfl rfl rfl (by decide) (by decide) with ⟨q, hq1, hq, rfl, g1, g2, g3, g4⟩ | ⟨g4, g1⟩
    · rw [g4, if_neg g1, if_neg g2]
      simp only [bnp_some, e10, if_false]
      simp (disch := omega) only [nI_lit, chk_n, nI_clamp, m_ofS, bnp_some, stF_f, a6, hv1, h1, room, nI_eq, nI_leI]
      by_cases hp : aS f x = q
      · rw [if_pos hp, if_pos hp.symm]; exact OPR_no hS _
      · rw [if_neg hp, if_neg (Ne.symm hp)]
        by_cases hs : sz f ≤ 398
        · obtain ⟨c1, c2, M1, M2, f', w1, w2, w3, w4, w5, w6, w7⟩ := s_swap (w := 10) (k := 6) (v := q) hS hx hA h0 hr hs hn (by omega) (by unfold okV; omega)
          rw [if_pos (show sz f + 2 ≤ 400 by omega), if_neg (by decide), if_pos hs, w1, w2]
          simp (disch := omega) only [bnd_some, bnp_some, m_sets]
          rw [w3, w4]
          exact ⟨_, _, N, _, rfl, rfl, w5, w6, NE.rfl', w7⟩
        · rw [if_neg (show ¬ sz f + 2 ≤ 400 by omega), if_pos rfl, if_neg hs]; exact OPR_no hS _
    · rw [g4]
      rcases g1 with g1 | ⟨g1, g2, g3⟩
      · rw [if_pos g1]; exact OPR_no hS _
      · rw [if_neg g1, if_pos g2]; exact OPR_no hS _
  · rw [e2, e4]; exact OPR_no hS _
  · rw [e2, e4]; exact OPR_no hS _

theorem op_pause {b n : Nat} {M N : Mem} {f : Nat → Int32} (hS : SIM b M N f) (hn : 200 ≤ n) (a p : Int32) (hp01 : p = 0 ∨ p = 1) : OPR b M N f (mX1_putPaused n b a p M) (mX11_pause n a p (stF N f)) := by
  unfold mX1_putPaused mX11_pause
  obtain ⟨hb, hC, hM, hRS, ⟨hI0, hRun⟩⟩ := id hS
  have h1 := hI0.2.1.1; have h1' := hI0.2.1.2
  have e10 : ((1 : Int32) = 0) = False := eq_false (by decide)
  rcases run_c hS a with ⟨x, hx, rfl, hA, h0, hr, e1, e2, e3, e4⟩ | ⟨x, hx, rfl, hA, h0, e1, e2, e3, e4⟩ | ⟨e1, e2, e3, e4⟩
  · rw [e2, e4]
    simp only [bnp_some, e10, if_false]
    obtain ⟨a0, a1, a2, a3, a4, a5, a6, a7, a8, a9, a10, a11, a12, a13⟩ := hRS.2.2.2.1 x hx
    obtain ⟨i0, i1, i2, i3, i4, i5, i6, i7, i8, i9, i10, i11, i12, i13, i14, i15⟩ := id hA
    have room := room_c (k := 2) hRS hI0 (by decide)
    have hv1 := i9.1; have hv2 := i9.2
    obtain ⟨q, hq, rfl⟩ : ∃ q, q ≤ 1 ∧ p = nI q := by
      rcases hp01 with rfl | rfl
      · exact ⟨0, by decide, rfl⟩
      · exact ⟨1, by decide, rfl⟩
    have hsel : ∀ r M0, (if nI q = 0 then mX11_pause_c24 n (nI x) (nI q) 0 r M0 else mX11_pause_c24 n (nI x) (nI q) 1 r M0) = mX11_pause_c24 n (nI x) (nI q) (nI q) r M0 := by
      intro r M0
      rcases (show q = 0 ∨ q = 1 by omega) with rfl | rfl <;> rfl
    simp (disch := omega) only [m_ofS, bnp_some, show (7 : Int32) = nI 7 from rfl]
    rw [hsel]
    unfold mX11_pause_c24
    rcases (show q = 0 ∨ q = 1 by omega) with rfl | rfl
    · simp (disch := omega) only [nI_lit, chk_n, nI_clamp, m_ofS, bnp_some, stF_f, a3, hv1, h1, room, nI_eq, nI_leI]
      by_cases hp : aZ f x = 0
      · rw [if_pos hp, if_pos hp]; exact OPR_no hS _
      · rw [if_neg hp, if_neg hp]
        by_cases hs : sz f ≤ 398
        · obtain ⟨c1, c2, M1, M2, f', w1, w2, w3, w4, w5, w6, w7⟩ := s_swap (w := 7) (k := 3) (v := 0) hS hx hA h0 hr hs hn (by omega) (by unfold okV; omega)
          rw [if_pos (show sz f + 2 ≤ 400 by omega), if_neg (by decide), if_pos hs, w1, w2]
          simp only [bnd_some]
          rw [if_pos trivial]
          simp (disch := omega) only [bnp_some, m_sets]
          rw [w3, w4]
          exact ⟨_, _, N, _, rfl, rfl, w5, w6, NE.rfl', w7⟩
        · rw [if_neg (show ¬ sz f + 2 ≤ 400 by omega), if_pos rfl, if_neg hs]; exact OPR_no hS _
    · simp (disch := omega) only [nI_lit, chk_n, nI_clamp, m_ofS, bnp_some, stF_f, a3, hv1, h1, room, nI_eq, nI_leI]
      by_cases hp : aZ f x = 1
      · rw [if_pos hp, if_pos hp]; exact OPR_no hS _
      · rw [if_neg hp, if_neg hp]
        by_cases hs : sz f ≤ 398
        · obtain ⟨c1, c2, M1, M2, f', w1, w2, w3, w4, w5, w6, w7⟩ := s_swap (w := 7) (k := 3) (v := 1) hS hx hA h0 hr hs hn (by omega) (by unfold okV; omega)
          rw [if_pos (show sz f + 2 ≤ 400 by omega), if_neg (by decide), if_pos hs, w1, w2]
          simp only [bnd_some]
          rw [if_neg (by decide)]
          simp (disch := omega) only [bnp_some, m_sets]
          rw [w3, w4]
          exact ⟨_, _, N, _, rfl, rfl, w5, w6, NE.rfl', w7⟩
        · rw [if_neg (show ¬ sz f + 2 ≤ 400 by omega), if_pos rfl, if_neg hs]; exact OPR_no hS _
  · rw [e2, e4]; exact OPR_no hS _
  · rw [e2, e4]; exact OPR_no hS _

/-- quit -/
theorem usW_congr {b b' c c' : Nat → Nat} {R v : Nat} : ∀ (d i : Nat), (∀ j, i ≤ j → j < i + d → b' j = b j ∧ c' j = c j) → usW b' c' R v i d = usW b c R v i d
  | 0, i, _ => rfl
  | d + 1, i, h => by
    rw [usW_s, usW_s, (h i (Nat.le_refl _) (by omega)).1, (h i (Nat.le_refl _) (by omega)).2, usW_congr d (i + 1) (fun j h1 h2 => h j (by omega) (by omega))]
theorem usA_congr {b b' c c' : Nat → Nat} {R v : Nat} : ∀ (d i lo : Nat), (∀ j, i ≤ j → j < i + d → b' j = b j ∧ c' j = c j) → usA b' c' R v lo i d = usA b c R v lo i d
  | 0, i, lo, _ => rfl
  | d + 1, i, lo, h => by
    rw [usA_s, usA_s, (h i (Nat.le_refl _) (by omega)).1, (h i (Nat.le_refl _) (by omega)).2, usA_congr d (i + 1) _ (fun j h1 h2 => h j (by omega) (by omega))]
theorem US_congr {f f' : Nat → Int32} {p u : Nat} (hT : pT f p ≤ 4) (hf : ∀ w, w < 24 → fP f' p w = fP f p w) : US f' p u = US f p u := by
  have e1 : pT f' p = pT f p := by unfold pT; rw [hf 2 (by decide)]
  have e2 : pR f' p = pR f p := by unfold pR; rw [hf 3 (by decide)]
  have e3 : pF f' p = pF f p := by unfold pF; rw [hf 1 (by decide)]
  have e4 : ∀ j, 0 ≤ j → j < 0 + pT f p → pB f' p j = pB f p j ∧ pC f' p j = pC f p j := fun j _ hj => ⟨by unfold pB; rw [hf _ (by omega)], by unfold pC; rw [hf _ (by omega)]⟩
  unfold US
  rw [e1, e2, e3, hf 4 (by decide), usW_congr _ _ e4, usA_congr _ _ _ e4]
theorem us_upd8 {f : Nat → Int32} {x : Nat} {v : Int32} (hx : x < 6) (hB : aB f x ≤ 5) (hIT : IT f) : usC (upd f (170 + 12 * x + 8) v) x = usC f x ∧ usF (upd f (170 + 12 * x + 8) v) x = upd (usF f x) (170 + 12 * x + 8) v := by
  have hU : aU (upd f (170 + 12 * x + 8) v) x = aU f x := by unfold aU; rw [fA_un (by decide) (by decide) (by omega)]
  have hB2 : aB (upd f (170 + 12 * x + 8) v) x = aB f x := by unfold aB; rw [fA_un (by decide) (by decide) (by omega)]
  have hC : usC (upd f (170 + 12 * x + 8) v) x = usC f x := by
    unfold usC
    have e := US_congr (f' := upd f (170 + 12 * x + 8) v) (p := aB f x) (u := aU f x) (hIT.2.2.2.2.2 _ (by omega)).2.2.1.2 (fun w hw => show upd f (170 + 12 * x + 8) v (20 + 24 * aB f x + w) = f (20 + 24 * aB f x + w) from upd_n _ _ (by omega))
    rw [hU, hB2, e]
  refine ⟨hC, ?_⟩
  unfold usF
  rw [hC, fA_un (by decide) (by decide) (by omega), upd_n (j := 0) _ _ (by omega), wr_updA hx (by decide) (by decide) (by decide)]
  funext j
  unfold upd
  by_cases h1 : j = 170 + 12 * x + 6
  · rw [if_pos h1, if_neg (by omega), if_pos h1]
  · rw [if_neg h1, if_neg h1]
theorem op_quit {b n : Nat} {M N : Mem} {f : Nat → Int32} (hS : SIM b M N f) (hn : 200 ≤ n) (a : Int32) : OPR b M N f (mX1_endAccount n b a M) (mX11_giveUp n a (stF N f)) := by
  unfold mX1_endAccount mX11_giveUp
  obtain ⟨hb, hC, hM, hRS, ⟨hI0, hRun⟩⟩ := id hS
  have h1 := hI0.2.1.1; have h1' := hI0.2.1.2
  have e10 : ((1 : Int32) = 0) = False := eq_false (by decide)
  rcases run_c hS a with ⟨x, hx, rfl, hA, h0, hr, e1, e2, e3, e4⟩ | ⟨x, hx, rfl, hA, h0, e1, e2, e3, e4⟩ | ⟨e1, e2, e3, e4⟩
  · rw [e2, e4]
    simp only [bnp_some, e10, if_false]
    have room := room_c (k := 2) hRS hI0 (by decide)
    simp (disch := omega) only [nI_lit, chk_n, nI_clamp, bnp_some, stF_f, h1, room, nI_leI]
    by_cases hs : sz f ≤ 398
    · obtain ⟨M1, w1, w2, w3, w4⟩ := s_credit hRS hM hI0 hx hA (by omega) hr hn
      have hI1 := INV0_cr hI0 hx hA (by omega) hr
      have cA : ∀ y u, y < 6 → u < 12 → fA (crF f x) y u = fA f y u := fun y u hy hu => wr_A hy hu
      have ct : tD (crF f x) = tD f := wr_tD
      have cs : sz (crF f x) = sz f + 1 := wr_sz (by omega)
      have hA1 : IA1 (crF f x) x := IA1_congr hA (fun u hu => cA x u hx hu) (by rw [ct]; exact Nat.le_refl _) (by omega)
      have hok : okV 8 1 := by unfold okV; omega
      have hI2 := INV0_put hI1 hx hA1 hok
      have hA2 := IA1_put hx hA1 hok
      have hR2 : RS b (upd2 M1 (b + 35 + 12 + x) 2 (nI 1)) (upd (crF f x) (170 + 12 * x + 8) (nI 1)) := RS_put w3 hI1.2.2.2.1 hx (by omega)
      have hs2 : sz (upd (crF f x) (170 + 12 * x + 8) (nI 1)) < 400 := by rw [upA_sz, cs]; omega
      obtain ⟨M2, z1, z2, z3, z4⟩ := s_usage (N := N) hR2 hI2 hx hA2 hs2 hn
      obtain ⟨M3, y1, y2, y3, y4⟩ := s_usage (N := N) w3 hI1 hx hA1 (by omega) hn
      obtain ⟨q1, q2⟩ := us_upd8 (v := nI 1) hx hA1.2.1.2 hI1.2.2.2.1
      have hI3 := INV0_us hI2 hx hA2 hs2
      have hFD : FD b M M2 := (w4.trans (FD_put hx)).trans z4
      rw [q1] at z1
      rw [q2] at z3 hI3
      rw [if_pos (show sz f + 2 ≤ 400 by omega), if_neg (by decide), if_pos hs, w1, w2]
      simp only [bnd_some]
      rw [z1, y2]
      simp (disch := omega) only [bnd_some, bnp_some, m_sets]
      refine ⟨_, _, N, _, rfl, rfl, ⟨hb, CalC_FD hb hC hFD, hM, z3, hI3, fun y hy => ?_⟩, hFD, NE.rfl', ((FX_wr (by omega)).trans (FX_us (f := crF f x) hx (by omega))).trans (FX_up (by omega))⟩
      have et : tD (upd (usF (crF f x) x) (170 + 12 * x + 8) (nI 1)) = tD f := by rw [upA_tD]; unfold usF; rw [upA_tD, wr_tD, ct]
      by_cases h : y = x
      · subst h
        intro _ h8
        unfold aX at h8
        rw [fA_us, na_nI (by omega)] at h8
        exact absurd h8 (by decide)
      · refine RUN_same hI3 hy (hRun y hy) et (fun u hu => ?_)
        rw [fA_un (by decide) (by omega) (Or.inl h), us_A hx hy (by omega) (Or.inl h), cA y u hy (by omega)]
    · rw [if_neg (show ¬ sz f + 2 ≤ 400 by omega), if_pos rfl, if_neg hs]; exact OPR_no hS _
  · rw [e2, e4]; exact OPR_no hS _
  · rw [e2, e4]; exact OPR_no hS _
/-- a field put alone -/
theorem s_put {b x w k v : Nat} {M N : Mem} {f : Nat → Int32} (hS : SIM b M N f) (hx : x < 6) (hA : IA1 f x) (hk : (w = 6 ∧ k = 11) ∨ (w = 9 ∧ k = 12)) (hv : okV w v) : SIM b (upd2 M (b + 35 + 12 + x) k (nI v)) N (upd f (170 + 12 * x + w) (nI v)) ∧ FD b M (upd2 M (b + 35 + 12 + x) k (nI v)) := by
  obtain ⟨hb, hC, hM, hRS, ⟨hI0, hRun⟩⟩ := hS
  have hw : w < 12 := by omega
  have hFD : FD b M (upd2 M (b + 35 + 12 + x) k (nI v)) := FD_put hx
  have hI := INV0_put hI0 hx hA hv
  refine ⟨⟨hb, CalC_FD hb hC hFD, hM, RS_put hRS hI0.2.2.2.1 hx (by omega), hI, fun y hy => ?_⟩, hFD⟩
  exact RUN_same hI hy (hRun y hy) upA_tD (fun u hu => fA_un hw (by omega) (by omega))
theorem sub_le' {v : Int32} {B u : Nat} (hB : B ≤ 99999999) (hu : u ≤ B) (h0 : 0 ≤ v) : (v ≤ nI B - nI u) ↔ ∃ k, v = nI k ∧ k + u ≤ B := by
  rw [pk_sub hu]
  constructor
  · intro h
    obtain ⟨k, hk, rfl⟩ := of_range (N := B - u) h0 h (by omega)
    exact ⟨k, rfl, by omega⟩
  · rintro ⟨k, rfl, hk⟩
    rw [nI_leI (by omega) (by omega)]; omega
theorem op_use {b : Nat} {M N : Mem} {f : Nat → Int32} (hS : SIM b M N f) (a v : Int32) : OPR b M N f (mX1_addUnits b a v M) (mX11_use a v (stF N f)) := by
  unfold mX1_addUnits mX11_use
  obtain ⟨hb, hC, hM, hRS, ⟨hI0, hRun⟩⟩ := id hS
  have h1 := hI0.2.1.1; have h1' := hI0.2.1.2
  have e10 : ((1 : Int32) = 0) = False := eq_false (by decide)
  rcases run_c hS a with ⟨x, hx, rfl, hA, h0, hr, e1, e2, e3, e4⟩ | ⟨x, hx, rfl, hA, h0, e1, e2, e3, e4⟩ | ⟨e1, e2, e3, e4⟩
  · rw [e2, e4]
    simp only [bnp_some, e10, if_false]
    obtain ⟨a0, a1, a2, a3, a4, a5, a6, a7, a8, a9, a10, a11, a12, a13⟩ := hRS.2.2.2.1 x hx
    obtain ⟨i0, i1, i2, i3, i4, i5, i6, i7, i8, i9, i10, i11, i12, i13, i14, i15⟩ := id hA
    have z1 := i9.1; have z2 := i9.2; have u1 := i8.1; have u2 := i8.2
    by_cases hv : 0 ≤ v
    · rw [if_pos hv, if_pos hv]
      simp (disch := omega) only [nI_lit, chk_n, nI_clamp, m_ofS, bnp_some, a3, a11, z1, u1, lt_eq, u2s, nI_eq]
      rcases (show aZ f x = 0 ∨ aZ f x = 1 by omega) with z | z
      · rw [if_pos z, if_neg (show ¬ aZ f x = 1 by omega)]
        have hle := sub_le' (v := v) (B := 9999) (u := aU f x) (by decide) u2 hv
        by_cases h : v ≤ nI 9999 - nI (aU f x)
        · obtain ⟨k, rfl, hk⟩ := hle.mp h
          rw [if_pos h, if_pos h, nI_add]
          simp (disch := omega) only [m_sets, bnp_some, m_ofS, fA_us]
          obtain ⟨s1, s2⟩ := s_put (w := 6) (k := 11) (v := aU f x + k) hS hx hA (by omega) (by unfold okV; omega)
          exact ⟨_, _, N, _, rfl, rfl, s1, s2, NE.rfl', FX_up (by omega)⟩
        · rw [if_neg h, if_neg h]; exact OPR_no hS _
      · rw [if_neg (show ¬ aZ f x = 0 by omega), if_pos z]; exact OPR_no hS _
    · rw [if_neg hv, if_neg hv]; exact OPR_no hS _
  · rw [e2, e4]; exact OPR_no hS _
  · rw [e2, e4]; exact OPR_no hS _
theorem beg_c {b : Nat} {M N : Mem} {f : Nat → Int32} (h : SIM b M N f) (a : Int32) : (∃ x, x < 6 ∧ a = nI x ∧ IA1 f x ∧ mX1_hasBegun b a M = some 1 ∧ mX11_isBegun a (stF N f) = some 1) ∨ (mX1_hasBegun b a M = some 0 ∧ mX11_isBegun a (stF N f) = some 0) := by
  rcases run_c h a with ⟨x, hx, rfl, hA, h0, hr, e1, e2, e3, e4⟩ | ⟨x, hx, rfl, hA, h0, e1, e2, e3, e4⟩ | ⟨e1, e2, e3, e4⟩
  · exact Or.inl ⟨x, hx, rfl, hA, e1, e3⟩
  · exact Or.inl ⟨x, hx, rfl, hA, e1, e3⟩
  · exact Or.inr ⟨e1, e3⟩

