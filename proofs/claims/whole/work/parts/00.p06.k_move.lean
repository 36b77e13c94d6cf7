/-! a PERIOD begins again, with its charge; move -/
theorem s_period {b x an q n : Nat} {M N : Mem} {f g : Nat → Int32} (hb : 4 ≤ b) (hRS : RSx b M g x) (hC : CalC M) (hM : CalM N) (hI : INV0 f) (hx : x < 6) (hA : IA1 f x)
    (hg : ∀ j, j ≠ 170 + 12 * x + 2 → g j = f j) (hg2 : fA g x 2 = nI an) (ha1 : 1 ≤ an) (ha2 : an ≤ 31) (hq : q ≤ sz f) (hs : sz f < 400) (hT : NT an (tD f) ≤ 3652) (hn : 200 ≤ n) :
    ∃ c M1 M2 f', mX1_startPeriod n b (b + 35 + 12 + x) (nI q) M = some M1 ∧ mX11_opens n (nI x) (nI q) (stF N g) = some (stF N (opF g x (nI q))) ∧ mX1_writeCharge n b (b + 35 + 12 + x) M1 = some (c, M2) ∧ mX11_charges n (nI x) (stF N (opF g x (nI q))) = some (c, stF N f') ∧
      RS b M2 f' ∧ INV0 f' ∧ FD b M M2 ∧ FX f f' ∧ f' 0 = f 0 ∧ sz f' = sz f + 1 ∧ (∀ y w, y < 6 → w < 12 → y ≠ x → fA f' y w = fA f y w) ∧ RUN f' x := by
  have g0 : g 0 = f 0 := hg 0 (by omega)
  have gT : tD g = tD f := by unfold tD; rw [g0]
  have gA : ∀ w, w < 12 → w ≠ 2 → fA g x w = fA f x w := fun w h1 h2 => hg _ (by omega)
  have gN : aN g x = an := by unfold aN; rw [hg2]; exact na_nI (by omega)
  have t1' := hI.1.2
  have hIT := hI.2.2.2.1
  have hITg : IT g := IT_congr hIT (fun j _ h2 _ => hg j (by omega))
  obtain ⟨i0, i1, i2, i3, i4, i5, i6, i7, i8, i9, i10, i11, i12, i13, i14, i15⟩ := hA
  obtain ⟨M1, w1, w2, w3, w4⟩ := s_open (N := N) (q := nI q) (n := n) (f := g) hb hRS hC hM hITg (by rw [g0, gT]; exact hI.1) hx (by rw [hg2, gN]; exact ⟨rfl, ha2⟩) (by rw [gN]; exact ha1) hn
  have o3 := op_3 (f := g) (x := x) (q := nI q)
  have o4 := op_4 (f := g) (x := x) (q := nI q)
  have o5 := op_5 (f := g) (x := x) (q := nI q)
  rw [g0] at o4
  rw [gN, gT] at o5
  have oA : ∀ w, w < 12 → w ≠ 3 → w ≠ 4 → w ≠ 5 → fA (opF g x (nI q)) x w = fA g x w := fun w hw k3 k4 k5 => op_A x w hw (Or.inr ⟨k3, k4, k5⟩)
  have o0 : opF g x (nI q) 0 = f 0 := by rw [op_lo (by omega) hx, g0]
  have oT : tD (opF g x (nI q)) = tD f := by unfold tD; rw [o0]
  have oS : sz (opF g x (nI q)) = sz f := by unfold sz; rw [op_lo (by omega) hx, hg 1 (by omega)]
  have oN : aN (opF g x (nI q)) x = an := by unfold aN; rw [oA 2 (by decide) (by decide) (by decide) (by decide), hg2]; exact na_nI (by omega)
  have oD : aD (opF g x (nI q)) x = tD f := by unfold aD; rw [o4]; rfl
  have hA : IA1 (opF g x (nI q)) x := by
    unfold IA1
    rw [oT, oS, oN, oD, o3, o4, o5, oA 0 (by decide) (by decide) (by decide) (by decide), oA 2 (by decide) (by decide) (by decide) (by decide), hg2]
    unfold aB aQ aU aZ aX aP aS
    rw [o3, oA 1 (by decide) (by decide) (by decide) (by decide), oA 6 (by decide) (by decide) (by decide) (by decide), oA 7 (by decide) (by decide) (by decide) (by decide), oA 8 (by decide) (by decide) (by decide) (by decide), oA 9 (by decide) (by decide) (by decide) (by decide), oA 10 (by decide) (by decide) (by decide) (by decide), gA 0 (by decide) (by decide), gA 1 (by decide) (by decide), gA 6 (by decide) (by decide), gA 7 (by decide) (by decide), gA 8 (by decide) (by decide), gA 9 (by decide) (by decide), gA 10 (by decide) (by decide)]
    refine ⟨i0, i1, ⟨rfl, ha2⟩, ha1, isM_nI (by omega) (by decide), hI.1, rfl, hT, i8, i9, i10, i11, i12, i13, Nat.le_refl _, ?_⟩
    rw [na_nI (by omega)]; exact hq
  have hI5 : INV0 (opF g x (nI q)) := INV0_acc hI hx (fun j hj => by
      unfold opF
      rw [upd_n _ _ (by omega), upd_n _ _ (by omega), upd_n _ _ (by omega), hg j (by omega)]) (fun _ => hA.1) (Or.inr hA)
  have hr5 : (tD (opF g x (nI q)) : Int) < NT (aN (opF g x (nI q)) x) (aD (opF g x (nI q)) x) := by
    rw [oT, oN, oD]; exact (LT_NT ha1 t1').2.1
  obtain ⟨M2, y1, y2, y3, y4⟩ := s_charge w3 hM hI5 hx hA (by omega) hr5 hn
  have hI6 := INV0_ch hI5 hx hA (by omega) hr5
  have c0 : chF (opF g x (nI q)) x 0 = f 0 := by unfold chF; rw [wr_lo (by decide) (by decide), o0]
  refine ⟨_, M1, M2, _, w1, w2, y1, y2, y3, hI6, w4.trans y4, ?_, c0, ?_, ?_, ?_⟩
  · refine FX.trans (FX.trans (f1 := g) (fun j hj => hg j (by omega)) (FX_op hx)) (FX_wr (by omega))
  · unfold chF; rw [wr_sz (by omega), oS]
  · intro y w hy hw h
    unfold chF
    rw [wr_A hy hw, op_A y w hw (Or.inl h)]
    exact hg _ (by omega)
  · intro _ _
    have k2 : aN (chF (opF g x (nI q)) x) x = an := by unfold aN chF; rw [wr_A hx (by decide)]; exact oN
    have k4 : aD (chF (opF g x (nI q)) x) x = tD f := by unfold aD chF; rw [wr_A hx (by decide)]; exact oD
    have k0 : tD (chF (opF g x (nI q)) x) = tD f := by unfold tD; rw [c0]
    rw [k0, k2, k4]; exact (LT_NT ha1 t1').2.1
theorem us_tD {f : Nat → Int32} {x : Nat} : tD (usF f x) = tD f := by unfold usF; rw [upA_tD, wr_tD]
theorem us_0 {f : Nat → Int32} {x : Nat} : usF f x 0 = f 0 := by unfold usF; rw [upd_n _ _ (by omega), wr_lo (by decide) (by decide)]
theorem us_sz {f : Nat → Int32} {x : Nat} (hs : sz f < 400) : sz (usF f x) = sz f + 1 := by unfold usF; rw [upA_sz, wr_sz hs]
theorem op_move {b n : Nat} {M N : Mem} {f : Nat → Int32} (hS : SIM b M N f) (hn : 200 ≤ n) (a c : Int32) : OPR b M N f (mX1_putAnchor n b a c M) (mX11_move n a c (stF N f)) := by
  unfold mX1_putAnchor mX11_move
  obtain ⟨hb, hC, hM, hRS, ⟨hI0, hRun⟩⟩ := id hS
  have h1 := hI0.2.1.1; have h1' := hI0.2.1.2
  have t1 := hI0.1.1; have t1' := hI0.1.2
  have e10 : ((1 : Int32) = 0) = False := eq_false (by decide)
  rcases run_c hS a with ⟨x, hx, rfl, hA, h0, hr, e1, e2, e3, e4⟩ | ⟨x, hx, rfl, hA, h0, e1, e2, e3, e4⟩ | ⟨e1, e2, e3, e4⟩
  · rw [e2, e4]
    simp only [bnp_some, e10, if_false]
    obtain ⟨a0, a1, a2, a3, a4, a5, a6, a7, a8, a9, a10, a11, a12, a13⟩ := hRS.2.2.2.1 x hx
    obtain ⟨i0, i1, i2, i3, i4, i5, i6, i7, i8, i9, i10, i11, i12, i13, i14, i15⟩ := id hA
    have room := room_c (k := 3) hRS hI0 (by decide)
    have hv1 := i2.1; have hv2 := i2.2
    rcases isAnchor_c c with ⟨an, ha1, ha2, rfl, g5, g6⟩ | ⟨g5, g6⟩
    · rw [g5, g6]
      simp only [bnp_some, e10, if_false]
      simp (disch := omega) only [nI_lit, chk_n, nI_clamp, m_ofS, bnp_some, stF_f, a5, hv1, h1, room, nI_eq, nI_leI, hRS.1]
      by_cases hp : aN f x = an
      · rw [if_pos hp, if_pos hp.symm]; exact OPR_no hS _
      · rw [if_neg hp, if_neg (Ne.symm hp)]
        by_cases hs : sz f ≤ 397
        · rw [if_pos (show sz f + 3 ≤ 400 by omega), if_neg (by decide), if_pos hs, t1, cal_nt hC ha1 ha2 t1' hn, mod_nt (CalM_stF hM) ha1 ha2 t1' hn]
          obtain ⟨b1, b2, b3, b4, b5⟩ := LT_NT ha1 t1'
          simp only [bnp_some]
          have eT := leT (z := NT an (tD f)) (by omega) (by omega)
          by_cases hT : NT an (tD f) ≤ 3652
          · have hT' : iI (NT an (tD f)) ≤ nI 3652 := by rw [eT]; exact hT
            rw [if_pos hT', if_pos hT']
            obtain ⟨M1, w1, w2, w3, w4⟩ := s_credit hRS hM hI0 hx hA (by omega) hr hn
            have hI1 := INV0_cr hI0 hx hA (by omega) hr
            have cA : ∀ y u, y < 6 → u < 12 → fA (crF f x) y u = fA f y u := fun y u hy hu => wr_A hy hu
            have ct : tD (crF f x) = tD f := wr_tD
            have cs : sz (crF f x) = sz f + 1 := wr_sz (by omega)
            have hA1 : IA1 (crF f x) x := IA1_congr hA (fun u hu => cA x u hx hu) (by rw [ct]; exact Nat.le_refl _) (by omega)
            obtain ⟨M2, z1, z2, z3, z4⟩ := s_usage (N := N) w3 hI1 hx hA1 (by omega) hn
            have hI2 := INV0_us hI1 hx hA1 (by omega)
            have uA : ∀ y u, y < 6 → u < 12 → (y ≠ x ∨ u ≠ 6) → fA (usF (crF f x) x) y u = fA f y u := fun y u hy hu h => by rw [us_A hx hy hu h]; exact cA y u hy hu
            have hA2 : IA1 (usF (crF f x) x) x := INV0_X hI2 hx (by rw [uA x 0 hx (by decide) (by omega)]; exact i0)
            have uS : sz (usF (crF f x) x) = sz f + 2 := by rw [us_sz (by omega), cs]
            have uT : tD (usF (crF f x) x) = tD f := by rw [us_tD, ct]
            have r := RSx_put (w := 2) (k := 5) (v := nI an) (z3.x hx) hI2.2.2.2.1 hx (by omega)
            have hC2 : CalC (upd2 M2 (b + 35 + 12 + x) 5 (nI an)) := CalC_FD hb hC ((w4.trans z4).trans (FD_put hx))
            obtain ⟨c', M3, M4, f', p1, p2, p3, p4, p5, p6, p7, p8, p9, p10, p11, p12⟩ := s_period (q := aQ f x + 1) (n := n) hb r hC2 hM hI2 hx hA2 (fun j hj => upd_n _ _ hj) fA_us ha1 ha2 (by omega) (by omega) (by rw [uT]; exact hT) hn
            have q7 : M2 (b + 35 + 12 + x) 7 = nI (aQ f x) := by
              rw [(z3.2.2.2.1 x hx).2.2.2.2.2.2.2.1, uA x 3 hx (by decide) (by omega)]; exact i4.1
            have q3 : fA (upd (usF (crF f x) x) (170 + 12 * x + 2) (nI an)) x 3 = nI (aQ f x) := by
              rw [fA_un (by decide) (by decide) (by omega), uA x 3 hx (by decide) (by omega)]; exact i4.1
            rw [w1, w2]
            simp only [bnd_some]
            rw [z1, z2]
            simp (disch := omega) only [bnd_some, m_sets, bnp_some, m_ofS, u2k, q7, q3, nI_add]
            rw [p1, p2]
            simp only [bnp_some]
            rw [p3, p4]
            have hFD := ((w4.trans z4).trans (FD_put hx)).trans p7
            refine ⟨_, _, N, _, rfl, rfl, ⟨hb, CalC_FD hb hC hFD, hM, p5, p6, fun y hy => ?_⟩, hFD, NE.rfl', ((FX_wr (by omega)).trans (FX_us (f := crF f x) hx (by omega))).trans p8⟩
            by_cases h : y = x
            · subst h; exact p12
            · refine RUN_same p6 hy (hRun y hy) (by unfold tD; rw [p9, us_0]; exact ct) (fun u hu => ?_)
              rw [p11 y u hy (by omega) h, uA y u hy (by omega) (Or.inl h)]
          · have hT' : ¬ iI (NT an (tD f)) ≤ nI 3652 := by rw [eT]; exact hT
            rw [if_neg hT', if_neg hT']; exact OPR_no hS _
        · rw [if_neg (show ¬ sz f + 3 ≤ 400 by omega), if_pos rfl, if_neg hs]; exact OPR_no hS _
    · rw [g5, g6]; exact OPR_no hS _
  · rw [e2, e4]; exact OPR_no hS _
  · rw [e2, e4]; exact OPR_no hS _
