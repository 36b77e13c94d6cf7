/-! DAYS that pass -/
/-- an account's PERIOD ends on a day -/
abbrev TO (f : Nat → Int32) (day : Int32) (y : Nat) : Prop := fA f y 0 = nI 1 ∧ fA f y 8 = nI 0 ∧ fA f y 5 = day
def cntT (f : Nat → Int32) (day : Int32) : Nat → Nat → Nat
  | _, 0 => 0
  | i, d + 1 => (if TO f day i then 1 else 0) + cntT f day (i + 1) d
theorem cntT_s (f : Nat → Int32) (day : Int32) (i d : Nat) : cntT f day i (d + 1) = (if TO f day i then 1 else 0) + cntT f day (i + 1) d := rfl
theorem cntT_congr {f f' : Nat → Int32} {day : Int32} : ∀ (d i : Nat), (∀ y w, i ≤ y → y < i + d → w < 12 → fA f' y w = fA f y w) → cntT f' day i d = cntT f day i d
  | 0, _, _ => rfl
  | d + 1, i, h => by
    rw [cntT_s, cntT_s, cntT_congr d (i + 1) (fun y w h1 h2 hw => h y w (by omega) (by omega) hw)]
    unfold TO
    rw [h i 0 (Nat.le_refl _) (by omega) (by decide), h i 8 (Nat.le_refl _) (by omega) (by decide), h i 5 (Nat.le_refl _) (by omega) (by decide)]
theorem isAcc1 : ∀ x, x < 6 → mX10_isAccount (nI x) = some 1 := by decide +kernel
theorem isNum1 : ∀ x, x < 6 → mX11_isNumber (nI x) = some 1 := by decide +kernel
theorem run_0 {b x : Nat} {M N : Mem} {f : Nat → Int32} (hRS : RS b M f) (hI0 : INV0 f) (hx : x < 6) :
    (fA f x 0 = nI 1 ∧ fA f x 8 = nI 0 ∧ IA1 f x ∧ mX1_isRunning b (nI x) M = some 1 ∧ mX11_isOn (nI x) (stF N f) = some 1) ∨ (¬ (fA f x 0 = nI 1 ∧ fA f x 8 = nI 0) ∧ mX1_isRunning b (nI x) M = some 0 ∧ mX11_isOn (nI x) (stF N f) = some 0) := by
  obtain ⟨a0, a1, a2, a3, a4, a5, a6, a7, a8, a9, a10, a11, a12, a13⟩ := hRS.2.2.2.1 x hx
  have g1 := isAcc1 x hx
  have g2 := isNum1 x hx
  have hB : ∀ v, fA f x 0 = nI v → v ≤ 1 → mX1_hasBegun b (nI x) M = some (nI v) ∧ mX11_isBegun (nI x) (stF N f) = some (nI v) := by
    intro v hv hv1
    unfold mX1_hasBegun mX11_isBegun
    rw [g1, g2]
    simp (disch := omega) only [bnp_some, nI_lit, chk_n, nI_clamp, m_ofS, a1, hv]
    rcases (show v = 0 ∨ v = 1 by omega) with rfl | rfl
    · exact ⟨rfl, rfl⟩
    · exact ⟨rfl, rfl⟩
  rcases hI0.2.2.2.2.1 x hx with hz | hA
  · obtain ⟨h1, h2⟩ := hB 0 (hz 0 (by decide)) (by decide)
    refine Or.inr ⟨fun q => ?_, ?_, ?_⟩
    · rw [hz 0 (by decide)] at q; exact absurd q.1 (by decide)
    · unfold mX1_isRunning; rw [h1]; rfl
    · unfold mX11_isOn; rw [h2]; rfl
  · obtain ⟨h1, h2⟩ := hB 1 hA.1 (by decide)
    have hX := hA.2.2.2.2.2.2.2.2.2.2.1
    have hX1 := hX.1; have hX2 := hX.2
    have hR : ∀ v, fA f x 8 = nI v → v ≤ 1 → mX1_isRunning b (nI x) M = some (nI (1 - v)) ∧ mX11_isOn (nI x) (stF N f) = some (nI (1 - v)) := by
      intro v hv hv1
      unfold mX1_isRunning mX11_isOn
      rw [h1, h2]
      simp (disch := omega) only [bnp_some, nI_lit, chk_n, nI_clamp, m_ofS, a2, hv]
      rcases (show v = 0 ∨ v = 1 by omega) with rfl | rfl
      · exact ⟨rfl, rfl⟩
      · exact ⟨rfl, rfl⟩
    obtain ⟨h3, h4⟩ := hR _ hX1 hX2
    rcases (show aX f x = 0 ∨ aX f x = 1 by omega) with z | z
    · rw [z] at h3 h4
      exact Or.inl ⟨hA.1, by rw [hX1, z], hA, h3, h4⟩
    · rw [z] at h3 h4
      refine Or.inr ⟨fun q => ?_, h3, h4⟩
      have q2 := q.2
      rw [hX1, z] at q2
      exact absurd q2 (by decide)
theorem can_go {b n dd : Nat} {M N : Mem} {f : Nat → Int32} (hRS : RS b M f) (hI0 : INV0 f) (hC : CalC M) (hM : CalM N) (hd : dd ≤ 3652) (hn : 200 ≤ n) : ∀ (d k i m : Nat), i + d = 6 → d < k → m + 2 * d ≤ 12 →
    ∃ r, mX1_canPassDay_c20 n k b (nI dd) (nI m) (nI i) M = some r ∧ mX11_mayPass_c22 n k (nI dd) (nI m) (nI i) (stF N f) = some r ∧ (r = 0 ∨ (r = 1 ∧ (∀ y, i ≤ y → y < 6 → TO f (nI dd) y → NT (aN f y) dd ≤ 3652) ∧ sz f + m + 2 * cntT f (nI dd) i d ≤ 400))
  | d, 0, _, _, _, h, _ => absurd h (Nat.not_lt_zero _)
  | 0, k + 1, i, m, e, h, hm => by
    have h1 := hI0.2.1.1; have h1' := hI0.2.1.2
    have hi6 : i = 6 := by omega
    have room := room_c (k := m) hRS hI0 (by omega)
    subst hi6
    unfold mX1_canPassDay_c20 mX11_mayPass_c22
    have h66 : (6 : Int32) ≤ nI 6 := by decide
    rw [if_pos h66, if_pos h66, room]
    simp (disch := omega) only [nI_lit, chk_n, nI_clamp, bnp_some, stF_f, h1, nI_add, nI_ltI]
    by_cases q : sz f + m ≤ 400
    · rw [if_pos q, if_neg (by omega)]
      exact ⟨_, rfl, rfl, Or.inr ⟨rfl, fun y h1 h2 => absurd h2 (by omega), by unfold cntT; omega⟩⟩
    · rw [if_neg q, if_pos (by omega)]
      exact ⟨_, rfl, rfl, Or.inl rfl⟩
  | d + 1, k + 1, i, m, e, h, hm => by
    have hx : i < 6 := by omega
    have ih0 := can_go (b := b) (N := N) (n := n) hRS hI0 hC hM hd hn d k (i + 1) m (by omega) (by omega) (by omega)
    have ih2 := can_go (b := b) (N := N) (n := n) hRS hI0 hC hM hd hn d k (i + 1) (m + 2) (by omega) (by omega) (by omega)
    have e10 : (nI 1 = nI 0) = False := eq_false (by decide)
    have hi6 : (6 ≤ i) = False := eq_false (by omega)
    obtain ⟨a0, a1, a2, a3, a4, a5, a6, a7, a8, a9, a10, a11, a12, a13⟩ := hRS.2.2.2.1 i hx
    unfold mX1_canPassDay_c20 mX11_mayPass_c22 mX11_turnsOn
    rcases run_0 (N := N) hRS hI0 hx with ⟨t0, t8, hA, e1, e2⟩ | ⟨t, e1, e2⟩
    · obtain ⟨i0, i1, i2, i3, i4, i5, i6, i7, i8⟩ := hA
      have i21 := i2.1
      rw [e1, e2]
      simp (disch := omega) only [nI_lit, nI_leI, hi6, if_false, bnp_some, e10, chk_n, nI_clamp, m_ofS, a9, a5, nI_add]
      by_cases t5 : fA f i 5 = nI dd
      · simp (disch := omega) only [t5, if_true, if_false, e10, bnp_some]
        rw [i21, cal_nt hC i3 i2.2 hd hn, mod_nt (CalM_stF hM) i3 i2.2 hd hn]
        obtain ⟨b1, b2, b3, b4, b5⟩ := LT_NT i3 hd
        have eT := leT (z := NT (aN f i) dd) (by omega) (by omega)
        simp only [bnp_some]
        by_cases hT : NT (aN f i) dd ≤ 3652
        · have hT' : iI (NT (aN f i) dd) ≤ nI 3652 := by rw [eT]; exact hT
          rw [if_pos hT', if_pos hT']
          obtain ⟨r, r1, r2, r3⟩ := ih2
          refine ⟨r, r1, r2, ?_⟩
          rcases r3 with r3 | ⟨r3, r4, r5⟩
          · exact Or.inl r3
          · refine Or.inr ⟨r3, fun y h1 h2 h3 => ?_, ?_⟩
            · rcases Nat.eq_or_lt_of_le h1 with q | q
              · subst q; exact hT
              · exact r4 y (by omega) h2 h3
            · rw [cntT_s, if_pos ⟨t0, t8, t5⟩]; omega
        · have hT' : ¬ iI (NT (aN f i) dd) ≤ nI 3652 := by rw [eT]; exact hT
          rw [if_neg hT', if_neg hT']
          exact ⟨_, rfl, rfl, Or.inl rfl⟩
      · simp (disch := omega) only [t5, if_true, if_false, bnp_some]
        obtain ⟨r, r1, r2, r3⟩ := ih0
        refine ⟨r, r1, r2, ?_⟩
        rcases r3 with r3 | ⟨r3, r4, r5⟩
        · exact Or.inl r3
        · refine Or.inr ⟨r3, fun y h1 h2 h3 => ?_, ?_⟩
          · rcases Nat.eq_or_lt_of_le h1 with q | q
            · subst q; exact absurd h3.2.2 t5
            · exact r4 y (by omega) h2 h3
          · rw [cntT_s, if_neg (fun q => t5 q.2.2)]; omega
    · rw [e1, e2]
      simp (disch := omega) only [nI_lit, nI_leI, hi6, if_false, if_true, bnp_some, nI_add]
      obtain ⟨r, r1, r2, r3⟩ := ih0
      refine ⟨r, r1, r2, ?_⟩
      rcases r3 with r3 | ⟨r3, r4, r5⟩
      · exact Or.inl r3
      · refine Or.inr ⟨r3, fun y h1 h2 h3 => ?_, ?_⟩
        · rcases Nat.eq_or_lt_of_le h1 with q | q
          · subst q; exact absurd ⟨h3.1, h3.2.1⟩ t
          · exact r4 y (by omega) h2 h3
        · rw [cntT_s, if_neg (fun q => t ⟨q.1, q.2.1⟩)]; omega
theorem day_go {b n : Nat} {N : Mem} (hb : 4 ≤ b) (hM : CalM N) (hn : 200 ≤ n) : ∀ (d k i : Nat) (M : Mem) (f : Nat → Int32), i + d = 6 → d < k → RS b M f → CalC M → INV0 f → (∀ y, y < i → RUN f y) →
    (∀ y, i ≤ y → y < 6 → fA f y 0 = nI 1 → fA f y 8 = nI 0 → (tD f : Int) ≤ NT (aN f y) (aD f y)) → (∀ y, i ≤ y → y < 6 → TO f (f 0) y → NT (aN f y) (tD f) ≤ 3652) → sz f + 2 * cntT f (f 0) i d ≤ 400 →
    ∃ M' f', mX1_passDay_c12 n k b (nI i) M = some M' ∧ (∀ k2 v1 v2, mX11_pass_c34 n k2 k v1 v2 (nI i) (stF N f) = k2 v1 v2 (stF N f')) ∧ RS b M' f' ∧ INV f' ∧ FD b M M' ∧ FX f f'
  | d, 0, _, _, _, _, h, _, _, _, _, _, _, _ => absurd h (Nat.not_lt_zero _)
  | 0, k + 1, i, M, f, e, h, hRS, hC, hI0, hR, hW, hT, hs => by
    have hi6 : i = 6 := by omega
    subst hi6
    unfold mX1_passDay_c12
    have h66 : (6 : Int32) ≤ nI 6 := by decide
    rw [if_pos h66]
    refine ⟨M, f, rfl, fun k2 v1 v2 => ?_, hRS, ⟨hI0, hR⟩, FD.rfl', FX.rfl'⟩
    unfold mX11_pass_c34
    rw [if_pos h66]
  | d + 1, k + 1, i, M, f, e, h, hRS, hC, hI0, hR, hW, hT, hs => by
    have hx : i < 6 := by omega
    have e10 : (nI 1 = nI 0) = False := eq_false (by decide)
    have hi6 : (6 ≤ i) = False := eq_false (by omega)
    have t1 := hI0.1.1
    obtain ⟨a0, a1, a2, a3, a4, a5, a6, a7, a8, a9, a10, a11, a12, a13⟩ := hRS.2.2.2.1 i hx
    by_cases tt : TO f (f 0) i
    · obtain ⟨t0, t8, t5⟩ := id tt
      rcases run_0 (N := N) hRS hI0 hx with ⟨-, -, hA, e1, e2⟩ | ⟨t, e1, e2⟩
      · obtain ⟨i0, i1, i2, i3, i4, i5, i6, i7, i8, i9, i10, i11, i12, i13, i14, i15⟩ := id hA
        rw [cntT_s, if_pos tt] at hs
        obtain ⟨M1, z1, z2, z3, z4⟩ := s_usage (N := N) hRS hI0 hx hA (by omega) hn
        have hI1 := INV0_us hI0 hx hA (by omega)
        have uA : ∀ y u, y < 6 → u < 12 → (y ≠ i ∨ u ≠ 6) → fA (usF f i) y u = fA f y u := fun y u hy hu h => us_A hx hy hu h
        have hA1 : IA1 (usF f i) i := INV0_X hI1 hx (by rw [uA i 0 hx (by decide) (by omega)]; exact i0)
        have uS : sz (usF f i) = sz f + 1 := us_sz (by omega)
        have uT : tD (usF f i) = tD f := us_tD
        have hC1 : CalC M1 := CalC_FD hb hC z4
        obtain ⟨c', M2, M3, f', p1, p2, p3, p4, p5, p6, p7, p8, p9, p10, p11, p12⟩ := s_period (an := aN f i) (q := aQ f i + 1) (n := n) hb (z3.x hx) hC1 hM hI1 hx hA1 (fun j hj => rfl) (by rw [uA i 2 hx (by decide) (by omega)]; exact i2.1) i3 i2.2 (by omega) (by omega) (by rw [uT]; exact hT i (Nat.le_refl _) hx tt) hn
        have pT : tD f' = tD f := by unfold tD; rw [p9, us_0]
        have p0 : f' 0 = f 0 := by rw [p9, us_0]
        have pA : ∀ y w, y < 6 → w < 12 → y ≠ i → fA f' y w = fA f y w := fun y w hy hw h => by rw [p11 y w hy hw h, uA y w hy hw (Or.inl h)]
        have hcnt : cntT f' (f' 0) (i + 1) d = cntT f (f 0) (i + 1) d := by rw [p0]; exact cntT_congr d (i + 1) (fun y w h1 h2 hw => pA y w (by omega) hw (by omega))
        obtain ⟨M4, f4, q1, q2, q3, q4, q5, q6⟩ := day_go hb hM hn d k (i + 1) M3 f' (by omega) (by omega) p5 (CalC_FD hb hC1 p7) p6
          (fun y hy => by
            by_cases h : y = i
            · subst h; exact p12
            · exact RUN_same p6 (by omega) (hR y (by omega)) pT (fun u hu => pA y u (by omega) (by omega) h))
          (fun y h1 h2 h3 h4 => by
            rw [pA y 0 h2 (by decide) (by omega)] at h3
            rw [pA y 8 h2 (by decide) (by omega)] at h4
            have := hW y (by omega) h2 h3 h4
            unfold aN aD at *
            rw [pT, pA y 2 h2 (by decide) (by omega), pA y 4 h2 (by decide) (by omega)]
            exact this)
          (fun y h1 h2 h3 => by
            unfold TO at h3
            rw [pA y 0 h2 (by decide) (by omega), pA y 8 h2 (by decide) (by omega), pA y 5 h2 (by decide) (by omega), p0] at h3
            have := hT y (by omega) h2 h3
            unfold aN at *
            rw [pT, pA y 2 h2 (by decide) (by omega)]
            exact this)
          (by rw [hcnt, p10, uS]; omega)
        refine ⟨M4, f4, ?_, fun k2 v1 v2 => ?_, q3, q4, (z4.trans p7).trans q5, ((FX_us hx (by omega)).trans p8).trans q6⟩
        · have q7 : M1 (b + 35 + 12 + i) 7 = nI (aQ f i) := by
            rw [(z3.2.2.2.1 i hx).2.2.2.2.2.2.2.1, uA i 3 hx (by decide) (by omega)]; exact i4.1
          unfold mX1_passDay_c12
          rw [e1]
          simp (disch := omega) only [nI_lit, nI_leI, hi6, if_false, bnp_some, e10, chk_n, nI_clamp, a9, hRS.1, t5, if_true, z1, bnd_some, q7, nI_add, p1, p3]
          exact q1
        · have q3' : fA (usF f i) i 3 = nI (aQ f i) := by
            rw [uA i 3 hx (by decide) (by omega)]; exact i4.1
          unfold mX11_pass_c34 mX11_turnsOn
          simp (disch := omega) only [nI_lit, nI_leI, hi6, if_false, bnp_some, chk_n, nI_clamp, stF_f]
          rw [e2]
          simp (disch := omega) only [nI_lit, bnp_some, e10, if_false, m_ofS, t5, if_true, z2, bnd_some, q3', nI_add, p2, p4]
          exact q2 k2 v1 v2
      · exact absurd ⟨t0, t8⟩ t
    · rw [cntT_s, if_neg tt] at hs
      have hRi : RUN f i := by
        intro q0 q8
        have hA := INV0_X hI0 hx q0
        obtain ⟨i0, i1, i2, i3, i4, i5, i6, i7, i8, i9, i10, i11, i12, i13, i14, i15⟩ := id hA
        have h8 : fA f i 8 = nI 0 := by have := i10.1; rw [q8] at this; exact this
        have h1 := hW i (Nat.le_refl _) hx q0 h8
        rcases Int.lt_or_eq_of_le h1 with q | q
        · exact q
        · exfalso
          apply tt
          refine ⟨q0, h8, ?_⟩
          rw [i6, t1, ← q]; rfl
      obtain ⟨M4, f4, q1, q2, q3, q4, q5, q6⟩ := day_go hb hM hn d k (i + 1) M f (by omega) (by omega) hRS hC hI0
          (fun y hy => by
            by_cases h : y = i
            · subst h; exact hRi
            · exact hR y (by omega))
          (fun y h1 h2 h3 h4 => hW y (by omega) h2 h3 h4) (fun y h1 h2 h3 => hT y (by omega) h2 h3) (by omega)
      refine ⟨M4, f4, ?_, fun k2 v1 v2 => ?_, q3, q4, q5, q6⟩
      · unfold mX1_passDay_c12
        rcases run_0 (N := N) hRS hI0 hx with ⟨t0, t8, hA, e1, e2⟩ | ⟨t, e1, e2⟩
        · have t5 : ¬ fA f i 5 = f 0 := fun q => tt ⟨t0, t8, q⟩
          rw [e1]
          simp (disch := omega) only [nI_lit, nI_leI, hi6, if_false, bnp_some, e10, chk_n, nI_clamp, a9, hRS.1, t5, nI_add]
          exact q1
        · rw [e1]
          simp (disch := omega) only [nI_lit, nI_leI, hi6, if_false, if_true, bnp_some, e10, chk_n, nI_clamp, nI_add]
          exact q1
      · unfold mX11_pass_c34 mX11_turnsOn
        simp (disch := omega) only [nI_lit, nI_leI, hi6, if_false, bnp_some, chk_n, nI_clamp, stF_f]
        rcases run_0 (N := N) hRS hI0 hx with ⟨t0, t8, hA, e1, e2⟩ | ⟨t, e1, e2⟩
        · have t5 : ¬ fA f i 5 = f 0 := fun q => tt ⟨t0, t8, q⟩
          rw [e2]
          simp (disch := omega) only [nI_lit, bnp_some, e10, if_false, m_ofS, t5, if_true, nI_add]
          exact q2 k2 v1 v2
        · rw [e2]
          simp (disch := omega) only [nI_lit, bnp_some, if_true, nI_add]
          exact q2 k2 v1 v2
theorem RS_day {b : Nat} {M : Mem} {f : Nat → Int32} {v : Int32} (hRS : RS b M f) (hIT : IT f) : RS b (upd2 M b 4 v) (upd f 0 v) := by
  obtain ⟨q0, q1, qT, qA, e0, eE⟩ := hRS
  have eA : ∀ y w, fA (upd f 0 v) y w = fA f y w := fun y w => upd_n _ _ (by omega)
  have eE' : ∀ i w, fE (upd f 0 v) i w = fE f i w := fun y w => upd_n _ _ (by omega)
  have hsz : sz (upd f 0 v) = sz f := by unfold sz; rw [upd_n _ _ (by omega)]
  have hall : ∀ y, allS (upd f 0 v) y = allS f y := fun y => by
    unfold allS; rw [hsz]; apply sumR_congr; intro j _ _; rw [eE', eE']
  refine ⟨?_, ?_, ?_, fun y hy => ?_, ?_, fun i hi => ?_⟩
  · rw [u2s, upd_s]
  · rw [u2o _ _ (by omega), upd_n _ _ (by omega)]; exact q1
  · exact RT_congr qT hIT (fun o k g1 g2 => u2o _ _ (by omega)) (fun j g1 _ _ => upd_n _ _ (by omega))
  · have hM' : ∀ k', upd2 M b 4 v (b + 35 + 12 + y) k' = M (b + 35 + 12 + y) k' := fun k' => u2o _ _ (by omega)
    unfold RA aN aD
    simp only [hM', eA, hall]
    exact qA y hy
  · rw [u2o _ _ (by omega), upd_n _ _ (by omega)]; exact e0
  · rw [hsz] at hi
    simp (disch := omega) only [u2o, eE']
    exact eE i hi
theorem INV0_day {f : Nat → Int32} (hI : INV0 f) (h : tD f + 1 ≤ 3652) : INV0 (upd f 0 (nI (tD f + 1))) ∧ tD (upd f 0 (nI (tD f + 1))) = tD f + 1 := by
  obtain ⟨t0, t1, t2, hIT, hIA, hIE⟩ := hI
  have eA : ∀ y w, fA (upd f 0 (nI (tD f + 1))) y w = fA f y w := fun y w => upd_n _ _ (by omega)
  have eE' : ∀ i w, fE (upd f 0 (nI (tD f + 1))) i w = fE f i w := fun y w => upd_n _ _ (by omega)
  have hsz : sz (upd f 0 (nI (tD f + 1))) = sz f := by unfold sz; rw [upd_n _ _ (by omega)]
  have hcl : cL (upd f 0 (nI (tD f + 1))) = cL f := by unfold cL; rw [upd_n _ _ (by omega)]
  have hT : tD (upd f 0 (nI (tD f + 1))) = tD f + 1 := by unfold tD; rw [upd_s]; exact na_nI (by unfold tD at h; omega)
  refine ⟨?_, hT⟩
  unfold INV0
  rw [hT, hsz, hcl, upd_s, upd_n _ _ (by omega), upd_n _ _ (by omega)]
  exact ⟨⟨rfl, h⟩, t1, t2, IT_congr hIT (fun j _ _ _ => upd_n _ _ (by omega)), fun y hy => IA_congr (hIA y hy) (fun w _ => eA y w) (by rw [hT]; omega) (by rw [hsz]; exact Nat.le_refl _),
    fun i hi => IE_congr (hIE i hi) (fun w _ => eE' i w) (by rw [hsz]; exact Nat.le_refl _) (fun y hy h1 => by rw [eA]; exact h1)⟩
theorem day_1 {b n : Nat} {M N : Mem} {f : Nat → Int32} (hS : SIM b M N f) (hn : 200 ≤ n) : (mX1_canPassDay n b M = some 0 ∧ mX11_mayPass n (stF N f) = some 0) ∨
    (mX1_canPassDay n b M = some 1 ∧ mX11_mayPass n (stF N f) = some 1 ∧ ∃ M' f', mX1_passDay n b M = some M' ∧ (∀ k2 v1 v2, mX11_pass_c34 n k2 n v1 v2 (nI 0) (stF N (upd f 0 (nI (tD f + 1)))) = k2 v1 v2 (stF N f')) ∧ SIM b M' N f' ∧ FD b M M' ∧ FX f f') := by
  obtain ⟨hb, hC, hM, hRS, ⟨hI0, hRun⟩⟩ := id hS
  have t1 := hI0.1.1; have t1' := hI0.1.2
  unfold mX1_canPassDay mX11_mayPass
  simp (disch := omega) only [nI_lit, chk_n, nI_clamp, stF_f, hRS.1, t1, nI_add, nI_leI]
  by_cases hd : tD f + 1 ≤ 3652
  · rw [if_pos hd, if_pos hd]
    obtain ⟨r, r1, r2, r3⟩ := can_go (N := N) hRS hI0 hC hM hd hn 6 n 0 0 rfl (by omega) (by omega)
    rw [r1, r2]
    rcases r3 with rfl | ⟨rfl, r4, r5⟩
    · exact Or.inl ⟨rfl, rfl⟩
    · refine Or.inr ⟨rfl, rfl, ?_⟩
      obtain ⟨hI1, hT1⟩ := INV0_day hI0 hd
      have hR1 := RS_day (v := nI (tD f + 1)) hRS hI0.2.2.2.1
      have hF : FD b M (upd2 M b 4 (nI (tD f + 1))) := fun o k h => u2o _ _ (by omega)
      have eA : ∀ y w, fA (upd f 0 (nI (tD f + 1))) y w = fA f y w := fun y w => upd_n _ _ (by omega)
      have hsz : sz (upd f 0 (nI (tD f + 1))) = sz f := by unfold sz; rw [upd_n _ _ (by omega)]
      have hcnt : cntT (upd f 0 (nI (tD f + 1))) ((upd f 0 (nI (tD f + 1))) 0) 0 6 = cntT f (nI (tD f + 1)) 0 6 := by rw [upd_s]; exact cntT_congr 6 0 (fun y w _ _ _ => eA y w)
      obtain ⟨M', f', p1, p2, p3, p4, p5, p6⟩ := day_go hb hM hn 6 n 0 _ _ rfl (by omega) hR1 (CalC_FD hb hC hF) hI1 (fun y hy => absurd hy (Nat.not_lt_zero _))
        (fun y _ hy h0 h8 => by
          rw [eA] at h0 h8
          have := hRun y hy h0 (by unfold aX; rw [h8]; rfl)
          rw [hT1]
          unfold aN aD at *
          rw [eA, eA]
          omega)
        (fun y _ hy h3 => by
          unfold TO at h3
          rw [eA, eA, eA, upd_s] at h3
          have := r4 y (Nat.zero_le _) hy h3
          rw [hT1]
          unfold aN at *
          rw [eA]
          exact this)
        (by rw [hcnt, hsz]; omega)
      refine ⟨M', f', ?_, p2, ⟨hb, CalC_FD hb hC (hF.trans p5), hM, p3, p4⟩, hF.trans p5, (FX_up (by omega)).trans p6⟩
      unfold mX1_passDay
      rw [hRS.1, t1, show (1 : Int32) = nI 1 from rfl, nI_add]
      exact p1
  · rw [if_neg hd, if_neg hd]
    exact Or.inl ⟨rfl, rfl⟩
theorem pass_go {b n m : Nat} {N : Mem} (hm : m ≤ 400) (hn : 200 ≤ n) : ∀ (d k i : Nat) (M : Mem) (f : Nat → Int32), i + d = m → d < k → SIM b M N f → ∃ r M' f', mX1_passDays_c16 n k b (nI m) (nI i) M = some (r, M') ∧ mX11_pass_c2 n k (nI m) (nI i) (stF N f) = some (r, stF N f') ∧ SIM b M' N f' ∧ FD b M M' ∧ FX f f' ∧ ∃ j, j ≤ m ∧ r = nI j
  | d, 0, _, _, _, _, h, _ => absurd h (Nat.not_lt_zero _)
  | 0, k + 1, i, M, f, e, h, hS => by
    unfold mX1_passDays_c16 mX11_pass_c2
    simp (disch := omega) only [nI_leI]
    rw [if_pos (by omega), if_pos (by omega)]
    exact ⟨_, M, f, rfl, rfl, hS, FD.rfl', FX.rfl', i, by omega, rfl⟩
  | d + 1, k + 1, i, M, f, e, h, hS => by
    have t1 := hS.2.2.2.2.1.1.1; have t1' := hS.2.2.2.2.1.1.2
    unfold mX1_passDays_c16 mX11_pass_c2
    simp (disch := omega) only [nI_leI]
    rw [if_neg (by omega), if_neg (by omega)]
    rcases day_1 hS hn with ⟨e1, e2⟩ | ⟨e1, e2, M1, f1, e3, e4, e5, e6, e7⟩
    · rw [e1, e2]
      simp only [bnp_some, if_true]
      exact ⟨_, M, f, rfl, rfl, hS, FD.rfl', FX.rfl', i, by omega, rfl⟩
    · have e10 : ((1 : Int32) = 0) = False := eq_false (by decide)
      rw [e1, e2]
      simp only [bnp_some, e10, if_false]
      rw [e3]
      simp (disch := omega) only [bnp_some, nI_lit, chk_n, nI_clamp, stF_f, t1, nI_add, upd2_stF, lt_eq, e4]
      obtain ⟨r, M2, f2, r1, r2, r3, r4, r5, r6⟩ := pass_go hm hn d k (i + 1) M1 f1 (by omega) (by omega) e5
      exact ⟨r, M2, f2, r1, r2, r3, e6.trans r4, e7.trans r5, r6⟩
theorem op_days {b n : Nat} {M N : Mem} {f : Nat → Int32} (hS : SIM b M N f) (hn : 500 ≤ n) (a : Int32) : OPR b M N f (mX1_passDays n b a M) (mX11_days n a (stF N f)) := by
  unfold mX1_passDays mX11_days
  rcases in_c a 1 400 401 1 400 rfl rfl rfl (by decide) (by decide) with ⟨q, hq1, hq, rfl, g1, g2, g3, g4⟩ | ⟨g4, g1⟩
  · rw [if_neg g1, if_pos (Int32.not_lt.mp g2), g4]
    have e10 : ((1 : Int32) = 0) = False := eq_false (by decide)
    simp only [bnp_some, e10, if_false]
    unfold mX11_pass
    obtain ⟨r, M2, f2, r1, r2, r3, r4, r5, r6⟩ := pass_go (N := N) (m := q) hq (n := n) (by omega) q n 0 M f (by omega) (by omega) hS
    rw [show (0 : Int32) = nI 0 from rfl, r1, r2]
    exact ⟨r, M2, N, f2, rfl, rfl, r3, r4, NE.rfl', r5⟩
  · rw [g4]
    simp only [bnp_some, if_true]
    rcases g1 with g1 | ⟨g1, g2, g3⟩
    · rw [if_pos g1]; exact OPR_no hS _
    · rw [if_neg g1, if_neg (Int32.not_le.mpr g2)]; exact OPR_no hS _
