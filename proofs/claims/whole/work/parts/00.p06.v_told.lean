/-! accountIs, billIs, date, day, part -/
theorem kind_go {n x q : Nat} {M N : Mem} {f : Nat → Int32} (hE : RE 40 M f) (h1 : f 1 = nI (sz f)) (hs : sz f ≤ 400) (hq : q ≤ 5) : ∀ (d k i : Nat) (s : Int32), i + d = sz f → d < k → PQ (mX5_sumOfKind_c5 n k 40 (nI x) (nI q) s (nI i) M) (mX11_sumOf_c5 n k (nI x) (nI q) s (nI i) (stF N f))
  | d, 0, _, _, _, h => absurd h (Nat.not_lt_zero _)
  | 0, k + 1, i, s, e0, h => by
    unfold mX5_sumOfKind_c5 mX11_sumOf_c5
    rw [hE.1, h1, ck1, show Int32.toNatClampNeg (1 : Int32) = 1 from rfl, stF_f, h1, if_pos (by rw [nI_leI (by omega) (by omega)]; omega), if_pos (by rw [nI_leI (by omega) (by omega)]; omega)]
    exact ⟨_, rfl, rfl⟩
  | d + 1, k + 1, i, s, e0, h => by
    have ih := fun s => kind_go (n := n) (x := x) (N := N) hE h1 hs hq d k (i + 1) s (by omega) (by omega)
    have hi : i < sz f := by omega
    obtain ⟨r1, r2, r3, r4, r5, r6, r7, r8, r9, r10⟩ := hE.2 i hi
    have hq1 : ¬ nI q = (-1 : Int32) := by
      rw [show (-1 : Int32) = iI (-1) from rfl, iI_n, iI_eq (by omega) (by omega) (by omega) (by omega)]; omega
    unfold mX5_sumOfKind_c5 mX11_sumOf_c5 mX11_sumOf_c43
    rw [c_isOf hE h1 hs hi, hE.1, h1, if_neg (by rw [nI_leI (by omega) (by omega)]; omega), if_neg hq1, if_neg hq1]
    simp (disch := omega) only [nI_lit, chk_n, nI_clamp, stF_f, h1, nI_leI, m_entS, bnp_some, nI_add, r1, r8]
    rw [if_neg (show ¬ sz f ≤ i by omega)]
    by_cases t : fE f i 1 = nI x
    · rw [if_pos t, if_neg (by decide), if_pos t]
      by_cases t2 : fE f i 0 = nI q
      · rw [if_pos t2, if_pos t2]; exact ih _
      · rw [if_neg t2, if_neg t2]; exact ih _
    · rw [if_neg t, if_pos (by decide), if_neg t]; exact ih _
theorem many_go {n x : Nat} {M N : Mem} {f : Nat → Int32} (hE : RE 40 M f) (h1 : f 1 = nI (sz f)) (hs : sz f ≤ 400) : ∀ (d k i : Nat) (s : Int32), i + d = sz f → d < k → PQ (mX5_howManyOf_c4 n k 40 (nI x) s (nI i) M) (mX11_sumOf_c5 n k (nI x) (-1 : Int32) s (nI i) (stF N f))
  | d, 0, _, _, _, h => absurd h (Nat.not_lt_zero _)
  | 0, k + 1, i, s, e0, h => by
    unfold mX5_howManyOf_c4 mX11_sumOf_c5
    rw [hE.1, h1, ck1, show Int32.toNatClampNeg (1 : Int32) = 1 from rfl, stF_f, h1, if_pos (by rw [nI_leI (by omega) (by omega)]; omega), if_pos (by rw [nI_leI (by omega) (by omega)]; omega)]
    exact ⟨_, rfl, rfl⟩
  | d + 1, k + 1, i, s, e0, h => by
    have ih := fun s => many_go (n := n) (x := x) (N := N) hE h1 hs d k (i + 1) s (by omega) (by omega)
    have hi : i < sz f := by omega
    have hp : ¬ nI (sz f) ≤ nI i := by rw [nI_leI (by omega) (by omega)]; omega
    unfold mX5_howManyOf_c4 mX11_sumOf_c5 mX11_sumOf_c43
    rw [c_isOf hE h1 hs hi, hE.1, h1, if_neg hp, if_pos rfl, if_pos rfl, ck1, show Int32.toNatClampNeg (1 : Int32) = 1 from rfl, stF_f, h1, if_neg hp, show nI i + (1 : Int32) = nI (i + 1) from nI_add .., show mX11_entryOf (nI i) (1 : Int32) (stF N f) = _ from m_entS (w := 1) (by omega) (by decide)]
    simp only [bnp_some]
    by_cases t : fE f i 1 = nI x
    · rw [if_pos t, if_neg (by decide), if_pos t]; exact ih _
    · rw [if_neg t, if_pos rfl, if_neg t]; exact ih _
theorem q_accountIs {M N : Mem} {n : Nat} (hT : TOT M N) (hn : 20000 ≤ n) (a b : Int32) : PQ (mX10_accountIs n a b M) (mX11_accountIs n a b N) := by
  have e10 : ((1 : Int32) = 0) = False := eq_false (by decide)
  obtain ⟨⟨hb, hC, hM, hRS, hI⟩, -⟩ := id hT
  have h1 := hI.1.2.1.1; have hs := hI.1.2.1.2
  have hE : RE 40 M (N 209) := hRS.2.2.2.2
  unfold mX10_accountIs mX11_accountIs mX10_accountIs_c52
  simp only [bnp_id]
  rcases T_beg hT a with ⟨x, hx, rfl, hA, e1, e3⟩ | ⟨e1, e3⟩
  · rw [e1, e3]
    simp only [bnp_some, e10, if_false]
    obtain ⟨a0, a1, a2, a3, a4, a5, a6, a7, a8, a9, a10, a11, a12, a13⟩ := id (hRS.2.2.2.1 x hx)
    obtain ⟨i0, i1, i2, i3, i4, i5, i6, i7, i8, i9, i10, i11, i12, i13, i14, i15⟩ := id hA
    have of : ∀ w, w < 12 → mX11_of (nI x) (nI w) N = some (fA (N 209) x w) := fun w hw => m_of hx hw
    rw [chk_n hx (by decide), nI_clamp (by omega), show 39 + 12 + x = 4 + 35 + 12 + x by omega]
    rcases in_c b 0 19 20 0 19 rfl rfl rfl (by decide) (by decide) with ⟨q, hq1, hq, rfl, g1, g2, g3, g4⟩ | ⟨g4, g1⟩
    · rw [g4]
      simp only [bnp_some, e10, if_false]
      have sum : ∀ q, q ≤ 5 → PQ (mX5_sumOfKind n 40 (nI x) (nI q) M) (mX11_sumOf n (nI x) (nI q) N) := fun q hq => by
        have := kind_go (n := n) (x := x) (N := N) hE h1 hs hq (sz (N 209)) n 0 0 (by omega) (by omega)
        rw [stF_self] at this
        exact this
      rcases (show q = 0 ∨ q = 1 ∨ q = 2 ∨ q = 3 ∨ q = 4 ∨ q = 5 ∨ q = 6 ∨ q = 7 ∨ q = 8 ∨ q = 9 ∨ q = 10 ∨ q = 11 ∨ q = 12 ∨ q = 13 ∨ q = 14 ∨ q = 15 ∨ q = 16 ∨ q = 17 ∨ q = 18 ∨ q = 19 by omega) with rfl | rfl | rfl | rfl | rfl | rfl | rfl | rfl | rfl | rfl | rfl | rfl | rfl | rfl | rfl | rfl | rfl | rfl | rfl | rfl
      · refine ⟨fA (N 209) x 1, ?_, of 1 (by decide)⟩
        show some (M (4 + 35 + 12 + x) 4) = _
        rw [a4]
      · refine ⟨fA (N 209) x 2, ?_, of 2 (by decide)⟩
        show some (M (4 + 35 + 12 + x) 5) = _
        rw [a5]
      · refine ⟨fA (N 209) x 3, ?_, of 3 (by decide)⟩
        show some (M (4 + 35 + 12 + x) 7) = _
        rw [a7]
      · refine ⟨fA (N 209) x 4, ?_, of 4 (by decide)⟩
        show some (M (4 + 35 + 12 + x) 8) = _
        rw [a8]
      · refine ⟨fA (N 209) x 5, ?_, of 5 (by decide)⟩
        show some (M (4 + 35 + 12 + x) 9) = _
        rw [a9]
      · refine ⟨fA (N 209) x 5 - iI (LT (aN (N 209) x) (aD (N 209) x)), ?_, ?_⟩
        · show some (M (4 + 35 + 12 + x) 9 - M (4 + 35 + 12 + x) 10) = _
          rw [a9, a10 i0]
        · show (bnp (mX11_of (nI x) (nI 5) N) fun r15 => (bnp (mX11_of (nI x) (nI 2) N) fun r16 => (bnp (mX11_of (nI x) (nI 4) N) fun r17 => (bnp (mX11_lastTurn n r16 r17 N) fun r18 => (some (r15 - r18)))))) = _
          rw [of 5 (by decide), of 2 (by decide), of 4 (by decide), i2.1, i5.1]
          simp only [bnp_some]
          rw [mod_lt hM i3 i2.2 i5.2 (by omega)]; rfl
      · refine ⟨WO (N 209) x (aB (N 209) x), ?_, ?_⟩
        · show mX9_worth n 5 (M (4 + 35 + 12 + x) 4) (4 + 35 + 12 + x) M = _
          rw [a4, i1.1]
          exact c_worth hRS.2.2.1 hI.1.2.2.2.1 (hRS.2.2.2.1 x hx) (by have := i1.2; omega) i9 (by omega)
        · show (bnp (mX11_of (nI x) (nI 1) N) fun r1 => (bnp (mX11_worthBy n (nI x) r1 N) fun r2 => (some r2))) = _
          rw [of 1 (by decide), i1.1]
          simp only [bnp_some, bnp_id]
          have := m_worth (N := N) (n := n) hx (show aB (N 209) x < 6 by have := i1.2; omega) (hI.1.2.2.2.1.2.2.2.2.2 (aB (N 209) x) (by have := i1.2; omega)) (by omega)
          rw [stF_self] at this
          exact this
      · refine ⟨fA (N 209) x 6, ?_, of 6 (by decide)⟩
        show some (M (4 + 35 + 12 + x) 11) = _
        rw [a11]
      · refine ⟨allS (N 209) x, ?_, ?_⟩
        · show some (M (4 + 35 + 12 + x) 13) = _
          rw [a13]
        · have := m_all (N := N) (x := x) (n := n) hI.1 (by omega)
          rw [stF_self] at this
          exact this
      · refine ⟨fA (N 209) x 7, ?_, of 7 (by decide)⟩
        show (if M (4 + 35 + 12 + x) 3 = 0 then some 0 else some 1) = _
        rw [a3]
        rcases isM_01 i9 with z | z
        · rw [z]; rfl
        · rw [z]; rfl
      · refine ⟨fA (N 209) x 8, ?_, of 8 (by decide)⟩
        show (if M (4 + 35 + 12 + x) 2 = 0 then some 0 else some 1) = _
        rw [a2]
        rcases isM_01 i10 with z | z
        · rw [z]; rfl
        · rw [z]; rfl
      · have := many_go (n := n) (x := x) (N := N) hE h1 hs (sz (N 209)) n 0 0 (by omega) (by omega)
        rw [stF_self] at this
        exact this
      · exact sum 0 (by decide)
      · exact sum 1 (by decide)
      · exact sum 2 (by decide)
      · exact sum 3 (by decide)
      · exact sum 4 (by decide)
      · exact sum 5 (by decide)
      · refine ⟨fA (N 209) x 9, ?_, of 9 (by decide)⟩
        show some (M (4 + 35 + 12 + x) 12) = _
        rw [a12]
      · refine ⟨fA (N 209) x 10, ?_, of 10 (by decide)⟩
        show some (M (4 + 35 + 12 + x) 6) = _
        rw [a6]
    · rw [g4]
      simp only [bnp_some, if_true]
      have c : ∀ j, j ≤ 19 → ¬ b = nI j := by
        rintro j hj rfl
        rcases g1 with g1 | ⟨g1, g2, g3⟩
        · exact nI_pos (by omega) g1
        · rw [show (19 : Int32) = nI 19 from rfl, nI_ltI (by omega) (by omega)] at g2; omega
      have d : ∀ (u v : Option Int32), (if b < (12 : Int32) then u else if (17 : Int32) < b then u else v) = u := fun u v => by
        by_cases z : b < (12 : Int32)
        · rw [if_pos z]
        · rw [if_neg z]
          rcases g1 with g1 | ⟨g1, g2, g3⟩
          · exact absurd (Int32.lt_trans g1 (by decide)) z
          · rw [if_pos (Int32.lt_trans (by decide) g2)]
      rw [d]
      unfold mX0_tell
      rw [if_neg (show ¬ b = 6 from c 6 (by decide)), if_neg (show ¬ b = 11 from c 11 (by decide)), if_neg (show ¬ b = 0 from c 0 (by decide)), if_neg (show ¬ b = 1 from c 1 (by decide)), if_neg (show ¬ b = 2 from c 2 (by decide)), if_neg (show ¬ b = 3 from c 3 (by decide)), if_neg (show ¬ b = 4 from c 4 (by decide)), if_neg (show ¬ b = 5 from c 5 (by decide)), if_neg (show ¬ b = 6 from c 6 (by decide)), if_neg (show ¬ b = 7 from c 7 (by decide)), if_neg (show ¬ b = 8 from c 8 (by decide)), if_neg (show ¬ b = 9 from c 9 (by decide)), if_neg (show ¬ b = 10 from c 10 (by decide)), if_neg (show ¬ b = 11 from c 11 (by decide)), if_neg (show ¬ b = 12 from c 12 (by decide)), if_neg (show ¬ b = 13 from c 13 (by decide)), if_neg (show ¬ b = 14 from c 14 (by decide)), if_neg (show ¬ b = 15 from c 15 (by decide)), if_neg (show ¬ b = 16 from c 16 (by decide)), if_neg (show ¬ b = 17 from c 17 (by decide)), if_neg (show ¬ b = 18 from c 18 (by decide)), if_neg (show ¬ b = 19 from c 19 (by decide))]
      exact ⟨_, rfl, rfl⟩
  · rw [e1, e3]; exact ⟨_, rfl, rfl⟩
/-! billIs -/
theorem or_0 (v : Int32) : v ||| 0 = v := by
  apply Int32.toBitVec_inj.mp
  show v.toBitVec ||| 0 = v.toBitVec
  simp
theorem bits_val {M : Mem} {f : Nat → Int32} (hRS : RS 4 M f) (hI : INV0 f) {i : Nat} (hi : i < 6) : (fA f i 0 = nI 0 ∧ fA f i 8 = nI 0 ∧ fA f i 7 = nI 0) ∨ (fA f i 0 = nI 1 ∧ (fA f i 8 = nI 0 ∨ fA f i 8 = nI 1) ∧ (fA f i 7 = nI 0 ∨ fA f i 7 = nI 1)) := by
  rcases hI.2.2.2.2.1 i hi with h | h
  · exact Or.inl ⟨h 0 (by decide), h 8 (by decide), h 7 (by decide)⟩
  · obtain ⟨i0, i1, i2, i3, i4, i5, i6, i7, i8, i9, i10, i11⟩ := h
    exact Or.inr ⟨i0, isM_01 i10, isM_01 i9⟩
theorem bits_go {n w kk : Nat} {M N : Mem} {f : Nat → Int32} (hRS : RS 4 M f) (hI : INV0 f) (hw : (w = 0 ∧ kk = 1) ∨ (w = 8 ∧ kk = 2) ∨ (w = 7 ∧ kk = 3)) (c4 : Nat → Nat → Int32 → Int32 → Mem → Option Int32)
    (h0 : ∀ k v, c4 (k + 1) 4 v (nI 6) M = some v)
    (hs : ∀ k v i, i < 6 → c4 (k + 1) 4 v (nI i) M = if M (4 + 35 + 12 + i) kk = 0 then c4 k 4 (v ||| 0) (nI i + 1) M else c4 k 4 (v ||| ((1 : Int32) <<< (nI i &&& 31))) (nI i + 1) M) : ∀ (d k i : Nat) (v : Int32), i + d = 6 → d < k → PQ (c4 k 4 v (nI i) M) (mX11_bitsOf_c4 n k (nI w) v (nI i) (stF N f))
  | d, 0, _, _, _, h => absurd h (Nat.not_lt_zero _)
  | 0, k + 1, i, v, e, h => by
    have hi : i = 6 := by omega
    subst hi
    unfold mX11_bitsOf_c4
    rw [h0, if_pos (show (6 : Int32) ≤ nI 6 by decide)]
    exact ⟨_, rfl, rfl⟩
  | d + 1, k + 1, i, v, e, h => by
    have hi : i < 6 := by omega
    have ih := fun v => bits_go (n := n) (N := N) hRS hI hw c4 h0 hs d k (i + 1) v (by omega) (by omega)
    obtain ⟨a0, a1, a2, a3, a4, a5, a6, a7, a8, a9, a10, a11, a12, a13⟩ := hRS.2.2.2.1 i hi
    have hM : M (4 + 35 + 12 + i) kk = fA f i w := by
      rcases hw with ⟨rfl, rfl⟩ | ⟨rfl, rfl⟩ | ⟨rfl, rfl⟩
      · exact a1
      · exact a2
      · exact a3
    have h6 : ¬ (6 : Int32) ≤ nI i := by rw [show (6 : Int32) = nI 6 from rfl, nI_leI (by omega) (by omega)]; omega
    unfold mX11_bitsOf_c4
    rw [hs k v i hi, hM, if_neg h6, show (0 : Int32) = nI 0 from rfl, m_ofS hi (by decide), m_ofS hi (by omega), show nI i + (1 : Int32) = nI (i + 1) from nI_add .., show nI 0 = (0 : Int32) from rfl, or_0]
    simp only [bnp_some]
    have main : (fA f i 0 = nI 0 ∧ fA f i w = nI 0) ∨ (fA f i 0 = nI 1 ∧ (fA f i w = nI 0 ∨ fA f i w = nI 1)) := by
      rcases bits_val hRS hI hi with ⟨z0, z8, z7⟩ | ⟨z0, z8, z7⟩
      · rcases hw with ⟨rfl, rfl⟩ | ⟨rfl, rfl⟩ | ⟨rfl, rfl⟩
        · exact Or.inl ⟨z0, z0⟩
        · exact Or.inl ⟨z0, z8⟩
        · exact Or.inl ⟨z0, z7⟩
      · rcases hw with ⟨rfl, rfl⟩ | ⟨rfl, rfl⟩ | ⟨rfl, rfl⟩
        · exact Or.inr ⟨z0, Or.inr z0⟩
        · exact Or.inr ⟨z0, z8⟩
        · exact Or.inr ⟨z0, z7⟩
    rcases main with ⟨z0, zw⟩ | ⟨z0, zw | zw⟩
    · rw [zw, z0, if_pos (show nI 0 = (0 : Int32) from rfl), if_neg (show ¬ nI 0 = (1 : Int32) by decide)]; exact ih _
    · rw [zw, z0, if_pos (show nI 0 = (0 : Int32) from rfl), if_pos (show nI 1 = (1 : Int32) from rfl), if_neg (show ¬ nI 0 = (1 : Int32) by decide)]; exact ih _
    · rw [zw, z0, if_neg (show ¬ nI 1 = (0 : Int32) by decide), if_pos (show nI 1 = (1 : Int32) from rfl), if_pos (show nI 1 = (1 : Int32) from rfl)]; exact ih _
theorem GS_tx : GS.2.1 7 = 4 ∧ GS.2.1 8 = 4 := by decide +kernel
theorem q_billIs {M N : Mem} {n : Nat} (hT : TOT M N) (hn : 20000 ≤ n) (b : Int32) : PQ (mX10_billIs n b M) (mX11_billIs n b N) := by
  have e10 : ((1 : Int32) = 0) = False := eq_false (by decide)
  obtain ⟨⟨hb, hC, hM, hRS, hI⟩, -⟩ := id hT
  have h1 := hI.1.2.1.1; have hs := hI.1.2.1.2
  obtain ⟨r1, r2, r3, r4, r5, r6⟩ := hRS.2.2.1
  obtain ⟨j1, j2, j3, j4, j5, j6⟩ := hI.1.2.2.2.1
  have x1 := j4.1; have x2 := j4.2
  have b0 : PQ (mX1_begunBits n 4 M) (mX11_bitsOf n (nI 0) N) := by
    have := bits_go (n := n) (w := 0) (kk := 1) (N := N) hRS hI.1 (by omega) (mX1_begunBits_c4 n) (fun k v => by unfold mX1_begunBits_c4; rw [if_pos (show (6 : Int32) ≤ nI 6 by decide)])
      (fun k v i hi => by
        rw [mX1_begunBits_c4, if_neg (show ¬ (6 : Int32) ≤ nI i by rw [show (6 : Int32) = nI 6 from rfl, nI_leI (by omega) (by omega)]; omega), chk_n hi (by decide), nI_clamp (by omega)]) 6 n 0 0 rfl (by omega)
    rw [stF_self] at this
    exact this
  have b8 : PQ (mX1_endedBits n 4 M) (mX11_bitsOf n (nI 8) N) := by
    have := bits_go (n := n) (w := 8) (kk := 2) (N := N) hRS hI.1 (by omega) (mX1_endedBits_c4 n) (fun k v => by unfold mX1_endedBits_c4; rw [if_pos (show (6 : Int32) ≤ nI 6 by decide)])
      (fun k v i hi => by
        rw [mX1_endedBits_c4, if_neg (show ¬ (6 : Int32) ≤ nI i by rw [show (6 : Int32) = nI 6 from rfl, nI_leI (by omega) (by omega)]; omega), chk_n hi (by decide), nI_clamp (by omega)]) 6 n 0 0 rfl (by omega)
    rw [stF_self] at this
    exact this
  have b7 : PQ (mX1_pausedBits n 4 M) (mX11_bitsOf n (nI 7) N) := by
    have := bits_go (n := n) (w := 7) (kk := 3) (N := N) hRS hI.1 (by omega) (mX1_pausedBits_c4 n) (fun k v => by unfold mX1_pausedBits_c4; rw [if_pos (show (6 : Int32) ≤ nI 6 by decide)])
      (fun k v i hi => by
        rw [mX1_pausedBits_c4, if_neg (show ¬ (6 : Int32) ≤ nI i by rw [show (6 : Int32) = nI 6 from rfl, nI_leI (by omega) (by omega)]; omega), chk_n hi (by decide), nI_clamp (by omega)]) 6 n 0 0 rfl (by omega)
    rw [stF_self] at this
    exact this
  have td : ∀ j, j < 4 → mX10_tellOf 7 (nI (nX (N 209))) (nI j) M = some (if j < nX (N 209) then N 209 (7 + j) else -2) := by
    intro j hj
    rw [c_tellOf GS_tx.1 x2 (by omega) (by omega)]
    by_cases z : j < nX (N 209)
    · rw [if_pos z, if_pos z, show M 7 j = _ from (r5 j z).1]
    · rw [if_neg z, if_neg z]
  have tr : ∀ j, j < 4 → mX10_tellOf 8 (nI (nX (N 209))) (nI j) M = some (if j < nX (N 209) then N 209 (11 + j) else -2) := by
    intro j hj
    rw [c_tellOf GS_tx.2 x2 (by omega) (by omega)]
    by_cases z : j < nX (N 209)
    · rw [if_pos z, if_pos z, show M 8 j = _ from (r5 j z).2]
    · rw [if_neg z, if_neg z]
  have cc : ∀ j q (w : Nat), j < 4 → (nI q - nI q / (10 : Int32) * (10 : Int32)) = nI j → ((20 : Int32) ≤ nI q ∧ w = 11 ∨ ¬ (20 : Int32) ≤ nI q ∧ w = 7) → mX11_billIs_c22 n (nI q) N = some (if j < nX (N 209) then N 209 (w + j) else -2) := by
    intro j q w hj e h
    unfold mX11_billIs_c22
    rw [e]
    simp (disch := omega) only [chk_n, nI_clamp, show (6 : Int32) = nI 6 from rfl, show (11 : Int32) = nI 11 from rfl, show (7 : Int32) = nI 7 from rfl, nI_add, x1]
    by_cases z : j < nX (N 209)
    · rw [if_pos (by rw [nI_ltI (by omega) (by omega)]; exact z), if_pos z]
      rcases h with ⟨h, rfl⟩ | ⟨h, rfl⟩
      · rw [if_pos h]
      · rw [if_neg h]
    · rw [if_neg (by rw [nI_ltI (by omega) (by omega)]; exact z), if_neg z]
  unfold mX10_billIs mX11_billIs
  simp only [bnp_id]
  rcases rng_c b 0 23 24 0 23 rfl rfl rfl (by decide) (by decide) with ⟨q, -, hq, rfl, c3, c4, c5⟩ | g1
  · rcases (show q = 0 ∨ q = 1 ∨ q = 2 ∨ q = 3 ∨ q = 4 ∨ q = 5 ∨ q = 6 ∨ q = 7 ∨ q = 8 ∨ q = 9 ∨ q = 10 ∨ q = 11 ∨ q = 12 ∨ q = 13 ∨ q = 14 ∨ q = 15 ∨ q = 16 ∨ q = 17 ∨ q = 18 ∨ q = 19 ∨ q = 20 ∨ q = 21 ∨ q = 22 ∨ q = 23 by omega) with rfl | rfl | rfl | rfl | rfl | rfl | rfl | rfl | rfl | rfl | rfl | rfl | rfl | rfl | rfl | rfl | rfl | rfl | rfl | rfl | rfl | rfl | rfl | rfl
    · exact ⟨N 209 2, congrArg some r1, rfl⟩
    · exact ⟨N 209 3, congrArg some r2, rfl⟩
    · exact ⟨N 209 0, congrArg some hRS.1, rfl⟩
    · exact ⟨N 209 1, congrArg some hRS.2.2.2.2.1, rfl⟩
    · exact b0
    · exact b8
    · exact b7
    · exact ⟨N 209 5, congrArg some r3, rfl⟩
    · exact ⟨-1, rfl, rfl⟩
    · exact ⟨-1, rfl, rfl⟩
    · refine ⟨_, ?_, cc 0 10 7 (by decide) (by decide) (Or.inr ⟨by decide, rfl⟩)⟩
      show (bnp (mX10_tellOf 7 (M 5 4) (nI 0) M) fun r11 => some r11) = _
      rw [show M 5 4 = _ from r4, x1, td 0 (by decide)]; rfl
    · refine ⟨_, ?_, cc 1 11 7 (by decide) (by decide) (Or.inr ⟨by decide, rfl⟩)⟩
      show (bnp (mX10_tellOf 7 (M 5 4) (nI 1) M) fun r11 => some r11) = _
      rw [show M 5 4 = _ from r4, x1, td 1 (by decide)]; rfl
    · refine ⟨_, ?_, cc 2 12 7 (by decide) (by decide) (Or.inr ⟨by decide, rfl⟩)⟩
      show (bnp (mX10_tellOf 7 (M 5 4) (nI 2) M) fun r11 => some r11) = _
      rw [show M 5 4 = _ from r4, x1, td 2 (by decide)]; rfl
    · refine ⟨_, ?_, cc 3 13 7 (by decide) (by decide) (Or.inr ⟨by decide, rfl⟩)⟩
      show (bnp (mX10_tellOf 7 (M 5 4) (nI 3) M) fun r11 => some r11) = _
      rw [show M 5 4 = _ from r4, x1, td 3 (by decide)]; rfl
    · exact ⟨-1, rfl, rfl⟩
    · exact ⟨-1, rfl, rfl⟩
    · exact ⟨-1, rfl, rfl⟩
    · exact ⟨-1, rfl, rfl⟩
    · exact ⟨-1, rfl, rfl⟩
    · exact ⟨-1, rfl, rfl⟩
    · refine ⟨_, ?_, cc 0 20 11 (by decide) (by decide) (Or.inl ⟨by decide, rfl⟩)⟩
      show (bnp (mX10_tellOf 8 (M 5 4) (nI 0) M) fun r11 => some r11) = _
      rw [show M 5 4 = _ from r4, x1, tr 0 (by decide)]; rfl
    · refine ⟨_, ?_, cc 1 21 11 (by decide) (by decide) (Or.inl ⟨by decide, rfl⟩)⟩
      show (bnp (mX10_tellOf 8 (M 5 4) (nI 1) M) fun r11 => some r11) = _
      rw [show M 5 4 = _ from r4, x1, tr 1 (by decide)]; rfl
    · refine ⟨_, ?_, cc 2 22 11 (by decide) (by decide) (Or.inl ⟨by decide, rfl⟩)⟩
      show (bnp (mX10_tellOf 8 (M 5 4) (nI 2) M) fun r11 => some r11) = _
      rw [show M 5 4 = _ from r4, x1, tr 2 (by decide)]; rfl
    · refine ⟨_, ?_, cc 3 23 11 (by decide) (by decide) (Or.inl ⟨by decide, rfl⟩)⟩
      show (bnp (mX10_tellOf 8 (M 5 4) (nI 3) M) fun r11 => some r11) = _
      rw [show M 5 4 = _ from r4, x1, tr 3 (by decide)]; rfl
  · have c : ∀ j, j ≤ 23 → ¬ b = nI j := by
      rintro j hj rfl
      rcases g1 with g1 | ⟨g1, g2, g3⟩
      · exact nI_pos (by omega) g1
      · rw [show (23 : Int32) = nI 23 from rfl, nI_ltI (by omega) (by omega)] at g2; omega
    have n1 : mX11_in b (10 : Int32) (13 : Int32) = some 0 := by
      unfold mX11_in
      rcases g1 with g1 | ⟨g1, g2, g3⟩
      · rw [if_pos (Int32.lt_trans g1 (by decide))]
      · rw [if_neg (Int32.not_lt.mpr (Int32.le_of_lt (Int32.lt_trans (by decide) g2))), if_pos (Int32.lt_trans (by decide) g2)]
    have n2 : mX11_in b (20 : Int32) (23 : Int32) = some 0 := by
      unfold mX11_in
      rcases g1 with g1 | ⟨g1, g2, g3⟩
      · rw [if_pos (Int32.lt_trans g1 (by decide))]
      · rw [if_neg (Int32.not_lt.mpr (Int32.le_of_lt (Int32.lt_trans (by decide) g2))), if_pos g2]
    rw [n1, n2]
    simp only [bnp_some, if_true]
    unfold mX9_tell
    rw [if_neg (show ¬ b = 2 from c 2 (by decide)), if_neg (show ¬ b = 3 from c 3 (by decide)), if_neg (show ¬ b = 4 from c 4 (by decide)), if_neg (show ¬ b = 5 from c 5 (by decide)), if_neg (show ¬ b = 6 from c 6 (by decide)), if_neg (show ¬ b = 0 from c 0 (by decide)), if_neg (show ¬ b = 1 from c 1 (by decide)), if_neg (show ¬ b = 2 from c 2 (by decide)), if_neg (show ¬ b = 3 from c 3 (by decide)), if_neg (show ¬ b = 4 from c 4 (by decide)), if_neg (show ¬ b = 5 from c 5 (by decide)), if_neg (show ¬ b = 6 from c 6 (by decide)), if_neg (show ¬ b = 7 from c 7 (by decide)), if_neg (show ¬ b = 8 from c 8 (by decide)), if_neg (show ¬ b = 9 from c 9 (by decide)), if_neg (show ¬ b = 10 from c 10 (by decide)), if_neg (show ¬ b = 11 from c 11 (by decide)), if_neg (show ¬ b = 12 from c 12 (by decide)), if_neg (show ¬ b = 13 from c 13 (by decide)), if_neg (show ¬ b = 14 from c 14 (by decide)), if_neg (show ¬ b = 15 from c 15 (by decide)), if_neg (show ¬ b = 16 from c 16 (by decide)), if_neg (show ¬ b = 17 from c 17 (by decide)), if_neg (show ¬ b = 18 from c 18 (by decide)), if_neg (show ¬ b = 19 from c 19 (by decide)), if_neg (show ¬ b = 20 from c 20 (by decide)), if_neg (show ¬ b = 21 from c 21 (by decide)), if_neg (show ¬ b = 22 from c 22 (by decide)), if_neg (show ¬ b = 23 from c 23 (by decide)), if_neg (show ¬ b = 0 from c 0 (by decide)), if_neg (show ¬ b = 1 from c 1 (by decide)), if_neg (show ¬ b = 2 from c 2 (by decide)), if_neg (show ¬ b = 3 from c 3 (by decide)), if_neg (show ¬ b = 4 from c 4 (by decide)), if_neg (show ¬ b = 5 from c 5 (by decide)), if_neg (show ¬ b = 6 from c 6 (by decide)), if_neg (show ¬ b = 7 from c 7 (by decide))]
    exact ⟨_, rfl, rfl⟩
