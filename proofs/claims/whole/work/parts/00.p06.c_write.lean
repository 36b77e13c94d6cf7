/-! an ENTRY is written, by both sides -/
def FD (b : Nat) (M M' : Mem) : Prop := ∀ o k, (o < b ∨ (b < o ∧ o < b + 36) ∨ b + 53 ≤ o) → M' o k = M o k
theorem FD.rfl' {b : Nat} {M : Mem} : FD b M M := fun _ _ _ => rfl
theorem FD.trans {b : Nat} {M M1 M2 : Mem} (h1 : FD b M M1) (h2 : FD b M1 M2) : FD b M M2 := fun o k h => (h2 o k h).trans (h1 o k h)
theorem RP_congr {q p : Nat} {M M' : Mem} {f f' : Nat → Int32} (h : RP q p M f) (hT : pT f p ≤ 4) (hK : pK f p ≤ 3) (hM : ∀ o k, q ≤ o → o ≤ q + 4 → M' o k = M o k) (hf : ∀ w, w < 24 → fP f' p w = fP f p w) : RP q p M' f' := by
  obtain ⟨r0, r1, r2, r3, r4, r5, r6, r7, r8⟩ := h
  have eT : pT f' p = pT f p := by unfold pT; rw [hf 2 (by decide)]
  have eK : pK f' p = pK f p := by unfold pK; rw [hf 14 (by decide)]
  unfold RP
  rw [eT, eK]
  refine ⟨?_, ?_, ?_, ?_, ?_, ?_, ?_, fun i hi => ?_, fun i hi => ?_⟩
  · rw [hM _ _ (by omega) (by omega), hf _ (by omega)]; exact r0
  · rw [hM _ _ (by omega) (by omega), hf _ (by omega)]; exact r1
  · rw [hM _ _ (by omega) (by omega), hf _ (by omega)]; exact r2
  · rw [hM _ _ (by omega) (by omega), hf _ (by omega)]; exact r3
  · rw [hM _ _ (by omega) (by omega), hf _ (by omega)]; exact r4
  · rw [hM _ _ (by omega) (by omega), hf _ (by omega)]; exact r5
  · rw [hM _ _ (by omega) (by omega), hf _ (by omega)]; exact r6
  · obtain ⟨g1, g2⟩ := r7 i hi
    rw [hM _ _ (by omega) (by omega), hM _ _ (by omega) (by omega), hf _ (by omega), hf _ (by omega)]; exact ⟨g1, g2⟩
  · obtain ⟨g1, g2⟩ := r8 i hi
    rw [hM _ _ (by omega) (by omega), hM _ _ (by omega) (by omega), hf _ (by omega), hf _ (by omega)]; exact ⟨g1, g2⟩
theorem RT_congr {t : Nat} {M M' : Mem} {f f' : Nat → Int32} (h : RT t M f) (hI : IT f) (hM : ∀ o k, t ≤ o → o < t + 34 → M' o k = M o k) (hf : ∀ j, 2 ≤ j → j < 164 → j ≠ 4 → f' j = f j) : RT t M' f' := by
  obtain ⟨r0, r1, r2, r3, r4, r5⟩ := h
  obtain ⟨i0, i1, i2, i3, i4, i5⟩ := hI
  have hX := i3.2
  have eX : nX f' = nX f := by unfold nX; rw [hf 6 (by decide) (by decide) (by decide)]
  unfold RT
  rw [eX]
  refine ⟨?_, ?_, ?_, ?_, fun i hi => ?_, fun p hp => ?_⟩
  · rw [hM _ _ (by omega) (by omega), hf _ (by omega) (by omega) (by omega)]; exact r0
  · rw [hM _ _ (by omega) (by omega), hf _ (by omega) (by omega) (by omega)]; exact r1
  · rw [hM _ _ (by omega) (by omega), hf _ (by omega) (by omega) (by omega)]; exact r2
  · rw [hM _ _ (by omega) (by omega), hf _ (by omega) (by omega) (by omega)]; exact r3
  · obtain ⟨g1, g2⟩ := r4 i hi
    rw [hM _ _ (by omega) (by omega), hM _ _ (by omega) (by omega), hf _ (by omega) (by omega) (by omega), hf _ (by omega) (by omega) (by omega)]; exact ⟨g1, g2⟩
  · obtain ⟨j0, j1, j2, j3, j4, j5, j6, j7⟩ := i5 p hp
    exact RP_congr (r5 p hp) j2.2 j6.2 (fun o k h1 h2 => hM o k (by omega) (by omega)) (fun w hw => hf _ (by omega) (by omega) (by omega))
theorem IP_congr {p : Nat} {f f' : Nat → Int32} (h : IP f p) (hf : ∀ w, w < 24 → fP f' p w = fP f p w) : IP f' p := by
  have e1 : pP f' p = pP f p := by unfold pP; rw [hf _ (by decide)]
  have e2 : pT f' p = pT f p := by unfold pT; rw [hf _ (by decide)]
  have e3 : pR f' p = pR f p := by unfold pR; rw [hf _ (by decide)]
  have e4 : pW f' p = pW f p := by unfold pW; rw [hf _ (by decide)]
  have e5 : pZ f' p = pZ f p := by unfold pZ; rw [hf _ (by decide)]
  have e6 : pF f' p = pF f p := by unfold pF; rw [hf _ (by decide)]
  have e7 : pK f' p = pK f p := by unfold pK; rw [hf _ (by decide)]
  have eB : ∀ i, i < 4 → pB f' p i = pB f p i := fun i hi => by unfold pB; rw [hf _ (by omega)]
  have eC : ∀ i, i < 4 → pC f' p i = pC f p i := fun i hi => by unfold pC; rw [hf _ (by omega)]
  have eS : ∀ i, i < 3 → pS f' p i = pS f p i := fun i hi => by unfold pS; rw [hf _ (by omega)]
  have eO : ∀ i, i < 3 → pO f' p i = pO f p i := fun i hi => by unfold pO; rw [hf _ (by omega)]
  obtain ⟨i0, i1, i2, i3, i4, i5, i6, i7, i8, i9, i10⟩ := h
  have h2 := i2.2
  unfold IP
  rw [e1, e2, e3, e4, e5, e6, e7, hf 0 (by decide), hf 1 (by decide), hf 2 (by decide), hf 3 (by decide), hf 4 (by decide), hf 5 (by decide), hf 14 (by decide)]
  refine ⟨i0, i1, i2, i3, i4, i5, i6, fun i hi => ?_, fun i hi => ?_, fun i hi => ?_, fun i hi => ?_⟩
  · rw [hf _ (by omega), hf _ (by omega), eB i hi, eC i hi]; exact i7 i hi
  · rw [hf _ (by omega), hf _ (by omega), eS i hi, eO i hi]; exact i8 i hi
  · rw [eB _ (by omega), eB _ (by omega)]; exact i9 i hi
  · rw [eB _ (by omega)]; exact i10 i hi
theorem IT_congr {f f' : Nat → Int32} (h : IT f) (hf : ∀ j, 2 ≤ j → j < 164 → j ≠ 4 → f' j = f j) : IT f' := by
  obtain ⟨i0, i1, i2, i3, i4, i5⟩ := h
  have eX : nX f' = nX f := by unfold nX; rw [hf 6 (by decide) (by decide) (by decide)]
  unfold IT
  rw [eX, hf 2 (by decide) (by decide) (by decide), hf 3 (by decide) (by decide) (by decide), hf 5 (by decide) (by decide) (by decide), hf 6 (by decide) (by decide) (by decide)]
  refine ⟨i0, i1, i2, i3, fun i hi => ?_, fun p hp => IP_congr (i5 p hp) (fun w hw => hf _ (by omega) (by omega) (by omega))⟩
  rw [hf _ (by omega) (by omega) (by omega), hf _ (by omega) (by omega) (by omega)]; exact i4 i hi
theorem wr_all {f : Nat → Int32} {k x y : Nat} {fr to c : Int32} (hs : sz f < 400) (hx : x < 6) (hy : y < 6) : allS (wrF f k x fr to c) y = allS f y + (if x = y then c else 0) := by
  unfold allS
  rw [wr_sz hs, sumR_last]
  congr 1
  · apply sumR_congr
    intro j _ hj
    rw [wr_E (by omega) (by decide), wr_E (by omega) (by decide)]
  · obtain ⟨n0, n1, n2, n3, n4, n5, n6, n7, n8, n9⟩ := wr_new (f := f) (k := k) (x := x) (fr := fr) (to := to) (c := c)
    simp only [Nat.zero_add]
    rw [n1, n7]
    by_cases h : x = y
    · subst h; rw [if_pos rfl, if_pos rfl]
    · rw [if_neg (by rw [nI_eq (by omega) (by omega)]; exact h), if_neg h]
set_option maxHeartbeats 4000000 in
theorem c_write {b k x : Nat} {M : Mem} {f : Nat → Int32} {fr to c : Int32} (hRS : RS b M f) (hIT : IT f) (h1 : f 1 = nI (sz f)) (hs : sz f < 400) (hx : x < 6) : ∃ M', mX1_write b (b + 35 + 12 + x) (nI k) fr to c M = some (c, M') ∧ RS b M' (wrF f k x fr to c) ∧ FD b M M' := by
  obtain ⟨q0, q1, qT, qA, qE⟩ := hRS
  obtain ⟨e0, eE⟩ := qE
  obtain ⟨a0, a1, a2, a3, a4, a5, a6, a7, a8, a9, a10, a11, a12, a13⟩ := qA x hx
  have e2 : (-2 : Int32) = -nI 2 := by decide
  unfold mX1_write mX5_add mX5_describe
  simp (disch := omega) only [nI_lit, e0, h1, nI_lt0, nI_ltI, nI_leI, Nat.not_lt_zero, if_false, chk_n, lt_eq, nI_clamp, bnd_some, bnp_some, u2o, u2s, a0, a4, a7, q0]
  rw [if_pos (by omega)]
  simp (disch := omega) only [nI_lit, e0, h1, nI_lt0, nI_ltI, nI_leI, Nat.not_lt_zero, if_false, chk_n, lt_eq, nI_clamp, bnd_some, bnp_some, u2o, u2s, a0, a4, a7, a13, q0, nI_add]
  rw [if_neg (by omega)]
  simp (disch := omega) only [bnp_some, u2o, u2s, a13]
  refine ⟨_, rfl, ⟨?_, ?_, ?_, fun y hy => ?_, ?_, fun i hi => ?_⟩, fun o k h => ?_⟩
  · simp (disch := omega) only [u2o]; rw [q0, wr_lo (by decide) (by decide)]
  · simp (disch := omega) only [u2o]; rw [q1, wr_lo (by decide) (by decide)]
  · refine RT_congr qT hIT (fun o k g1 g2 => ?_) (fun j g1 g2 _ => wr_lo (by omega) (by omega))
    simp (disch := omega) only [u2o]
  · obtain ⟨c0, c1, c2, c3, c4, c5, c6, c7, c8, c9, c10, c11, c12, c13⟩ := qA y hy
    have hAll := wr_all (k := k) (fr := fr) (to := to) (c := c) hs hx hy
    have eN : aN (wrF f k x fr to c) y = aN f y := by unfold aN; rw [wr_A hy (by decide)]
    have eD : aD (wrF f k x fr to c) y = aD f y := by unfold aD; rw [wr_A hy (by decide)]
    unfold RA
    rw [hAll, eN, eD]
    simp (disch := omega) only [wr_A]
    by_cases h : x = y
    · subst h
      simp (disch := omega) only [u2o, u2s, u2k, if_true]
      exact ⟨c0, c1, c2, c3, c4, c5, c6, c7, c8, c9, c10, c11, c12, trivial⟩
    · simp (disch := omega) only [u2o, h, if_false, Int32.add_zero]
      exact ⟨c0, c1, c2, c3, c4, c5, c6, c7, c8, c9, c10, c11, c12, c13⟩
  · simp (disch := omega) only [u2o, u2s]; rw [wr_1]
  · rw [wr_sz hs] at hi
    obtain ⟨n0, n1, n2, n3, n4, n5, n6, n7, n8, n9⟩ := wr_new (f := f) (k := k) (x := x) (fr := fr) (to := to) (c := c)
    by_cases h : i = sz f
    · subst h
      rw [n0, n1, n2, n3, n4, n5, n6, n7, n8, n9, e2]
      simp (disch := omega) only [u2o, u2s]
      exact ⟨trivial, trivial, trivial, trivial, trivial, trivial, trivial, trivial, trivial, trivial⟩
    · have hi2 : i < sz f := by omega
      simp (disch := omega) only [wr_E]
      simp (disch := omega) only [u2o, u2k]
      exact eE i hi2
  · simp (disch := omega) only [u2o]
