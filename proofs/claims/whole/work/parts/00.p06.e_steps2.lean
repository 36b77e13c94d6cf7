/-! usage of a PERIOD, and a new PERIOD -/
theorem wr_updA {f : Nat → Int32} {k x w : Nat} {v fr to c : Int32} (hx : x < 6) (hw : w < 12) (h1 : w ≠ 1) (h3 : w ≠ 3) : wrF (upd f (170 + 12 * x + w) v) k x fr to c = upd (wrF f k x fr to c) (170 + 12 * x + w) v := by
  have hsz : sz (upd f (170 + 12 * x + w) v) = sz f := by unfold sz; rw [upd_n _ _ (by omega)]
  have e3 : fA (upd f (170 + 12 * x + w) v) x 3 = fA f x 3 := fA_un hw (by decide) (by omega)
  have e1 : fA (upd f (170 + 12 * x + w) v) x 1 = fA f x 1 := fA_un hw (by decide) (by omega)
  have e0 : (upd f (170 + 12 * x + w) v) 0 = f 0 := upd_n _ _ (by omega)
  unfold wrF
  rw [hsz, e3, e1, e0]
  funext j
  by_cases hj : j = 170 + 12 * x + w
  · subst hj
    simp (disch := omega) only [upd_n, upd_s]
  · rw [upd_n _ _ hj]
    unfold upd
    simp only [hj, if_false]
theorem s_usage {b x n : Nat} {M N : Mem} {f : Nat → Int32} (hRS : RS b M f) (hI : INV0 f) (hx : x < 6) (hA : IA1 f x) (hs : sz f < 400) (hn : 200 ≤ n) :
    ∃ M', mX1_writeUsage n b (b + 35 + 12 + x) M = some (usC f x, M') ∧ mX11_uses n (nI x) (stF N f) = some (usC f x, stF N (usF f x)) ∧ RS b M' (usF f x) ∧ FD b M M' := by
  have hRA := hRS.2.2.2.1 x hx
  obtain ⟨t0, t1, t2, hIT, hIA, hIE⟩ := hI
  obtain ⟨i0, i1, i2, i3, i4, i5, i6, i7, i8, i9, i10, i11, i12, i13, i14, i15⟩ := hA
  have hp : aB f x < 6 := by have := i1.2; omega
  have hIP := hIT.2.2.2.2.2 _ hp
  have hsz := t1.1
  have hRT := hRS.2.2.1
  have hRS1 : RS b (upd2 M (b + 35 + 12 + x) 11 (nI 0)) (upd f (170 + 12 * x + 6) (nI 0)) := RS_put hRS hIT hx (by omega)
  have hIT1 : IT (upd f (170 + 12 * x + 6) (nI 0)) := IT_congr hIT (fun j _ h2 _ => upd_n _ _ (by omega))
  have esz : sz (upd f (170 + 12 * x + 6) (nI 0)) = sz f := by unfold sz; rw [upd_n _ _ (by omega)]
  have e1 : (upd f (170 + 12 * x + 6) (nI 0)) 1 = nI (sz (upd f (170 + 12 * x + 6) (nI 0))) := by rw [esz, upd_n _ _ (by omega)]; exact hsz
  obtain ⟨M', w1, w2, w3⟩ := c_write (k := 2) (fr := fA f x 4) (to := f 0) (c := usC f x) hRS1 hIT1 e1 (by rw [esz]; exact hs) hx
  rw [wr_updA hx (by decide) (by decide) (by decide)] at w2
  refine ⟨M', ?_, ?_, w2, (FD_put hx).trans w3⟩
  · unfold mX1_writeUsage
    rw [hRA.2.2.2.2.1, i1.1, c_termsOf hp]
    simp only [bnp_some]
    rw [hRA.2.2.2.2.2.2.2.2.2.2.2.1, i8.1, c_usage (hRT.2.2.2.2.2 _ hp) hIP i8.2 hn]
    simp only [bnp_some]
    rw [u2k _ _ (by decide), u2o _ _ (by omega), hRS.1, hRA.2.2.2.2.2.2.2.2.1]
    have e : (2 : Int32) = nI 2 := rfl
    have e' : (0 : Int32) = nI 0 := rfl
    rw [e, e']
    unfold usC at w1
    rw [w1]; rfl
  · unfold mX11_uses
    simp (disch := omega) only [nI_lit, chk_n, m_ofS, bnp_some, stF_f, nI_clamp]
    rw [i1.1, i8.1, m_usage (stF_f N f) hp hIP i8.2 hn]
    simp only [bnp_some]
    rw [show nI (US f (aB f x) (aU f x)) = usC f x from rfl, m_writes hsz hs hx]
    simp only [bnd_some]
    rw [m_sets hx (by decide)]; rfl
theorem op_A {f : Nat → Int32} {x : Nat} {q : Int32} (y w : Nat) (hw : w < 12) (h : y ≠ x ∨ (w ≠ 3 ∧ w ≠ 4 ∧ w ≠ 5)) : fA (opF f x q) y w = fA f y w := by
  unfold opF
  rw [fA_un (by decide) hw (by omega), fA_un (by decide) hw (by omega), fA_un (by decide) hw (by omega)]
theorem op_lo {f : Nat → Int32} {x j : Nat} {q : Int32} (h : j < 170 ∨ 250 ≤ j) (hx : x < 6) : opF f x q j = f j := by
  unfold opF
  rw [upd_n _ _ (by omega), upd_n _ _ (by omega), upd_n _ _ (by omega)]
theorem op_3 {f : Nat → Int32} {x : Nat} {q : Int32} : fA (opF f x q) x 3 = q := by
  unfold opF
  rw [fA_un (by decide) (by decide) (by omega), fA_un (by decide) (by decide) (by omega), fA_us]
theorem op_4 {f : Nat → Int32} {x : Nat} {q : Int32} : fA (opF f x q) x 4 = f 0 := by
  unfold opF
  rw [fA_un (by decide) (by decide) (by omega), fA_us]
theorem op_5 {f : Nat → Int32} {x : Nat} {q : Int32} : fA (opF f x q) x 5 = iI (NT (aN f x) (tD f)) := by
  unfold opF
  rw [fA_us]
/-- all of RA but the SPAN's first day -/
def RAx (a x : Nat) (M : Mem) (f : Nat → Int32) : Prop :=
  M a 0 = nI x ∧ M a 1 = fA f x 0 ∧ M a 2 = fA f x 8 ∧ M a 3 = fA f x 7 ∧ M a 4 = fA f x 1 ∧ M a 5 = fA f x 2 ∧ M a 6 = fA f x 10 ∧ M a 7 = fA f x 3 ∧ M a 8 = fA f x 4 ∧ M a 9 = fA f x 5 ∧ M a 11 = fA f x 6 ∧ M a 12 = fA f x 9 ∧ M a 13 = allS f x
def RSx (b : Nat) (M : Mem) (f : Nat → Int32) (x : Nat) : Prop :=
  M b 4 = f 0 ∧ M (b + 1) 7 = f 4 ∧ RT (b + 1) M f ∧ (∀ y, y < 6 → y ≠ x → RA (b + 35 + 12 + y) y M f) ∧ RAx (b + 35 + 12 + x) x M f ∧ RE (b + 36) M f
theorem RS.x {b x : Nat} {M : Mem} {f : Nat → Int32} (h : RS b M f) (hx : x < 6) : RSx b M f x := by
  obtain ⟨q0, q1, qT, qA, qE⟩ := h
  obtain ⟨a0, a1, a2, a3, a4, a5, a6, a7, a8, a9, a10, a11, a12, a13⟩ := qA x hx
  exact ⟨q0, q1, qT, fun y hy _ => qA y hy, ⟨a0, a1, a2, a3, a4, a5, a6, a7, a8, a9, a11, a12, a13⟩, qE⟩
theorem RSx_put {b x w k : Nat} {M : Mem} {f : Nat → Int32} {v : Int32} (hRS : RSx b M f x) (hIT : IT f) (hx : x < 6)
    (hk : (w = 0 ∧ k = 1) ∨ (w = 1 ∧ k = 4) ∨ (w = 2 ∧ k = 5) ∨ (w = 10 ∧ k = 6)) : RSx b (upd2 M (b + 35 + 12 + x) k v) (upd f (170 + 12 * x + w) v) x := by
  obtain ⟨q0, q1, qT, qA, qX, e0, eE⟩ := hRS
  have hw : w < 12 := by omega
  have hlo : ∀ j, j < 170 → upd f (170 + 12 * x + w) v j = f j := fun j hj => upd_n _ _ (by omega)
  have hhi : ∀ j, 250 ≤ j → upd f (170 + 12 * x + w) v j = f j := fun j hj => upd_n _ _ (by omega)
  have hE : ∀ i w', fE (upd f (170 + 12 * x + w) v) i w' = fE f i w' := fun i w' => hhi _ (by omega)
  have hsz : sz (upd f (170 + 12 * x + w) v) = sz f := by unfold sz; rw [hlo 1 (by decide)]
  have hall : ∀ y, allS (upd f (170 + 12 * x + w) v) y = allS f y := fun y => by
    unfold allS; rw [hsz]; apply sumR_congr; intro j _ _; rw [hE, hE]
  refine ⟨?_, ?_, ?_, fun y hy hyx => ?_, ?_, ?_, fun i hi => ?_⟩
  · rw [u2o _ _ (by omega), hlo 0 (by decide)]; exact q0
  · rw [u2o _ _ (by omega), hlo 4 (by decide)]; exact q1
  · exact RT_congr qT hIT (fun o k g1 g2 => u2o _ _ (by omega)) (fun j _ h2 _ => hlo j (by omega))
  · obtain ⟨c0, c1, c2, c3, c4, c5, c6, c7, c8, c9, c10, c11, c12, c13⟩ := qA y hy hyx
    have hu : ∀ w', w' < 12 → fA (upd f (170 + 12 * x + w) v) y w' = fA f y w' := fun w' h' => fA_un hw h' (Or.inl hyx)
    unfold RA aN aD
    rw [hall, hu 0 (by decide), hu 1 (by decide), hu 2 (by decide), hu 3 (by decide), hu 4 (by decide), hu 5 (by decide), hu 6 (by decide), hu 7 (by decide), hu 8 (by decide), hu 9 (by decide), hu 10 (by decide)]
    simp (disch := omega) only [u2o]
    exact ⟨c0, c1, c2, c3, c4, c5, c6, c7, c8, c9, c10, c11, c12, c13⟩
  · obtain ⟨c0, c1, c2, c3, c4, c5, c6, c7, c8, c9, c11, c12, c13⟩ := qX
    unfold RAx
    rw [hall, u2k _ _ (by omega), u2k (k' := 2) _ _ (by omega), u2k (k' := 3) _ _ (by omega), u2k (k' := 7) _ _ (by omega), u2k (k' := 8) _ _ (by omega), u2k (k' := 9) _ _ (by omega), u2k (k' := 11) _ _ (by omega), u2k (k' := 12) _ _ (by omega), u2k (k' := 13) _ _ (by omega)]
    rw [fA_un (w' := 8) hw (by decide) (by omega), fA_un (w' := 7) hw (by decide) (by omega), fA_un (w' := 3) hw (by decide) (by omega), fA_un (w' := 4) hw (by decide) (by omega), fA_un (w' := 5) hw (by decide) (by omega), fA_un (w' := 6) hw (by decide) (by omega), fA_un (w' := 9) hw (by decide) (by omega)]
    exact ⟨c0, put_comp hx hx hw (by decide) (by omega) c1, c2, c3, put_comp hx hx hw (by decide) (by omega) c4, put_comp hx hx hw (by decide) (by omega) c5, put_comp hx hx hw (by decide) (by omega) c6, c7, c8, c9, c11, c12, c13⟩
  · rw [u2o _ _ (by omega), hlo 1 (by decide)]; exact e0
  · rw [hsz] at hi
    simp (disch := omega) only [u2o, hE]
    exact eE i hi
theorem s_open {b x n : Nat} {M N : Mem} {f : Nat → Int32} {q : Int32} (hb : 4 ≤ b) (hRS : RSx b M f x) (hC : CalC M) (hM : CalM N) (hIT : IT f) (hT : isM (f 0) (tD f) 3652) (hx : x < 6) (hN : isM (fA f x 2) (aN f x) 31) (hN1 : 1 ≤ aN f x) (hn : 200 ≤ n) :
    ∃ M', mX1_startPeriod n b (b + 35 + 12 + x) q M = some M' ∧ mX11_opens n (nI x) q (stF N f) = some (stF N (opF f x q)) ∧ RS b M' (opF f x q) ∧ FD b M M' := by
  obtain ⟨q0, q1, qT, qA, qX, e0, eE⟩ := hRS
  have qX' := qX
  obtain ⟨a0, a1, a2, a3, a4, a5, a6, a7, a8, a9, a11, a12, a13⟩ := qX
  have hT1 := hT.1; have hT2 := hT.2; have hN2 := hN.1; have hN3 := hN.2
  have hC1 : ∀ k v, CalC (upd2 M (b + 35 + 12 + x) k v) := fun k v m hm => by rw [u2o _ _ (by omega)]; exact hC m hm
  have hC2 : CalC (upd2 (upd2 M (b + 35 + 12 + x) 7 q) (b + 35 + 12 + x) 8 (f 0)) := fun m hm => by rw [u2o _ _ (by omega)]; exact hC1 _ _ m hm
  have hC3 : ∀ r, CalC (upd2 (upd2 (upd2 M (b + 35 + 12 + x) 7 q) (b + 35 + 12 + x) 8 (f 0)) (b + 35 + 12 + x) 10 r) := fun r m hm => by rw [u2o _ _ (by omega)]; exact hC2 m hm
  have esz : sz (opF f x q) = sz f := by unfold sz; rw [op_lo (by omega) hx]
  have hE : ∀ i w', fE (opF f x q) i w' = fE f i w' := fun i w' => op_lo (by omega) hx
  have hall : ∀ y, allS (opF f x q) y = allS f y := fun y => by
    unfold allS; rw [esz]; apply sumR_congr; intro j _ _; rw [hE, hE]
  refine ⟨upd2 (upd2 (upd2 (upd2 M (b + 35 + 12 + x) 7 q) (b + 35 + 12 + x) 8 (f 0)) (b + 35 + 12 + x) 10 (iI (LT (aN f x) (tD f)))) (b + 35 + 12 + x) 9 (iI (NT (aN f x) (tD f))), ?_, ?_, ⟨?_, ?_, ?_, fun y hy => ?_, ?_, fun i hi => ?_⟩, fun o k h => ?_⟩
  · unfold mX1_startPeriod
    simp (disch := omega) only [u2o, u2k, u2s, q0, a5]
    have g1 := cal_lt hC2 hN1 hN3 hT2 hn
    have g2 := fun r => cal_nt (hC3 r) hN1 hN3 hT2 hn
    rw [← hN2, ← hT1] at g1
    rw [g1]
    simp only [bnp_some]
    have g3 := g2 (iI (LT (aN f x) (tD f)))
    rw [← hN2, ← hT1] at g3
    rw [g3]
    rfl
  · unfold mX11_opens
    simp (disch := omega) only [nI_lit, m_sets, bnp_some, chk_n, stF_f, nI_clamp, m_ofS, upd_n]
    have g1 := mod_nt (CalM_stF (g := upd (upd f (170 + 12 * x + 3) q) (170 + 12 * x + 4) (f 0)) hM) hN1 hN3 hT2 hn
    rw [← hN2, ← hT1] at g1
    rw [fA_un (by decide) (by decide) (by omega), fA_un (by decide) (by decide) (by omega), g1]
    simp (disch := omega) only [bnp_some, m_sets]
    rfl
  · simp (disch := omega) only [u2o]; rw [q0, op_lo (by omega) hx]
  · simp (disch := omega) only [u2o]; rw [q1, op_lo (by omega) hx]
  · exact RT_congr qT hIT (fun o k g1 g2 => by simp (disch := omega) only [u2o]) (fun j _ h2 _ => op_lo (by omega) hx)
  · unfold RA
    rw [hall]
    by_cases h : y = x
    · subst h
      obtain ⟨c0, c1, c2, c3, c4, c5, c6, c7, c8, c9, c11, c12, c13⟩ := qX'
      have eN : aN (opF f y q) y = aN f y := by unfold aN; rw [op_A y 2 (by decide) (by omega)]
      have eD : aD (opF f y q) y = tD f := by unfold aD; rw [op_4]; rfl
      rw [eN, eD, op_3, op_4, op_5, op_A y 0 (by decide) (by omega), op_A y 8 (by decide) (by omega), op_A y 7 (by decide) (by omega), op_A y 1 (by decide) (by omega), op_A y 2 (by decide) (by omega), op_A y 10 (by decide) (by omega), op_A y 6 (by decide) (by omega), op_A y 9 (by decide) (by omega)]
      simp (disch := omega) only [u2o, u2k, u2s]
      exact ⟨c0, c1, c2, c3, c4, c5, c6, trivial, trivial, trivial, fun _ => trivial, c11, c12, c13⟩
    · obtain ⟨c0, c1, c2, c3, c4, c5, c6, c7, c8, c9, c10, c11, c12, c13⟩ := qA y hy h
      have eN : aN (opF f x q) y = aN f y := by unfold aN; rw [op_A y 2 (by decide) (Or.inl h)]
      have eD : aD (opF f x q) y = aD f y := by unfold aD; rw [op_A y 4 (by decide) (Or.inl h)]
      rw [eN, eD, op_A y 3 (by decide) (Or.inl h), op_A y 4 (by decide) (Or.inl h), op_A y 5 (by decide) (Or.inl h), op_A y 0 (by decide) (Or.inl h), op_A y 8 (by decide) (Or.inl h), op_A y 7 (by decide) (Or.inl h), op_A y 1 (by decide) (Or.inl h), op_A y 2 (by decide) (Or.inl h), op_A y 10 (by decide) (Or.inl h), op_A y 6 (by decide) (Or.inl h), op_A y 9 (by decide) (Or.inl h)]
      simp (disch := omega) only [u2o]
      exact ⟨c0, c1, c2, c3, c4, c5, c6, c7, c8, c9, c10, c11, c12, c13⟩
  · simp (disch := omega) only [u2o]; rw [op_lo (by omega) hx]; exact e0
  · rw [esz] at hi
    simp (disch := omega) only [u2o, hE]
    exact eE i hi
  · simp (disch := omega) only [u2o]
