/-! the steps of which deeds are made, side by side -/
def ctC (f : Nat → Int32) (x : Nat) : Int32 := PTE (WO f x (aB f x)) (aN f x) (aD f x) (f 0)
def crF (f : Nat → Int32) (x : Nat) : Nat → Int32 := wrF f 1 x (f 0) (fA f x 5) (-ctC f x)
def chF (f : Nat → Int32) (x : Nat) : Nat → Int32 := wrF f 0 x (f 0) (fA f x 5) (ctC f x)
def usC (f : Nat → Int32) (x : Nat) : Int32 := nI (US f (aB f x) (aU f x))
def usF (f : Nat → Int32) (x : Nat) : Nat → Int32 := upd (wrF f 2 x (fA f x 4) (f 0) (usC f x)) (170 + 12 * x + 6) (nI 0)
def opF (f : Nat → Int32) (x : Nat) (q : Int32) : Nat → Int32 := upd (upd (upd f (170 + 12 * x + 3) q) (170 + 12 * x + 4) (f 0)) (170 + 12 * x + 5) (iI (NT (aN f x) (tD f)))
theorem CalC_FD {b : Nat} {M M' : Mem} (hb : 4 ≤ b) (h : CalC M) (hF : FD b M M') : CalC M' := fun m hm => by rw [hF 3 m (Or.inl (by omega))]; exact h m hm
theorem fA_upd {f : Nat → Int32} {x w y w' : Nat} {v : Int32} (hx : x < 6) (hy : y < 6) (hw : w < 12) (hw' : w' < 12) : fA (upd f (170 + 12 * x + w) v) y w' = if y = x ∧ w' = w then v else fA f y w' := by
  unfold fA upd
  by_cases h : y = x ∧ w' = w
  · obtain ⟨rfl, rfl⟩ := h; rw [if_pos rfl, if_pos ⟨rfl, rfl⟩]
  · rw [if_neg (by omega), if_neg h]
theorem fA_us {f : Nat → Int32} {x w : Nat} {v : Int32} : fA (upd f (170 + 12 * x + w) v) x w = v := upd_s _ _ _
theorem fA_un {f : Nat → Int32} {x w y w' : Nat} {v : Int32} (hw : w < 12) (hw' : w' < 12) (h : y ≠ x ∨ w' ≠ w) : fA (upd f (170 + 12 * x + w) v) y w' = fA f y w' := upd_n _ _ (by omega)
theorem put_comp {b x y w w' k k' : Nat} {M : Mem} {f : Nat → Int32} {v : Int32} (hx : x < 6) (hy : y < 6) (hw : w < 12) (hw' : w' < 12) (hkw : k' = k ↔ w' = w) (h : M (b + 35 + 12 + y) k' = fA f y w') : upd2 M (b + 35 + 12 + x) k v (b + 35 + 12 + y) k' = fA (upd f (170 + 12 * x + w) v) y w' := by
  rw [fA_upd hx hy hw hw']
  by_cases e : y = x
  · subst e
    by_cases e2 : k' = k
    · have e3 := hkw.mp e2
      subst e2; subst e3
      rw [u2s, if_pos ⟨rfl, rfl⟩]
    · rw [u2k _ _ e2, if_neg (fun z => e2 (hkw.mpr z.2))]; exact h
  · rw [u2o _ _ (by omega), if_neg (fun z => e z.1)]; exact h
/-- a field of an account is put on both sides -/
theorem RS_put {b x w k : Nat} {M : Mem} {f : Nat → Int32} {v : Int32} (hRS : RS b M f) (hIT : IT f) (hx : x < 6)
    (hk : (w = 8 ∧ k = 2) ∨ (w = 7 ∧ k = 3) ∨ (w = 1 ∧ k = 4) ∨ (w = 10 ∧ k = 6) ∨ (w = 3 ∧ k = 7) ∨ (w = 6 ∧ k = 11) ∨ (w = 9 ∧ k = 12)) : RS b (upd2 M (b + 35 + 12 + x) k v) (upd f (170 + 12 * x + w) v) := by
  obtain ⟨q0, q1, qT, qA, e0, eE⟩ := hRS
  have hw : w < 12 := by omega
  have hlo : ∀ j, j < 170 → upd f (170 + 12 * x + w) v j = f j := fun j hj => upd_n _ _ (by omega)
  have hhi : ∀ j, 250 ≤ j → upd f (170 + 12 * x + w) v j = f j := fun j hj => upd_n _ _ (by omega)
  have hE : ∀ i w', fE (upd f (170 + 12 * x + w) v) i w' = fE f i w' := fun i w' => hhi _ (by omega)
  have hsz : sz (upd f (170 + 12 * x + w) v) = sz f := by unfold sz; rw [hlo 1 (by decide)]
  have hall : ∀ y, allS (upd f (170 + 12 * x + w) v) y = allS f y := fun y => by
    unfold allS; rw [hsz]; apply sumR_congr; intro j _ _; rw [hE, hE]
  refine ⟨?_, ?_, ?_, fun y hy => ?_, ?_, fun i hi => ?_⟩
  · rw [u2o _ _ (by omega), hlo 0 (by decide)]; exact q0
  · rw [u2o _ _ (by omega), hlo 4 (by decide)]; exact q1
  · exact RT_congr qT hIT (fun o k g1 g2 => u2o _ _ (by omega)) (fun j _ h2 _ => hlo j (by omega))
  · obtain ⟨c0, c1, c2, c3, c4, c5, c6, c7, c8, c9, c10, c11, c12, c13⟩ := qA y hy
    have hid : ∀ k', k' ≠ k → upd2 M (b + 35 + 12 + x) k v (b + 35 + 12 + y) k' = M (b + 35 + 12 + y) k' := by
      intro k' h'
      by_cases e : y = x
      · subst e; exact u2k _ _ h'
      · exact u2o _ _ (by omega)
    have eN : aN (upd f (170 + 12 * x + w) v) y = aN f y := by unfold aN; rw [fA_un hw (by decide) (by omega)]
    have eD : aD (upd f (170 + 12 * x + w) v) y = aD f y := by unfold aD; rw [fA_un hw (by decide) (by omega)]
    unfold RA
    rw [hall, eN, eD, hid 0 (by omega), hid 10 (by omega), hid 13 (by omega), fA_un (w' := 0) hw (by decide) (by omega)]
    refine ⟨c0, ?_, put_comp hx hy hw (by decide) (by omega) c2, put_comp hx hy hw (by decide) (by omega) c3, put_comp hx hy hw (by decide) (by omega) c4, ?_, put_comp hx hy hw (by decide) (by omega) c6, put_comp hx hy hw (by decide) (by omega) c7, ?_, ?_, c10, put_comp hx hy hw (by decide) (by omega) c11, put_comp hx hy hw (by decide) (by omega) c12, c13⟩
    · rw [hid 1 (by omega)]; exact c1
    · rw [hid 5 (by omega), fA_un hw (by decide) (by omega)]; exact c5
    · rw [hid 8 (by omega), fA_un hw (by decide) (by omega)]; exact c8
    · rw [hid 9 (by omega), fA_un hw (by decide) (by omega)]; exact c9
  · rw [u2o _ _ (by omega), hlo 1 (by decide)]; exact e0
  · rw [hsz] at hi
    simp (disch := omega) only [u2o, hE]
    exact eE i hi
theorem FD_put {b x k : Nat} {M : Mem} {v : Int32} (hx : x < 6) : FD b M (upd2 M (b + 35 + 12 + x) k v) := fun o k' h => u2o _ _ (by omega)
/-- credit, charge -/
theorem s_credit {b x n : Nat} {M N : Mem} {f : Nat → Int32} (hRS : RS b M f) (hM : CalM N) (hI : INV0 f) (hx : x < 6) (hA : IA1 f x) (hs : sz f < 400) (hrun : (tD f : Int) < NT (aN f x) (aD f x)) (hn : 200 ≤ n) :
    ∃ M', mX1_writeCredit n b (b + 35 + 12 + x) M = some (-ctC f x, M') ∧ mX11_credits n (nI x) (stF N f) = some (-ctC f x, stF N (crF f x)) ∧ RS b M' (crF f x) ∧ FD b M M' := by
  have hRA := hRS.2.2.2.1 x hx
  have hI' := hI; have hA' := hA
  obtain ⟨t0, t1, t2, hIT, hIA, hIE⟩ := hI
  obtain ⟨i0, i1, i2, i3, i4, i5, i6, i7, i8, i9, i10, i11, i12, i13, i14, i15⟩ := hA
  have hp : aB f x < 6 := by have := i1.2; omega
  have hIP := hIT.2.2.2.2.2 _ hp
  have hsz := t1.1
  obtain ⟨M', w1, w2, w3⟩ := c_write (k := 1) (fr := f 0) (to := fA f x 5) (c := -ctC f x) hRS hIT hsz hs hx
  refine ⟨M', ?_, ?_, w2, w3⟩
  · unfold mX1_writeCredit
    rw [hRA.2.2.2.2.1, i1.1, c_worth hRS.2.2.1 hIT hRA hp i9 hn]
    simp only [bnp_some]
    rw [hRS.1, c_part hRA hA']
    simp only [bnp_some]
    rw [hRA.2.2.2.2.2.2.2.2.2.1]
    have e : (1 : Int32) = nI 1 := rfl
    rw [e]
    unfold ctC at w1
    rw [w1]; rfl
  · unfold mX11_credits
    have h0 : f 0 = nI (tD f) := t0.1
    simp (disch := omega) only [nI_lit, chk_n, m_ofS, bnp_some, stF_f, nI_clamp]
    rw [i1.1]
    rw [show mX11_leftBy n (nI x) (nI (aB f x)) (f 0) (stF N f) = some (ctC f x) by
      unfold ctC; rw [h0]; exact m_left hM hx hp hIP hA' t0.2 i14 hrun hn]
    simp only [bnp_some]
    rw [m_writes hsz hs hx]; rfl
theorem s_charge {b x n : Nat} {M N : Mem} {f : Nat → Int32} (hRS : RS b M f) (hM : CalM N) (hI : INV0 f) (hx : x < 6) (hA : IA1 f x) (hs : sz f < 400) (hrun : (tD f : Int) < NT (aN f x) (aD f x)) (hn : 200 ≤ n) :
    ∃ M', mX1_writeCharge n b (b + 35 + 12 + x) M = some (ctC f x, M') ∧ mX11_charges n (nI x) (stF N f) = some (ctC f x, stF N (chF f x)) ∧ RS b M' (chF f x) ∧ FD b M M' := by
  have hRA := hRS.2.2.2.1 x hx
  have hI' := hI; have hA' := hA
  obtain ⟨t0, t1, t2, hIT, hIA, hIE⟩ := hI
  obtain ⟨i0, i1, i2, i3, i4, i5, i6, i7, i8, i9, i10, i11, i12, i13, i14, i15⟩ := hA
  have hp : aB f x < 6 := by have := i1.2; omega
  have hIP := hIT.2.2.2.2.2 _ hp
  have hsz := t1.1
  obtain ⟨M', w1, w2, w3⟩ := c_write (k := 0) (fr := f 0) (to := fA f x 5) (c := ctC f x) hRS hIT hsz hs hx
  refine ⟨M', ?_, ?_, w2, w3⟩
  · unfold mX1_writeCharge
    rw [hRA.2.2.2.2.1, i1.1, c_worth hRS.2.2.1 hIT hRA hp i9 hn]
    simp only [bnp_some]
    rw [hRS.1, c_part hRA hA']
    simp only [bnp_some]
    rw [hRA.2.2.2.2.2.2.2.2.2.1]
    have e : (0 : Int32) = nI 0 := rfl
    rw [e]
    unfold ctC at w1
    rw [w1]; rfl
  · unfold mX11_charges
    have h0 : f 0 = nI (tD f) := t0.1
    simp (disch := omega) only [nI_lit, chk_n, m_ofS, bnp_some, stF_f, nI_clamp]
    rw [i1.1]
    rw [show mX11_leftBy n (nI x) (nI (aB f x)) (f 0) (stF N f) = some (ctC f x) by
      unfold ctC; rw [h0]; exact m_left hM hx hp hIP hA' t0.2 i14 hrun hn]
    simp only [bnp_some]
    rw [m_writes hsz hs hx]; rfl
