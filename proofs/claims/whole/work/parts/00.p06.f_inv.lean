/-! what holds of the row at all times -/
theorem IA1_congr {f f' : Nat → Int32} {x : Nat} (h : IA1 f x) (hA : ∀ w, w < 12 → fA f' x w = fA f x w) (ht : tD f ≤ tD f') (hs : sz f ≤ sz f') : IA1 f' x := by
  obtain ⟨i0, i1, i2, i3, i4, i5, i6, i7, i8, i9, i10, i11, i12, i13, i14, i15⟩ := h
  unfold IA1 aB aN aQ aD aU aZ aX aP aS
  rw [hA 0 (by decide), hA 1 (by decide), hA 2 (by decide), hA 3 (by decide), hA 4 (by decide), hA 5 (by decide), hA 6 (by decide), hA 7 (by decide), hA 8 (by decide), hA 9 (by decide), hA 10 (by decide)]
  exact ⟨i0, i1, i2, i3, i4, i5, i6, i7, i8, i9, i10, i11, i12, i13, Nat.le_trans i14 ht, Nat.le_trans i15 hs⟩
theorem IA_congr {f f' : Nat → Int32} {x : Nat} (h : IA f x) (hA : ∀ w, w < 12 → fA f' x w = fA f x w) (ht : tD f ≤ tD f') (hs : sz f ≤ sz f') : IA f' x := by
  rcases h with h | h
  · exact Or.inl (fun w hw => by rw [hA w hw]; exact h w hw)
  · exact Or.inr (IA1_congr h hA ht hs)
theorem IE_congr {f f' : Nat → Int32} {i : Nat} (h : IE f i) (hE : ∀ w, w < 10 → fE f' i w = fE f i w) (hs : sz f ≤ sz f') (hb : ∀ y, y < 6 → fA f y 0 = nI 1 → fA f' y 0 = nI 1) : IE f' i := by
  obtain ⟨i0, i1, i2, i3, i4, i5, i6, i7, i8, i9, i10, i11, i12⟩ := h
  have ho := i1.2
  have h12 := hb (eO f i) (by omega) i12
  unfold IE
  have e0 : eO f' i = eO f i := by unfold eO; rw [hE 1 (by decide)]
  rw [e0]
  unfold eK eW eQ eF eT eP
  rw [hE 0 (by decide), hE 1 (by decide), hE 2 (by decide), hE 3 (by decide), hE 4 (by decide), hE 5 (by decide), hE 6 (by decide), hE 7 (by decide), hE 8 (by decide), hE 9 (by decide)]
  refine ⟨i0, i1, i2, i3, i4, i5, i6, i7, i8, i9, ?_, ?_, h12⟩
  · rcases i10 with q | ⟨k, k1, k2⟩
    · exact Or.inl q
    · exact Or.inr ⟨k, by omega, k2⟩
  · rcases i11 with q | ⟨k, k1, k2⟩
    · exact Or.inl q
    · exact Or.inr ⟨k, by omega, k2⟩
theorem na_nI {k : Nat} (h : k < 2 ^ 31) : na (nI k) = k := nI_clamp h
theorem isM_nI {k N : Nat} (h : k ≤ N) (hN : N < 2 ^ 31) : isM (nI k) (na (nI k)) N := by rw [na_nI (by omega)]; exact ⟨rfl, h⟩
theorem INV0_wr {f : Nat → Int32} {k x F T : Nat} {fr to c : Int32} (hI : INV0 f) (hx : x < 6) (hA : IA1 f x) (hs : sz f < 400) (hk : k ≤ 5) (hfr : fr = nI F) (hto : to = nI T) (hT : T ≤ 3652) (hFT : F ≤ T)
    (hc : k ≤ 1 → T ≤ F + 31 ∧ -899991 ≤ c.toInt ∧ c.toInt ≤ 899991) (hmin : -2147483647 ≤ c.toInt) : INV0 (wrF f k x fr to c) := by
  obtain ⟨t0, t1, t2, hIT, hIA, hIE⟩ := hI
  have eTD : tD (wrF f k x fr to c) = tD f := by unfold tD; rw [wr_lo (by decide) (by decide)]
  have eS := wr_sz (k := k) (x := x) (fr := fr) (to := to) (c := c) hs
  have eC : cL (wrF f k x fr to c) = cL f := by unfold cL; rw [wr_lo (by decide) (by decide)]
  unfold INV0
  rw [eTD, eS, eC, wr_lo (by decide) (by decide), wr_1, wr_lo (by decide) (by decide)]
  refine ⟨t0, ⟨rfl, hs⟩, t2, IT_congr hIT (fun j _ h2 _ => wr_lo (by omega) (by omega)), fun y hy => IA_congr (hIA y hy) (fun w hw => wr_A hy hw) (by rw [eTD]; exact Nat.le_refl _) (by rw [eS]; omega), fun i hi => ?_⟩
  by_cases h : i = sz f
  · subst h
    obtain ⟨n0, n1, n2, n3, n4, n5, n6, n7, n8, n9⟩ := wr_new (f := f) (k := k) (x := x) (fr := fr) (to := to) (c := c)
    obtain ⟨i0, i1, i2, i3, i4, i5, i6, i7, i8, i9, i10, i11, i12, i13, i14, i15⟩ := hA
    have hO : eO (wrF f k x fr to c) (sz f) = x := by unfold eO; rw [n1]; exact na_nI (by omega)
    have hK : eK (wrF f k x fr to c) (sz f) = k := by unfold eK; rw [n0]; exact na_nI (by omega)
    have hF : eF (wrF f k x fr to c) (sz f) = F := by unfold eF; rw [n4, hfr]; exact na_nI (by omega)
    have hT' : eT (wrF f k x fr to c) (sz f) = T := by unfold eT; rw [n5, hto]; exact na_nI (by omega)
    unfold IE
    rw [hO, hK, hF, hT', n0, n1, n2, n3, n4, n5, n6, n7, n8, n9, wr_A hx (by decide)]
    refine ⟨⟨rfl, hk⟩, ⟨rfl, by omega⟩, ?_, ?_, ⟨hfr, by omega⟩, ⟨hto, hT⟩, ?_, hFT, hc, hmin, Or.inl rfl, Or.inl rfl, i0⟩
    · unfold eW; rw [n2]; exact t0
    · unfold eQ; rw [n3]; exact i4
    · unfold eP; rw [n6]; exact i1
  · exact IE_congr (hIE i (by omega)) (fun w hw => wr_E (by omega) hw) (by rw [eS]; omega) (fun y hy h1 => by rw [wr_A hy (by decide)]; exact h1)
/-- an account's fields change, all else stays -/
theorem INV0_acc {f f' : Nat → Int32} {x : Nat} (hI : INV0 f) (hx : x < 6) (hf : ∀ j, (j < 170 + 12 * x ∨ 182 + 12 * x ≤ j) → f' j = f j) (h0 : fA f x 0 = nI 1 → fA f' x 0 = nI 1) (hA : IA f' x) : INV0 f' := by
  obtain ⟨t0, t1, t2, hIT, hIA, hIE⟩ := hI
  have eT : tD f' = tD f := by unfold tD; rw [hf 0 (by omega)]
  have eS : sz f' = sz f := by unfold sz; rw [hf 1 (by omega)]
  have eC : cL f' = cL f := by unfold cL; rw [hf 4 (by omega)]
  have hAo : ∀ y w, y ≠ x → w < 12 → fA f' y w = fA f y w := fun y w h hw => hf _ (by omega)
  unfold INV0
  rw [eT, eS, eC, hf 0 (by omega), hf 1 (by omega), hf 4 (by omega)]
  refine ⟨t0, t1, t2, IT_congr hIT (fun j _ h2 _ => hf j (by omega)), fun y hy => ?_, fun i hi => ?_⟩
  · by_cases h : y = x
    · subst h; exact hA
    · exact IA_congr (hIA y hy) (fun w hw => hAo y w h hw) (Nat.le_of_eq eT.symm) (Nat.le_of_eq eS.symm)
  · refine IE_congr (hIE i hi) (fun w hw => hf _ (by omega)) (Nat.le_of_eq eS.symm) (fun y hy h1 => ?_)
    by_cases h : y = x
    · subst h; exact h0 h1
    · rw [hAo y 0 h (by decide)]; exact h1
/-- bounds of WORTH and its parts -/
theorem ofs_le {f : Nat → Int32} {p : Nat} {s : Int32} (hI : IP f p) : ∀ (d i o : Nat), i + d ≤ 3 → o ≤ 100 → ∃ o', o' ≤ 100 ∧ ofs f p s i d (nI o) = nI o'
  | 0, i, o, _, ho => ⟨o, ho, rfl⟩
  | d + 1, i, o, h, ho => by
    have h8 := (hI.2.2.2.2.2.2.2.2.1 i (by omega)).2
    rw [ofs_s]
    by_cases q : s < fP f p (15 + i)
    · rw [if_pos q]; exact ofs_le hI d (i + 1) o (by omega) ho
    · rw [if_neg q, h8.1]; exact ofs_le hI d (i + 1) (pO f p i) (by omega) h8.2
theorem pct {w o : Nat} (hw : w ≤ 899991) (ho : o ≤ 100) : nI w - nI w * nI o / nI 100 = nI (w - w * o / 100) ∧ w * o / 100 ≤ w := by
  have h1 : w * o ≤ 899991 * 100 := Nat.mul_le_mul hw ho
  have h2 : w * o ≤ w * 100 := Nat.mul_le_mul_left _ ho
  have h3 : w * o / 100 ≤ w := by omega
  refine ⟨?_, h3⟩
  rw [pk_mul, pk_div (by omega) (by omega) (by omega), pk_sub h3]
theorem WO_le {f : Nat → Int32} {x p : Nat} (hIT : IT f) (hp : p < 6) (hS : isM (fA f x 10) (aS f x) 9) : ∃ w, w ≤ 899991 ∧ WO f x p = nI w := by
  have hI := hIT.2.2.2.2.2 p hp
  obtain ⟨o, ho, eo⟩ := ofs_le (s := fA f x 10) hI (pK f p) 0 0 (by have := hI.2.2.2.2.2.2.1.2; omega) (by omega)
  have hP := hI.1; have hP2 := hP.2; have hS2 := hS.2
  have hPS : pP f p * aS f x ≤ 99999 * 9 := Nat.mul_le_mul hP2 hS2
  obtain ⟨e1, l1⟩ := pct (w := pP f p * aS f x) (o := o) (by omega) ho
  have hW1 : W1 f x p = nI (pP f p * aS f x - pP f p * aS f x * o / 100) := by
    unfold W1
    rw [eo, hP.1, hS.1, pk_mul, e1]
  obtain ⟨w1, hw1⟩ : ∃ w1, w1 = pP f p * aS f x - pP f p * aS f x * o / 100 := ⟨_, rfl⟩
  rw [← hw1] at hW1
  have hw1l : w1 ≤ 899991 := by omega
  obtain ⟨ls, hls, els⟩ : ∃ l, l ≤ 100 ∧ f 2 = nI l := ⟨na (f 2), hIT.1.2, hIT.1.1⟩
  obtain ⟨w2, hw2, hW2⟩ : ∃ w2, w2 ≤ 899991 ∧ W2 f x p = nI w2 := by
    unfold W2
    rw [hW1]
    by_cases q : f 3 ≤ fA f x 3
    · rw [if_pos q]; exact ⟨w1, hw1l, rfl⟩
    · obtain ⟨e2, l2⟩ := pct (w := w1) (o := ls) hw1l hls
      rw [if_neg q, els, e2]; exact ⟨_, by omega, rfl⟩
  unfold WO
  rw [hW2]
  have hZ := hI.2.2.2.2.2.1
  have hZ2 := hZ.2
  by_cases q : fA f x 7 = nI 1
  · have h1 : w2 * pZ f p ≤ 899991 * 100 := Nat.mul_le_mul hw2 hZ2
    have h2 : w2 * pZ f p ≤ w2 * 100 := Nat.mul_le_mul_left _ hZ2
    rw [if_pos q, hZ.1, pk_mul, pk_div (by omega) (by omega) (by omega)]
    exact ⟨_, by omega, rfl⟩
  · rw [if_neg q]; exact ⟨w2, hw2, rfl⟩
theorem PTE_le {w an d0 dy : Nat} (hw : w ≤ 899991) (h1 : 1 ≤ an) (h2 : an ≤ 31) (h : d0 ≤ 3652) (hd : dy ≤ 3652) (hl : d0 ≤ dy) (hn : (dy : Int) < NT an d0) : ∃ v, v ≤ w ∧ PTE (nI w) an d0 (nI dy) = nI v := by
  obtain ⟨b1, b2, b3, b4, b5⟩ := LT_NT h1 h
  have b6 := NT_LT h1 h2 h
  obtain ⟨L, hL⟩ : ∃ L : Nat, (L : Int) = NT an d0 - LT an d0 := ⟨(NT an d0 - LT an d0).toNat, by omega⟩
  obtain ⟨K, hK⟩ : ∃ K : Nat, (K : Int) = (dy : Int) - LT an d0 := ⟨((dy : Int) - LT an d0).toNat, by omega⟩
  have e1 : iI (NT an d0) - iI (LT an d0) = nI L := by rw [iI_sub, ← hL]; rfl
  have e2 : nI dy - iI (LT an d0) = nI K := by rw [iI_n, iI_sub, ← hK]; rfl
  have hLb : L ≤ 31 := by omega
  have hK2 : K ≤ L := by omega
  have m1 : w * L ≤ 899991 * 31 := Nat.mul_le_mul hw hLb
  have m2 : w * K ≤ w * L := Nat.mul_le_mul_left _ hK2
  have hL0 : 0 < L := by omega
  have d1 : w * L / L = w := Nat.mul_div_cancel _ hL0
  have d2 : w * K / L ≤ w := Nat.div_le_of_le_mul (by rw [Nat.mul_comm L w]; exact m2)
  refine ⟨w - w * K / L, Nat.sub_le _ _, ?_⟩
  unfold PTE
  rw [e1, e2, pk_mul, pk_mul, pk_div (by omega) hL0 (by omega), pk_div (by omega) hL0 (by omega), d1, pk_sub d2]
theorem ctC_le {f : Nat → Int32} {x : Nat} (hI : INV0 f) (hA : IA1 f x) (hrun : (tD f : Int) < NT (aN f x) (aD f x)) : ∃ v, v ≤ 899991 ∧ ctC f x = nI v := by
  obtain ⟨t0, t1, t2, hIT, hIA, hIE⟩ := hI
  obtain ⟨i0, i1, i2, i3, i4, i5, i6, i7, i8, i9, i10, i11, i12, i13, i14, i15⟩ := hA
  obtain ⟨w, hw, ew⟩ := WO_le (x := x) (p := aB f x) hIT (by have := i1.2; omega) i12
  obtain ⟨v, hv, ev⟩ := PTE_le hw i3 i2.2 i5.2 t0.2 i14 hrun
  refine ⟨v, by omega, ?_⟩
  unfold ctC
  rw [ew, t0.1, ev]
theorem neg_toInt {v : Nat} (h : v < 2 ^ 31) : (-nI v).toInt = -(v : Int) := by
  rw [iI_n, iI_neg]; exact iI_toInt (by omega) (by omega)
theorem NT_nI {f : Nat → Int32} {x : Nat} (hA : IA1 f x) (hrun : (tD f : Int) < NT (aN f x) (aD f x)) : ∃ T : Nat, T ≤ 3652 ∧ fA f x 5 = nI T ∧ tD f < T ∧ T ≤ tD f + 31 := by
  obtain ⟨i0, i1, i2, i3, i4, i5, i6, i7, i8, i9, i10, i11, i12, i13, i14, i15⟩ := hA
  obtain ⟨b1, b2, b3, b4, b5⟩ := LT_NT i3 i5.2
  have b6 := NT_LT i3 i2.2 i5.2
  obtain ⟨T, hT⟩ : ∃ T : Nat, (T : Int) = NT (aN f x) (aD f x) := ⟨(NT (aN f x) (aD f x)).toNat, by omega⟩
  refine ⟨T, by omega, ?_, by omega, by omega⟩
  rw [i6, ← hT]; rfl
theorem INV0_cr {f : Nat → Int32} {x : Nat} (hI : INV0 f) (hx : x < 6) (hA : IA1 f x) (hs : sz f < 400) (hrun : (tD f : Int) < NT (aN f x) (aD f x)) : INV0 (crF f x) := by
  obtain ⟨v, hv, ev⟩ := ctC_le hI hA hrun
  obtain ⟨T, hT, eT, hT1, hT2⟩ := NT_nI hA hrun
  have h := neg_toInt (v := v) (by omega)
  unfold crF
  rw [ev]
  exact INV0_wr hI hx hA hs (by decide) hI.1.1 eT hT (by omega) (fun _ => ⟨by omega, by omega, by omega⟩) (by omega)
theorem INV0_ch {f : Nat → Int32} {x : Nat} (hI : INV0 f) (hx : x < 6) (hA : IA1 f x) (hs : sz f < 400) (hrun : (tD f : Int) < NT (aN f x) (aD f x)) : INV0 (chF f x) := by
  obtain ⟨v, hv, ev⟩ := ctC_le hI hA hrun
  obtain ⟨T, hT, eT, hT1, hT2⟩ := NT_nI hA hrun
  have h := nI_toInt (n := v) (by omega)
  unfold chF
  rw [ev]
  exact INV0_wr hI hx hA hs (by decide) hI.1.1 eT hT (by omega) (fun _ => ⟨by omega, by omega, by omega⟩) (by omega)
theorem us_A {f : Nat → Int32} {x y w : Nat} (hx : x < 6) (hy : y < 6) (hw : w < 12) (h : y ≠ x ∨ w ≠ 6) : fA (usF f x) y w = fA f y w := by
  unfold usF
  rw [fA_un (by decide) hw h, wr_A hy hw]
theorem us_6 {f : Nat → Int32} {x : Nat} : fA (usF f x) x 6 = nI 0 := fA_us
theorem INV0_us {f : Nat → Int32} {x : Nat} (hI : INV0 f) (hx : x < 6) (hA : IA1 f x) (hs : sz f < 400) : INV0 (usF f x) := by
  have hA' := hA
  obtain ⟨i0, i1, i2, i3, i4, i5, i6, i7, i8, i9, i10, i11, i12, i13, i14, i15⟩ := hA
  have hb := US_le (u := aU f x) (hI.2.2.2.1.2.2.2.2.2 (aB f x) (by have := i1.2; omega)) i8.2
  have h := nI_toInt (n := US f (aB f x) (aU f x)) (by omega)
  have hW : INV0 (wrF f 2 x (fA f x 4) (f 0) (usC f x)) := INV0_wr hI hx hA' hs (by decide) i5.1 hI.1.1 hI.1.2 i14 (fun h => absurd h (by decide)) (by unfold usC; omega)
  unfold usF
  refine INV0_acc hW hx (fun j hj => upd_n _ _ (by omega)) (fun h0 => by rw [fA_un (by decide) (by decide) (by omega)]; exact h0) (Or.inr ?_)
  have hA2 : IA1 (wrF f 2 x (fA f x 4) (f 0) (usC f x)) x := IA1_congr hA' (fun w hw => wr_A hx hw) (by unfold tD; rw [wr_lo (by decide) (by decide)]; exact Nat.le_refl _) (by rw [wr_sz hs]; omega)
  obtain ⟨j0, j1, j2, j3, j4, j5, j6, j7, j8, j9, j10, j11, j12, j13, j14, j15⟩ := hA2
  have et : tD (upd (wrF f 2 x (fA f x 4) (f 0) (usC f x)) (170 + 12 * x + 6) (nI 0)) = tD (wrF f 2 x (fA f x 4) (f 0) (usC f x)) := by unfold tD; rw [upd_n _ _ (by omega)]
  have es : sz (upd (wrF f 2 x (fA f x 4) (f 0) (usC f x)) (170 + 12 * x + 6) (nI 0)) = sz (wrF f 2 x (fA f x 4) (f 0) (usC f x)) := by unfold sz; rw [upd_n _ _ (by omega)]
  unfold IA1
  rw [et, es]
  unfold aB aN aQ aD aU aZ aX aP aS
  rw [fA_us]
  rw [fA_un (w' := 0) (by decide) (by decide) (by omega), fA_un (w' := 1) (by decide) (by decide) (by omega), fA_un (w' := 2) (by decide) (by decide) (by omega), fA_un (w' := 3) (by decide) (by decide) (by omega), fA_un (w' := 4) (by decide) (by decide) (by omega), fA_un (w' := 5) (by decide) (by decide) (by omega), fA_un (w' := 7) (by decide) (by decide) (by omega), fA_un (w' := 8) (by decide) (by decide) (by omega), fA_un (w' := 9) (by decide) (by decide) (by omega), fA_un (w' := 10) (by decide) (by decide) (by omega)]
  exact ⟨j0, j1, j2, j3, j4, j5, j6, j7, ⟨rfl, by decide⟩, j9, j10, j11, j12, j13, j14, j15⟩
