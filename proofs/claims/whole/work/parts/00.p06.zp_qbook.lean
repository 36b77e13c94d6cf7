/-! THE BOOK is begun anew and read, on both sides -/
def zP (q : Nat) (M : Mem) : Prop := M q 0 = 0 ∧ M q 1 = 0 ∧ M q 2 = 0 ∧ M q 5 = 0 ∧ M q 6 = 0 ∧ M q 7 = 0 ∧ M q 8 = 0
theorem c_clrP {q : Nat} {M : Mem} : ∃ M', mX7_clear q M = some M' ∧ zP q M' ∧ Fr q (q + 1) M M' := by
  unfold mX7_clear
  refine ⟨_, rfl, ⟨?_, ?_, ?_, ?_, ?_, ?_, ?_⟩, fun o k h => ?_⟩
  · rw [u2k _ _ (by decide), u2k _ _ (by decide), u2k _ _ (by decide), u2k _ _ (by decide), u2k _ _ (by decide), u2k _ _ (by decide), u2s]
  · rw [u2k _ _ (by decide), u2k _ _ (by decide), u2k _ _ (by decide), u2k _ _ (by decide), u2k _ _ (by decide), u2s]
  · rw [u2k _ _ (by decide), u2k _ _ (by decide), u2k _ _ (by decide), u2k _ _ (by decide), u2s]
  · rw [u2k _ _ (by decide), u2k _ _ (by decide), u2k _ _ (by decide), u2s]
  · rw [u2k _ _ (by decide), u2k _ _ (by decide), u2s]
  · rw [u2k _ _ (by decide), u2s]
  · rw [u2s]
  · have : o ≠ q := by omega
    rw [u2o _ _ this, u2o _ _ this, u2o _ _ this, u2o _ _ this, u2o _ _ this, u2o _ _ this, u2o _ _ this]
theorem zP_cg {q : Nat} {M M' : Mem} (h : zP q M) (e : ∀ k, M' q k = M q k) : zP q M' := by
  unfold zP
  simp only [e]
  exact h
theorem c_clr {n : Nat} : ∀ (d k i : Nat) (M : Mem), i + d = 6 → d < k → (∀ p, p < i → zP (168 + 5 * p) M) → ∃ M', mX9_clear_c2 n k 164 (nI i) M = some M' ∧ (∀ p, p < 6 → zP (168 + 5 * p) M') ∧ M' 164 1 = 0 ∧ M' 164 2 = 0 ∧ M' 164 3 = 0 ∧ M' 164 4 = 0 ∧ M' 164 7 = 0 ∧ Fr 164 198 M M' := by
  intro d
  induction d with
  | zero =>
    intro k i M e hk hP
    obtain ⟨k, rfl⟩ : ∃ k', k = k' + 1 := ⟨k - 1, by omega⟩
    have hi : i = 6 := by omega
    subst hi
    unfold mX9_clear_c2
    rw [if_pos (show (6 : Int32) ≤ nI 6 by decide)]
    refine ⟨_, rfl, fun p hp => zP_cg (hP p hp) (fun j => ?_), ?_, ?_, ?_, ?_, ?_, fun o k h => ?_⟩
    · have : 168 + 5 * p ≠ 164 := by omega
      rw [u2o _ _ this, u2o _ _ this, u2o _ _ this, u2o _ _ this, u2o _ _ this]
    · rw [u2k _ _ (by decide), u2k _ _ (by decide), u2k _ _ (by decide), u2k _ _ (by decide), u2s]
    · rw [u2k _ _ (by decide), u2k _ _ (by decide), u2k _ _ (by decide), u2s]
    · rw [u2k _ _ (by decide), u2k _ _ (by decide), u2s]
    · rw [u2k _ _ (by decide), u2s]
    · rw [u2s]
    · have : o ≠ 164 := by omega
      rw [u2o _ _ this, u2o _ _ this, u2o _ _ this, u2o _ _ this, u2o _ _ this]
  | succ d ih =>
    intro k i M e hk hP
    obtain ⟨k, rfl⟩ : ∃ k', k = k' + 1 := ⟨k - 1, by omega⟩
    obtain ⟨M1, a1, a2, a3⟩ := c_clrP (q := 168 + 5 * i) (M := M)
    obtain ⟨M2, b1, b2, b3, b4, b5, b6, b7, b8⟩ := ih k (i + 1) M1 (by omega) (by omega) (fun p hp => by
      rcases (show p = i ∨ p < i by omega) with rfl | g
      · exact a2
      · exact zP_cg (hP p g) (fun j => a3 _ _ (by omega)))
    refine ⟨M2, ?_, b2, b3, b4, b5, b6, b7, fun o k h => (b8 o k h).trans (a3 o k (by omega))⟩
    unfold mX9_clear_c2
    rw [if_neg (show ¬ (6 : Int32) ≤ nI i by rw [show (6 : Int32) = nI 6 from rfl, nI_leI (by omega) (by omega)]; omega), chk_n (show i < 6 by omega) (by decide), nI_clamp (by omega), show 164 + 1 + 3 + 5 * i = 168 + 5 * i by omega, a1]
    simp only [bnp_some]
    rw [place_s]
    exact b1
theorem IT_zero {g : Nat → Int32} (h : ∀ j, j < 164 → g j = nI 0) : IT g := by
  have eX : nX g = 0 := by unfold nX; rw [h 6 (by decide)]; exact na_nI (by decide)
  have z : ∀ B, isN (nI 0) B := fun B => by unfold isN; exact ⟨by rw [na_nI (by decide)], by rw [na_nI (by decide)]; exact Nat.zero_le _⟩
  have zm : ∀ B, isM (nI 0) (na (nI 0)) B := fun B => by unfold isM; rw [na_nI (by decide)]; exact ⟨rfl, Nat.zero_le _⟩
  have w0 : ∀ p w, p < 6 → w < 24 → fP g p w = nI 0 := fun p w hp hw => h _ (by omega)
  have e0 : na (nI 0) = 0 := na_nI (by decide)
  unfold IT
  rw [eX, h 2 (by decide), h 3 (by decide), h 5 (by decide), h 6 (by decide)]
  refine ⟨z _, z _, z _, ⟨rfl, by omega⟩, fun i hi => by rw [h _ (by omega), h _ (by omega)]; exact ⟨z _, z _⟩, fun p hp => ?_⟩
  have eT : pT g p = 0 := by unfold pT; rw [w0 p _ hp (by decide)]; exact e0
  unfold IP
  rw [eT]
  refine ⟨?_, ?_, ?_, ?_, ?_, ?_, ?_, fun i hi => ?_, fun i hi => ?_, fun i hi => absurd hi (by omega), fun i hi => absurd hi (by omega)⟩
  · unfold pP; rw [w0 p _ hp (by decide)]; exact zm _
  · unfold pF; rw [w0 p _ hp (by decide)]; exact zm _
  · rw [w0 p _ hp (by decide)]; exact ⟨rfl, by omega⟩
  · unfold pR; rw [w0 p _ hp (by decide)]; exact zm _
  · unfold pW; rw [w0 p _ hp (by decide)]; exact zm _
  · unfold pZ; rw [w0 p _ hp (by decide)]; exact zm _
  · unfold pK; rw [w0 p _ hp (by decide)]; exact zm _
  · unfold pB pC; rw [w0 p _ hp (by omega), w0 p _ hp (by omega)]; exact ⟨zm _, zm _⟩
  · unfold pS pO; rw [w0 p _ hp (by omega), w0 p _ hp (by omega)]; exact ⟨zm _, zm _⟩
theorem RT_zero {M : Mem} {g : Nat → Int32} (h : ∀ j, j < 164 → g j = nI 0) (hP : ∀ p, p < 6 → zP (168 + 5 * p) M) (h1 : M 164 1 = 0) (h2 : M 164 2 = 0) (h3 : M 164 3 = 0) (h4 : M 164 4 = 0) : RT 164 M g := by
  have e0 : na (nI 0) = 0 := na_nI (by decide)
  have eX : nX g = 0 := by unfold nX; rw [h 6 (by decide)]; exact e0
  have w0 : ∀ p w, p < 6 → w < 24 → fP g p w = nI 0 := fun p w hp hw => h _ (by omega)
  unfold RT
  rw [eX, h 2 (by decide), h 3 (by decide), h 5 (by decide), h 6 (by decide)]
  refine ⟨h1, h2, h3, h4, fun i hi => absurd hi (by omega), fun p hp => ?_⟩
  have eT : pT g p = 0 := by unfold pT; rw [w0 p _ hp (by decide)]; exact e0
  have eK : pK g p = 0 := by unfold pK; rw [w0 p _ hp (by decide)]; exact e0
  obtain ⟨z0, z1, z2, z3, z4, z5, z6⟩ := hP p hp
  rw [show 164 + 4 + 5 * p = 168 + 5 * p by omega]
  unfold RP
  rw [eT, eK, w0 p _ hp (by decide), w0 p _ hp (by decide), w0 p _ hp (by decide), w0 p _ hp (by decide), w0 p _ hp (by decide), w0 p _ hp (by decide), w0 p _ hp (by decide)]
  exact ⟨z0, z1, z2, z3, z4, z5, z6, fun i hi => absurd hi (by omega), fun i hi => absurd hi (by omega)⟩
/-- the reference's loops -/
def zrd (j : Nat) (N : Mem) : Mem := fun o i => if o = 211 ∧ j ≤ i ∧ i < 164 then 0 else N o i
theorem zrd_s {j : Nat} {N : Mem} (hj : j < 164) : zrd (j + 1) (upd2 N 211 j 0) = zrd j N := by
  funext o i
  unfold zrd
  by_cases z : o = 211 ∧ i = j
  · obtain ⟨rfl, rfl⟩ := z
    rw [if_neg (by omega), if_pos (by omega), u2s]
  · by_cases y : o = 211 ∧ j ≤ i ∧ i < 164
    · rw [if_pos y, if_pos (by omega)]
    · rw [if_neg y, if_neg (by omega)]
      by_cases x : o = 211
      · subst x; exact u2k _ _ (by omega)
      · exact u2o _ _ x
theorem zrd_e {N : Mem} : zrd 164 N = N := by
  funext o i
  unfold zrd
  rw [if_neg (by omega)]
theorem c50_go {n : Nat} : ∀ (d k j : Nat) (N : Mem), j + d = 164 → d < k → mX11_book_c50 n k (nI j) N = refB n n (upd2 (zrd j N) 207 12 0) := by
  intro d
  induction d with
  | zero =>
    intro k j N e hk
    obtain ⟨k, rfl⟩ : ∃ k', k = k' + 1 := ⟨k - 1, by omega⟩
    have hj : j = 164 := by omega
    subst hj
    unfold mX11_book_c50
    rw [if_pos (show (164 : Int32) ≤ nI 164 by decide), zrd_e]; rfl
  | succ d ih =>
    intro k j N e hk
    obtain ⟨k, rfl⟩ : ∃ k', k = k' + 1 := ⟨k - 1, by omega⟩
    unfold mX11_book_c50
    rw [if_neg (show ¬ (164 : Int32) ≤ nI j by rw [show (164 : Int32) = nI 164 from rfl, nI_leI (by omega) (by omega)]; omega), chk_n (show j < 164 by omega) (by decide), nI_clamp (by omega), place_s, ih k (j + 1) _ (by omega) (by omega), zrd_s (by omega)]
def lay (j : Nat) (N : Mem) : Mem := fun o i => if o = 209 ∧ j ≤ i ∧ i < 164 then N 211 i else N o i
theorem lay_s {j : Nat} {N : Mem} (hj : j < 164) : lay (j + 1) (upd2 N 209 j (N 211 j)) = lay j N := by
  funext o i
  unfold lay
  rw [u2o _ _ (show (211 : Nat) ≠ 209 by decide)]
  by_cases z : o = 209 ∧ i = j
  · obtain ⟨rfl, rfl⟩ := z
    rw [if_neg (by omega), if_pos (by omega), u2s]
  · by_cases y : o = 209 ∧ j ≤ i ∧ i < 164
    · rw [if_pos y, if_pos (by omega)]
    · rw [if_neg y, if_neg (by omega)]
      by_cases x : o = 209
      · subst x; exact u2k _ _ (by omega)
      · exact u2o _ _ x
theorem lay_e {N : Mem} : lay 164 N = N := by
  funext o i
  unfold lay
  rw [if_neg (by omega)]
theorem c133_go {n : Nat} : ∀ (d k j : Nat) (N : Mem), j + d = 164 → d < k → mX11_book_c133 n k (nI j) N = some (N 207 12, upd2 (lay j N) 209 4 (N 207 12)) := by
  intro d
  induction d with
  | zero =>
    intro k j N e hk
    obtain ⟨k, rfl⟩ : ∃ k', k = k' + 1 := ⟨k - 1, by omega⟩
    have hj : j = 164 := by omega
    subst hj
    unfold mX11_book_c133
    rw [if_pos (show (164 : Int32) ≤ nI 164 by decide), lay_e, show chk (4 : Int32) 12750 = fun (y : Option (Int32 × Mem)) => y from funext fun y => chk_n (show 4 < 12750 by decide) (by decide)]
    rfl
  | succ d ih =>
    intro k j N e hk
    obtain ⟨k, rfl⟩ : ∃ k', k = k' + 1 := ⟨k - 1, by omega⟩
    unfold mX11_book_c133
    rw [if_neg (show ¬ (164 : Int32) ≤ nI j by rw [show (164 : Int32) = nI 164 from rfl, nI_leI (by omega) (by omega)]; omega), chk_n (show j < 164 by omega) (by decide), chk_n (show j < 12750 by omega) (by decide), nI_clamp (by omega), place_s, ih k (j + 1) _ (by omega) (by omega), lay_s (by omega), u2o _ _ (by decide)]
/-- the row with a new BOOK -/
def nBk (f g : Nat → Int32) (s : Nat) : Nat → Int32 := fun i => if i = 4 then nI s else if 2 ≤ i ∧ i < 164 then g i else f i
theorem nBk_f {f g : Nat → Int32} {s j : Nat} (h : j < 2 ∨ 164 ≤ j) : nBk f g s j = f j := by
  unfold nBk; rw [if_neg (by omega), if_neg (by omega)]
theorem nBk_g {f g : Nat → Int32} {s j : Nat} (h : 2 ≤ j) (h2 : j < 164) (h3 : j ≠ 4) : nBk f g s j = g j := by
  unfold nBk; rw [if_neg (by omega), if_pos (by omega)]
theorem nBk_4 {f g : Nat → Int32} {s : Nat} : nBk f g s 4 = nI s := if_pos rfl
theorem nBk_row {N : Mem} {s : Nat} (h : N 207 12 = nI s) : upd2 (lay 2 N) 209 4 (N 207 12) 209 = nBk (N 209) (N 211) s := by
  funext i
  unfold nBk
  by_cases z : i = 4
  · rw [if_pos z, z, u2s, h]
  · rw [if_neg z, u2k _ _ z]
    unfold lay
    by_cases y : 2 ≤ i ∧ i < 164
    · rw [if_pos y, if_pos ⟨rfl, y⟩]
    · rw [if_neg y, if_neg (fun q => y q.2)]
theorem INV_book {f g : Nat → Int32} {s : Nat} (hI : INV f) (hg : IT g) (hs : s ≤ 20) : INV (nBk f g s) := by
  obtain ⟨⟨t0, t1, t2, hIT, hIA, hIE⟩, hR⟩ := hI
  have eT : tD (nBk f g s) = tD f := by unfold tD; rw [nBk_f (by omega)]
  have eS : sz (nBk f g s) = sz f := by unfold sz; rw [nBk_f (by omega)]
  have eC : cL (nBk f g s) = s := by unfold cL; rw [nBk_4]; exact na_nI (by omega)
  have eA : ∀ x w, x < 6 → w < 12 → fA (nBk f g s) x w = fA f x w := fun x w hx hw => nBk_f (by omega)
  have hI' : INV0 (nBk f g s) := by
    unfold INV0
    rw [eT, eS, eC, nBk_f (by omega), nBk_f (by omega), nBk_4]
    exact ⟨t0, t1, ⟨rfl, hs⟩, IT_congr hg (fun j h1 h2 h3 => nBk_g h1 h2 h3), fun y hy => IA_congr (hIA y hy) (fun w hw => eA y w hy hw) (Nat.le_of_eq eT.symm) (Nat.le_of_eq eS.symm),
      fun i hi => IE_congr (hIE i hi) (fun w hw => nBk_f (by omega)) (Nat.le_of_eq eS.symm) (fun y hy h1 => by rw [eA y 0 hy (by decide)]; exact h1)⟩
  exact ⟨hI', fun y hy => RUN_same hI' hy (hR y hy) eT (fun w hw => eA y w hy (by omega))⟩
theorem RS_book {M M' : Mem} {f g : Nat → Int32} {s : Nat} (hR : RS 4 M f) (hI : INV0 f) (hg : IT g) (hM : ∀ o k, (4 ≤ o ∧ o < 57 ∧ ¬ (5 ≤ o ∧ o < 39)) → M' o k = M o k) (hT : RT 5 M' g) (h7 : M' 5 7 = nI s) : RS 4 M' (nBk f g s) := by
  obtain ⟨q0, q1, qT, qA, e0, qE⟩ := hR
  have hs := hI.2.1.2
  have eS : sz (nBk f g s) = sz f := by unfold sz; rw [nBk_f (by omega)]
  have eA : ∀ x w, x < 6 → w < 12 → fA (nBk f g s) x w = fA f x w := fun x w hx hw => nBk_f (by omega)
  have eE : ∀ i w, w < 10 → fE (nBk f g s) i w = fE f i w := fun i w hw => nBk_f (by omega)
  have eAll : ∀ x, allS (nBk f g s) x = allS f x := fun x => by
    unfold allS
    rw [eS]
    apply sumR_congr
    intro j _ hj
    rw [eE j 1 (by decide), eE j 7 (by decide)]
  refine ⟨?_, ?_, ?_, fun x hx => ?_, ?_, fun i hi => ?_⟩
  · rw [hM _ _ (by omega), nBk_f (by omega)]; exact q0
  · rw [nBk_4]; exact h7
  · exact RT_congr hT hg (fun _ _ _ _ => rfl) (fun j h1 h2 h3 => nBk_g h1 h2 h3)
  · have := RA_congrM (qA x hx) (M' := M') (fun k => hM _ _ (by omega))
    unfold RA aN aD at *
    rw [eAll]
    simp (disch := omega) only [eA]
    exact this
  · rw [hM _ _ (by omega), nBk_f (by omega)]; exact e0
  · rw [eS] at hi
    have := (RE_congrM (M' := M') ⟨e0, qE⟩ (fun o k h1 h2 => hM _ _ (by omega))).2 i hi
    simp (disch := omega) only [eE]
    exact this
theorem FK.ft {M M' : Mem} (h : FK M M') : FT M M' := fun o k g => h o k (by omega)
theorem GB2.gt {N N' : Mem} (h : GB2 N N') : GT N N' := fun o k g => h o k (by
  have := hHI 2 (by decide)
  rcases g with g | g | g <;> omega)
theorem book_read {M N : Mem} {n L T : Nat} (hn : 20000 ≤ n) (hL : L ≤ 200) (hLT : L ≤ T) (t4 : ∀ i, i < T → M 1 i = N 210 i) : ∃ M0 N0, BkO n M0 N0 (mX2_read n (nI L) (upd2 M 0 1 0)) (mX11_book_c50 n n (0 : Int32) (upd2 (upd2 (upd2 N 207 5 (0 : Int32)) 207 6 (nI L)) 207 4 (0 : Int32))) ∧ FT M M0 ∧ GT N N0 ∧ M0 0 1 = 0 ∧ N0 207 4 = 0 := by
  obtain ⟨N1, hN1⟩ : ∃ N1, N1 = upd2 (upd2 (upd2 N 207 5 (0 : Int32)) 207 6 (nI L)) 207 4 (0 : Int32) := ⟨_, rfl⟩
  obtain ⟨M1, hM1⟩ : ∃ M1, M1 = upd2 (upd2 (upd2 (upd2 (upd2 M 0 1 0) 198 1 (nI L)) 198 2 0) 198 3 0) 198 4 0 := ⟨_, rfl⟩
  obtain ⟨M0, b1, b2, b3, b4, b5, b6, b7, b8⟩ := c_clr (n := n) 6 n 0 M1 rfl (by omega) (fun p hp => absurd hp (Nat.not_lt_zero _))
  obtain ⟨N0, hN0⟩ : ∃ N0, N0 = upd2 (zrd 0 N1) 207 12 0 := ⟨_, rfl⟩
  have z : ∀ o i, o ≠ 211 → zrd 0 N1 o i = N1 o i := fun o i h => by unfold zrd; rw [if_neg (fun q => h q.1)]
  have e1 : mX2_read n (nI L) (upd2 M 0 1 0) = mX2_read_c19 n n 1 (nI 0) M0 := by
    unfold mX2_read
    rw [start_c hL, ← hM1]
    simp only [bnp_some]
    unfold mX9_clear
    rw [show (0 : Int32) = nI 0 from rfl, b1]; rfl
  have e2 : mX11_book_c50 n n (0 : Int32) N1 = refB n n N0 := by
    rw [hN0]; exact c50_go 164 n 0 N1 rfl (by omega)
  have g0 : ∀ j, j < 164 → N0 211 j = nI 0 := fun j hj => by
    rw [hN0, u2o _ _ (by decide)]
    unfold zrd
    rw [if_pos ⟨rfl, Nat.zero_le _, hj⟩]; rfl
  have m1 : ∀ k, M0 198 k = M1 198 k := fun k => b8 198 k (by decide)
  have hR : RD 198 L 0 M0 N0 := by
    refine ⟨Nat.zero_le _, hL, ?_, ?_, ?_, ?_, ?_, ?_, fun i hi => ?_⟩
    · rw [m1, hM1, u2k _ _ (by decide), u2k _ _ (by decide), u2k _ _ (by decide), u2s]
    · rw [m1, hM1, u2k _ _ (by decide), u2k _ _ (by decide), u2s]; rfl
    · rw [m1, hM1, u2k _ _ (by decide), u2s]
    · rw [m1, hM1, u2s]
    · rw [hN0, u2k _ _ (by decide), z _ _ (by decide), hN1, u2k _ _ (by decide), u2s]
    · rw [hN0, u2k _ _ (by decide), z _ _ (by decide), hN1, u2k _ _ (by decide), u2k _ _ (by decide), u2s]; rfl
    · rw [b8 1 i (by decide), hM1, u2o _ _ (by decide), u2o _ _ (by decide), u2o _ _ (by decide), u2o _ _ (by decide), u2o _ _ (by decide), hN0, u2o _ _ (by decide), z _ _ (by decide), hN1, u2o _ _ (by decide), u2o _ _ (by decide), u2o _ _ (by decide)]
      exact t4 i (by omega)
  rw [e1, ← hN1, e2]
  refine ⟨M0, N0, book_go hn 20 n 0 0 M0 N0 rfl (by omega) hR (RT_zero g0 b2 b3 b4 b5 b6) (IT_zero g0) b7 (by rw [hN0, u2s]; rfl), fun o k g => ?_, fun o k g => ?_, ?_, ?_⟩
  · rw [b8 o k (by omega), hM1, u2o _ _ (by omega), u2o _ _ (by omega), u2o _ _ (by omega), u2o _ _ (by omega)]
    by_cases z : o = 0
    · subst z; exact u2k _ _ (by omega)
    · exact u2o _ _ z
  · rw [hN0]
    have : upd2 (zrd 0 N1) 207 12 0 o k = zrd 0 N1 o k := by
      by_cases y : o = 207
      · subst y; exact u2k _ _ (by omega)
      · exact u2o _ _ y
    rw [this, z _ _ (by omega), hN1]
    by_cases y : o = 207
    · subst y; rw [u2k _ _ (by omega), u2k _ _ (by omega), u2k _ _ (by omega)]
    · rw [u2o _ _ y, u2o _ _ y, u2o _ _ y]
  · rw [b8 _ _ (by omega), hM1, u2o _ _ (by decide), u2o _ _ (by decide), u2o _ _ (by decide), u2o _ _ (by decide), u2s]
  · rw [hN0, u2k _ _ (by decide), z _ _ (by decide), hN1, u2s]
theorem T_bk {M N M0 N0 M' N' : Mem} (hT : TOT M N) (f1 : FT M M0) (f2 : GT N N0) (z1 : M0 0 1 = 0) (z2 : N0 207 4 = 0) (g1 : FK M0 M') (g2 : GB2 N0 N') : TOT M' N' :=
  T_tape hT (f1.trans g1.ft) (f2.trans g2.gt) ⟨0, by omega, by rw [g1 0 1 (by omega)]; exact z1, by rw [g2 207 4 (by have := hHI 4 (by decide); omega)]; exact z2, fun i hi => absurd hi (Nat.not_lt_zero _)⟩
theorem q_book {M N : Mem} {n : Nat} (hT : TOT M N) (hn : 20000 ≤ n) (a : Int32) : RES (mX10_book n a M) (mX11_book n a N) := by
  obtain ⟨⟨hb, hC, hM, hRS, hI⟩, h57, h110, ⟨T, t1, t2, t3, t4⟩, h6, hK⟩ := id hT
  unfold mX10_book mX11_book
  rcases text_c t1 t2 t3 a with ⟨L, l1, l2, l3, rfl, e1, -, e2, e3⟩ | ⟨e1, -, e2⟩
  · rw [e1, e2]
    simp only [bnp_some]
    rw [if_neg (show ¬ (1 : Int32) = 0 by decide), if_neg (show ¬ (1 : Int32) = 0 by decide), if_pos e3, show chk (1 : Int32) 12750 = fun (y : Option (Int32 × Mem)) => y from funext fun y => chk_n (show 1 < 12750 by decide) (by decide)]
    have s1 : upd2 M 0 1 (0 : Int32) 40 0 = nI (sz (N 209)) := by
      rw [u2o _ _ (by decide)]; exact hRS.2.2.2.2.1.trans hI.1.2.1.1
    have s2 : upd2 (upd2 (upd2 N 207 5 (0 : Int32)) 207 6 (nI L)) 207 4 (0 : Int32) 209 (Int32.toNatClampNeg (1 : Int32)) = nI (sz (N 209)) := by
      rw [u2o _ _ (by decide), u2o _ _ (by decide), u2o _ _ (by decide)]; exact hI.1.2.1.1
    rw [s1, s2]
    by_cases z : nI (sz (N 209)) ≤ 0
    · rw [if_pos z, if_pos z]
      obtain ⟨M0, N0, hO, f1, f2, z1, z2⟩ := book_read (n := n) hn l2 l3 t4
      rcases hO with ⟨s, M1, N1, a1, a2, a3, a4, a5, a6, a7, a8, a9⟩ | ⟨r, M1, N1, a1, a2, a3, a4, a5⟩
      · have hT1 := T_bk hT f1 f2 z1 z2 a8 a9
        obtain ⟨M2, p1, p2, p3, p4⟩ := c_cpT (t := 5) (s := 164) (n := n) a7 (by omega) 6 n 0 M1 rfl (by omega) a6 (fun p hp => absurd hp (Nat.not_lt_zero _))
        have p1' : mX9_copyFrom n 5 164 M1 = some M2 := p1
        have r2 : mX11_book_c133 n n (2 : Int32) N1 = some (N1 207 12, upd2 (lay 2 N1) 209 4 (N1 207 12)) := c133_go 162 n 2 N1 rfl (by omega)
        rw [a1, a2]
        simp only [bnd_some]
        rw [if_pos trivial, p1', r2]
        simp only [bnp_some]
        rw [p3, a4, a5]
        obtain ⟨N2, hN2⟩ : ∃ N2, N2 = upd2 (lay 2 N1) 209 4 (N1 207 12) := ⟨_, rfl⟩
        have e9 : N2 209 = nBk (N1 209) (N1 211) s := by rw [hN2]; exact nBk_row a5
        have o9 : ∀ o k, o ≠ 209 → N2 o k = N1 o k := fun o k h => by
          rw [hN2, u2o _ _ h]
          unfold lay
          rw [if_neg (fun q => h q.1)]
        obtain ⟨⟨ub, uC, uM, uRS, uI⟩, u57, u110, ⟨U, u1, u2, u3, u4⟩, u6, uK⟩ := hT1
        refine ⟨nI s, M2, N2, rfl, by rw [hN2, a5], ⟨ub, CalC_eq uC (fun k => p4 3 k (by omega)), CalM_eq uM (fun k => o9 _ _ (by decide)), ?_, ?_⟩, fun x hx => ?_, fun x hx => ?_, ⟨U, u1, ?_, ?_, fun i hi => ?_⟩, ?_, ?_⟩
        · rw [e9]; exact RS_book uRS uI.1 a7 (fun o k g => p4 o k (by omega)) p2 (by rw [p3]; exact a4)
        · rw [e9]; exact INV_book uI a7 a3
        · rw [p4 _ _ (by omega)]; exact u57 x hx
        · rw [p4 _ _ (by omega)]; exact u110 x hx
        · rw [p4 _ _ (by omega)]; exact u2
        · rw [o9 _ _ (by decide)]; exact u3
        · rw [p4 _ _ (by omega), o9 _ _ (by decide)]; exact u4 i hi
        · rw [p4 _ _ (by omega), o9 _ _ (by decide)]; exact u6
        · have es : secR (N2 209) 1 = secR (N1 209) 1 := funext fun j => by
            rw [e9]; exact nBk_f (by omega)
          rcases uK with q | ⟨q1, q2, q3⟩
          · exact Or.inl ((p4 0 6 (by omega)).trans q)
          · refine Or.inr ⟨(p4 0 6 (by omega)).trans q1, ?_, ?_⟩
            · rw [es]; exact RS_frame q2 q3.1 (fun o k g1 g2 => p4 o k (by omega))
            · rw [es]; exact q3
      · have hT1 := T_bk hT f1 f2 z1 z2 a4 a5
        rw [a1, a2]
        simp only [bnd_some]
        rw [if_neg a3]
        exact ⟨_, _, _, rfl, rfl, hT1⟩
    · rw [if_neg z, if_neg z]
      refine ⟨_, _, _, rfl, rfl, T_tape hT (fun o k g => ?_) (fun o k g => ?_) ⟨0, by omega, u2s _ _ _ _, u2s _ _ _ _, fun i hi => absurd hi (Nat.not_lt_zero _)⟩⟩
      · by_cases y : o = 0
        · subst y; exact u2k _ _ (by omega)
        · exact u2o _ _ y
      · by_cases y : o = 207
        · subst y; rw [u2k _ _ (by omega), u2k _ _ (by omega), u2k _ _ (by omega)]
        · rw [u2o _ _ y, u2o _ _ y, u2o _ _ y]
  · rw [e1]
    simp only [bnp_some]
    rcases e2 with e2 | ⟨e2, e3⟩
    · rw [e2]; exact ⟨_, _, _, rfl, rfl, hT⟩
    · rw [e2]
      simp only [bnp_some]
      rw [if_neg (show ¬ (1 : Int32) = 0 by decide), if_neg e3]; exact ⟨_, _, _, rfl, rfl, hT⟩
