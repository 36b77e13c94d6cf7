/-! what follows each word of a CLAUSE -/
theorem c_isT {t : Nat} {M M' : Mem} {many : Nat} (hm : many ≤ 3) (r : Int32) (h1 : M' t 4 = nI many) (h2 : ∀ k, M' (t + 2) k = M (t + 2) k) : mX9_isAboveTaxes t r M' = some (if many = 0 then 1 else if r ≤ M (t + 2) (many - 1) then 0 else 1) := by
  unfold mX9_isAboveTaxes
  rw [h1]
  by_cases z : many = 0
  · subst z; rfl
  · rw [if_neg z, if_neg (show ¬ nI many < (1 : Int32) by rw [show (1 : Int32) = nI 1 from rfl, nI_ltI (by omega) (by omega)]; omega), if_neg (show ¬ (4 : Int32) < nI many by rw [show (4 : Int32) = nI 4 from rfl, nI_ltI (by omega) (by omega)]; omega), show nI many - (1 : Int32) = nI (many - 1) by rw [show (1 : Int32) = nI 1 from rfl]; exact pk_sub (by omega), chk_n (show many - 1 < 4 by omega) (by decide), nI_clamp (by omega), h2]
    split <;> rfl
theorem c_isB {t : Nat} {M M' : Mem} {many : Nat} (hm : many ≤ 3) (r : Int32) (h1 : M' t 2 = nI many) (h2 : ∀ k, M' (t + 1) k = M (t + 1) k) : mX7_isAboveBounds t r M' = some (if many = 0 then 1 else if r ≤ M (t + 1) (many - 1) then 0 else 1) := by
  unfold mX7_isAboveBounds
  rw [h1]
  by_cases z : many = 0
  · subst z; rfl
  · rw [if_neg z, if_neg (show ¬ nI many < (1 : Int32) by rw [show (1 : Int32) = nI 1 from rfl, nI_ltI (by omega) (by omega)]; omega), if_neg (show ¬ (4 : Int32) < nI many by rw [show (4 : Int32) = nI 4 from rfl, nI_ltI (by omega) (by omega)]; omega), show nI many - (1 : Int32) = nI (many - 1) by rw [show (1 : Int32) = nI 1 from rfl]; exact pk_sub (by omega), chk_n (show many - 1 < 4 by omega) (by decide), nI_clamp (by omega), h2]
    split <;> rfl
theorem c_isU {t : Nat} {M M' : Mem} {many : Nat} (hm : many ≤ 2) (r : Int32) (h1 : M' t 8 = nI many) (h2 : ∀ k, M' (t + 3) k = M (t + 3) k) : mX7_isAboveBulks t r M' = some (if many = 0 then 1 else if r ≤ M (t + 3) (many - 1) then 0 else 1) := by
  unfold mX7_isAboveBulks
  rw [h1]
  by_cases z : many = 0
  · subst z; rfl
  · rw [if_neg z, if_neg (show ¬ nI many < (1 : Int32) by rw [show (1 : Int32) = nI 1 from rfl, nI_ltI (by omega) (by omega)]; omega), if_neg (show ¬ (3 : Int32) < nI many by rw [show (3 : Int32) = nI 3 from rfl, nI_ltI (by omega) (by omega)]; omega), show nI many - (1 : Int32) = nI (many - 1) by rw [show (1 : Int32) = nI 1 from rfl]; exact pk_sub (by omega), chk_n (show many - 1 < 3 by omega) (by decide), nI_clamp (by omega), h2]
    split <;> rfl
theorem c_addT {t many : Nat} {M : Mem} (hm : many ≤ 3) (r s : Int32) (h1 : M t 4 = nI many) : mX9_addTax t r s M = some (addM t 4 (t + 2) (t + 3) many r s M) := by
  have e : ∀ v, upd2 M (t + 2) many v t 4 = nI many := fun v => (u2o _ _ (by omega)).trans h1
  unfold mX9_addTax addM
  rw [h1, if_neg (nI_pos (by omega)), if_neg (show ¬ (4 : Int32) ≤ nI many by rw [show (4 : Int32) = nI 4 from rfl, nI_leI (by omega) (by omega)]; omega), nI_clamp (by omega), e, chk_n (show many < 4 by omega) (by decide), chk_n (show many < 4 by omega) (by decide), nI_clamp (by omega)]
  simp only [lt_eq]
  rw [u2o _ _ (show t ≠ t + 3 by omega), e, show (1 : Int32) = nI 1 from rfl, nI_add]
theorem c_addB {t many : Nat} {M : Mem} (hm : many ≤ 3) (r s : Int32) (h1 : M t 2 = nI many) : mX7_addTier t r s M = some (addM t 2 (t + 1) (t + 2) many r s M) := by
  have e : ∀ v, upd2 M (t + 1) many v t 2 = nI many := fun v => (u2o _ _ (by omega)).trans h1
  unfold mX7_addTier addM
  rw [h1, if_neg (nI_pos (by omega)), if_neg (show ¬ (4 : Int32) ≤ nI many by rw [show (4 : Int32) = nI 4 from rfl, nI_leI (by omega) (by omega)]; omega), nI_clamp (by omega), e, chk_n (show many < 4 by omega) (by decide), chk_n (show many < 4 by omega) (by decide), nI_clamp (by omega)]
  simp only [lt_eq]
  rw [u2o _ _ (show t ≠ t + 2 by omega), e, show (1 : Int32) = nI 1 from rfl, nI_add]
theorem c_addU {t many : Nat} {M : Mem} (hm : many ≤ 2) (r s : Int32) (h1 : M t 8 = nI many) : mX7_addBulk t r s M = some (addM t 8 (t + 3) (t + 4) many r s M) := by
  have e : ∀ v, upd2 M (t + 3) many v t 8 = nI many := fun v => (u2o _ _ (by omega)).trans h1
  unfold mX7_addBulk addM
  rw [h1, if_neg (nI_pos (by omega)), if_neg (show ¬ (3 : Int32) ≤ nI many by rw [show (3 : Int32) = nI 3 from rfl, nI_leI (by omega) (by omega)]; omega), nI_clamp (by omega), e, chk_n (show many < 3 by omega) (by decide), chk_n (show many < 3 by omega) (by decide), nI_clamp (by omega)]
  simp only [lt_eq]
  rw [u2o _ _ (show t ≠ t + 4 by omega), e, show (1 : Int32) = nI 1 from rfl, nI_add]
/-- TAX behind its blank -/
theorem B_tax {n L p many : Nat} {M N N0 : Mem} (hn : 20000 ≤ n) (hmx : many ≤ 3) (hX : nX (N 211) = many) (h6 : N0 211 6 = nI many) (h5 : N0 207 5 + 1 = nI p) (h : RD 198 L p M N) (hT : RT 164 M (N 211)) (hI : IT (N 211)) :
    ClO L M N (mX2_readTax n M) (bnd (numC n (0 : Int32) (3652 : Int32) N) fun r5 M6 => (if r5 = 0 then (some ((0 : Int32), M6)) else (if (N0 211 (Int32.toNatClampNeg (6 : Int32))) ≤ 0 then (mX11_readsTax_c74 n (N0 211 (Int32.toNatClampNeg (6 : Int32))) M6) else (chk (((7 : Int32) + (N0 211 (Int32.toNatClampNeg (6 : Int32)))) - (1 : Int32)) 164 (if (M6 211 (Int32.toNatClampNeg (((7 : Int32) + (N0 211 (Int32.toNatClampNeg (6 : Int32)))) - (1 : Int32)))) < (M6 207 8) then (mX11_readsTax_c74 n (N0 211 (Int32.toNatClampNeg (6 : Int32))) M6) else (bnd (mX11_wrongAt (6 : Int32) ((N0 207 5) + (1 : Int32)) M6) fun r8 M9 => (some (r8, M9)))))))) := by
  have hcnt : M 164 4 = nI many := by rw [hT.2.2.2.1, hI.2.2.2.1.1, hX]
  rw [show Int32.toNatClampNeg (6 : Int32) = 6 from rfl, h6, h5, show (7 : Int32) + nI many = nI (7 + many) from nI_add .., nI_lit 3652, show (0 : Int32) = nI 0 from rfl]
  have := B_list (n := n) (p := p) (many := many) (oc := 164) (kc := 4) (a1 := 166) (a2 := 167) (jc := 6) (j1 := 7) (j2 := 11) (lo1 := 0) (hi1 := 3652) (hi2 := 100) (isA := mX9_isAboveTaxes 164) (add := mX9_addTax 164) (c79 := mX11_readsTax_c74 n (nI many)) (L := L) (M := M) (N := N) hn (by decide) (by decide) (by decide) hmx (by decide) (by decide) (by decide) (by decide) (by decide) (by decide)
    (fun r M' g1 g2 => c_isT hmx r g1 g2) (fun g => (hT.2.2.2.2.1 (many - 1) (by omega)).1) (fun r s M' g => c_addT hmx r s g) hcnt
    (fun M' b c g1 g2 g3 g4 g5 => add_tax g1 hI hX (by omega) g3 g4)
    (fun M6 => by
      unfold mX11_readsTax_c74
      rw [show (7 : Int32) + nI many = nI (7 + many) from nI_add .., show (11 : Int32) + nI many = nI (11 + many) from nI_add .., nI_clamp (by omega), nI_clamp (by omega), show nI many + (1 : Int32) = nI (many + 1) from nI_add .., chk_n (show 7 + many < 164 by omega) (by decide), chk_n (show 7 + many < 164 by omega) (by decide)]
      have ck : ∀ (i : Nat) (y : Option (Int32 × Mem)), i < 164 → chk (nI i) 164 y = y := fun i y hi => chk_n hi (by decide)
      simp only [lt_eq, ck _ _ (show 11 + many < 164 by omega), show (6 : Int32) = nI 6 from rfl, ck _ _ (show 6 < 164 by decide), nI_clamp (show 6 < 2 ^ 31 by decide)]
      rfl) h hT hI
  unfold mX2_readTax
  rw [nI_lit 3652, show (0 : Int32) = nI 0 from rfl, show (100 : Int32) = nI 100 from rfl]
  simp only [bnp_id]
  exact this
