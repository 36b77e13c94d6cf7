/-! THE BOOK as it counts: a Tariff's cells against a row of numbers -/
abbrev na (x : Int32) : Nat := x.toNatClampNeg
def isN (x : Int32) (N : Nat) : Prop := x = nI (na x) ∧ na x ≤ N
theorem isN_of {k N : Nat} (h : k ≤ N) (hN : N < 2 ^ 31) : isN (nI k) N := by
  unfold isN na; rw [nI_clamp (by omega)]; exact ⟨rfl, h⟩
theorem bnp_ite {α β : Type} {c : Prop} {inst : Decidable c} (x y : β) (f : β → Option α) : bnp (if c then some x else some y) f = f (if c then x else y) := by split <;> rfl
theorem nI_subI (u v : Nat) : nI u - nI v = iI ((u : Int) - v) := by rw [iI_n, iI_n, iI_sub]
theorem subclamp {u v : Nat} (hu : u < 2 ^ 30) (hv : v < 2 ^ 30) : (if nI 0 < nI u - nI v then nI u - nI v else nI 0) = nI (u - v) := by
  have e := nI_subI u v
  have h : (nI 0 < nI u - nI v) = (0 < (u : Int) - v) := by rw [e, iI_n 0, iI_lt (by omega) (by omega) (by omega) (by omega)]; rfl
  by_cases q : 0 < (u : Int) - v
  · rw [if_pos (by rw [h]; exact q), pk_sub (by omega)]
  · rw [if_neg (by rw [h]; exact q), show u - v = 0 by omega]
theorem subclampM {u v : Nat} (hu : u < 2 ^ 30) (hv : v < 2 ^ 30) : (if nI 0 ≤ nI u - nI v then nI u - nI v else nI 0) = nI (u - v) := by
  have e := nI_subI u v
  have h : (nI 0 ≤ nI u - nI v) = (0 ≤ (u : Int) - v) := by rw [e, iI_n 0, iI_le (by omega) (by omega) (by omega) (by omega)]; rfl
  by_cases q : 0 ≤ (u : Int) - v
  · rw [if_pos (by rw [h]; exact q), pk_sub (by omega)]
  · rw [if_neg (by rw [h]; exact q), show u - v = 0 by omega]
theorem minN {u v : Nat} (hu : u < 2 ^ 31) (hv : v < 2 ^ 31) : (if nI u < nI v then nI u else nI v) = nI (min v u) := by
  by_cases q : u < v
  · rw [if_pos ((nI_ltI hu hv).mpr q), Nat.min_eq_right (by omega)]
  · rw [if_neg (fun h => q ((nI_ltI hu hv).mp h)), Nat.min_eq_left (by omega)]
theorem minM {u v : Nat} (hu : u < 2 ^ 31) (hv : v < 2 ^ 31) : (if nI v ≤ nI u then nI v else nI u) = nI (min u v) := by
  by_cases q : v ≤ u
  · rw [if_pos ((nI_leI hv hu).mpr q), Nat.min_eq_right (by omega)]
  · rw [if_neg (fun h => q ((nI_leI hv hu).mp h)), Nat.min_eq_left (by omega)]
theorem minM2 {u v : Nat} {inst : Decidable (v ≤ u)} : (@ite Int32 (v ≤ u) inst (nI v) (nI u)) = nI (min u v) := by
  split
  · rw [Nat.min_eq_right (by omega)]
  · rw [Nat.min_eq_left (by omega)]
def fP (f : Nat → Int32) (p w : Nat) : Int32 := f (20 + 24 * p + w)
def fA (f : Nat → Int32) (x w : Nat) : Int32 := f (170 + 12 * x + w)
def fE (f : Nat → Int32) (i w : Nat) : Int32 := f (250 + 10 * i + w)
def isM (x : Int32) (k N : Nat) : Prop := x = nI k ∧ k ≤ N
def pP (f : Nat → Int32) (p : Nat) : Nat := na (fP f p 0)
def pT (f : Nat → Int32) (p : Nat) : Nat := na (fP f p 2)
def pB (f : Nat → Int32) (p i : Nat) : Nat := na (fP f p (6 + i))
def pC (f : Nat → Int32) (p i : Nat) : Nat := na (fP f p (10 + i))
def pR (f : Nat → Int32) (p : Nat) : Nat := na (fP f p 3)
def pW (f : Nat → Int32) (p : Nat) : Nat := na (fP f p 4)
def pZ (f : Nat → Int32) (p : Nat) : Nat := na (fP f p 5)
def pF (f : Nat → Int32) (p : Nat) : Nat := na (fP f p 1)
def pK (f : Nat → Int32) (p : Nat) : Nat := na (fP f p 14)
def pS (f : Nat → Int32) (p i : Nat) : Nat := na (fP f p (15 + i))
def pO (f : Nat → Int32) (p i : Nat) : Nat := na (fP f p (18 + i))
def IP (f : Nat → Int32) (p : Nat) : Prop :=
  isM (fP f p 0) (pP f p) 99999 ∧ isM (fP f p 1) (pF f p) 9999 ∧ isM (fP f p 2) (pT f p) 4 ∧ isM (fP f p 3) (pR f p) 99 ∧ isM (fP f p 4) (pW f p) 1 ∧ isM (fP f p 5) (pZ f p) 100 ∧ isM (fP f p 14) (pK f p) 3 ∧
  (∀ i, i < 4 → isM (fP f p (6 + i)) (pB f p i) 9999 ∧ isM (fP f p (10 + i)) (pC f p i) 99) ∧ (∀ i, i < 3 → isM (fP f p (15 + i)) (pS f p i) 9 ∧ isM (fP f p (18 + i)) (pO f p i) 100) ∧
  (∀ i, i + 1 < pT f p → pB f p i < pB f p (i + 1)) ∧ (∀ i, i < pT f p → 1 ≤ pB f p i)
def nX (f : Nat → Int32) : Nat := na (f 6)
def IT (f : Nat → Int32) : Prop :=
  isN (f 2) 100 ∧ isN (f 3) 99 ∧ isN (f 5) 20 ∧ isM (f 6) (nX f) 4 ∧ (∀ i, i < 4 → isN (f (7 + i)) 3652 ∧ isN (f (11 + i)) 100) ∧ ∀ p, p < 6 → IP f p
/-- the cells of a PlanTerms (its number q) against plan p of the row -/
def RP (q p : Nat) (M : Mem) (f : Nat → Int32) : Prop :=
  M q 0 = fP f p 0 ∧ M q 1 = fP f p 1 ∧ M q 2 = fP f p 2 ∧ M q 5 = fP f p 3 ∧ M q 6 = fP f p 4 ∧ M q 7 = fP f p 5 ∧ M q 8 = fP f p 14 ∧
  (∀ i, i < pT f p → M (q + 1) i = fP f p (6 + i) ∧ M (q + 2) i = fP f p (10 + i)) ∧ (∀ i, i < pK f p → M (q + 3) i = fP f p (15 + i) ∧ M (q + 4) i = fP f p (18 + i))
def RT (t : Nat) (M : Mem) (f : Nat → Int32) : Prop :=
  M t 1 = f 2 ∧ M t 2 = f 3 ∧ M t 3 = f 5 ∧ M t 4 = f 6 ∧ (∀ i, i < nX f → M (t + 2) i = f (7 + i) ∧ M (t + 3) i = f (11 + i)) ∧ ∀ p, p < 6 → RP (t + 4 + 5 * p) p M f
theorem m_planOf {M : Mem} {p w : Nat} (hp : p < 6) (hw : w < 24) : mX11_planOf (nI p) (nI w) M = some (fP (M 209) p w) := by
  unfold mX11_planOf
  simp (disch := omega) only [nI_lit, nI_add, pk_mul, nI_clamp, nI_leI, nI_ltI, nI_eq, nI_t0, nI_le0, nI_e0, nI_0le, nI_lt0, chk_n]
  rfl
theorem m_of {M : Mem} {x w : Nat} (hx : x < 6) (hw : w < 12) : mX11_of (nI x) (nI w) M = some (fA (M 209) x w) := by
  unfold mX11_of
  simp (disch := omega) only [nI_lit, nI_add, pk_mul, nI_clamp, nI_leI, nI_ltI, nI_eq, nI_t0, nI_le0, nI_e0, nI_0le, nI_lt0, chk_n]
  rfl
theorem m_entryOf {M : Mem} {i w : Nat} (hi : i < 400) (hw : w < 10) : mX11_entryOf (nI i) (nI w) M = some (fE (M 209) i w) := by
  unfold mX11_entryOf
  simp (disch := omega) only [nI_lit, nI_add, pk_mul, nI_clamp, nI_leI, nI_ltI, nI_eq, nI_t0, nI_le0, nI_e0, nI_0le, nI_lt0, chk_n]
  rfl
theorem c_termsOf {t p : Nat} (hp : p < 6) : mX9_termsOf t (nI p) = some (t + 4 + 5 * p) := by
  unfold mX9_termsOf
  simp (disch := omega) only [nI_lit, nI_add, pk_mul, nI_clamp, nI_leI, nI_ltI, nI_eq, nI_t0, nI_le0, nI_e0, nI_0le, nI_lt0, chk_n, if_false]
  rw [if_neg (by omega), if_neg (by omega), show t + 1 + 3 + 5 * p = t + 4 + 5 * p by omega]
/-- USAGE, tier by tier -/
def usW (b c : Nat → Nat) (R v : Nat) : Nat → Nat → Nat
  | _, 0 => v * R
  | i, d + 1 => if v ≤ b i then v * c i else usW b c R v (i + 1) d
def usA (b c : Nat → Nat) (R v : Nat) : Nat → Nat → Nat → Nat
  | lo, _, 0 => (v - lo) * R
  | lo, i, d + 1 => (min v (b i) - lo) * c i + usA b c R v (b i) (i + 1) d
theorem usW_0 (b c : Nat → Nat) (R v i : Nat) : usW b c R v i 0 = v * R := rfl
theorem usW_s (b c : Nat → Nat) (R v i d : Nat) : usW b c R v i (d + 1) = if v ≤ b i then v * c i else usW b c R v (i + 1) d := rfl
theorem usA_0 (b c : Nat → Nat) (R v lo i : Nat) : usA b c R v lo i 0 = (v - lo) * R := rfl
theorem usA_s (b c : Nat → Nat) (R v lo i d : Nat) : usA b c R v lo i (d + 1) = (min v (b i) - lo) * c i + usA b c R v (b i) (i + 1) d := rfl
def US (f : Nat → Int32) (p u : Nat) : Nat := if fP f p 4 = nI 1 then usW (pB f p) (pC f p) (pR f p) (u - pF f p) 0 (pT f p) else usA (pB f p) (pC f p) (pR f p) (u - pF f p) 0 0 (pT f p)
theorem c_whole {M : Mem} {f : Nat → Int32} {q p n v : Nat} (hR : RP q p M f) (hI : IP f p) (hv : v < 2 ^ 30) : ∀ (d k i : Nat), i + d = pT f p → d < k → mX7_wholeUsage_c2 n k q (nI v) (nI i) M = some (nI (usW (pB f p) (pC f p) (pR f p) v i d))
  | d, 0, _, _, h => absurd h (Nat.not_lt_zero _)
  | 0, k + 1, i, e, h => by
    obtain ⟨r0, r1, r2, r3, r4, r5, r6, r7, r8⟩ := hR
    obtain ⟨i0, i1, i2, i3, i4, i5, i6, i7, i8, i9, i10⟩ := hI
    have h2 := i2.1; have h3 := i3.1; have h2' := i2.2
    unfold mX7_wholeUsage_c2
    rw [r2, h2, r3, h3]
    simp (disch := omega) only [nI_lit, nI_add, pk_mul, nI_clamp, nI_leI, nI_ltI, nI_eq, nI_t0, nI_le0, nI_e0, nI_0le, nI_lt0]
    rw [if_pos (by omega)]
    rfl
  | d + 1, k + 1, i, e, h => by
    have hR' := hR; have hI' := hI
    obtain ⟨r0, r1, r2, r3, r4, r5, r6, r7, r8⟩ := hR
    obtain ⟨i0, i1, i2, i3, i4, i5, i6, i7, i8, i9, i10⟩ := hI
    have h2 := i2.1; have h3 := i3.1; have h2' := i2.2
    have hb := (i7 i (by omega)).1; have hc := (i7 i (by omega)).2
    have hb1 := hb.1; have hb2 := hb.2; have hc1 := hc.1; have hc2 := hc.2
    have rb := (r7 i (by omega)).1; have rc := (r7 i (by omega)).2
    have ih := c_whole hR' hI' hv (n := n) d k (i + 1) (by omega) (by omega)
    unfold mX7_wholeUsage_c2
    rw [r2, h2]
    simp (disch := omega) only [nI_lit, nI_add, pk_mul, nI_clamp, nI_leI, nI_ltI, nI_eq, nI_t0, nI_le0, nI_e0, nI_0le, nI_lt0, chk_n, rb, rc]
    rw [hb1, hc1]
    simp (disch := omega) only [nI_lit, nI_add, pk_mul, nI_clamp, nI_leI, nI_ltI, nI_eq, nI_t0, nI_le0, nI_e0, nI_0le, nI_lt0]
    rw [if_neg (by omega), if_neg (by omega)]
    rw [usW_s]
    by_cases q : v ≤ pB f p i
    · rw [if_neg (by omega), if_pos q]
    · rw [if_pos (by omega), if_neg q]; exact ih
theorem c_added {M : Mem} {f : Nat → Int32} {q p n v : Nat} (hR : RP q p M f) (hI : IP f p) (hv : v < 2 ^ 30) : ∀ (d k i lo a : Nat), i + d = pT f p → d < k → (∀ j, j = i → j < pT f p → lo ≤ pB f p j) → mX7_addedUsage_c7 n k q (nI v) (nI a) (nI (min v lo)) (nI i) M = some (nI (a + usA (pB f p) (pC f p) (pR f p) v lo i d))
  | d, 0, _, _, _, _, h, _ => absurd h (Nat.not_lt_zero _)
  | 0, k + 1, i, lo, a, e, h, hlo => by
    obtain ⟨r0, r1, r2, r3, r4, r5, r6, r7, r8⟩ := hR
    obtain ⟨i0, i1, i2, i3, i4, i5, i6, i7, i8, i9, i10⟩ := hI
    have h2 := i2.1; have h3 := i3.1; have h2' := i2.2
    have e2 : nI v - nI (min v lo) = nI (v - lo) := by
      have e3 := pk_sub (a := v) (b := min v lo) (by omega)
      rw [e3, show v - min v lo = v - lo by omega]
    unfold mX7_addedUsage_c7
    rw [r2, h2, r3, h3, e2]
    simp (disch := omega) only [nI_lit, nI_add, pk_mul, nI_clamp, nI_leI, nI_ltI, nI_eq, nI_t0, nI_le0, nI_e0, nI_0le, nI_lt0]
    rw [if_pos (by omega)]
    rfl
  | d + 1, k + 1, i, lo, a, e, h, hlo => by
    have hR' := hR; have hI' := hI
    obtain ⟨r0, r1, r2, r3, r4, r5, r6, r7, r8⟩ := hR
    obtain ⟨i0, i1, i2, i3, i4, i5, i6, i7, i8, i9, i10⟩ := hI
    have h2 := i2.1; have h3 := i3.1; have h2' := i2.2
    have hb := (i7 i (by omega)).1; have hc := (i7 i (by omega)).2
    have hb1 := hb.1; have hb2 := hb.2; have hc1 := hc.1; have hc2 := hc.2
    have rb := (r7 i (by omega)).1; have rc := (r7 i (by omega)).2
    have hl := hlo i rfl (by omega)
    have ih := c_added hR' hI' hv (n := n) d k (i + 1) (pB f p i) (a + (min v (pB f p i) - lo) * pC f p i) (by omega) (by omega) (fun j ej hj => by subst ej; exact Nat.le_of_lt (i9 i hj))
    have e2 : nI (min v (pB f p i)) - nI (min v lo) = nI (min v (pB f p i) - lo) := by
      have e3 := pk_sub (a := min v (pB f p i)) (b := min v lo) (by omega)
      rw [e3, show min v (pB f p i) - min v lo = min v (pB f p i) - lo by omega]
    unfold mX7_addedUsage_c7
    rw [r2, h2]
    simp (disch := omega) only [nI_lit, nI_add, pk_mul, nI_clamp, nI_leI, nI_ltI, nI_eq, nI_t0, nI_le0, nI_e0, nI_0le, nI_lt0, chk_n, rb, rc]
    rw [hb1, hc1, if_neg (by omega), if_neg (by omega), minN (by omega) (by omega), e2]
    simp (disch := omega) only [nI_lit, nI_add, pk_mul, nI_clamp, nI_leI, nI_ltI, nI_eq, nI_t0, nI_le0, nI_e0, nI_0le, nI_lt0]
    rw [ih]
    rw [usA_s]
    rw [show a + (min v (pB f p i) - lo) * pC f p i + usA (pB f p) (pC f p) (pR f p) v (pB f p i) (i + 1) d = a + ((min v (pB f p i) - lo) * pC f p i + usA (pB f p) (pC f p) (pR f p) v (pB f p i) (i + 1) d) by omega]
theorem c_usage {M : Mem} {f : Nat → Int32} {q p n u : Nat} (hR : RP q p M f) (hI : IP f p) (hu : u ≤ 9999) (hn : 200 ≤ n) : mX7_usageOf n q (nI u) M = some (nI (US f p u)) := by
  have hR' := hR; have hI' := hI
  obtain ⟨r0, r1, r2, r3, r4, r5, r6, r7, r8⟩ := hR
  obtain ⟨i0, i1, i2, i3, i4, i5, i6, i7, i8, i9, i10⟩ := hI
  have h1 := i1.1; have h1' := i1.2; have h4 := i4.1; have h4' := i4.2; have h2' := i2.2
  have w := c_whole hR' hI' (v := u - pF f p) (by omega) (n := n) (pT f p) n 0 (by omega) (by omega)
  have a := c_added hR' hI' (v := u - pF f p) (by omega) (n := n) (pT f p) n 0 0 0 (by omega) (by omega) (fun _ _ _ => Nat.zero_le _)
  rw [Nat.min_zero, Nat.zero_add] at a
  unfold mX7_usageOf mX7_wholeUsage mX7_addedUsage US
  rw [r4, r1, h1]
  simp only [nI_lit]
  rw [subclamp (by omega) (by omega), w, a]
  simp only [bnp_some]
  rw [h4]
  rcases (show pW f p = 0 ∨ pW f p = 1 by omega) with q | q
  · rw [q, if_pos rfl, if_neg (by decide)]
  · rw [q, if_neg (by decide), if_pos rfl]
theorem m_whole {M : Mem} {f : Nat → Int32} {p n v : Nat} (hf : M 209 = f) (hp : p < 6) (hI : IP f p) (hw : fP f p 4 = nI 1) (hv : v < 2 ^ 30) : ∀ (d k i : Nat) (a l : Int32), i + d = pT f p → d < k → mX11_usageOf_c22 n k (nI p) (nI v) a l (nI i) M = some (nI (usW (pB f p) (pC f p) (pR f p) v i d))
  | d, 0, _, _, _, _, h => absurd h (Nat.not_lt_zero _)
  | 0, k + 1, i, a, l, e, h => by
    obtain ⟨i0, i1, i2, i3, i4, i5, i6, i7, i8, i9, i10⟩ := hI
    have h2 := i2.1; have h3 := i3.1; have h2' := i2.2
    unfold mX11_usageOf_c22
    simp (disch := omega) only [nI_lit, nI_add, pk_mul, nI_clamp, nI_leI, nI_ltI, nI_eq, nI_t0, nI_le0, nI_e0, nI_0le, nI_lt0, m_planOf, bnp_some, hf, hw, if_true]
    rw [h2, h3]
    simp (disch := omega) only [nI_lit, nI_add, pk_mul, nI_clamp, nI_leI, nI_ltI, nI_eq, nI_t0, nI_le0, nI_e0, nI_0le, nI_lt0]
    rw [if_pos (by omega)]
    rfl
  | d + 1, k + 1, i, a, l, e, h => by
    have hI' := hI
    obtain ⟨i0, i1, i2, i3, i4, i5, i6, i7, i8, i9, i10⟩ := hI
    have h2 := i2.1; have h3 := i3.1; have h2' := i2.2
    have hb := (i7 i (by omega)).1; have hc := (i7 i (by omega)).2
    have hb1 := hb.1; have hb2 := hb.2; have hc1 := hc.1; have hc2 := hc.2
    have ih := m_whole hf hp hI' hw hv (n := n) d k (i + 1)
    unfold mX11_usageOf_c22 mX11_usageOf_c74 mX11_min mX11_max
    simp (disch := omega) only [nI_lit, nI_add, pk_mul, nI_clamp, nI_leI, nI_ltI, nI_eq, nI_t0, nI_le0, nI_e0, nI_0le, nI_lt0, m_planOf, bnp_some, bnp_ite, hf, hw, if_true]
    rw [h2, hb1, hc1]
    simp (disch := omega) only [nI_lit, nI_add, pk_mul, nI_clamp, nI_leI, nI_ltI, nI_eq, nI_t0, nI_le0, nI_e0, nI_0le, nI_lt0]
    rw [if_neg (by omega)]
    rw [usW_s]
    by_cases q : v ≤ pB f p i
    · rw [if_neg (by omega), if_pos q]
    · rw [if_pos (by omega), if_neg q]; exact ih _ _ (by omega) (by omega)
theorem m_added {M : Mem} {f : Nat → Int32} {p n v : Nat} (hf : M 209 = f) (hp : p < 6) (hI : IP f p) (hw : fP f p 4 = nI 0) (hv : v < 2 ^ 30) : ∀ (d k i lo a : Nat), i + d = pT f p → d < k → lo ≤ 9999 → mX11_usageOf_c22 n k (nI p) (nI v) (nI a) (nI lo) (nI i) M = some (nI (a + usA (pB f p) (pC f p) (pR f p) v lo i d))
  | d, 0, _, _, _, _, h, _ => absurd h (Nat.not_lt_zero _)
  | 0, k + 1, i, lo, a, e, h, hl => by
    obtain ⟨i0, i1, i2, i3, i4, i5, i6, i7, i8, i9, i10⟩ := hI
    have h2 := i2.1; have h3 := i3.1; have h2' := i2.2
    unfold mX11_usageOf_c22 mX11_max
    simp (disch := omega) only [nI_lit, nI_add, pk_mul, nI_clamp, nI_leI, nI_ltI, nI_eq, nI_t0, nI_le0, nI_e0, nI_0le, nI_lt0, m_planOf, bnp_some, bnp_ite, hf, hw, subclampM]
    rw [h2, h3]
    simp (disch := omega) only [nI_lit, nI_add, pk_mul, nI_clamp, nI_leI, nI_ltI, nI_eq, nI_t0, nI_le0, nI_e0, nI_0le, nI_lt0]
    rw [if_pos (by omega), if_neg (by decide)]
    rfl
  | d + 1, k + 1, i, lo, a, e, h, hl => by
    have hI' := hI
    obtain ⟨i0, i1, i2, i3, i4, i5, i6, i7, i8, i9, i10⟩ := hI
    have h2 := i2.1; have h3 := i3.1; have h2' := i2.2
    have hb := (i7 i (by omega)).1; have hc := (i7 i (by omega)).2
    have hb1 := hb.1; have hb2 := hb.2; have hc1 := hc.1; have hc2 := hc.2
    have ih := m_added hf hp hI' hw hv (n := n) d k (i + 1) (pB f p i) (a + (min v (pB f p i) - lo) * pC f p i) (by omega) (by omega) (by omega)
    unfold mX11_usageOf_c22 mX11_usageOf_c74 mX11_min mX11_max
    simp (disch := omega) only [nI_lit, nI_add, pk_mul, nI_clamp, nI_leI, nI_ltI, nI_eq, nI_t0, nI_le0, nI_e0, nI_0le, nI_lt0, m_planOf, bnp_some, bnp_ite, hf, hw]
    rw [h2, hb1, hc1]
    simp (disch := omega) only [minM2, subclampM, nI_add, pk_mul, nI_leI]
    rw [if_neg (by omega), if_neg (by decide), ih]
    rw [usA_s]
    rw [show a + (min v (pB f p i) - lo) * pC f p i + usA (pB f p) (pC f p) (pR f p) v (pB f p i) (i + 1) d = a + ((min v (pB f p i) - lo) * pC f p i + usA (pB f p) (pC f p) (pR f p) v (pB f p i) (i + 1) d) by omega]
theorem m_usage {M : Mem} {f : Nat → Int32} {p n u : Nat} (hf : M 209 = f) (hp : p < 6) (hI : IP f p) (hu : u ≤ 9999) (hn : 200 ≤ n) : mX11_usageOf n (nI p) (nI u) M = some (nI (US f p u)) := by
  have hI' := hI
  obtain ⟨i0, i1, i2, i3, i4, i5, i6, i7, i8, i9, i10⟩ := hI
  have h1 := i1.1; have h1' := i1.2; have h4 := i4.1; have h4' := i4.2; have h2' := i2.2
  unfold mX11_usageOf mX11_max US
  simp (disch := omega) only [nI_lit, m_planOf, bnp_some, bnp_ite, hf]
  rw [h1, subclampM (by omega) (by omega)]
  rcases (show pW f p = 0 ∨ pW f p = 1 by omega) with q | q
  · have hw : fP f p 4 = nI 0 := by rw [h4, q]
    rw [m_added hf hp hI' hw (by omega) (pT f p) n 0 0 0 (by omega) (by omega) (by omega), if_neg (by rw [hw]; decide), Nat.zero_add]
  · have hw : fP f p 4 = nI 1 := by rw [h4, q]
    rw [m_whole hf hp hI' hw (by omega) (pT f p) n 0 _ _ (by omega) (by omega), if_pos hw]
