/-! the state: the row of numbers, and what the cells say of it -/
def stF (N : Mem) (g : Nat → Int32) : Mem := fun o => if o = 209 then g else N o
theorem stF_f (N : Mem) (g : Nat → Int32) : stF N g 209 = g := rfl
theorem stF_o (N : Mem) (g : Nat → Int32) {o : Nat} (h : o ≠ 209) : stF N g o = N o := if_neg h
theorem stF_self (N : Mem) : stF N (N 209) = N := by funext o; unfold stF; split; (next h => rw [h]); rfl
theorem stF_stF (N : Mem) (g h : Nat → Int32) : stF (stF N g) h = stF N h := by funext o; unfold stF; split <;> rfl
theorem upd2_stF (N : Mem) (g : Nat → Int32) (k : Nat) (v : Int32) : upd2 (stF N g) 209 k v = stF N (upd g k v) := by
  funext o i
  unfold upd2 stF upd
  by_cases h : o = 209
  · subst h; by_cases h2 : i = k <;> simp [h2]
  · simp [h]
theorem CalM_stF {N : Mem} {g : Nat → Int32} (h : CalM N) : CalM (stF N g) := fun m hm => by rw [stF_o N g (by decide)]; exact h m hm
def tD (f : Nat → Int32) : Nat := na (f 0)
def sz (f : Nat → Int32) : Nat := na (f 1)
def cL (f : Nat → Int32) : Nat := na (f 4)
def aB (f : Nat → Int32) (x : Nat) : Nat := na (fA f x 1)
def aN (f : Nat → Int32) (x : Nat) : Nat := na (fA f x 2)
def aQ (f : Nat → Int32) (x : Nat) : Nat := na (fA f x 3)
def aD (f : Nat → Int32) (x : Nat) : Nat := na (fA f x 4)
def aU (f : Nat → Int32) (x : Nat) : Nat := na (fA f x 6)
def aZ (f : Nat → Int32) (x : Nat) : Nat := na (fA f x 7)
def aX (f : Nat → Int32) (x : Nat) : Nat := na (fA f x 8)
def aP (f : Nat → Int32) (x : Nat) : Nat := na (fA f x 9)
def aS (f : Nat → Int32) (x : Nat) : Nat := na (fA f x 10)
/-- an account that has begun -/
def IA1 (f : Nat → Int32) (x : Nat) : Prop :=
  fA f x 0 = nI 1 ∧ isM (fA f x 1) (aB f x) 5 ∧ isM (fA f x 2) (aN f x) 31 ∧ 1 ≤ aN f x ∧ isM (fA f x 3) (aQ f x) 400 ∧ isM (fA f x 4) (aD f x) 3652 ∧ fA f x 5 = iI (NT (aN f x) (aD f x)) ∧ NT (aN f x) (aD f x) ≤ 3652 ∧
  isM (fA f x 6) (aU f x) 9999 ∧ isM (fA f x 7) (aZ f x) 1 ∧ isM (fA f x 8) (aX f x) 1 ∧ isM (fA f x 9) (aP f x) 99999999 ∧ isM (fA f x 10) (aS f x) 9 ∧ 1 ≤ aS f x ∧ aD f x ≤ tD f ∧ aQ f x ≤ sz f
def IA (f : Nat → Int32) (x : Nat) : Prop := (∀ w, w < 12 → fA f x w = nI 0) ∨ IA1 f x
def eK (f : Nat → Int32) (i : Nat) : Nat := na (fE f i 0)
def eO (f : Nat → Int32) (i : Nat) : Nat := na (fE f i 1)
def eW (f : Nat → Int32) (i : Nat) : Nat := na (fE f i 2)
def eQ (f : Nat → Int32) (i : Nat) : Nat := na (fE f i 3)
def eF (f : Nat → Int32) (i : Nat) : Nat := na (fE f i 4)
def eT (f : Nat → Int32) (i : Nat) : Nat := na (fE f i 5)
def eP (f : Nat → Int32) (i : Nat) : Nat := na (fE f i 6)
def IE (f : Nat → Int32) (i : Nat) : Prop :=
  isM (fE f i 0) (eK f i) 5 ∧ isM (fE f i 1) (eO f i) 5 ∧ isM (fE f i 2) (eW f i) 3652 ∧ isM (fE f i 3) (eQ f i) 400 ∧ isM (fE f i 4) (eF f i) 3652 ∧ isM (fE f i 5) (eT f i) 3652 ∧ isM (fE f i 6) (eP f i) 5 ∧
  eF f i ≤ eT f i ∧ (eK f i ≤ 1 → eT f i ≤ eF f i + 31 ∧ -899991 ≤ (fE f i 7).toInt ∧ (fE f i 7).toInt ≤ 899991) ∧ -2147483647 ≤ (fE f i 7).toInt ∧
  (fE f i 8 = -2 ∨ ∃ k, k < sz f ∧ fE f i 8 = nI k) ∧ (fE f i 9 = -2 ∨ ∃ k, k < sz f ∧ fE f i 9 = nI k) ∧ fA f (eO f i) 0 = nI 1
def INV0 (f : Nat → Int32) : Prop :=
  isM (f 0) (tD f) 3652 ∧ isM (f 1) (sz f) 400 ∧ isM (f 4) (cL f) 20 ∧ IT f ∧ (∀ x, x < 6 → IA f x) ∧ ∀ i, i < sz f → IE f i
/-- its PERIOD ends behind TODAY, if it runs -/
def RUN (f : Nat → Int32) (x : Nat) : Prop := fA f x 0 = nI 1 → aX f x = 0 → (tD f : Int) < NT (aN f x) (aD f x)
def INV (f : Nat → Int32) : Prop := INV0 f ∧ ∀ x, x < 6 → RUN f x
/-- ALL of an account -/
def allS (f : Nat → Int32) (x : Nat) : Int32 := sumR (fun i => if fE f i 1 = nI x then fE f i 7 else 0) 0 (sz f)
def RA (a x : Nat) (M : Mem) (f : Nat → Int32) : Prop :=
  M a 0 = nI x ∧ M a 1 = fA f x 0 ∧ M a 2 = fA f x 8 ∧ M a 3 = fA f x 7 ∧ M a 4 = fA f x 1 ∧ M a 5 = fA f x 2 ∧ M a 6 = fA f x 10 ∧ M a 7 = fA f x 3 ∧ M a 8 = fA f x 4 ∧ M a 9 = fA f x 5 ∧
  (fA f x 0 = nI 1 → M a 10 = iI (LT (aN f x) (aD f x))) ∧ M a 11 = fA f x 6 ∧ M a 12 = fA f x 9 ∧ M a 13 = allS f x
def RE (e : Nat) (M : Mem) (f : Nat → Int32) : Prop :=
  M e 0 = f 1 ∧ ∀ i, i < sz f → M (e + 1) i = fE f i 0 ∧ M (e + 2) i = fE f i 1 ∧ M (e + 3) i = fE f i 2 ∧ M (e + 4) i = fE f i 3 ∧ M (e + 5) i = fE f i 4 ∧ M (e + 6) i = fE f i 5 ∧ M (e + 7) i = fE f i 6 ∧ M (e + 8) i = fE f i 7 ∧ M (e + 9) i = fE f i 8 ∧ M (e + 10) i = fE f i 9
def RS (b : Nat) (M : Mem) (f : Nat → Int32) : Prop :=
  M b 4 = f 0 ∧ M (b + 1) 7 = f 4 ∧ RT (b + 1) M f ∧ (∀ x, x < 6 → RA (b + 35 + 12 + x) x M f) ∧ RE (b + 36) M f
/-- an ENTRY is written -/
def wrF (f : Nat → Int32) (k x : Nat) (fr to c : Int32) : Nat → Int32 :=
  let s := 250 + 10 * sz f
  upd (upd (upd (upd (upd (upd (upd (upd (upd (upd (upd f s (nI k)) (s + 1) (nI x)) (s + 2) (f 0)) (s + 3) (fA f x 3)) (s + 4) fr) (s + 5) to) (s + 6) (fA f x 1)) (s + 7) c) (s + 8) (-2)) (s + 9) (-2)) 1 (nI (sz f + 1))
theorem wr_lo {f : Nat → Int32} {k x j : Nat} {fr to c : Int32} (h : j < 250) (h1 : j ≠ 1) : wrF f k x fr to c j = f j := by
  unfold wrF
  simp (disch := omega) only [upd_n]
theorem wr_1 {f : Nat → Int32} {k x : Nat} {fr to c : Int32} : wrF f k x fr to c 1 = nI (sz f + 1) := by
  unfold wrF
  exact upd_s _ _ _
theorem wr_sz {f : Nat → Int32} {k x : Nat} {fr to c : Int32} (h : sz f < 400) : sz (wrF f k x fr to c) = sz f + 1 := by
  show na (wrF f k x fr to c 1) = _
  rw [wr_1, na, nI_clamp (by omega)]
theorem wr_E {f : Nat → Int32} {k x i w : Nat} {fr to c : Int32} (h : i < sz f) (hw : w < 10) : fE (wrF f k x fr to c) i w = fE f i w := by
  unfold wrF fE
  simp (disch := omega) only [upd_n]
theorem wr_A {f : Nat → Int32} {k x y w : Nat} {fr to c : Int32} (h : y < 6) (hw : w < 12) : fA (wrF f k x fr to c) y w = fA f y w := wr_lo (by omega) (by omega)
theorem wr_P {f : Nat → Int32} {k x y w : Nat} {fr to c : Int32} (h : y < 6) (hw : w < 24) : fP (wrF f k x fr to c) y w = fP f y w := wr_lo (by omega) (by omega)
theorem wr_new {f : Nat → Int32} {k x : Nat} {fr to c : Int32} : fE (wrF f k x fr to c) (sz f) 0 = nI k ∧ fE (wrF f k x fr to c) (sz f) 1 = nI x ∧ fE (wrF f k x fr to c) (sz f) 2 = f 0 ∧ fE (wrF f k x fr to c) (sz f) 3 = fA f x 3 ∧ fE (wrF f k x fr to c) (sz f) 4 = fr ∧ fE (wrF f k x fr to c) (sz f) 5 = to ∧ fE (wrF f k x fr to c) (sz f) 6 = fA f x 1 ∧ fE (wrF f k x fr to c) (sz f) 7 = c ∧ fE (wrF f k x fr to c) (sz f) 8 = -2 ∧ fE (wrF f k x fr to c) (sz f) 9 = -2 := by
  unfold wrF fE
  refine ⟨?_, ?_, ?_, ?_, ?_, ?_, ?_, ?_, ?_, ?_⟩ <;> simp (disch := omega) only [upd_n, upd_s, Nat.add_zero]
theorem m_ofS {N : Mem} {f : Nat → Int32} {x w : Nat} (hx : x < 6) (hw : w < 12) : mX11_of (nI x) (nI w) (stF N f) = some (fA f x w) := m_of hx hw
theorem m_sets {N : Mem} {f : Nat → Int32} {x w : Nat} {v : Int32} (hx : x < 6) (hw : w < 12) : mX11_sets (nI x) (nI w) v (stF N f) = some (stF N (upd f (170 + 12 * x + w) v)) := by
  unfold mX11_sets
  simp (disch := omega) only [nI_lit, nI_add, pk_mul, nI_clamp, nI_leI, nI_ltI, nI_eq, nI_t0, nI_le0, nI_e0, nI_0le, nI_lt0, chk_n, upd2_stF]
theorem m_writes {N : Mem} {f : Nat → Int32} {k x : Nat} {fr to c : Int32} (h1 : f 1 = nI (sz f)) (hs : sz f < 400) (hx : x < 6) : mX11_writes (nI k) (nI x) fr to c (stF N f) = some (c, stF N (wrF f k x fr to c)) := by
  have e2 : (-2 : Int32) = -nI 2 := by decide
  unfold mX11_writes
  simp (disch := omega) only [nI_lit, nI_add, pk_mul, nI_clamp, nI_leI, nI_ltI, nI_eq, nI_t0, nI_le0, nI_e0, nI_0le, nI_lt0, chk_n, lt_eq, stF_f, h1, upd2_stF, upd_n, m_ofS, bnp_some]
  unfold wrF
  simp (disch := omega) only [fA, upd_n, Nat.add_zero, e2]
