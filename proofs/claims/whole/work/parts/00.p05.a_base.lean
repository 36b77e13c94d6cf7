/-! the pure part: numbers -/
theorem nI_lit (k : Nat) : (@OfNat.ofNat Int32 k Int32.instOfNat) = nI (@OfNat.ofNat Nat k (instOfNatNat k)) := Int32.toBitVec_inj.mp rfl
theorem nI_t0 {n : Nat} (h : n < 2 ^ 31) : (nI n < 0) = False := eq_false (nI_pos h)
theorem nI_lt0 {n : Nat} (h : n < 2 ^ 31) : (nI n < nI 0) = False := eq_false (nI_pos h)
theorem nI_0le {n : Nat} (h : n < 2 ^ 31) : (nI 0 ≤ nI n) = True := eq_true (nI_pos' h)
theorem nI_le0 {n : Nat} (h : n < 2 ^ 31) : (0 ≤ nI n) = True := eq_true (nI_pos' h)
theorem nI_e0 {n : Nat} (h : n < 2 ^ 31) : (nI n = nI 0) = (n = 0) := by rw [nI_eq h (by omega)]
theorem chk_n {α : Type} {i n : Nat} {x : Option α} (h : i < n) (hn : n < 2 ^ 31) : chk (nI i) n x = x := chk_in (vp_in_nI h hn)
theorem dvi_n {α : Type} {i : Nat} {x : Option α} (h : 0 < i) (hn : i < 2 ^ 31) : dvi (nI i) x = x := if_neg (nI_ne0 h hn)
theorem bnp_some {α β : Type} (r : β) (f : β → Option α) : bnp (some r) f = f r := rfl
theorem bnd_some {α : Type} (r : Int32) (M : Mem) (f : Int32 → Mem → Option α) : bnd (some (r, M)) f = f r M := rfl
theorem lt_eq {α : Type} (M : Mem) (f : Mem → Option α) : lt M f = f M := rfl
theorem u2s (M : Mem) (o k : Nat) (v : Int32) : upd2 M o k v o k = v := by simp [upd2]
theorem u2k (M : Mem) {o k k' : Nat} (v : Int32) (h : k' ≠ k) : upd2 M o k v o k' = M o k' := by simp [upd2, h]
theorem u2o (M : Mem) {o k o' k' : Nat} (v : Int32) (h : o' ≠ o) : upd2 M o k v o' k' = M o' k' := by simp [upd2, h]
theorem upd_s (f : Nat → Int32) (k : Nat) (v : Int32) : upd f k v k = v := by simp [upd]
theorem upd_n (f : Nat → Int32) {k j : Nat} (v : Int32) (h : j ≠ k) : upd f k v j = f j := by simp [upd, h]
/-- any number by its whole value -/
def iI (z : Int) : Int32 := Int32.ofInt z
theorem iI_n (n : Nat) : nI n = iI (n : Int) := rfl
theorem iI_toInt {z : Int} (h1 : -2147483648 ≤ z) (h2 : z < 2147483648) : (iI z).toInt = z := Int32.toInt_ofInt_of_le (by omega) (by omega)
theorem iI_add (a b : Int) : iI a + iI b = iI (a + b) := (Int32.ofInt_add a b).symm
theorem iI_sub (a b : Int) : iI a - iI b = iI (a - b) := (Int32.ofInt_sub a b).symm
theorem iI_mul (a b : Int) : iI a * iI b = iI (a * b) := (Int32.ofInt_mul a b).symm
theorem iI_neg (a : Int) : -iI a = iI (-a) := (Int32.ofInt_neg a).symm
theorem iI_le {a b : Int} (h1 : -2147483648 ≤ a) (h2 : a < 2147483648) (h3 : -2147483648 ≤ b) (h4 : b < 2147483648) : (iI a ≤ iI b) = (a ≤ b) := by rw [Int32.le_iff_toInt_le, iI_toInt h1 h2, iI_toInt h3 h4]
theorem iI_lt {a b : Int} (h1 : -2147483648 ≤ a) (h2 : a < 2147483648) (h3 : -2147483648 ≤ b) (h4 : b < 2147483648) : (iI a < iI b) = (a < b) := by rw [Int32.lt_iff_toInt_lt, iI_toInt h1 h2, iI_toInt h3 h4]
theorem iI_eq {a b : Int} (h1 : -2147483648 ≤ a) (h2 : a < 2147483648) (h3 : -2147483648 ≤ b) (h4 : b < 2147483648) : (iI a = iI b) = (a = b) := by
  apply propext
  constructor
  · intro h
    have := congrArg Int32.toInt h
    rwa [iI_toInt h1 h2, iI_toInt h3 h4] at this
  · intro h; rw [h]
theorem iI_of (x : Int32) : x = iI x.toInt := (Int32.ofInt_toInt x).symm
theorem nI_toIntE {n : Nat} (h : n < 2 ^ 31) : (nI n).toInt = (n : Int) := nI_toInt h
theorem of_range {x : Int32} {N : Nat} (h1 : 0 ≤ x) (h2 : x ≤ nI N) (hN : N < 2 ^ 31) : ∃ j, j ≤ N ∧ x = nI j := by
  have a := Int32.le_iff_toInt_le.mp h1
  have b := Int32.le_iff_toInt_le.mp h2
  rw [nI_toInt hN] at b
  rw [Int32.toInt_zero] at a
  refine ⟨x.toInt.toNat, by omega, ?_⟩
  rw [iI_n, Int.toNat_of_nonneg a]
  exact iI_of x
/-- sums over a row -/
def sumR (g : Nat → Int32) : Nat → Nat → Int32
  | _, 0 => 0
  | i, d + 1 => g i + sumR g (i + 1) d
theorem sumR_congr {g h : Nat → Int32} : ∀ (d i : Nat), (∀ j, i ≤ j → j < i + d → g j = h j) → sumR g i d = sumR h i d
  | 0, _, _ => rfl
  | d + 1, i, e => by
    unfold sumR
    rw [e i (Nat.le_refl _) (by omega), sumR_congr d (i + 1) (fun j h1 h2 => e j (by omega) (by omega))]
theorem sumR_last (g : Nat → Int32) : ∀ (d i : Nat), sumR g i (d + 1) = sumR g i d + g (i + d)
  | 0, i => by simp [sumR]
  | d + 1, i => by
    have h := sumR_last g d (i + 1)
    show g i + sumR g (i + 1) (d + 1) = (g i + sumR g (i + 1) d) + g (i + (d + 1))
    rw [h, Int32.add_assoc, show i + 1 + d = i + (d + 1) by omega]
