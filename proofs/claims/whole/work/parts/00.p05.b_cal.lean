/-! the pure part: the calendar -/
def msL : List Int := [-31, 0, 31, 60, 91, 121, 152, 182, 213, 244, 274, 305, 335, 366, 397, 425, 456, 486, 517, 547, 578, 609, 639, 670, 700, 731, 762, 790, 821, 851, 882, 912, 943, 974, 1004, 1035, 1065, 1096, 1127, 1155, 1186, 1216, 1247, 1277, 1308, 1339, 1369, 1400, 1430, 1461, 1492, 1521, 1552, 1582, 1613, 1643, 1674, 1705, 1735, 1766, 1796, 1827, 1858, 1886, 1917, 1947, 1978, 2008, 2039, 2070, 2100, 2131, 2161, 2192, 2223, 2251, 2282, 2312, 2343, 2373, 2404, 2435, 2465, 2496, 2526, 2557, 2588, 2616, 2647, 2677, 2708, 2738, 2769, 2800, 2830, 2861, 2891, 2922, 2953, 2982, 3013, 3043, 3074, 3104, 3135, 3166, 3196, 3227, 3257, 3288, 3319, 3347, 3378, 3408, 3439, 3469, 3500, 3531, 3561, 3592, 3622, 3653, 3684, 3712, 3743, 3773, 3804, 3834]
def ms (m : Nat) : Int := msL.getD m 0
theorem ms_stepB : ∀ m, m < 127 → (28 ≤ ms (m + 1) - ms m ∧ ms (m + 1) - ms m ≤ 31) := by decide +kernel
theorem ms_rngB : ∀ m, m < 128 → (-31 ≤ ms m ∧ ms m ≤ 4000 ∧ ms m ≤ 31 * (m : Int) - 31) := by decide +kernel
theorem ms_0 : ms 0 = -31 := by decide +kernel
theorem ms_1 : ms 1 = 0 := by decide +kernel
theorem ms_121 : ms 121 = 3653 := by decide +kernel
theorem ms_126 : 3653 < ms 126 := by decide +kernel
theorem ms_mono : ∀ (k m : Nat), m + k ≤ 127 → ms m ≤ ms (m + k)
  | 0, m, _ => Int.le_refl _
  | k + 1, m, h => by
    have h1 := ms_mono k m (by omega)
    have h2 := ms_stepB (m + k) (by omega)
    rw [show m + (k + 1) = m + k + 1 by omega]
    omega
theorem ms_le {m m' : Nat} (h : m ≤ m') (h2 : m' ≤ 127) : ms m ≤ ms m' := by
  have := ms_mono (m' - m) m (by omega)
  rwa [show m + (m' - m) = m' by omega] at this
def moF (d : Nat) : Nat → Nat → Nat
  | 0, m => m
  | k + 1, m => if ms (m + 1) ≤ (d : Int) then moF d k (m + 1) else m
def mo (d : Nat) : Nat := moF d 126 0
theorem moF_spec (d : Nat) : ∀ (k m : Nat), ms m ≤ (d : Int) → (d : Int) < ms (m + k) → m ≤ moF d k m ∧ moF d k m < m + k ∧ ms (moF d k m) ≤ (d : Int) ∧ (d : Int) < ms (moF d k m + 1)
  | 0, m, h1, h2 => by simp at h2; omega
  | k + 1, m, h1, h2 => by
    unfold moF
    by_cases h : ms (m + 1) ≤ (d : Int)
    · rw [if_pos h]
      have := moF_spec d k (m + 1) h (by rw [show m + 1 + k = m + (k + 1) by omega]; exact h2)
      omega
    · rw [if_neg h]
      omega
theorem mo_spec {d : Nat} (h : d ≤ 3652) : ms (mo d) ≤ (d : Int) ∧ (d : Int) < ms (mo d + 1) ∧ 1 ≤ mo d ∧ mo d ≤ 120 := by
  have h0 := moF_spec d 126 0 (by rw [ms_0]; omega) (by have := ms_126; simp; omega)
  obtain ⟨a, b, c, e⟩ := h0
  have a' : 0 ≤ mo d := Nat.zero_le _
  have b' : mo d < 0 + 126 := b
  have c' : ms (mo d) ≤ (d : Int) := c
  have e' : (d : Int) < ms (mo d + 1) := e
  refine ⟨c', e', ?_, ?_⟩
  · rcases Nat.eq_zero_or_pos (mo d) with q | q
    · rw [q, Nat.zero_add, ms_1] at e'; omega
    · exact q
  · rcases Nat.lt_or_ge 120 (mo d) with q | q
    · have := ms_le (m := 121) (m' := mo d) q (by omega)
      rw [ms_121] at this
      omega
    · exact q
theorem mo_uniq {d m m' : Nat} (h1 : ms m ≤ (d : Int)) (h2 : (d : Int) < ms (m + 1)) (h3 : ms m' ≤ (d : Int)) (h4 : (d : Int) < ms (m' + 1)) (hm : m ≤ 126) (hm' : m' ≤ 126) : m = m' := by
  rcases Nat.lt_trichotomy m m' with q | q | q
  · have := ms_le (m := m + 1) (m' := m') q (by omega)
    omega
  · exact q
  · have := ms_le (m := m' + 1) (m' := m) q (by omega)
    omega
/-- the TURN of month m by an anchor -/
def tn (a m : Nat) : Int := ms m + (if ms (m + 1) - ms m < (a : Int) then ms (m + 1) - ms m else (a : Int)) - 1
theorem tn_bd {a m : Nat} (ha : 1 ≤ a) (hm : m ≤ 126) : ms m ≤ tn a m ∧ tn a m < ms (m + 1) := by
  have := ms_stepB m (by omega)
  unfold tn
  split <;> omega
theorem tn_lt {a m m' : Nat} (ha : 1 ≤ a) (h : m < m') (hm : m' ≤ 126) : tn a m < tn a m' := by
  have h1 := tn_bd (a := a) (m := m) ha (by omega)
  have h2 := tn_bd (a := a) (m := m') ha hm
  have := ms_le (m := m + 1) (m' := m') h (by omega)
  omega
/-- the number of the month of the last TURN -/
def tk (a d : Nat) : Nat := if tn a (mo d) ≤ (d : Int) then mo d else mo d - 1
theorem tk_spec {a d : Nat} (ha : 1 ≤ a) (h : d ≤ 3652) : tn a (tk a d) ≤ (d : Int) ∧ (d : Int) < tn a (tk a d + 1) ∧ tk a d ≤ 120 := by
  obtain ⟨h1, h2, h3, h4⟩ := mo_spec h
  unfold tk
  by_cases q : tn a (mo d) ≤ (d : Int)
  · rw [if_pos q]
    have := tn_bd (a := a) (m := mo d + 1) ha (by omega)
    omega
  · rw [if_neg q]
    have := tn_bd (a := a) (m := mo d - 1) ha (by omega)
    rw [show mo d - 1 + 1 = mo d by omega] at this ⊢
    omega
theorem tk_uniq {a d k : Nat} (ha : 1 ≤ a) (h : d ≤ 3652) (h1 : tn a k ≤ (d : Int)) (h2 : (d : Int) < tn a (k + 1)) (hk : k ≤ 125) : tk a d = k := by
  obtain ⟨g1, g2, g3⟩ := tk_spec ha h
  rcases Nat.lt_trichotomy (tk a d) k with q | q | q
  · rcases Nat.lt_or_ge (tk a d + 1) k with r | r
    · have := tn_lt (a := a) ha r (by omega); omega
    · rw [show tk a d + 1 = k by omega] at g2; omega
  · exact q
  · rcases Nat.lt_or_ge (k + 1) (tk a d) with r | r
    · have := tn_lt (a := a) ha r (by omega); omega
    · rw [show k + 1 = tk a d by omega] at h2; omega
def LT (a d : Nat) : Int := tn a (tk a d)
def NT (a d : Nat) : Int := tn a (tk a d + 1)
theorem LT_NT {a d : Nat} (ha : 1 ≤ a) (h : d ≤ 3652) : LT a d ≤ (d : Int) ∧ (d : Int) < NT a d ∧ -31 ≤ LT a d ∧ NT a d ≤ 4000 ∧ NT a d - LT a d ≤ 62 := by
  obtain ⟨g1, g2, g3⟩ := tk_spec ha h
  have b1 := tn_bd (a := a) (m := tk a d) ha (by omega)
  have b2 := tn_bd (a := a) (m := tk a d + 1) ha (by omega)
  have r1 := ms_rngB (tk a d) (by omega)
  have r2 := ms_rngB (tk a d + 1 + 1) (by omega)
  have s1 := ms_stepB (tk a d) (by omega)
  have s2 := ms_stepB (tk a d + 1) (by omega)
  unfold LT NT
  refine ⟨g1, g2, ?_, ?_, ?_⟩ <;> omega
theorem span_same {a d d' : Nat} (ha : 1 ≤ a) (h : d ≤ 3652) (h' : d' ≤ 3652) (h1 : LT a d ≤ (d' : Int)) (h2 : (d' : Int) < NT a d) : LT a d' = LT a d ∧ NT a d' = NT a d := by
  have g := tk_spec ha h
  have e := tk_uniq (k := tk a d) ha h' h1 h2 (by omega)
  unfold LT NT
  rw [e]
  exact ⟨rfl, rfl⟩
/-- a NEXT TURN of at most 31 days: a span's length -/
theorem NT_LT {a d : Nat} (ha : 1 ≤ a) (ha2 : a ≤ 31) (h : d ≤ 3652) : NT a d - LT a d ≤ 31 := by
  obtain ⟨g1, g2, g3⟩ := tk_spec ha h
  have s1 := ms_stepB (tk a d) (by omega)
  have s2 := ms_stepB (tk a d + 1) (by omega)
  unfold LT NT tn
  split <;> split <;> omega
abbrev CalC (M : Mem) : Prop := ∀ m, m < 123 → M 3 m = iI (ms m)
abbrev CalM (M : Mem) : Prop := ∀ m, m < 127 → M 208 m = iI (ms m)
