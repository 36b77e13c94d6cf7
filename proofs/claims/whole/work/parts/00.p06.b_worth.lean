/-! WORTH and PART of it, of both sides -/
def ofs (f : Nat → Int32) (p : Nat) (s : Int32) : Nat → Nat → Int32 → Int32
  | _, 0, a => a
  | i, d + 1, a => ofs f p s (i + 1) d (if s < fP f p (15 + i) then a else fP f p (18 + i))
theorem ofs_s (f : Nat → Int32) (p : Nat) (s : Int32) (i d : Nat) (a : Int32) : ofs f p s i (d + 1) a = ofs f p s (i + 1) d (if s < fP f p (15 + i) then a else fP f p (18 + i)) := rfl
def W1 (f : Nat → Int32) (x p : Nat) : Int32 := fP f p 0 * fA f x 10 - fP f p 0 * fA f x 10 * ofs f p (fA f x 10) 0 (pK f p) (nI 0) / nI 100
def W2 (f : Nat → Int32) (x p : Nat) : Int32 := if f 3 ≤ fA f x 3 then W1 f x p else W1 f x p - W1 f x p * f 2 / nI 100
def WO (f : Nat → Int32) (x p : Nat) : Int32 := if fA f x 7 = nI 1 then W2 f x p * fP f p 5 / nI 100 else W2 f x p
theorem m_wo2 {N : Mem} {f : Nat → Int32} {x p n : Nat} {w : Int32} (hx : x < 6) (hp : p < 6) : mX11_worthBy_c110 n (nI x) (nI p) w (stF N f) = some (if fA f x 7 = nI 1 then w * fP f p 5 / nI 100 else w) := by
  unfold mX11_worthBy_c110
  simp (disch := omega) only [nI_lit, m_ofS, m_planOf, stF_f, bnp_some]
  split <;> rfl
theorem m_wo {N : Mem} {f : Nat → Int32} {x p n : Nat} {pr : Int32} (hx : x < 6) (hp : p < 6) (hK : isM (fP f p 14) (pK f p) 3) : ∀ (d k i : Nat) (a : Int32), i + d = pK f p → d < k → mX11_worthBy_c21 n k (nI x) (nI p) pr a (nI i) (stF N f) =
    some (if fA f x 7 = nI 1 then (if f 3 ≤ fA f x 3 then pr - pr * ofs f p (fA f x 10) i d a / nI 100 else (pr - pr * ofs f p (fA f x 10) i d a / nI 100) - (pr - pr * ofs f p (fA f x 10) i d a / nI 100) * f 2 / nI 100) * fP f p 5 / nI 100 else (if f 3 ≤ fA f x 3 then pr - pr * ofs f p (fA f x 10) i d a / nI 100 else (pr - pr * ofs f p (fA f x 10) i d a / nI 100) - (pr - pr * ofs f p (fA f x 10) i d a / nI 100) * f 2 / nI 100))
  | d, 0, _, _, _, h => absurd h (Nat.not_lt_zero _)
  | 0, k + 1, i, a, e, h => by
    have h1 := hK.1; have h2 := hK.2
    unfold mX11_worthBy_c21
    simp (disch := omega) only [nI_lit, m_ofS, m_planOf, stF_f, bnp_some, chk_n, nI_clamp, m_wo2]
    rw [h1]
    simp (disch := omega) only [nI_leI]
    rw [if_pos (by omega)]
    unfold ofs
    by_cases q : f 3 ≤ fA f x 3
    · rw [if_pos q, if_pos q]
    · rw [if_neg q, if_neg q]
  | d + 1, k + 1, i, a, e, h => by
    have h1 := hK.1; have h2 := hK.2
    have ih := fun a => m_wo (N := N) (n := n) (pr := pr) hx hp hK d k (i + 1) a (by omega) (by omega)
    unfold mX11_worthBy_c21
    simp (disch := omega) only [nI_lit, m_ofS, m_planOf, stF_f, bnp_some, chk_n, nI_clamp, nI_add, ih]
    rw [h1]
    simp (disch := omega) only [nI_leI]
    rw [if_neg (by omega), ofs_s]
    by_cases q : fA f x 10 < fP f p (15 + i)
    · simp only [q, if_true]
    · simp only [q, if_false]
theorem m_worth {N : Mem} {f : Nat → Int32} {x p n : Nat} (hx : x < 6) (hp : p < 6) (hI : IP f p) (hn : 200 ≤ n) : mX11_worthBy n (nI x) (nI p) (stF N f) = some (WO f x p) := by
  unfold mX11_worthBy
  have hK := hI.2.2.2.2.2.2.1
  have hK2 := hK.2
  simp (disch := omega) only [nI_lit, m_ofS, m_planOf, stF_f, bnp_some]
  rw [m_wo hx hp hK (pK f p) n 0 _ (by omega) (by omega)]
  rfl
theorem c_price {M : Mem} {f : Nat → Int32} {q p n : Nat} {s : Int32} (hR : RP q p M f) (hI : IP f p) : ∀ (d k i : Nat) (a : Int32), i + d = pK f p → d < k → mX7_priceOf_c4 n k q s a (nI i) M = some (fP f p 0 * s - fP f p 0 * s * ofs f p s i d a / nI 100)
  | d, 0, _, _, _, h => absurd h (Nat.not_lt_zero _)
  | 0, k + 1, i, a, e, h => by
    have h1 := hI.2.2.2.2.2.2.1.1; have h2 := hI.2.2.2.2.2.2.1.2
    unfold mX7_priceOf_c4
    rw [hR.2.2.2.2.2.2.1, h1, hR.1]
    simp (disch := omega) only [nI_lit, nI_leI]
    rw [if_pos (by omega)]
    rfl
  | d + 1, k + 1, i, a, e, h => by
    have h1 := hI.2.2.2.2.2.2.1.1; have h2 := hI.2.2.2.2.2.2.1.2
    have h8 := hR.2.2.2.2.2.2.2.2 i (by omega)
    have ih := fun a => c_price (n := n) (s := s) hR hI d k (i + 1) a (by omega) (by omega)
    unfold mX7_priceOf_c4
    rw [hR.2.2.2.2.2.2.1, h1, hR.1]
    simp (disch := omega) only [nI_lit, nI_leI, chk_n, nI_clamp, nI_add, ih]
    rw [if_neg (by omega), if_neg (by omega), h8.1, h8.2, ofs_s]
    by_cases z : s < fP f p (15 + i)
    · simp only [z, if_true]
    · simp only [z, if_false]
theorem c_worth {M : Mem} {f : Nat → Int32} {t a x p n : Nat} (hT : RT t M f) (hIT : IT f) (hA : RA a x M f) (hp : p < 6) (hZ : isM (fA f x 7) (aZ f x) 1) (hn : 200 ≤ n) : mX9_worth n t (nI p) a M = some (WO f x p) := by
  obtain ⟨a0, a1, a2, a3, a4, a5, a6, a7, a8, a9, a10, a11, a12, a13⟩ := hA
  have hR := hT.2.2.2.2.2 p hp
  have hI := hIT.2.2.2.2.2 p hp
  have hK2 := hI.2.2.2.2.2.2.1.2
  have hz1 := hZ.1; have hz2 := hZ.2
  unfold mX9_worth mX7_priceOf
  rw [c_termsOf hp]
  simp only [bnp_some, nI_lit]
  rw [c_price hR hI (pK f p) n 0 _ (by omega) (by omega)]
  simp only [bnp_some]
  rw [hT.2.1, hT.1, a6, a7, a3, hR.2.2.2.2.2.1]
  unfold WO W2 W1
  rw [hz1]
  have e01 : (nI 0 = nI 1) = False := eq_false (by decide)
  have e10 : (nI 1 = nI 0) = False := eq_false (by decide)
  rcases (show aZ f x = 0 ∨ aZ f x = 1 by omega) with z | z
  · rw [z]
    by_cases y : f 3 ≤ fA f x 3
    · simp only [y, if_true, e01, if_false]
    · simp only [y, if_true, e01, if_false]
  · rw [z]
    by_cases y : f 3 ≤ fA f x 3
    · simp only [y, if_true, e10, if_false]
    · simp only [y, if_true, e10, if_false]
/-- what is left of w cents from a day to the end of the span of d0 -/
def PTE (w : Int32) (an d0 : Nat) (dy : Int32) : Int32 := w * (iI (NT an d0) - iI (LT an d0)) / (iI (NT an d0) - iI (LT an d0)) - w * (dy - iI (LT an d0)) / (iI (NT an d0) - iI (LT an d0))
theorem dvi_i {α : Type} {z : Int} {x : Option α} (h : z ≠ 0) (h1 : -2147483648 ≤ z) (h2 : z < 2147483648) : dvi (iI z) x = x := by
  unfold dvi
  have e : (iI z = 0) = (z = 0) := iI_eq h1 h2 (b := 0) (by omega) (by omega)
  rw [if_neg (by rw [e]; exact h)]
theorem c_slice {an d0 : Nat} {w dy : Int32} (h1 : 1 ≤ an) (h : d0 ≤ 3652) : mX3_slice w (iI (NT an d0) - iI (LT an d0)) (dy - iI (LT an d0)) (iI (NT an d0) - iI (LT an d0)) = some (PTE w an d0 dy) := by
  obtain ⟨b1, b2, b3, b4, b5⟩ := LT_NT h1 h
  have e : iI (NT an d0) - iI (LT an d0) = iI (NT an d0 - LT an d0) := iI_sub _ _
  have e1 : (1 : Int32) ≤ iI (NT an d0 - LT an d0) := by
    have : ((1 : Int32) ≤ iI (NT an d0 - LT an d0)) = ((1 : Int) ≤ NT an d0 - LT an d0) := iI_le (a := 1) (by omega) (by omega) (by omega) (by omega)
    rw [this]; omega
  unfold mX3_slice PTE
  rw [e, if_pos e1, dvi_i (by omega) (by omega) (by omega), dvi_i (by omega) (by omega) (by omega)]
theorem m_slice {N : Mem} {an d0 dy n : Nat} {w to : Int32} (hM : CalM N) (h1 : 1 ≤ an) (h2 : an ≤ 31) (h : d0 ≤ 3652) (hd : dy ≤ 3652) (hdl : d0 ≤ dy) (hdn : (dy : Int) < NT an d0) (hto : to = iI (NT an d0)) (hn : 200 ≤ n) : mX11_slice n w (nI an) (nI dy) to N = some (PTE w an d0 (nI dy)) := by
  obtain ⟨b1, b2, b3, b4, b5⟩ := LT_NT h1 h
  obtain ⟨s1, s2⟩ := span_same h1 h hd (by omega) hdn
  have e : iI (NT an d0) - iI (LT an d0) = iI (NT an d0 - LT an d0) := iI_sub _ _
  unfold mX11_slice PTE
  rw [mod_lt hM h1 h2 hd hn, mod_nt hM h1 h2 hd hn, s1, s2, hto]
  simp only [bnp_some]
  rw [e, dvi_i (by omega) (by omega) (by omega), dvi_i (by omega) (by omega) (by omega)]
theorem c_part {M : Mem} {f : Nat → Int32} {a x : Nat} {w dy : Int32} (hA : RA a x M f) (hI : IA1 f x) : mX0_partToEnd a w dy M = some (PTE w (aN f x) (aD f x) dy) := by
  obtain ⟨a0, a1, a2, a3, a4, a5, a6, a7, a8, a9, a10, a11, a12, a13⟩ := hA
  obtain ⟨i0, i1, i2, i3, i4, i5, i6, i7, i8⟩ := hI
  unfold mX0_partToEnd
  rw [a9, i6, a10 i0, c_slice i3 i5.2]
  rfl
theorem m_left {N : Mem} {f : Nat → Int32} {x p dy n : Nat} (hM : CalM N) (hx : x < 6) (hp : p < 6) (hIP : IP f p) (hI : IA1 f x) (hd : dy ≤ 3652) (h1 : aD f x ≤ dy) (h2 : (dy : Int) < NT (aN f x) (aD f x)) (hn : 200 ≤ n) : mX11_leftBy n (nI x) (nI p) (nI dy) (stF N f) = some (PTE (WO f x p) (aN f x) (aD f x) (nI dy)) := by
  obtain ⟨i0, i1, i2, i3, i4, i5, i6, i7, i8⟩ := hI
  unfold mX11_leftBy
  rw [m_worth hx hp hIP hn]
  simp (disch := omega) only [nI_lit, m_ofS, bnp_some]
  rw [i2.1, m_slice (CalM_stF hM) i3 i2.2 i5.2 hd h1 h2 i6 hn]
  rfl
