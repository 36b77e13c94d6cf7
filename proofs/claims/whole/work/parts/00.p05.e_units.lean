/-! units: tier by tier, and one by one -/
theorem usA_le {b c : Nat → Nat} {R v : Nat} (hR : R ≤ 99) : ∀ (d i lo : Nat), (∀ j, j < i + d → c j ≤ 99) → (∀ j, i ≤ j → j + 1 < i + d → b j ≤ b (j + 1)) → (0 < d → lo ≤ b i) → usA b c R v lo i d ≤ (v - lo) * 99
  | 0, i, lo, _, _, _ => by rw [usA_0]; exact Nat.mul_le_mul_left _ hR
  | d + 1, i, lo, hc, hb, hl => by
    have ih := usA_le (v := v) hR d (i + 1) (b i) (fun j hj => hc j (by omega)) (fun j h1 h2 => hb j (by omega) (by omega)) (fun h => hb i (Nat.le_refl _) (by omega))
    have h1 : (min v (b i) - lo) * c i ≤ (min v (b i) - lo) * 99 := Nat.mul_le_mul_left _ (hc i (by omega))
    have h2 := hl (by omega)
    rw [usA_s]
    have h3 : (min v (b i) - lo) * 99 + (v - b i) * 99 ≤ (v - lo) * 99 := by
      rw [← Nat.add_mul]
      exact Nat.mul_le_mul_right _ (by omega)
    omega
theorem usW_le {b c : Nat → Nat} {R v : Nat} (hR : R ≤ 99) : ∀ (d i : Nat), (∀ j, j < i + d → c j ≤ 99) → usW b c R v i d ≤ v * 99
  | 0, i, _ => by rw [usW_0]; exact Nat.mul_le_mul_left _ hR
  | d + 1, i, hc => by
    have ih := usW_le (b := b) (v := v) hR d (i + 1) (fun j hj => hc j (by omega))
    rw [usW_s]
    split
    · exact Nat.mul_le_mul_left _ (hc i (by omega))
    · exact ih
theorem US_le {f : Nat → Int32} {p u : Nat} (hI : IP f p) (hu : u ≤ 9999) : US f p u ≤ 989901 := by
  obtain ⟨i0, i1, i2, i3, i4, i5, i6, i7, i8, i9, i10⟩ := hI
  have h3 := i3.2; have h2 := i2.2
  unfold US
  split
  · have := usW_le (b := pB f p) (c := pC f p) (v := u - pF f p) h3 (pT f p) 0 (fun j hj => (i7 j (by omega)).2.2)
    have h4 : (u - pF f p) * 99 ≤ 9999 * 99 := Nat.mul_le_mul_right _ (by omega)
    omega
  · have := usA_le (b := pB f p) (c := pC f p) (v := u - pF f p) h3 (pT f p) 0 0 (fun j hj => (i7 j (by omega)).2.2) (fun j _ hj => Nat.le_of_lt (i9 j (by omega))) (fun _ => Nat.zero_le _)
    have h4 : (u - pF f p - 0) * 99 ≤ 9999 * 99 := Nat.mul_le_mul_right _ (by omega)
    omega
theorem usA_low {b c : Nat → Nat} {R v : Nat} : ∀ (d i lo : Nat), v ≤ lo → (∀ j, i ≤ j → j + 1 < i + d → b j ≤ b (j + 1)) → (0 < d → lo ≤ b i) → usA b c R v lo i d = 0
  | 0, i, lo, h, _, _ => by rw [usA_0, show v - lo = 0 by omega, Nat.zero_mul]
  | d + 1, i, lo, h, hb, hl => by
    have h2 := hl (by omega)
    have ih := usA_low (c := c) (R := R) (v := v) d (i + 1) (b i) (by omega) (fun j h1 h2 => hb j (by omega) (by omega)) (fun h => hb i (Nat.le_refl _) (by omega))
    rw [usA_s, ih, show min v (b i) - lo = 0 by omega, Nat.zero_mul]
/-- what is asked of the answer V -/
def mostA (b c : Nat → Nat) (R left lo i d V : Nat) : Prop := lo ≤ V ∧ V < 200000000 ∧ (∀ v, lo ≤ v → v ≤ V → usA b c R v lo i d ≤ left) ∧ (9999 ≤ V ∨ left < usA b c R (V + 1) lo i d)
theorem nI_lt0' {n : Nat} (h : n < 2 ^ 31) : (nI n ≤ nI 0) = (n = 0) := by rw [nI_leI h (by omega)]; exact propext (by omega)
theorem divmul {x c l : Nat} (hc : 0 < c) (h : x ≤ l / c) : x * c ≤ l := (Nat.le_div_iff_mul_le hc).mp h
theorem divmul' {x c l : Nat} (hc : 0 < c) (h : l / c < x) : l < x * c := (Nat.div_lt_iff_lt_mul hc).mp h
theorem c_mostA {M : Mem} {f : Nat → Int32} {q p n : Nat} (hR : RP q p M f) (hI : IP f p) : ∀ (d k i lo left : Nat), i + d = pT f p → d < k → lo ≤ 9999 → left ≤ 99999999 → (0 < d → lo ≤ pB f p i) → ∃ V, mX7_mostAdded_c7 n k q (nI lo) (nI left) (nI i) M = some (nI V) ∧ mostA (pB f p) (pC f p) (pR f p) left lo i d V
  | d, 0, _, _, _, _, h, _, _, _ => absurd h (Nat.not_lt_zero _)
  | 0, k + 1, i, lo, left, e, h, hl, hle, hb => by
    obtain ⟨r0, r1, r2, r3, r4, r5, r6, r7, r8⟩ := hR
    obtain ⟨i0, i1, i2, i3, i4, i5, i6, i7, i8, i9, i10⟩ := hI
    have h2 := i2.1; have h3 := i3.1; have h2' := i2.2; have h3' := i3.2
    unfold mX7_mostAdded_c7
    rw [r2, h2, r3, h3]
    simp (disch := omega) only [nI_lit, nI_add, pk_mul, nI_clamp, nI_leI, nI_ltI, nI_eq, nI_t0, nI_le0, nI_e0, nI_0le, nI_lt0]
    rw [if_pos (by omega)]
    by_cases z : pR f p = 0
    · refine ⟨9999, ?_, hl, by omega, fun v h1 h2 => ?_, Or.inl (by omega)⟩
      · rw [z, if_pos (by decide)]
      · rw [usA_0, z, Nat.mul_zero]; omega
    · have hd : left / pR f p ≤ left := Nat.div_le_self _ _
      obtain ⟨Q, hQ⟩ : ∃ Q, left / pR f p = Q := ⟨_, rfl⟩
      rw [hQ] at hd
      refine ⟨lo + Q, ?_, by omega, by omega, fun v h1 h2 => ?_, Or.inr ?_⟩
      · rw [if_neg (by omega), dvi_n (by omega) (by omega), pk_div' (by omega) (by omega) (by omega), hQ, nI_add]
      · rw [usA_0]; exact divmul (by omega) (by rw [hQ]; omega)
      · rw [usA_0]; exact divmul' (by omega) (by rw [hQ]; omega)
  | d + 1, k + 1, i, lo, left, e, h, hl, hle, hb => by
    have hR' := hR; have hI' := hI
    obtain ⟨r0, r1, r2, r3, r4, r5, r6, r7, r8⟩ := hR
    obtain ⟨i0, i1, i2, i3, i4, i5, i6, i7, i8, i9, i10⟩ := hI
    have h2 := i2.1; have h3 := i3.1; have h2' := i2.2; have h3' := i3.2
    have hb0 := (i7 i (by omega)).1; have hc := (i7 i (by omega)).2
    have hb1 := hb0.1; have hb2 := hb0.2; have hc1 := hc.1; have hc2 := hc.2
    have rb := (r7 i (by omega)).1; have rc := (r7 i (by omega)).2
    have hlo := hb (by omega)
    have hbm : ∀ j, i ≤ j → j + 1 < i + (d + 1) → pB f p j ≤ pB f p (j + 1) := fun j _ hj => Nat.le_of_lt (i9 j (by omega))
    have hbn : 0 < d → pB f p i ≤ pB f p (i + 1) := fun hd => Nat.le_of_lt (i9 i (by omega))
    have hprod : (pB f p i - lo) * pC f p i ≤ 9999 * 99 := Nat.mul_le_mul (by omega) hc2
    have e2 : nI (pB f p i) - nI lo = nI (pB f p i - lo) := pk_sub hlo
    have key : ∀ v, usA (pB f p) (pC f p) (pR f p) v lo i (d + 1) = (min v (pB f p i) - lo) * pC f p i + usA (pB f p) (pC f p) (pR f p) v (pB f p i) (i + 1) d := fun v => usA_s _ _ _ _ _ _ _
    have low : ∀ v, v ≤ pB f p i → usA (pB f p) (pC f p) (pR f p) v (pB f p i) (i + 1) d = 0 := fun v hv => usA_low d (i + 1) (pB f p i) hv (fun j h1 h2 => hbm j (by omega) (by omega)) hbn
    have goOn : (pB f p i - lo) * pC f p i ≤ left → ∃ V, mX7_mostAdded_c7 n k q (nI (pB f p i)) (nI left - nI ((pB f p i - lo) * pC f p i)) (nI (i + 1)) M = some (nI V) ∧ mostA (pB f p) (pC f p) (pR f p) left lo i (d + 1) V := by
      intro hfull
      obtain ⟨V, v1, v2, v3, v4, v5⟩ := c_mostA hR' hI' (n := n) d k (i + 1) (pB f p i) (left - (pB f p i - lo) * pC f p i) (by omega) (by omega) (by omega) (by omega) hbn
      refine ⟨V, by rw [pk_sub hfull]; exact v1, by omega, v3, fun v g1 g2 => ?_, ?_⟩
      · rw [key]
        rcases Nat.lt_or_ge v (pB f p i) with y | y
        · rw [low v (by omega), Nat.min_eq_left (by omega)]
          have : (v - lo) * pC f p i ≤ (pB f p i - lo) * pC f p i := Nat.mul_le_mul_right _ (by omega)
          omega
        · have := v4 v y g2
          rw [Nat.min_eq_right y]
          omega
      · rcases v5 with v5 | v5
        · exact Or.inl v5
        · refine Or.inr ?_
          rw [key, Nat.min_eq_right (by omega)]
          omega
    unfold mX7_mostAdded_c7
    rw [r2, h2]
    simp (disch := omega) only [nI_lit, nI_add, pk_mul, nI_clamp, nI_leI, nI_ltI, nI_eq, nI_t0, nI_le0, nI_e0, nI_0le, nI_lt0, chk_n, rb, rc]
    rw [hb1, hc1, e2]
    simp (disch := omega) only [nI_lit, nI_add, pk_mul, nI_clamp, nI_leI, nI_ltI, nI_eq, nI_t0, nI_le0, nI_e0, nI_0le, nI_lt0]
    rw [if_neg (by omega), if_neg (by omega)]
    by_cases z : pC f p i = 0
    · rw [if_pos (by omega)]
      exact goOn (by rw [z, Nat.mul_zero]; omega)
    · rw [if_neg (by omega)]
      by_cases y : (pB f p i - lo) * pC f p i ≤ left
      · rw [if_pos y]
        exact goOn y
      · rw [if_neg y, dvi_n (by omega) (by omega), pk_div' (by omega) (by omega) (by omega)]
        have hd : left / pC f p i < pB f p i - lo := (Nat.div_lt_iff_lt_mul (by omega)).mpr (by omega)
        obtain ⟨Q, hQ⟩ : ∃ Q, left / pC f p i = Q := ⟨_, rfl⟩
        rw [hQ] at hd ⊢
        refine ⟨lo + Q, by rw [nI_add], by omega, by omega, fun v g1 g2 => ?_, Or.inr ?_⟩
        · rw [key, low v (by omega), Nat.min_eq_left (by omega)]
          have := divmul (x := v - lo) (c := pC f p i) (l := left) (by omega) (by rw [hQ]; omega)
          omega
        · rw [key, Nat.min_eq_left (by omega)]
          have := divmul' (x := lo + Q + 1 - lo) (c := pC f p i) (l := left) (by omega) (by rw [hQ]; omega)
          omega
def mostW (b c : Nat → Nat) (R left lo i d V : Nat) : Prop := lo ≤ V ∧ V < 200000000 ∧ (∀ v, lo < v → v ≤ V → usW b c R v i d ≤ left) ∧ (9999 ≤ V ∨ left < usW b c R (V + 1) i d)
theorem maxN {u v : Nat} {inst : Decidable (v < u)} : (@ite Int32 (v < u) inst (nI u) (nI v)) = nI (max v u) := by
  split
  · rw [Nat.max_eq_right (by omega)]
  · rw [Nat.max_eq_left (by omega)]
theorem c_mostW {M : Mem} {f : Nat → Int32} {q p n left : Nat} (hR : RP q p M f) (hI : IP f p) (hle : left ≤ 99999999) : ∀ (d k i lo : Nat), i + d = pT f p → d < k → lo ≤ 9999 → (0 < d → lo < pB f p i) → ∃ V, mX7_mostWhole_c4 n k q (nI left) (nI lo) (nI i) M = some (nI V) ∧ mostW (pB f p) (pC f p) (pR f p) left lo i d V
  | d, 0, _, _, _, h, _, _ => absurd h (Nat.not_lt_zero _)
  | 0, k + 1, i, lo, e, h, hl, hb => by
    obtain ⟨r0, r1, r2, r3, r4, r5, r6, r7, r8⟩ := hR
    obtain ⟨i0, i1, i2, i3, i4, i5, i6, i7, i8, i9, i10⟩ := hI
    have h2 := i2.1; have h3 := i3.1; have h2' := i2.2; have h3' := i3.2
    unfold mX7_mostWhole_c4
    rw [r2, h2, r3, h3]
    simp (disch := omega) only [nI_lit, nI_add, pk_mul, nI_clamp, nI_leI, nI_ltI, nI_eq, nI_t0, nI_le0, nI_e0, nI_0le, nI_lt0]
    rw [if_pos (by omega)]
    by_cases z : pR f p = 0
    · refine ⟨9999, ?_, hl, by omega, fun v h1 h2 => ?_, Or.inl (by omega)⟩
      · rw [z, if_pos (by decide)]
      · rw [usW_0, z, Nat.mul_zero]; omega
    · have hd : left / pR f p ≤ left := Nat.div_le_self _ _
      obtain ⟨Q, hQ⟩ : ∃ Q, left / pR f p = Q := ⟨_, rfl⟩
      rw [hQ] at hd
      refine ⟨max lo Q, ?_, by omega, by omega, fun v h1 h2 => ?_, Or.inr ?_⟩
      · rw [if_neg (by omega), dvi_n (by omega) (by omega), pk_div' (by omega) (by omega) (by omega), hQ]
        simp (disch := omega) only [nI_ltI, maxN]
      · rw [usW_0]; exact divmul (by omega) (by rw [hQ]; omega)
      · rw [usW_0]; exact divmul' (by omega) (by rw [hQ]; omega)
  | d + 1, k + 1, i, lo, e, h, hl, hb => by
    have hR' := hR; have hI' := hI
    obtain ⟨r0, r1, r2, r3, r4, r5, r6, r7, r8⟩ := hR
    obtain ⟨i0, i1, i2, i3, i4, i5, i6, i7, i8, i9, i10⟩ := hI
    have h2 := i2.1; have h3 := i3.1; have h2' := i2.2; have h3' := i3.2
    have hb0 := (i7 i (by omega)).1; have hc := (i7 i (by omega)).2
    have hb1 := hb0.1; have hb2 := hb0.2; have hc1 := hc.1; have hc2 := hc.2
    have rb := (r7 i (by omega)).1; have rc := (r7 i (by omega)).2
    have hlo := hb (by omega)
    have hprod : pB f p i * pC f p i ≤ 9999 * 99 := Nat.mul_le_mul (by omega) hc2
    have hdl : left / pC f p i ≤ left := Nat.div_le_self _ _
    have key : ∀ v, usW (pB f p) (pC f p) (pR f p) v i (d + 1) = if v ≤ pB f p i then v * pC f p i else usW (pB f p) (pC f p) (pR f p) v (i + 1) d := fun v => usW_s _ _ _ _ _ _
    have goOn : pB f p i * pC f p i ≤ left → ∃ V, mX7_mostWhole_c4 n k q (nI left) (nI (pB f p i)) (nI (i + 1)) M = some (nI V) ∧ mostW (pB f p) (pC f p) (pR f p) left lo i (d + 1) V := by
      intro hfull
      obtain ⟨V, v1, v2, v3, v4, v5⟩ := c_mostW hR' hI' hle (n := n) d k (i + 1) (pB f p i) (by omega) (by omega) (by omega) (fun hd => i9 i (by omega))
      refine ⟨V, v1, by omega, v3, fun v g1 g2 => ?_, ?_⟩
      · rw [key]
        split
        · rename_i y
          have : v * pC f p i ≤ pB f p i * pC f p i := Nat.mul_le_mul_right _ y
          omega
        · exact v4 v (by omega) g2
      · rcases v5 with v5 | v5
        · exact Or.inl v5
        · refine Or.inr ?_
          rw [key, if_neg (by omega)]
          exact v5
    unfold mX7_mostWhole_c4
    rw [r2, h2]
    simp (disch := omega) only [nI_lit, nI_add, pk_mul, nI_clamp, nI_leI, nI_ltI, nI_eq, nI_t0, nI_le0, nI_e0, nI_0le, nI_lt0, chk_n, rb, rc]
    rw [hb1, hc1]
    simp (disch := omega) only [nI_lit, nI_add, pk_mul, nI_clamp, nI_leI, nI_ltI, nI_eq, nI_t0, nI_le0, nI_e0, nI_0le, nI_lt0]
    rw [if_neg (by omega), if_neg (by omega)]
    by_cases z : pC f p i = 0
    · rw [if_pos (by omega)]
      exact goOn (by rw [z, Nat.mul_zero]; omega)
    · rw [if_neg (by omega)]
      by_cases y : pB f p i * pC f p i ≤ left
      · rw [if_pos y]
        exact goOn y
      · rw [if_neg y, dvi_n (by omega) (by omega), pk_div' (by omega) (by omega) (by omega)]
        have hd : left / pC f p i < pB f p i := (Nat.div_lt_iff_lt_mul (by omega)).mpr (by omega)
        obtain ⟨Q, hQ⟩ : ∃ Q, left / pC f p i = Q := ⟨_, rfl⟩
        rw [hQ] at hd hdl ⊢
        refine ⟨max lo Q, by simp (disch := omega) only [nI_ltI, maxN], by omega, by omega, fun v g1 g2 => ?_, Or.inr ?_⟩
        · rw [key, if_pos (by omega)]
          exact divmul (x := v) (c := pC f p i) (l := left) (by omega) (by rw [hQ]; omega)
        · rw [key, if_pos (by omega)]
          exact divmul' (x := max lo Q + 1) (c := pC f p i) (l := left) (by omega) (by rw [hQ]; omega)
/-- one by one -/
theorem m_units {M : Mem} {f : Nat → Int32} {p n cents X : Nat} (hf : M 209 = f) (hp : p < 6) (hI : IP f p) (hn : 200 ≤ n) (hc : cents ≤ 99999999) (hX : X ≤ 9999) (h1 : ∀ j, j ≤ X → US f p j ≤ cents) (h2 : X = 9999 ∨ cents < US f p (X + 1)) : ∀ (d k u : Nat), u + d = X → d < k → mX11_units_c21 n k (nI p) (nI cents) (nI u) M = some (nI X)
  | d, 0, _, _, h => absurd h (Nat.not_lt_zero _)
  | 0, k + 1, u, e, h => by
    have e : u = X := e
    subst e
    unfold mX11_units_c21
    simp (disch := omega) only [nI_lit, nI_add, pk_mul, nI_clamp, nI_leI, nI_ltI, nI_eq, nI_t0, nI_le0, nI_e0, nI_0le, nI_lt0]
    by_cases z : 9999 ≤ u
    · rw [if_pos z]
    · have := US_le hI (u := u + 1) (by omega)
      rw [if_neg z, m_usage hf hp hI (by omega) hn]
      simp (disch := omega) only [bnp_some, nI_ltI]
      rw [if_pos (by omega)]
  | d + 1, k + 1, u, e, h => by
    have ih := m_units hf hp hI hn hc hX h1 h2 d k (u + 1) (by omega) (by omega)
    have h3 := h1 (u + 1) (by omega)
    unfold mX11_units_c21
    simp (disch := omega) only [nI_lit, nI_add, pk_mul, nI_clamp, nI_leI, nI_ltI, nI_eq, nI_t0, nI_le0, nI_e0, nI_0le, nI_lt0]
    rw [if_neg (by omega), m_usage hf hp hI (by omega) hn]
    simp (disch := omega) only [bnp_some, nI_ltI]
    rw [if_neg (by omega)]
    exact ih
theorem US_0 {f : Nat → Int32} {p u : Nat} (hI : IP f p) (hu : u ≤ pF f p) : US f p u = 0 := by
  obtain ⟨i0, i1, i2, i3, i4, i5, i6, i7, i8, i9, i10⟩ := hI
  unfold US
  rw [show u - pF f p = 0 by omega]
  split
  · have h : ∀ (d i : Nat), usW (pB f p) (pC f p) (pR f p) 0 i d = 0 := by
      intro d
      induction d with
      | zero => intro i; rw [usW_0, Nat.zero_mul]
      | succ d ih => intro i; rw [usW_s, Nat.zero_mul, ih]; split <;> rfl
    exact h _ _
  · exact usA_low (pT f p) 0 0 (Nat.le_refl _) (fun j _ hj => Nat.le_of_lt (i9 j (by omega))) (fun _ => Nat.zero_le _)
theorem q_units {M N : Mem} {f : Nat → Int32} (hRT : RT 5 M f) (hf : N 209 = f) (hIT : IT f) {n : Nat} (hn : 20000 ≤ n) (a b : Int32) : ∃ r, mX10_units n a b M = some r ∧ mX11_units n a b N = some r := by
  unfold mX10_units mX11_units
  rcases isPlan_c a with ⟨p, -, hp, rfl, e1, e2⟩ | ⟨e1, e2⟩
  · have hp6 : p < 6 := by omega
    have hR := hRT.2.2.2.2.2 p hp6
    have hI := hIT.2.2.2.2.2 p hp6
    simp only [e1, e2, bnp_some]
    rcases in_c b 0 99999999 100000000 0 99999999 rfl rfl rfl (by decide) (by decide) with ⟨c, -, c2, rfl, c3, c4, c5, c6⟩ | ⟨c6, c3⟩
    · have hF := hI.2.1
      have hT := hI.2.2.1.2
      obtain ⟨V, hV, hX⟩ : ∃ V, mX7_mostUnits n (5 + 4 + 5 * p) (nI c) M = some (nI (min 9999 (pF f p + V))) ∧ (∀ j, j ≤ min 9999 (pF f p + V) → US f p j ≤ c) ∧ (min 9999 (pF f p + V) = 9999 ∨ c < US f p (min 9999 (pF f p + V) + 1)) := by
        unfold mX7_mostUnits mX7_mostAdded mX7_mostWhole
        rw [hR.2.2.2.2.1, hR.2.1, hI.2.2.2.2.1.1, hF.1]
        have hW := hI.2.2.2.2.1.2
        rcases (show pW f p = 0 ∨ pW f p = 1 by omega) with q | q
        · obtain ⟨V, v1, v2, v3, v4, v5⟩ := c_mostA hR hI (n := n) (pT f p) n 0 0 c (by omega) (by omega) (by omega) c2 (fun _ => Nat.zero_le _)
          have hus : ∀ u, US f p u = usA (pB f p) (pC f p) (pR f p) (u - pF f p) 0 0 (pT f p) := by
            intro u; unfold US; rw [if_neg (by rw [hI.2.2.2.2.1.1, q]; decide)]
          refine ⟨V, ?_, fun j hj => ?_, ?_⟩
          · rw [q, if_pos (show nI 0 = (0 : Int32) from rfl)]
            simp only [nI_lit]
            rw [v1]
            have hF2 := hF.2
            simp (disch := omega) only [bnp_some, nI_add, nI_ltI, minM2]
            congr 1
            by_cases z : pF f p + V < 9999
            · rw [if_pos z, Nat.min_eq_right (by omega)]
            · rw [if_neg z, Nat.min_eq_left (by omega)]
          · rw [hus]; exact v4 _ (Nat.zero_le _) (by omega)
          · rcases v5 with v5 | v5
            · left; omega
            · by_cases z : pF f p + V < 9999
              · right
                rw [Nat.min_eq_right (by omega), hus, show pF f p + V + 1 - pF f p = V + 1 by omega]
                exact v5
              · left; omega
        · obtain ⟨V, v1, v2, v3, v4, v5⟩ := c_mostW hR hI c2 (n := n) (pT f p) n 0 0 (by omega) (by omega) (by omega) (fun h => hI.2.2.2.2.2.2.2.2.2.2 0 h)
          have hus : ∀ u, US f p u = usW (pB f p) (pC f p) (pR f p) (u - pF f p) 0 (pT f p) := by
            intro u; unfold US; rw [if_pos (by rw [hI.2.2.2.2.1.1, q])]
          refine ⟨V, ?_, fun j hj => ?_, ?_⟩
          · rw [q, if_neg (by decide)]
            simp only [nI_lit]
            rw [v1]
            have hF2 := hF.2
            simp (disch := omega) only [bnp_some, nI_add, nI_ltI]
            congr 1
            by_cases z : pF f p + V < 9999
            · rw [if_pos z, Nat.min_eq_right (by omega)]
            · rw [if_neg z, Nat.min_eq_left (by omega)]
          · rcases Nat.lt_or_ge (pF f p) j with z | z
            · rw [hus]; exact v4 _ (by omega) (by omega)
            · rw [US_0 hI z]; exact Nat.zero_le _
          · rcases v5 with v5 | v5
            · left; omega
            · by_cases z : pF f p + V < 9999
              · right
                rw [Nat.min_eq_right (by omega), hus, show pF f p + V + 1 - pF f p = V + 1 by omega]
                exact v5
              · left; omega
      have hm := m_units (n := n) hf hp6 hI (by omega) c2 (X := min 9999 (pF f p + V)) (by omega) hX.1 hX.2 (min 9999 (pF f p + V)) n 0 (by omega) (by omega)
      refine ⟨nI (min 9999 (pF f p + V)), ?_, ?_⟩
      · rw [if_neg (by decide), if_neg c3, if_pos (Int32.not_lt.mp c4), c_termsOf hp6]
        simp only [bnp_some]
        rw [hV]; rfl
      · rw [if_neg (by decide), c6]
        simp only [bnp_some]
        rw [if_neg (by decide)]
        simp only [nI_lit]
        exact hm
    · refine ⟨-1, ?_, ?_⟩
      · rw [if_neg (by decide)]
        rcases c3 with c3 | ⟨c3, c4, c5⟩
        · rw [if_pos c3]
        · rw [if_neg c3, if_neg (Int32.not_le.mpr c4)]
      · rw [if_neg (by decide), c6]; rfl
  · simp [e1, e2, bnp_some]
