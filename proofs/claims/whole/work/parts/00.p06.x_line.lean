/-! the LINE of an ENTRY -/
def LL (M0 N0 : Mem) (T : Nat) (M N : Mem) : Prop :=
  T ≤ 80 ∧ M 205 2 = nI T ∧ N 207 19 = nI T ∧ (∀ i, i < T → ∃ v, v < 128 ∧ M 206 i = nI v ∧ N 216 i = nI v) ∧ (∀ o k, (o < 205 ∨ (o = 205 ∧ k ≠ 2)) → M o k = M0 o k) ∧ (∀ o k, o ≠ 216 → (o = 207 → k ≠ 19) → N o k = N0 o k)
theorem nar_b : ∀ v, v < 128 → vp_nar .byte (Int8.toInt32 (Int32.toInt8 (nI v))) = nI v := by decide +kernel
theorem and_b : ∀ v, v < 128 → nI v &&& 255 = nI v := by decide +kernel
theorem L_put {M0 N0 M N : Mem} {T v : Nat} (h : LL M0 N0 T M N) (hT : T < 80) (hv : v < 128) : ∃ M' N', mX6_put (nI v) M = some M' ∧ mX11_says (nI v) N = some N' ∧ LL M0 N0 (T + 1) M' N' := by
  obtain ⟨h0, h1, h2, h3, h4, h5⟩ := h
  unfold mX6_put mX11_says
  rw [h1, h2, nar_b v hv, if_neg (nI_pos (by omega)), if_neg (show ¬ (80 : Int32) ≤ nI T by rw [show (80 : Int32) = nI 80 from rfl, nI_leI (by omega) (by omega)]; omega), chk_n hT (by decide), chk_n hT (by decide), nI_clamp (by omega)]
  simp only [lt_eq]
  rw [u2o _ _ (by decide), u2o _ _ (by decide), h1, h2, show (1 : Int32) = nI 1 from rfl, nI_add]
  refine ⟨_, _, rfl, rfl, by omega, u2s _ _ _ _, u2s _ _ _ _, fun i hi => ?_, fun o k g => ?_, fun o k g1 g2 => ?_⟩
  · rw [show upd2 (upd2 M 206 T (nI v)) 205 2 (nI (T + 1)) 206 i = upd2 M 206 T (nI v) 206 i from u2o _ _ (by decide), show upd2 (upd2 N 216 T (nI v)) 207 19 (nI (T + 1)) 216 i = upd2 N 216 T (nI v) 216 i from u2o _ _ (by decide)]
    by_cases q : i = T
    · subst q; exact ⟨v, hv, u2s _ _ _ _, u2s _ _ _ _⟩
    · rw [u2k _ _ q, u2k _ _ q]; exact h3 i (by omega)
  · have e : upd2 (upd2 M 206 T (nI v)) 205 2 (nI (T + 1)) o k = upd2 M 206 T (nI v) o k := by
      rcases g with g | ⟨g, g2⟩
      · exact u2o _ _ (by omega)
      · subst g; exact u2k _ _ g2
    rw [e, u2o _ _ (by omega)]; exact h4 o k g
  · have e : upd2 (upd2 N 216 T (nI v)) 207 19 (nI (T + 1)) o k = upd2 N 216 T (nI v) o k := by
      by_cases q : o = 207
      · subst q; exact u2k _ _ (g2 rfl)
      · exact u2o _ _ q
    rw [e, u2o _ _ g1]; exact h5 o k g1 g2
/-! numbers in digits -/
def uu (r : Nat) : Nat := 10 ^ r / 10
theorem uu_s (r : Nat) : uu (r + 1) = 10 ^ r := by
  unfold uu; rw [Nat.pow_succ]; exact Nat.mul_div_cancel _ (by decide)
theorem uu_d (r : Nat) : uu (r + 1) / 10 = uu r := by rw [uu_s]; rfl
theorem p10_le {r : Nat} (h : r ≤ 9) : 10 ^ r ≤ 1000000000 := by
  have := Nat.pow_le_pow_right (n := 10) (by decide) h
  exact Nat.le_trans this (by decide)
theorem p10_pos (r : Nat) : 0 < 10 ^ r := Nat.pow_pos (by decide)
theorem L_dig {M0 N0 : Mem} {n v : Nat} (hv : v < 2 ^ 31) : ∀ (r k i i' T : Nat) (M N : Mem), r < k → i + r ≤ 10 → i' + r ≤ 10 → r ≤ 9 → T + r ≤ 80 → LL M0 N0 T M N →
    ∃ M' N', mX6_putNumber_c40 n k (nI v) (nI (uu r)) (nI i) M = some M' ∧ mX11_saysNumber_c53 n k (nI v) (nI (i' + r)) (nI (uu r)) (nI i') N = some N' ∧ LL M0 N0 (T + r) M' N'
  | r, 0, _, _, _, _, _, h, _, _, _, _, _ => absurd h (Nat.not_lt_zero _)
  | 0, k + 1, i, i', T, M, N, h, h1, h2, h3, h4, hL => by
    unfold mX6_putNumber_c40 mX11_saysNumber_c53
    rw [if_pos (show nI (i' + 0) ≤ nI i' from Int32.le_refl _), if_pos (show nI (uu 0) ≤ (0 : Int32) by decide)]
    refine ⟨M, N, ?_, rfl, hL⟩
    split <;> rfl
  | r + 1, k + 1, i, i', T, M, N, h, h1, h2, h3, h4, hL => by
    have hu := uu_s r
    have hp := p10_le (r := r) (by omega)
    have hq := p10_pos r
    have hd := uu_d r
    have e1 : nI v / nI (uu (r + 1)) = nI (v / 10 ^ r) := by rw [hu]; exact pk_div hv hq (by omega)
    have hdv : v / 10 ^ r < 2 ^ 31 := Nat.lt_of_le_of_lt (Nat.div_le_self _ _) hv
    have e2 : (48 : Int32) + (nI (v / 10 ^ r) - nI (v / 10 ^ r) / (10 : Int32) * (10 : Int32)) = nI (48 + v / 10 ^ r % 10) := by
      rw [show (10 : Int32) = nI 10 from rfl, pk_rem hdv (by decide) (by decide), show (48 : Int32) = nI 48 from rfl, nI_add]
    have e3 : nI (uu (r + 1)) / (10 : Int32) = nI (uu r) := by rw [show (10 : Int32) = nI 10 from rfl, pk_div (by omega) (by decide) (by decide), hd]
    obtain ⟨M1, N1, p1, p2, p3⟩ := L_put (v := 48 + v / 10 ^ r % 10) hL (by omega) (by have := Nat.mod_lt (v / 10 ^ r) (show 10 > 0 by decide); omega)
    obtain ⟨M2, N2, q1, q2, q3⟩ := L_dig (n := n) hv r k (i + 1) (i' + 1) (T + 1) M1 N1 (by omega) (by omega) (by omega) (by omega) (by omega) p3
    refine ⟨M2, N2, ?_, ?_, by rw [show T + (r + 1) = T + 1 + r by omega]; exact q3⟩
    · unfold mX6_putNumber_c40
      rw [if_neg (show ¬ (10 : Int32) ≤ nI i by rw [show (10 : Int32) = nI 10 from rfl, nI_leI (by omega) (by omega)]; omega), if_neg (show ¬ nI (uu (r + 1)) ≤ 0 by rw [show (0 : Int32) = nI 0 from rfl, nI_leI (by omega) (by omega)]; omega), dvi_n (by omega) (by omega), e1, e2, e3, p1, show nI i + (1 : Int32) = nI (i + 1) from nI_add ..]
      exact q1
    · unfold mX11_saysNumber_c53
      rw [if_neg (show ¬ nI (i' + (r + 1)) ≤ nI i' by rw [nI_leI (by omega) (by omega)]; omega), dvi_n (by omega) (by omega), e1, e2, e3, p2, show nI i' + (1 : Int32) = nI (i' + 1) from nI_add .., show i' + (r + 1) = i' + 1 + r by omega]
      exact q2
def Dg (v least : Nat) : Nat → Nat → Nat
  | t, 0 => t
  | t, d + 1 => if t < least ∨ 10 ^ t ≤ v then Dg v least (t + 1) d else t
theorem Dg_s (v least t d : Nat) : Dg v least t (d + 1) = if t < least ∨ 10 ^ t ≤ v then Dg v least (t + 1) d else t := rfl
theorem Dg_le {v least m : Nat} (hv : v < 10 ^ m) (hl : least ≤ m) : ∀ (d t : Nat), t ≤ m → t ≤ Dg v least t d ∧ Dg v least t d ≤ m
  | 0, t, h => ⟨Nat.le_refl _, h⟩
  | d + 1, t, h => by
    rw [Dg_s]
    split
    · next q =>
      have : t < m := by
        rcases q with q | q
        · omega
        · rcases Nat.lt_or_ge t m with z | z
          · exact z
          · have := Nat.pow_le_pow_right (n := 10) (by decide) z
            omega
      have := Dg_le hv hl d (t + 1) this
      omega
    · exact ⟨Nat.le_refl _, h⟩
theorem Dg_skip {v least : Nat} : ∀ (e t d : Nat), t + e = least → Dg v least t (e + d) = Dg v least least d
  | 0, t, d, h => by
    have : t = least := by omega
    rw [this, Nat.zero_add]
  | e + 1, t, d, h => by
    rw [show e + 1 + d = (e + d) + 1 by omega, Dg_s, if_pos (Or.inl (by omega)), Dg_skip e (t + 1) d (by omega)]
theorem p10_s {t : Nat} (h : 1 ≤ t) : 10 ^ (t - 1) * 10 = 10 ^ t := by
  rw [← Nat.pow_succ]; congr 1; omega
theorem c_num_go {n v least : Nat} {M : Mem} (hv : v < 10 ^ 8) (hl : least ≤ 8) : ∀ (d k t : Nat), t + d = 8 → d < k → 1 ≤ t → mX6_putNumber_c5 n k (nI v) (nI least) (nI (10 ^ (t - 1))) (nI t) M = mX6_putNumber_c40 n n (nI v) (nI (10 ^ (Dg v least t d - 1))) 0 M
  | d, 0, _, _, h, _ => absurd h (Nat.not_lt_zero _)
  | 0, k + 1, t, e, h, ht => by
    have ht8 : t = 8 := by omega
    subst ht8
    have h8 : v < 100000000 := hv
    unfold mX6_putNumber_c5
    rw [if_neg (show ¬ (10 : Int32) ≤ nI 8 by decide), if_neg (show ¬ nI 8 < nI least by rw [nI_ltI (by omega) (by omega)]; omega), show (10 : Int32) = nI 10 from rfl, pk_div (by omega) (by decide) (by decide), if_pos (show nI (v / 10) < nI (10 ^ (8 - 1)) by rw [nI_ltI (by omega) (by decide)]; omega)]
    rfl
  | d + 1, k + 1, t, e, h, ht => by
    have h8 : v < 100000000 := hv
    have ih := c_num_go (n := n) (M := M) hv hl d k (t + 1) (by omega) (by omega) (by omega)
    have hp := p10_le (r := t - 1) (by omega)
    have hp2 := p10_s ht
    unfold mX6_putNumber_c5
    rw [if_neg (show ¬ (10 : Int32) ≤ nI t by rw [show (10 : Int32) = nI 10 from rfl, nI_leI (by omega) (by omega)]; omega), show (10 : Int32) = nI 10 from rfl, pk_div (by omega) (by decide) (by decide), pk_mul, hp2, show nI t + (1 : Int32) = nI (t + 1) from nI_add .., Dg_s]
    rw [show t + 1 - 1 = t by omega] at ih
    by_cases q : t < least
    · rw [if_pos (show nI t < nI least by rw [nI_ltI (by omega) (by omega)]; exact q), if_pos (Or.inl q), ih]
    · rw [if_neg (show ¬ nI t < nI least by rw [nI_ltI (by omega) (by omega)]; exact q)]
      by_cases q2 : 10 ^ t ≤ v
      · rw [if_neg (show ¬ nI (v / 10) < nI (10 ^ (t - 1)) by rw [nI_ltI (by omega) (by omega)]; omega), if_pos (Or.inr q2), ih]
      · rw [if_pos (show nI (v / 10) < nI (10 ^ (t - 1)) by rw [nI_ltI (by omega) (by omega)]; omega), if_neg (by omega)]
theorem m_num_go {n v least : Nat} {N : Mem} (hv : v < 10 ^ 8) : ∀ (d k t : Nat), t + d = 8 → d < k → 1 ≤ t → least ≤ t → mX11_saysNumber_c27 n k (nI v) (nI t) (nI (10 ^ (t - 1))) N = mX11_saysNumber_c53 n n (nI v) (nI (Dg v least t d)) (nI (10 ^ (Dg v least t d - 1))) 0 N
  | d, 0, _, _, h, _, _ => absurd h (Nat.not_lt_zero _)
  | 0, k + 1, t, e, h, ht, hl => by
    have ht8 : t = 8 := by omega
    subst ht8
    have h8 : v < 100000000 := hv
    unfold mX11_saysNumber_c27
    rw [dvi_n (show 0 < 10 ^ (8 - 1) by decide) (by decide), pk_div (by omega) (by decide) (by decide), if_pos (show nI (v / 10 ^ (8 - 1)) ≤ (9 : Int32) by rw [show (9 : Int32) = nI 9 from rfl, nI_leI (by omega) (by omega)]; omega)]
    rfl
  | d + 1, k + 1, t, e, h, ht, hl => by
    have h8 : v < 100000000 := hv
    have ih := m_num_go (n := n) (N := N) (least := least) hv d k (t + 1) (by omega) (by omega) (by omega) (by omega)
    have hp := p10_le (r := t - 1) (by omega)
    have hq := p10_pos (t - 1)
    have hp2 := p10_s ht
    have hdv : v / 10 ^ (t - 1) ≤ v := Nat.div_le_self _ _
    have hiff : v / 10 ^ (t - 1) ≤ 9 ↔ v < 10 ^ t := by
      rw [← Nat.lt_succ_iff, Nat.div_lt_iff_lt_mul hq, Nat.mul_comm, hp2]
    unfold mX11_saysNumber_c27
    rw [dvi_n hq (by omega), pk_div (by omega) hq (by omega), show (10 : Int32) = nI 10 from rfl, pk_mul, hp2, show nI t + (1 : Int32) = nI (t + 1) from nI_add .., Dg_s]
    rw [show t + 1 - 1 = t by omega] at ih
    by_cases q2 : 10 ^ t ≤ v
    · rw [if_neg (show ¬ nI (v / 10 ^ (t - 1)) ≤ (9 : Int32) by rw [show (9 : Int32) = nI 9 from rfl, nI_leI (by omega) (by omega), hiff]; omega), if_pos (Or.inr q2), ih]
    · rw [if_pos (show nI (v / 10 ^ (t - 1)) ≤ (9 : Int32) by rw [show (9 : Int32) = nI 9 from rfl, nI_leI (by omega) (by omega), hiff]; omega), if_neg (by omega)]
theorem m_pre_go {n v least : Nat} {N : Mem} (hl : least ≤ 8) : ∀ (e k t : Nat), t + e = least → e < k → 1 ≤ t → mX11_saysNumber_c8 n k (nI v) (nI least) (nI least) (nI (10 ^ (t - 1))) (nI t) N = mX11_saysNumber_c27 n n (nI v) (nI least) (nI (10 ^ (least - 1))) N
  | e, 0, _, _, h, _ => absurd h (Nat.not_lt_zero _)
  | 0, k + 1, t, e, h, ht => by
    have : t = least := by omega
    subst this
    unfold mX11_saysNumber_c8
    rw [if_pos (Int32.le_refl _)]
  | e + 1, k + 1, t, e0, h, ht => by
    have ih := m_pre_go (n := n) (v := v) (N := N) hl e k (t + 1) (by omega) (by omega) (by omega)
    have hp2 := p10_s ht
    unfold mX11_saysNumber_c8
    rw [if_neg (show ¬ nI least ≤ nI t by rw [nI_leI (by omega) (by omega)]; omega), show (10 : Int32) = nI 10 from rfl, pk_mul, hp2, show nI t + (1 : Int32) = nI (t + 1) from nI_add ..]
    rw [show t + 1 - 1 = t by omega] at ih
    exact ih
theorem L_num {M0 N0 M N : Mem} {n v least m T : Nat} (h : LL M0 N0 T M N) (hn : 20000 ≤ n) (hv : v < 10 ^ m) (hl : least ≤ m) (hm : m ≤ 8) (hl1 : 1 ≤ least) (hT : T + m ≤ 80) : ∃ T' M' N', T' ≤ T + m ∧ mX6_putNumber n (nI v) (nI least) M = some M' ∧ mX11_saysNumber n (nI v) (nI least) N = some N' ∧ LL M0 N0 T' M' N' := by
  have hv8 : v < 10 ^ 8 := Nat.lt_of_lt_of_le hv (Nat.pow_le_pow_right (by decide) hm)
  have h8 : v < 100000000 := hv8
  obtain ⟨d1, d2⟩ := Dg_le hv hl 7 1 (by omega)
  have c := c_num_go (n := n) (M := M) hv8 (show least ≤ 8 by omega) 7 n 1 rfl (by omega) (Nat.le_refl _)
  have m1 := m_pre_go (n := n) (v := v) (N := N) (show least ≤ 8 by omega) (least - 1) n 1 (by omega) (by omega) (Nat.le_refl _)
  have m2 := m_num_go (n := n) (N := N) (least := least) hv8 (8 - least) n least (by omega) (by omega) hl1 (Nat.le_refl _)
  have hsk := Dg_skip (v := v) (least := least) (least - 1) 1 (8 - least) (by omega)
  rw [show least - 1 + (8 - least) = 7 by omega] at hsk
  rw [← hsk] at m2
  obtain ⟨D, hD⟩ : ∃ D, D = Dg v least 1 7 := ⟨_, rfl⟩
  rw [← hD] at c m2 d1 d2
  obtain ⟨M', N', q1, q2, q3⟩ := L_dig (n := n) (v := v) (show v < 2 ^ 31 by omega) D n 0 0 T M N (by omega) (by omega) (by omega) (by omega) (by omega) h
  have hu : uu D = 10 ^ (D - 1) := by
    obtain ⟨D', rfl⟩ : ∃ D', D = D' + 1 := ⟨D - 1, by omega⟩
    exact uu_s D'
  rw [hu] at q1 q2
  rw [Nat.zero_add] at q2
  refine ⟨T + D, M', N', by omega, ?_, ?_, q3⟩
  · exact c.trans q1
  · exact (m1.trans m2).trans q2
/-! dates, words -/
theorem LL_cal {M0 N0 M N : Mem} {T : Nat} (h : LL M0 N0 T M N) (hC : CalC M0) (hM : CalM N0) : CalC M ∧ CalM N :=
  ⟨fun m hm => by rw [h.2.2.2.2.1 3 m (by omega)]; exact hC m hm, fun m hm => by rw [h.2.2.2.2.2 208 m (by decide) (fun h => absurd h (by decide))]; exact hM m hm⟩
theorem L_date {M0 N0 M N : Mem} {n d T : Nat} (h : LL M0 N0 T M N) (hC : CalC M0) (hM : CalM N0) (hn : 20000 ≤ n) (hd : d ≤ 3652) (hT : T + 10 ≤ 80) : ∃ T' M' N', T' ≤ T + 10 ∧ mX6_putDate n (nI d) M = some M' ∧ mX11_saysDate n (nI d) N = some N' ∧ LL M0 N0 T' M' N' := by
  obtain ⟨s1, s2, s3, s4⟩ := mo_spec hd
  have hstep := ms_stepB (mo d) (by omega)
  have hr := ms_rngB (mo d) (by omega)
  obtain ⟨w, hw⟩ : ∃ w : Nat, (w : Int) = (d : Int) - ms (mo d) + 1 := ⟨((d : Int) - ms (mo d) + 1).toNat, by omega⟩
  have ey : (2023 : Int32) + (nI (mo d) + (11 : Int32)) / (12 : Int32) = nI (2023 + (mo d + 11) / 12) := by
    rw [nI_lit 2023, show (11 : Int32) = nI 11 from rfl, show (12 : Int32) = nI 12 from rfl, nI_add, pk_div (by omega) (by decide) (by decide), nI_add]
  have em : ((nI (mo d) + (11 : Int32)) - (nI (mo d) + (11 : Int32)) / (12 : Int32) * (12 : Int32)) + (1 : Int32) = nI ((mo d + 11) % 12 + 1) := by
    rw [show (11 : Int32) = nI 11 from rfl, show (12 : Int32) = nI 12 from rfl, show (1 : Int32) = nI 1 from rfl, nI_add, pk_rem (by omega) (by decide) (by decide), nI_add]
  have ed : (nI d - iI (ms (mo d))) + (1 : Int32) = nI w := by
    rw [show (1 : Int32) = iI 1 from rfl, iI_n, iI_sub, iI_add, iI_n, hw]
  have cy : ∀ M, CalC M → mX3_yearOf n (nI d) M = some (nI (2023 + (mo d + 11) / 12)) := fun M hC => by
    unfold mX3_yearOf; rw [cal_mw hC hd (by omega)]; simp only [bnp_some]; rw [ey]
  have cm : ∀ M, CalC M → mX3_monthOf n (nI d) M = some (nI ((mo d + 11) % 12 + 1)) := fun M hC => by
    unfold mX3_monthOf; rw [cal_mw hC hd (by omega)]; simp only [bnp_some]; rw [em]
  have cd : ∀ M, CalC M → mX3_dayOfMonth n (nI d) M = some (nI w) := fun M hC => by
    unfold mX3_dayOfMonth; rw [cal_mw hC hd (by omega)]; simp only [bnp_some]; rw [chk_n (show mo d < 123 by omega) (by decide), nI_clamp (by omega), hC _ (by omega), ed]
  have my : ∀ N, CalM N → mX11_dateOf n (nI d) (0 : Int32) N = some (nI (2023 + (mo d + 11) / 12)) := fun N hM => by
    unfold mX11_dateOf mX11_yearOf; rw [cal_mo hM hd (by omega)]; simp only [bnp_some, if_true]; rw [ey]
  have mm : ∀ N, CalM N → mX11_dateOf n (nI d) (1 : Int32) N = some (nI ((mo d + 11) % 12 + 1)) := fun N hM => by
    unfold mX11_dateOf; rw [cal_mo hM hd (by omega)]; simp only [bnp_some, if_true]; rw [if_neg (show ¬ (1 : Int32) = 0 by decide), em]
  have md : ∀ N, CalM N → mX11_dateOf n (nI d) (2 : Int32) N = some (nI w) := fun N hM => by
    unfold mX11_dateOf; rw [cal_mo hM hd (by omega)]; simp only [bnp_some]; rw [if_neg (show ¬ (2 : Int32) = 0 by decide), if_neg (show ¬ (2 : Int32) = 1 by decide), chk_n (show mo d < 127 by omega) (by decide), nI_clamp (by omega), hM _ (by omega), ed]
  unfold mX6_putDate mX11_saysDate
  obtain ⟨hC1, hM1⟩ := LL_cal h hC hM
  rw [cy _ hC1, my _ hM1]
  simp only [bnp_some]
  obtain ⟨T1, M1, N1, l1, a1, a2, a3⟩ := L_num (n := n) (v := 2023 + (mo d + 11) / 12) (least := 4) (m := 4) h hn (by omega) (by decide) (by decide) (by decide) (by omega)
  rw [show (4 : Int32) = nI 4 from rfl, a1, a2]
  simp only [bnp_some]
  obtain ⟨M2, N2, b1, b2, b3⟩ := L_put (v := 45) a3 (by omega) (by decide)
  rw [show mX6_put (45 : Int32) M1 = _ from b1, show mX11_says (45 : Int32) N1 = _ from b2]
  simp only [bnp_some]
  obtain ⟨hC2, hM2⟩ := LL_cal b3 hC hM
  rw [cm _ hC2, mm _ hM2]
  simp only [bnp_some]
  obtain ⟨T3, M3, N3, l3, c1, c2, c3⟩ := L_num (n := n) (v := (mo d + 11) % 12 + 1) (least := 2) (m := 2) b3 hn (by omega) (by decide) (by decide) (by decide) (by omega)
  rw [show (2 : Int32) = nI 2 from rfl, c1, c2]
  simp only [bnp_some]
  obtain ⟨M4, N4, d1, d2, d3⟩ := L_put (v := 45) c3 (by omega) (by decide)
  rw [show mX6_put (45 : Int32) M3 = _ from d1, show mX11_says (45 : Int32) N3 = _ from d2]
  simp only [bnp_some]
  obtain ⟨hC4, hM4⟩ := LL_cal d3 hC hM
  rw [cd _ hC4, show mX11_dateOf n (nI d) (nI 2) N4 = _ from md _ hM4]
  simp only [bnp_some]
  obtain ⟨T5, M5, N5, l5, e1, e2, e3⟩ := L_num (n := n) (v := w) (least := 2) (m := 2) d3 hn (by omega) (by decide) (by decide) (by decide) (by omega)
  rw [e1, e2]
  exact ⟨T5, M5, N5, by omega, rfl, rfl, e3⟩
def putL : List Int32 → Mem → Option Mem
  | [], M => some M
  | v :: vs, M => bnp (mX6_put v M) fun M1 => putL vs M1
def sayL : List Int32 → Mem → Option Mem
  | [], M => some M
  | v :: vs, M => bnp (mX11_says v M) fun M1 => sayL vs M1
theorem L_list {M0 N0 : Mem} : ∀ (l : List Int32) (T : Nat) (M N : Mem), (∀ c ∈ l, ∃ v, v < 128 ∧ c = nI v) → T + l.length ≤ 80 → LL M0 N0 T M N → ∃ M' N', putL l M = some M' ∧ sayL l N = some N' ∧ LL M0 N0 (T + l.length) M' N'
  | [], T, M, N, _, _, h => ⟨M, N, rfl, rfl, h⟩
  | c :: l, T, M, N, hc, hT, h => by
    rw [List.length_cons] at hT
    obtain ⟨v, hv, rfl⟩ := hc c (List.mem_cons_self ..)
    obtain ⟨M1, N1, p1, p2, p3⟩ := L_put (v := v) h (by omega) hv
    obtain ⟨M2, N2, q1, q2, q3⟩ := L_list l (T + 1) M1 N1 (fun c h => hc c (List.mem_cons_of_mem _ h)) (by omega) p3
    refine ⟨M2, N2, ?_, ?_, ?_⟩
    · unfold putL; rw [p1]; exact q1
    · unfold sayL; rw [p2]; exact q2
    · rw [List.length_cons, show T + (l.length + 1) = T + 1 + l.length by omega]; exact q3
def by3 (i : Nat) : Int32 := (sByt.getD 3 []).getD i 0
def wlK : Nat → Nat → List Int32
  | _, 0 => []
  | i, d + 1 => if by3 i = 32 then wlK (i + 1) d else by3 i :: wlK (i + 1) d
theorem sL3 : sLen.getD 3 0 = 36 := rfl
theorem c_kind_go {n q : Nat} (hq : q ≤ 5) : ∀ (d k i : Nat) (M : Mem), i + d = 6 * q + 6 → d < k → mX6_putKind_c7 n k (nI (6 * q)) (nI i) M = putL (wlK i d) M
  | d, 0, _, _, _, h => absurd h (Nat.not_lt_zero _)
  | 0, k + 1, i, M, e, h => by
    unfold mX6_putKind_c7
    rw [if_neg (nI_pos (by omega)), show (6 : Int32) = nI 6 from rfl, nI_add, if_pos (show nI (6 * q + 6) ≤ nI i by rw [nI_leI (by omega) (by omega)]; omega)]; rfl
  | d + 1, k + 1, i, M, e, h => by
    have ih := fun M => c_kind_go (n := n) hq d k (i + 1) M (by omega) (by omega)
    unfold mX6_putKind_c7
    rw [if_neg (nI_pos (by omega)), show (6 : Int32) = nI 6 from rfl, nI_add, if_neg (show ¬ nI (6 * q + 6) ≤ nI i by rw [nI_leI (by omega) (by omega)]; omega), sL3, if_neg (show ¬ Int32.ofNat 36 ≤ nI i by rw [show Int32.ofNat 36 = nI 36 from rfl, nI_leI (by omega) (by omega)]; omega), chk_n (show i < 36 by omega) (by decide), chk_n (show i < 36 by omega) (by decide), nI_clamp (by omega), show nI i + (1 : Int32) = nI (i + 1) from nI_add ..]
    unfold wlK
    show (if by3 i = 32 then _ else bnp (mX6_put (by3 i) M) _) = _
    by_cases z : by3 i = 32
    · rw [if_pos z, if_pos z, ih]
    · rw [if_neg z, if_neg z]
      unfold putL
      congr 1
      funext M2
      exact ih M2
def slW (w : Int64) : Nat → List Int32
  | 0 => []
  | j + 1 => if (lg_cmp (w >>> (Int32.toInt64 ((5 : Int32) * nI j) &&& 63)) (0 : Int64)) ≤ 0 then slW w j else ((96 : Int32) + (Int64.toInt32 ((w >>> (Int32.toInt64 ((5 : Int32) * nI j) &&& 63)) &&& (31 : Int64)))) :: slW w j
theorem m_word_go {n : Nat} {w : Int64} : ∀ (j k : Nat) (N : Mem), j < k → j ≤ 8 → mX11_saysWord_c3 n k w (iI ((j : Int) - 1)) N = sayL (slW w j) N
  | j, 0, _, h, _ => absurd h (Nat.not_lt_zero _)
  | 0, k + 1, N, h, _ => by
    unfold mX11_saysWord_c3
    rw [if_pos (show iI (((0 : Nat) : Int) - 1) < 0 by decide)]; rfl
  | j + 1, k + 1, N, h, h8 => by
    have ih := fun N => m_word_go (n := n) (w := w) j k N (by omega) (by omega)
    have e1 : iI (((j + 1 : Nat) : Int) - 1) = nI j := by rw [iI_n]; congr 1; omega
    have e2 : nI j + -1 = iI ((j : Int) - 1) := by
      rw [show (-1 : Int32) = iI (-1) from rfl, iI_n, iI_add]; congr 1
    unfold mX11_saysWord_c3 slW
    rw [e1, if_neg (nI_pos (by omega)), e2]
    by_cases z : (lg_cmp (w >>> (Int32.toInt64 ((5 : Int32) * nI j) &&& 63)) (0 : Int64)) ≤ 0
    · rw [if_pos z, if_pos z, ih]
    · rw [if_neg z, if_neg z]
      unfold sayL
      congr 1
      funext M2
      exact ih M2
def kwd (q : Nat) : Int64 := match q with
  | 0 => 109103333
  | 1 => 119705908
  | 2 => 22643941
  | 3 => 203112114
  | 4 => 693713060
  | _ => 6309
theorem kw_tab : ∀ q, q < 6 → (mX11_kindWord (nI q) = some (kwd q) ∧ slW (kwd q) 8 = wlK (6 * q) 6 ∧ (wlK (6 * q) 6).length ≤ 7 ∧ ∀ c ∈ wlK (6 * q) 6, c = nI c.toNatClampNeg ∧ c.toNatClampNeg < 128) := by decide +kernel
theorem to_tab : slW 655 8 = [nI 116, nI 111] := by decide +kernel
theorem L_kind {M0 N0 M N : Mem} {n q T : Nat} (h : LL M0 N0 T M N) (hn : 20000 ≤ n) (hq : q ≤ 5) (hT : T + 7 ≤ 80) : ∃ T' M' N', T' ≤ T + 7 ∧ mX6_putKind n (nI q) M = some M' ∧ mX11_kindWord (nI q) = some (kwd q) ∧ mX11_saysWord n (kwd q) N = some N' ∧ LL M0 N0 T' M' N' := by
  obtain ⟨k1, k2, k3, k4⟩ := kw_tab q (by omega)
  have c := c_kind_go (n := n) hq 6 n (6 * q) M rfl (by omega)
  have m := m_word_go (n := n) (w := kwd q) 8 n N (by omega) (by decide)
  rw [k2] at m
  obtain ⟨M', N', p1, p2, p3⟩ := L_list (wlK (6 * q) 6) T M N (fun c hc => ⟨_, (k4 c hc).2, (k4 c hc).1⟩) (by omega) h
  refine ⟨_, M', N', by omega, ?_, k1, m.trans p2, p3⟩
  unfold mX6_putKind
  rw [show (6 : Int32) = nI 6 from rfl, pk_mul, Nat.mul_comm]
  exact c.trans p1
theorem L_to {M0 N0 M N : Mem} {n T : Nat} (h : LL M0 N0 T M N) (hn : 20000 ≤ n) (hT : T + 2 ≤ 80) : ∃ M1 M' N', mX6_put (116 : Int32) M = some M1 ∧ mX6_put (111 : Int32) M1 = some M' ∧ mX11_saysWord n (655 : Int64) N = some N' ∧ LL M0 N0 (T + 2) M' N' := by
  have m := m_word_go (n := n) (w := 655) 8 n N (by omega) (by decide)
  rw [to_tab] at m
  obtain ⟨M1, N1, p1, p2, p3⟩ := L_put (v := 116) h (by omega) (by decide)
  obtain ⟨M2, N2, q1, q2, q3⟩ := L_put (v := 111) p3 (by omega) (by decide)
  refine ⟨M1, M2, N2, p1, q1, ?_, q3⟩
  refine m.trans ?_
  unfold sayL
  rw [p2]
  show (bnp (mX11_says (nI 111) N1) fun M1 => sayL [] M1) = _
  rw [q2]; rfl
theorem L_euro {M0 N0 M N : Mem} {n T : Nat} {c : Int32} (h : LL M0 N0 T M N) (hn : 20000 ≤ n) (hc : -2147483647 ≤ c.toInt) (hT : T + 12 ≤ 80) : ∃ T' M' N', T' ≤ 80 ∧ mX6_putEuros n c M = some M' ∧ (if 0 ≤ c then (if 0 ≤ c then (mX11_laysLine_c140 n c N) else (mX11_laysLine_c140 n (-c) N)) else (bnp (mX11_says (45 : Int32) N) fun M41 => (if 0 ≤ c then (mX11_laysLine_c140 n c M41) else (mX11_laysLine_c140 n (-c) M41)))) = some N' ∧ LL M0 N0 T' M' N' := by
  have hlt := Int32.toInt_lt c
  have core : ∀ (T w : Nat) (M N : Mem), w ≤ 2147483647 → T + 11 ≤ 80 → LL M0 N0 T M N → (if 0 ≤ c then c else 0 - c) = nI w → ∃ T' M' N', T' ≤ 80 ∧ mX6_putEuros_c10 n c M = some M' ∧ mX11_laysLine_c140 n (nI w) N = some N' ∧ LL M0 N0 T' M' N' := by
    intro T w M N hw hT h e
    unfold mX6_putEuros_c10 mX11_laysLine_c140
    have d1 : nI w / (100 : Int32) = nI (w / 100) := by rw [show (100 : Int32) = nI 100 from rfl]; exact pk_div (by omega) (by decide) (by decide)
    have d2 : nI w - nI w / (100 : Int32) * (100 : Int32) = nI (w % 100) := by rw [show (100 : Int32) = nI 100 from rfl]; exact pk_rem (by omega) (by decide) (by decide)
    rw [e, d2, d1]
    obtain ⟨T1, M1, N1, l1, a1, a2, a3⟩ := L_num (n := n) (v := w / 100) (least := 1) (m := 8) h hn (by omega) (by decide) (by decide) (by decide) (by omega)
    rw [show (1 : Int32) = nI 1 from rfl, a1, a2]
    simp only [bnp_some]
    obtain ⟨M2, N2, b1, b2, b3⟩ := L_put (v := 46) a3 (by omega) (by decide)
    rw [show mX6_put (46 : Int32) M1 = _ from b1, show mX11_says (46 : Int32) N1 = _ from b2]
    simp only [bnp_some]
    obtain ⟨T3, M3, N3, l3, c1, c2, c3⟩ := L_num (n := n) (v := w % 100) (least := 2) (m := 2) b3 hn (by omega) (by decide) (by decide) (by decide) (by omega)
    rw [show (2 : Int32) = nI 2 from rfl, c1, c2]
    exact ⟨T3, M3, N3, by omega, rfl, rfl, c3⟩
  unfold mX6_putEuros
  by_cases z : 0 ≤ c
  · have z' := Int32.le_iff_toInt_le.mp z
    rw [Int32.toInt_zero] at z'
    have ec : c = nI c.toInt.toNat := by rw [iI_n, Int.toNat_of_nonneg z']; exact iI_of c
    rw [if_pos z, if_pos z, if_pos z]
    obtain ⟨T', M', N', p0, p1, p2, p3⟩ := core T c.toInt.toNat M N (by omega) (by omega) h (by rw [if_pos z]; exact ec)
    rw [← ec] at p2
    exact ⟨T', M', N', p0, p1, p2, p3⟩
  · have z' := Int32.lt_iff_toInt_lt.mp (Int32.not_le.mp z)
    rw [Int32.toInt_zero] at z'
    have ec : -c = nI (-c.toInt).toNat := by
      rw [iI_n, Int.toNat_of_nonneg (by omega), ← iI_neg, ← iI_of]
    rw [if_neg z, if_neg z]
    obtain ⟨M1, N1, b1, b2, b3⟩ := L_put (v := 45) h (by omega) (by decide)
    rw [show mX6_put (45 : Int32) M = _ from b1, show mX11_says (45 : Int32) N = _ from b2]
    simp only [bnp_some]
    rw [if_neg z]
    obtain ⟨T', M', N', p0, p1, p2, p3⟩ := core (T + 1) (-c.toInt).toNat M1 N1 (by omega) (by omega) b3 (by rw [if_neg z, Int32.zero_sub]; exact ec)
    rw [← ec] at p2
    exact ⟨T', M', N', p0, p1, p2, p3⟩
