/-! the methods of days, of both sides -/
theorem nI_iI_lt {d : Nat} {z : Int} (h : d < 2 ^ 31) (h1 : -2147483648 ≤ z) (h2 : z < 2147483648) : (nI d < iI z) = ((d : Int) < z) := by rw [iI_n, iI_lt (by omega) (by omega) h1 h2]
theorem iI_nI_le {d : Nat} {z : Int} (h : d < 2 ^ 31) (h1 : -2147483648 ≤ z) (h2 : z < 2147483648) : (iI z ≤ nI d) = (z ≤ (d : Int)) := by rw [iI_n, iI_le h1 h2 (by omega) (by omega)]
theorem pk_div' {a d : Nat} (ha : a < 2 ^ 31) (h0 : 0 < d) (hd : d < 2 ^ 31) : nI a / nI d = nI (a / d) := pk_div ha h0 hd
theorem pk_rem' {a d : Nat} (ha : a < 2 ^ 31) (h0 : 0 < d) (hd : d < 2 ^ 31) : nI a - nI (a / d) * nI d = nI (a % d) := by rw [← pk_div ha h0 hd]; exact pk_rem ha h0 hd
theorem cal_c11 {M : Mem} (hC : CalC M) {d n : Nat} (hd : d ≤ 3652) : ∀ (k f m : Nat), m + k = mo d → k < f → mX3_monthWith_c11 n f (nI d) (nI m) M = some (nI (mo d))
  | k, 0, m, _, h => absurd h (Nat.not_lt_zero _)
  | 0, f + 1, m, e, h => by
    obtain ⟨h1, h2, h3, h4⟩ := mo_spec hd
    have em : m = mo d := by omega
    subst em
    have hr := ms_rngB (mo d + 1) (by omega)
    unfold mX3_monthWith_c11
    simp (disch := omega) only [nI_lit, nI_add, pk_mul, nI_clamp, nI_leI, nI_ltI, nI_eq, nI_t0, nI_le0, nI_e0, nI_0le, nI_lt0, chk_n, hC, nI_iI_lt]
    rw [if_neg (by omega), if_pos h2, if_neg (by omega)]
  | k + 1, f + 1, m, e, h => by
    obtain ⟨h1, h2, h3, h4⟩ := mo_spec hd
    have hr := ms_rngB (m + 1) (by omega)
    have hl := ms_le (m := m + 1) (m' := mo d) (by omega) (by omega)
    have ih := cal_c11 hC hd (n := n) k f (m + 1) (by omega) (by omega)
    unfold mX3_monthWith_c11
    simp (disch := omega) only [nI_lit, nI_add, pk_mul, nI_clamp, nI_leI, nI_ltI, nI_eq, nI_t0, nI_le0, nI_e0, nI_0le, nI_lt0, chk_n, hC, nI_iI_lt]
    rw [if_neg (by omega), if_neg (by omega)]
    exact ih
theorem cal_mw {M : Mem} (hC : CalC M) {d n : Nat} (hd : d ≤ 3652) (hn : 200 ≤ n) : mX3_monthWith n (nI d) M = some (nI (mo d)) := by
  obtain ⟨h1, h2, h3, h4⟩ := mo_spec hd
  unfold mX3_monthWith
  simp (disch := omega) only [nI_lit, nI_add, pk_mul, nI_clamp, nI_leI, nI_ltI, nI_eq, nI_t0, nI_le0, nI_e0, nI_0le, nI_lt0, pk_div']
  rw [if_pos (by omega)]
  have hge : d / 31 + 1 ≤ mo d := by
    rcases Nat.lt_or_ge (mo d) (d / 31 + 1) with q | q
    · have := ms_rngB (mo d + 1) (by omega)
      omega
    · exact q
  exact cal_c11 hC hd (mo d - (d / 31 + 1)) n (d / 31 + 1) (by omega) (by omega)
theorem cal_m2 {M : Mem} (hC : CalM M) {d n : Nat} (hd : d ≤ 3652) : ∀ (k f m : Nat), m + k = mo d → k < f → mX11_monthOf_c2 n f (nI d) (nI m) M = some (nI (mo d))
  | k, 0, m, _, h => absurd h (Nat.not_lt_zero _)
  | 0, f + 1, m, e, h => by
    obtain ⟨h1, h2, h3, h4⟩ := mo_spec hd
    have em : m = mo d := by omega
    subst em
    have hr := ms_rngB (mo d + 1) (by omega)
    unfold mX11_monthOf_c2
    simp (disch := omega) only [nI_lit, nI_add, pk_mul, nI_clamp, nI_leI, nI_ltI, nI_eq, nI_t0, nI_le0, nI_e0, nI_0le, nI_lt0, chk_n, hC, nI_iI_lt]
    rw [if_pos h2]
  | k + 1, f + 1, m, e, h => by
    obtain ⟨h1, h2, h3, h4⟩ := mo_spec hd
    have hr := ms_rngB (m + 1) (by omega)
    have hl := ms_le (m := m + 1) (m' := mo d) (by omega) (by omega)
    have ih := cal_m2 hC hd (n := n) k f (m + 1) (by omega) (by omega)
    unfold mX11_monthOf_c2
    simp (disch := omega) only [nI_lit, nI_add, pk_mul, nI_clamp, nI_leI, nI_ltI, nI_eq, nI_t0, nI_le0, nI_e0, nI_0le, nI_lt0, chk_n, hC, nI_iI_lt]
    rw [if_neg (by omega)]
    exact ih
theorem cal_mo {M : Mem} (hC : CalM M) {d n : Nat} (hd : d ≤ 3652) (hn : 200 ≤ n) : mX11_monthOf n (nI d) M = some (nI (mo d)) := by
  obtain ⟨h1, h2, h3, h4⟩ := mo_spec hd
  unfold mX11_monthOf
  simp (disch := omega) only [nI_lit, nI_add, pk_mul, nI_clamp, nI_leI, nI_ltI, nI_eq, nI_t0, nI_le0, nI_e0, nI_0le, nI_lt0]
  exact cal_m2 hC hd (mo d) n 0 (by omega) (by omega)
theorem iI_ite {c : Prop} {inst : Decidable c} (a b : Int) : (if c then iI a else iI b) = iI (if c then a else b) := by split <;> rfl
theorem cal_tn {M : Mem} (hC : CalC M) {a m : Nat} (ha : a ≤ 31) (hm : m + 1 < 123) : mX3_turnIn (nI a) (nI m) M = some (iI (tn a m)) := by
  have h1 := ms_rngB m (by omega)
  have h2 := ms_rngB (m + 1) (by omega)
  have e : (0 : Int32) = nI 0 := rfl
  unfold mX3_turnIn
  simp (disch := omega) only [nI_lit, nI_add, pk_mul, nI_clamp, nI_leI, nI_ltI, nI_eq, nI_t0, nI_le0, nI_e0, nI_0le, nI_lt0, chk_n, hC, if_false, if_true]
  rw [if_pos hm]
  simp (disch := omega) only [iI_n, iI_sub, iI_lt, iI_ite, iI_add]
  rfl
theorem cal_tm {M : Mem} (hC : CalM M) {a m : Nat} (ha : a ≤ 31) (hm : m + 1 < 127) : mX11_turnIn (nI m) (nI a) M = some (iI (tn a m)) := by
  have h1 := ms_rngB m (by omega)
  have h2 := ms_rngB (m + 1) (by omega)
  unfold mX11_turnIn mX11_min
  simp (disch := omega) only [nI_lit, nI_add, pk_mul, nI_clamp, nI_leI, nI_ltI, nI_eq, nI_t0, nI_le0, nI_e0, nI_0le, nI_lt0, chk_n, hC]
  simp (disch := omega) only [iI_n, iI_sub, iI_le]
  by_cases q : ms (m + 1) - ms m ≤ (a : Int)
  · rw [if_pos q]
    simp only [bnp_some, iI_add, iI_sub]
    unfold tn
    congr 2
    split <;> omega
  · rw [if_neg q]
    simp only [bnp_some, iI_add, iI_sub]
    unfold tn
    congr 2
    split <;> omega
theorem tn_rng {a m : Nat} (ha : 1 ≤ a) (hm : m ≤ 126) : -31 ≤ tn a m ∧ tn a m < 4000 := by
  have b := tn_bd (a := a) (m := m) ha hm
  have h1 := ms_rngB m (by omega)
  have h2 := ms_rngB (m + 1) (by omega)
  omega
theorem cal_lt {M : Mem} (hC : CalC M) {a d n : Nat} (ha1 : 1 ≤ a) (ha : a ≤ 31) (hd : d ≤ 3652) (hn : 200 ≤ n) : mX3_lastTurn n (nI a) (nI d) M = some (iI (LT a d)) := by
  obtain ⟨h1, h2, h3, h4⟩ := mo_spec hd
  have hr := tn_rng (a := a) (m := mo d) ha1 (by omega)
  have e1 : nI (mo d) - nI 1 = nI (mo d - 1) := pk_sub h3
  unfold mX3_lastTurn LT tk
  rw [cal_mw hC hd hn]
  simp only [bnp_some]
  rw [cal_tn hC ha (by omega)]
  simp only [bnp_some, nI_lit, e1]
  simp (disch := omega) only [nI_iI_lt]
  by_cases q : tn a (mo d) ≤ (d : Int)
  · rw [if_neg (by omega), if_pos q]
  · rw [if_pos (by omega), if_neg q, cal_tn hC ha (by omega)]; rfl
theorem cal_nt {M : Mem} (hC : CalC M) {a d n : Nat} (ha1 : 1 ≤ a) (ha : a ≤ 31) (hd : d ≤ 3652) (hn : 200 ≤ n) : mX3_nextTurn n (nI a) (nI d) M = some (iI (NT a d)) := by
  obtain ⟨h1, h2, h3, h4⟩ := mo_spec hd
  have hr := tn_rng (a := a) (m := mo d) ha1 (by omega)
  unfold mX3_nextTurn NT tk
  rw [cal_mw hC hd hn]
  simp only [bnp_some]
  rw [cal_tn hC ha (by omega)]
  simp only [bnp_some, nI_lit, nI_add]
  simp (disch := omega) only [iI_nI_le]
  by_cases q : tn a (mo d) ≤ (d : Int)
  · rw [if_pos q, if_pos q, cal_tn hC ha (by omega)]; rfl
  · rw [if_neg q, if_neg q, show mo d - 1 + 1 = mo d by omega]
theorem mod_lt {M : Mem} (hC : CalM M) {a d n : Nat} (ha1 : 1 ≤ a) (ha : a ≤ 31) (hd : d ≤ 3652) (hn : 200 ≤ n) : mX11_lastTurn n (nI a) (nI d) M = some (iI (LT a d)) := by
  obtain ⟨h1, h2, h3, h4⟩ := mo_spec hd
  have hr := tn_rng (a := a) (m := mo d) ha1 (by omega)
  have e1 : nI (mo d) - nI 1 = nI (mo d - 1) := pk_sub h3
  unfold mX11_lastTurn LT tk
  rw [cal_mo hC hd hn]
  simp only [bnp_some]
  rw [cal_tm hC ha (by omega)]
  simp only [bnp_some, nI_lit, e1]
  simp (disch := omega) only [nI_iI_lt]
  by_cases q : tn a (mo d) ≤ (d : Int)
  · rw [if_neg (by omega), if_pos q]
  · rw [if_pos (by omega), if_neg q, cal_tm hC ha (by omega)]; rfl
theorem mod_nt {M : Mem} (hC : CalM M) {a d n : Nat} (ha1 : 1 ≤ a) (ha : a ≤ 31) (hd : d ≤ 3652) (hn : 200 ≤ n) : mX11_nextTurn n (nI a) (nI d) M = some (iI (NT a d)) := by
  obtain ⟨h1, h2, h3, h4⟩ := mo_spec hd
  have hr := tn_rng (a := a) (m := mo d) ha1 (by omega)
  unfold mX11_nextTurn NT tk
  rw [cal_mo hC hd hn]
  simp only [bnp_some]
  rw [cal_tm hC ha (by omega)]
  simp only [bnp_some, nI_lit, nI_add]
  simp (disch := omega) only [iI_nI_le]
  by_cases q : tn a (mo d) ≤ (d : Int)
  · rw [if_pos q, if_pos q, cal_tm hC ha (by omega)]; rfl
  · rw [if_neg q, if_neg q, show mo d - 1 + 1 = mo d by omega]
/-- the checks: both sides say the same -/
theorem rng_c (a l h h1 : Int32) (L H : Nat) (el : l = nI L) (eh : h = nI H) (eh1 : h1 = nI (H + 1)) (hL : L ≤ H) (hH : H < 2147483647) : (∃ k, L ≤ k ∧ k ≤ H ∧ a = nI k ∧ ¬ a < l ∧ ¬ h < a ∧ ¬ h1 ≤ a) ∨ a < l ∨ (¬ a < l ∧ h < a ∧ h1 ≤ a) := by
  subst el; subst eh; subst eh1
  rcases Int.lt_or_le a.toInt L with q | q
  · exact Or.inr (Or.inl (by rw [Int32.lt_iff_toInt_lt, nI_toInt (by omega)]; exact q))
  · have hnl : ¬ a < nI L := by rw [Int32.lt_iff_toInt_lt, nI_toInt (by omega)]; omega
    rcases Int.lt_or_le (H : Int) a.toInt with q2 | q2
    · exact Or.inr (Or.inr ⟨hnl, by rw [Int32.lt_iff_toInt_lt, nI_toInt (by omega)]; exact q2, by rw [Int32.le_iff_toInt_le, nI_toInt (by omega)]; omega⟩)
    · have e : a = nI a.toInt.toNat := by rw [iI_n, Int.toNat_of_nonneg (by omega)]; exact iI_of a
      refine Or.inl ⟨a.toInt.toNat, by omega, by omega, e, hnl, ?_, ?_⟩
      · rw [Int32.lt_iff_toInt_lt, nI_toInt (by omega)]; omega
      · rw [Int32.le_iff_toInt_le, nI_toInt (by omega)]; omega
theorem isAnchor_c (a : Int32) : (∃ k, 1 ≤ k ∧ k ≤ 31 ∧ a = nI k ∧ mX10_isAnchor a = some 1 ∧ mX11_isAnchor a = some 1) ∨ (mX10_isAnchor a = some 0 ∧ mX11_isAnchor a = some 0) := by
  unfold mX10_isAnchor mX11_isAnchor mX11_in
  rcases rng_c a 1 31 32 1 31 rfl rfl rfl (by decide) (by decide) with ⟨k, h1, h2, e, h3, h4, h5⟩ | h | ⟨h1, h2, h3⟩
  · refine Or.inl ⟨k, h1, h2, e, ?_, ?_⟩
    · rw [if_neg h3]; first | rw [if_neg h4] | rw [if_neg h5]
    · rw [if_neg h3, if_neg h4]; try rfl
  · refine Or.inr ⟨?_, ?_⟩
    · rw [if_pos h]
    · rw [if_pos h]; try rfl
  · refine Or.inr ⟨?_, ?_⟩
    · rw [if_neg h1]; first | rw [if_pos h2] | rw [if_pos h3]
    · rw [if_neg h1, if_pos h2]; try rfl
theorem isAccount_c (a : Int32) : (∃ k, 0 ≤ k ∧ k ≤ 5 ∧ a = nI k ∧ mX10_isAccount a = some 1 ∧ mX11_isNumber a = some 1) ∨ (mX10_isAccount a = some 0 ∧ mX11_isNumber a = some 0) := by
  unfold mX10_isAccount mX11_isNumber mX11_in
  rcases rng_c a 0 5 6 0 5 rfl rfl rfl (by decide) (by decide) with ⟨k, h1, h2, e, h3, h4, h5⟩ | h | ⟨h1, h2, h3⟩
  · refine Or.inl ⟨k, h1, h2, e, ?_, ?_⟩
    · rw [if_neg h3]; first | rw [if_neg h4] | rw [if_neg h5]
    · rw [if_neg h3, if_neg h4]; try rfl
  · refine Or.inr ⟨?_, ?_⟩
    · rw [if_pos h]
    · rw [if_pos h]; try rfl
  · refine Or.inr ⟨?_, ?_⟩
    · rw [if_neg h1]; first | rw [if_pos h2] | rw [if_pos h3]
    · rw [if_neg h1, if_pos h2]; try rfl
theorem isPlan_c (a : Int32) : (∃ k, 0 ≤ k ∧ k ≤ 5 ∧ a = nI k ∧ mX10_isPlan a = some 1 ∧ mX11_isPlan a = some 1) ∨ (mX10_isPlan a = some 0 ∧ mX11_isPlan a = some 0) := by
  unfold mX10_isPlan mX11_isPlan mX11_in
  rcases rng_c a 0 5 6 0 5 rfl rfl rfl (by decide) (by decide) with ⟨k, h1, h2, e, h3, h4, h5⟩ | h | ⟨h1, h2, h3⟩
  · refine Or.inl ⟨k, h1, h2, e, ?_, ?_⟩
    · rw [if_neg h3]; first | rw [if_neg h4] | rw [if_neg h5]
    · rw [if_neg h3, if_neg h4]; try rfl
  · refine Or.inr ⟨?_, ?_⟩
    · rw [if_pos h]
    · rw [if_pos h]; try rfl
  · refine Or.inr ⟨?_, ?_⟩
    · rw [if_neg h1]; first | rw [if_pos h2] | rw [if_pos h3]
    · rw [if_neg h1, if_pos h2]; try rfl
theorem isDay_c (a : Int32) : (∃ k, 0 ≤ k ∧ k ≤ 3652 ∧ a = nI k ∧ mX10_isDay a = some 1 ∧ mX11_isDay a = some 1) ∨ (mX10_isDay a = some 0 ∧ mX11_isDay a = some 0) := by
  unfold mX10_isDay mX11_isDay mX11_in
  rcases rng_c a 0 3652 3653 0 3652 rfl rfl rfl (by decide) (by decide) with ⟨k, h1, h2, e, h3, h4, h5⟩ | h | ⟨h1, h2, h3⟩
  · refine Or.inl ⟨k, h1, h2, e, ?_, ?_⟩
    · rw [if_neg h3]; first | rw [if_neg h4] | rw [if_neg h5]
    · rw [if_neg h3, if_neg h4]; try rfl
  · refine Or.inr ⟨?_, ?_⟩
    · rw [if_pos h]
    · rw [if_pos h]; try rfl
  · refine Or.inr ⟨?_, ?_⟩
    · rw [if_neg h1]; first | rw [if_pos h2] | rw [if_pos h3]
    · rw [if_neg h1, if_pos h2]; try rfl
theorem areUnits_c (a : Int32) : (∃ k, 0 ≤ k ∧ k ≤ 9999 ∧ a = nI k ∧ mX10_areUnits a = some 1 ∧ mX11_in a (0 : Int32) (9999 : Int32) = some 1) ∨ (mX10_areUnits a = some 0 ∧ mX11_in a (0 : Int32) (9999 : Int32) = some 0) := by
  unfold mX10_areUnits mX11_in 
  rcases rng_c a 0 9999 10000 0 9999 rfl rfl rfl (by decide) (by decide) with ⟨k, h1, h2, e, h3, h4, h5⟩ | h | ⟨h1, h2, h3⟩
  · refine Or.inl ⟨k, h1, h2, e, ?_, ?_⟩
    · rw [if_neg h3]; first | rw [if_neg h4] | rw [if_neg h5]
    · rw [if_neg h3, if_neg h4]; try rfl
  · refine Or.inr ⟨?_, ?_⟩
    · rw [if_pos h]
    · rw [if_pos h]; try rfl
  · refine Or.inr ⟨?_, ?_⟩
    · rw [if_neg h1]; first | rw [if_pos h2] | rw [if_pos h3]
    · rw [if_neg h1, if_pos h2]; try rfl
theorem in_c (a l h h1 : Int32) (L H : Nat) (el : l = nI L) (eh : h = nI H) (eh1 : h1 = nI (H + 1)) (hL : L ≤ H) (hH : H < 2147483647) : (∃ k, L ≤ k ∧ k ≤ H ∧ a = nI k ∧ ¬ a < l ∧ ¬ h < a ∧ ¬ h1 ≤ a ∧ mX11_in a l h = some 1) ∨ (mX11_in a l h = some 0 ∧ (a < l ∨ (¬ a < l ∧ h < a ∧ h1 ≤ a))) := by
  unfold mX11_in
  rcases rng_c a l h h1 L H el eh eh1 hL hH with ⟨k, h1, h2, e, h3, h4, h5⟩ | h | ⟨h1, h2, h3⟩
  · exact Or.inl ⟨k, h1, h2, e, h3, h4, h5, by rw [if_neg h3, if_neg h4]⟩
  · exact Or.inr ⟨by rw [if_pos h], Or.inl h⟩
  · exact Or.inr ⟨by rw [if_neg h1, if_pos h2], Or.inr ⟨h1, h2, h3⟩⟩
/-- promises 31 to 34, and their like -/
theorem q_span {M N : Mem} (hC : CalC M) (hM : CalM N) {n : Nat} (hn : 200 ≤ n) (a b c : Int32) : ∃ r, mX10_span n a b c M = some r ∧ mX11_span n a b c N = some r := by
  unfold mX10_span mX11_span
  rcases isAnchor_c a with ⟨k, k1, k2, rfl, e1, e2⟩ | ⟨e1, e2⟩
  · rcases isDay_c b with ⟨d, d1, d2, rfl, f1, f2⟩ | ⟨f1, f2⟩
    · simp only [e1, e2, f1, f2, bnp_some, cal_lt hC k1 k2 d2 hn, cal_nt hC k1 k2 d2 hn, mod_lt hM k1 k2 d2 hn, mod_nt hM k1 k2 d2 hn]
      rcases in_c c 0 2 3 0 2 rfl rfl rfl (by decide) (by decide) with ⟨w, w1, w2, rfl, w3, w4, w5, w6⟩ | ⟨w6, w3⟩
      · rw [w6]
        simp only [bnp_some]
        rcases (show w = 0 ∨ w = 1 ∨ w = 2 by omega) with rfl | rfl | rfl
        · have z : nI 0 = 0 := rfl
          by_cases q : (0 : Int32) ≤ iI (LT k d)
          · simp [z, q]
          · simp [z, q]
        · exact ⟨_, rfl, rfl⟩
        · exact ⟨_, rfl, rfl⟩
      · rw [w6]
        simp only [bnp_some]
        have c0 : ¬ c = 0 := by rintro rfl; revert w3; decide
        have c1 : ¬ c = 1 := by rintro rfl; revert w3; decide
        have c2 : ¬ c = 2 := by rintro rfl; revert w3; decide
        refine ⟨-1, ?_, ?_⟩
        · rw [if_neg (by decide), if_neg (by decide), if_neg c0, if_neg c1, if_neg c2]
        · rfl
    · simp [e1, e2, f1, f2, bnp_some]
  · simp [e1, e2, bnp_some]
