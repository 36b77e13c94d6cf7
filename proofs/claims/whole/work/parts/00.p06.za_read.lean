/-! texts: signs, blanks, NUMBERS, letters of PLANS, digits of accounts, on both sides -/
theorem and255 (x : Int32) : ∃ b, b < 256 ∧ x &&& 255 = nI b := by
  refine ⟨(x &&& 255).toBitVec.toNat, ?_, ?_⟩
  · show (x.toBitVec &&& (255 : Int32).toBitVec).toNat < 256
    rw [BitVec.toNat_and]
    exact Nat.lt_of_le_of_lt Nat.and_le_right (by decide)
  · apply Int32.toBitVec_inj.mp
    show (x &&& 255).toBitVec = BitVec.ofNat 32 _
    simp
def bt (M : Mem) (L i : Nat) : Int32 := if i < L then M 1 i &&& 255 else -1
theorem bt_v (M : Mem) (L i : Nat) : (∃ b, b < 256 ∧ bt M L i = nI b ∧ i < L) ∨ (bt M L i = -1 ∧ L ≤ i) := by
  unfold bt
  by_cases h : i < L
  · rw [if_pos h]
    obtain ⟨b, b1, b2⟩ := and255 (M 1 i)
    exact Or.inl ⟨b, b1, b2, h⟩
  · rw [if_neg h]; exact Or.inr ⟨rfl, by omega⟩
def RD (rd L p : Nat) (M N : Mem) : Prop := p ≤ L ∧ L ≤ 200 ∧ M rd 1 = nI L ∧ M rd 2 = nI p ∧ M rd 3 = 0 ∧ M rd 4 = 0 ∧ N 207 6 = nI L ∧ N 207 5 = nI p ∧ ∀ i, i < L → M 1 i = N 210 i
def FLT (rd : Nat) (M N : Mem) : Prop := ∃ c at', 1 ≤ c ∧ c ≤ 6 ∧ at' ≤ 200 ∧ M rd 3 = nI c ∧ M rd 4 = nI at' ∧ N 207 7 = (-1000 : Int32) * nI c - nI at'
def FR (rd : Nat) (M M' : Mem) : Prop := ∀ o k, (o ≠ rd ∨ k = 1) → M' o k = M o k
def GR (N N' : Mem) : Prop := ∀ o k, (o ≠ 207 ∨ (k ≠ 5 ∧ k ≠ 7 ∧ k ≠ 8 ∧ k ≠ 9 ∧ k ≠ 10 ∧ k ≠ 10 + HI)) → N' o k = N o k
theorem FR.rfl' {rd : Nat} {M : Mem} : FR rd M M := fun _ _ _ => rfl
theorem GR.rfl' {M : Mem} : GR M M := fun _ _ _ => rfl
theorem FR.trans {rd : Nat} {M M1 M2 : Mem} (h1 : FR rd M M1) (h2 : FR rd M1 M2) : FR rd M M2 := fun o k h => (h2 o k h).trans (h1 o k h)
theorem GR.trans {M M1 M2 : Mem} (h1 : GR M M1) (h2 : GR M1 M2) : GR M M2 := fun o k h => (h2 o k h).trans (h1 o k h)
theorem FR_up {rd k : Nat} {M : Mem} {v : Int32} (h : k ≠ 1) : FR rd M (upd2 M rd k v) := fun o k' g => by
  by_cases q : o = rd
  · subst q; exact u2k _ _ (by omega)
  · exact u2o _ _ q
theorem HI_v : HI = 1000000 := rfl
theorem GR_up {k : Nat} {N : Mem} {v : Int32} (h : k = 5 ∨ k = 7 ∨ k = 8 ∨ k = 9 ∨ k = 10 ∨ k = 10 + HI) : GR N (upd2 N 207 k v) := fun o k' g => by
  by_cases q : o = 207
  · subst q; exact u2k _ _ (by omega)
  · exact u2o _ _ q
theorem c_byte {rd L i : Nat} {M : Mem} (h1 : M rd 1 = nI L) (hL : L ≤ 200) (hi : i ≤ 300) : mX8_byteAt rd (nI i) M = some (bt M L i) := by
  unfold mX8_byteAt bt
  rw [h1, if_neg (nI_pos (by omega))]
  by_cases h : i < L
  · rw [if_neg (by rw [nI_leI (by omega) (by omega)]; omega), if_neg (by rw [show (400 : Int32) = nI 400 from rfl, nI_leI (by omega) (by omega)]; omega), chk_n (show i < 400 by omega) (by decide), nI_clamp (by omega), if_pos h]
  · rw [if_pos (by rw [nI_leI (by omega) (by omega)]; omega), if_neg h]
theorem byteT (rd : Nat) (a : Int32) (M : Mem) : ∃ r, mX8_byteAt rd a M = some r := by
  unfold mX8_byteAt
  by_cases h0 : a < 0
  · rw [if_pos h0]; exact ⟨_, rfl⟩
  · rw [if_neg h0]
    by_cases h1 : M rd 1 ≤ a
    · rw [if_pos h1]; exact ⟨_, rfl⟩
    · rw [if_neg h1]
      by_cases h2 : (400 : Int32) ≤ a
      · rw [if_pos h2]; exact ⟨_, rfl⟩
      · rw [if_neg h2]
        have hm : a ≤ nI 400 := Int32.le_of_lt (Int32.not_le.mp h2)
        obtain ⟨k, hk, rfl⟩ := of_range (Int32.not_lt.mp h0) hm (by omega)
        have hk2 : k < 400 := by
          rw [show (400 : Int32) = nI 400 from rfl, nI_leI (by omega) (by omega)] at h2; omega
        rw [chk_n hk2 (by decide)]; exact ⟨_, rfl⟩
theorem m_here {rd L p : Nat} {M N : Mem} (h : RD rd L p M N) : mX11_here N = some (bt M L p) := by
  obtain ⟨h0, h1, h2, h3, h4, h5, h6, h7, h8⟩ := h
  unfold mX11_here bt
  rw [h6, h7]
  by_cases g : p < L
  · rw [if_neg (by rw [nI_leI (by omega) (by omega)]; omega), chk_n (show p < 400 by omega) (by decide), nI_clamp (by omega), if_pos g, h8 p g]
  · rw [if_pos (by rw [nI_leI (by omega) (by omega)]; omega), if_neg g]
theorem mark_ok {rd c at' : Nat} {M : Mem} (h : M rd 3 = 0) : mX8_mark rd (nI c) (nI at') M = some (upd2 (upd2 M rd 3 (nI c)) rd 4 (nI at')) := if_pos h
theorem mark_no {rd : Nat} {c a : Int32} {M : Mem} (h : ¬ M rd 3 = 0) : mX8_mark rd c a M = some M := if_neg h
theorem RD_fault {rd L p c at' : Nat} {M N : Mem} (h : RD rd L p M N) (h1 : 1 ≤ c) (h2 : c ≤ 6) (h3 : at' ≤ 200) : FLT rd (upd2 (upd2 M rd 3 (nI c)) rd 4 (nI at')) (upd2 N 207 7 ((-1000 : Int32) * nI c - nI at')) ∧ FR rd M (upd2 (upd2 M rd 3 (nI c)) rd 4 (nI at')) ∧ GR N (upd2 N 207 7 ((-1000 : Int32) * nI c - nI at')) :=
  ⟨⟨c, at', h1, h2, h3, by rw [u2k _ _ (by decide), u2s], u2s _ _ _ _, u2s _ _ _ _⟩, (FR_up (by decide)).trans (FR_up (by decide)), GR_up (by omega)⟩
theorem FLT_ne {rd : Nat} {M N : Mem} (h : FLT rd M N) : ¬ M rd 3 = 0 := by
  obtain ⟨c, a, h1, h2, h3, h4, h5, h6⟩ := h
  rw [h4, show (0 : Int32) = nI 0 from rfl, nI_eq (by omega) (by omega)]; omega
/-- the place moves on by one -/
theorem RD_next {rd L p : Nat} {M N : Mem} (hrd : rd ≠ 1) (h : RD rd L p M N) (hp : p < L) : RD rd L (p + 1) (upd2 M rd 2 (nI (p + 1))) (upd2 N 207 5 (nI (p + 1))) := by
  obtain ⟨h0, h1, h2, h3, h4, h5, h6, h7, h8⟩ := h
  exact ⟨by omega, h1, by rw [u2k _ _ (by decide)]; exact h2, u2s _ _ _ _, by rw [u2k _ _ (by decide)]; exact h4, by rw [u2k _ _ (by decide)]; exact h5, by rw [u2k _ _ (by decide)]; exact h6, u2s _ _ _ _, fun i hi => by rw [u2o _ _ (Ne.symm hrd), u2o _ _ (by decide)]; exact h8 i hi⟩
theorem place_s {p : Nat} : nI p + (1 : Int32) = nI (p + 1) := nI_add ..
theorem neg1_ne {b : Nat} (h : b < 256) : ¬ (-1 : Int32) = nI b := by
  rw [show (-1 : Int32) = iI (-1) from rfl, iI_n, iI_eq (by omega) (by omega) (by omega) (by omega)]; omega
theorem R_blank {rd L p : Nat} {M N : Mem} (hrd : rd ≠ 1) (h : RD rd L p M N) : (∃ M' N', mX8_blank rd M = some M' ∧ mX11_takesSign (32 : Int32) N = some (1, N') ∧ RD rd L (p + 1) M' N' ∧ FR rd M M' ∧ GR N N') ∨
    (∃ M' N', mX8_blank rd M = some M' ∧ mX11_takesSign (32 : Int32) N = some (0, N') ∧ FLT rd M' N' ∧ FR rd M M' ∧ GR N N') := by
  have hh := m_here h
  obtain ⟨h0, h1, h2, h3, h4, h5, h6, h7, h8⟩ := id h
  unfold mX8_blank mX11_takesSign mX11_wrongAt
  rw [if_pos h4, h3, h7, c_byte h2 h1 (by omega), hh]
  simp only [bnp_some, bnd_some]
  rw [place_s]
  by_cases q : bt M L p = (32 : Int32)
  · rw [if_pos q, if_pos q]
    have hp : p < L := by
      rcases bt_v M L p with ⟨b, b1, b2, b3⟩ | ⟨b1, b2⟩
      · exact b3
      · rw [b1] at q; exact absurd q (by decide)
    exact Or.inl ⟨_, _, rfl, rfl, RD_next hrd h hp, FR_up (by decide), GR_up (by omega)⟩
  · rw [if_neg q, if_neg q, show mX8_mark rd (1 : Int32) (nI p) M = _ from mark_ok (c := 1) h4]
    obtain ⟨f1, f2, f3⟩ := RD_fault (c := 1) (at' := p) h (by decide) (by decide) (by omega)
    exact Or.inr ⟨_, _, rfl, rfl, f1, f2, f3⟩
theorem blank_no {rd : Nat} {M : Mem} (h : ¬ M rd 3 = 0) : mX8_blank rd M = some M := if_neg h
theorem number_no {n rd : Nat} {lo hi : Int32} {M : Mem} (h : ¬ M rd 3 = 0) : mX8_number n rd lo hi M = some (lo, M) := if_neg h
theorem plan_no {rd : Nat} {M : Mem} (h : ¬ M rd 3 = 0) : mX8_planLetter rd M = some (0, M) := by
  unfold mX8_planLetter
  obtain ⟨r, hr⟩ := byteT rd (M rd 2) M
  rw [hr, bnp_some, if_neg h]
theorem acct_no {rd : Nat} {M : Mem} (h : ¬ M rd 3 = 0) : mX8_accountDigit rd M = some (0, M) := by
  unfold mX8_accountDigit
  obtain ⟨r, hr⟩ := byteT rd (M rd 2) M
  rw [hr, bnp_some, if_neg h]
theorem word_no {n rd a : Nat} {M : Mem} (h : ¬ M rd 3 = 0) : mX8_word n rd a M = some (-1, M) := if_neg h
theorem goes_no {rd : Nat} {M : Mem} (h : ¬ M rd 3 = 0) : mX8_goesOn rd M = some (0, M) := if_neg h
theorem sound_no {rd : Nat} {M : Mem} (h : ¬ M rd 3 = 0) : mX8_isSound rd M = some 0 := if_neg h
theorem sound_ok {rd : Nat} {M : Mem} (h : M rd 3 = 0) : mX8_isSound rd M = some 1 := if_pos h
/-! NUMBERS -/
def numC (n : Nat) (lo hi : Int32) (N : Mem) : Option (Int32 × Mem) := (bnp (mX11_here N) fun r17 => (bnp (mX11_isDigit r17) fun r18 => (if r18 = 0 then (bnd (mX11_wrongAt (1 : Int32) (N 207 5) N) fun r20 M21 => (some (r20, M21))) else (mX11_readsNumber_c41 n n lo hi (N 207 5) (upd2 N 207 8 (0 : Int32))))))
theorem rn_ok {n : Nat} {lo hi : Int32} {N N1 : Mem} (h : mX11_takesSign (32 : Int32) N = some (1, N1)) : mX11_readsNumber n lo hi N = numC n lo hi N1 := by
  unfold mX11_readsNumber
  rw [h, bnd_some, if_neg (show ¬ (1 : Int32) = 0 by decide)]; rfl
theorem rn_no {n : Nat} {lo hi : Int32} {N N1 : Mem} (h : mX11_takesSign (32 : Int32) N = some (0, N1)) : mX11_readsNumber n lo hi N = some (0, N1) := by
  unfold mX11_readsNumber
  rw [h, bnd_some, if_pos rfl]
/-- what a NUMBER comes to, on both sides -/
def NumO (rd L p lo hi : Nat) (M N : Mem) (mc mm : Option (Int32 × Mem)) : Prop :=
  (∃ v q M2 N2, mc = some (nI v, M2) ∧ mm = some (1, N2) ∧ N2 207 8 = nI v ∧ lo ≤ v ∧ v ≤ hi ∧ p < q ∧ RD rd L q M2 N2 ∧ FR rd M M2 ∧ GR N N2) ∨
  (∃ r M2 N2, mc = some (r, M2) ∧ mm = some (0, N2) ∧ FLT rd M2 N2 ∧ FR rd M M2 ∧ GR N N2)
theorem dig_c (x : Int32) : mX11_isDigit x = some (if x < 48 then 0 else if 57 < x then 0 else 1) := by
  unfold mX11_isDigit mX11_in
  by_cases h : x < 48
  · rw [if_pos h, if_pos h]; rfl
  · rw [if_neg h, if_neg h]
    by_cases h2 : 57 < x
    · rw [if_pos h2, if_pos h2]; rfl
    · rw [if_neg h2, if_neg h2]; rfl
theorem dig_nat {M : Mem} {L i : Nat} (h1 : ¬ bt M L i < 48) (h2 : ¬ 57 < bt M L i) : ∃ b, 48 ≤ b ∧ b ≤ 57 ∧ bt M L i = nI b ∧ i < L := by
  rcases bt_v M L i with ⟨b, b1, b2, b3⟩ | ⟨b1, b2⟩
  · rw [b2, show (48 : Int32) = nI 48 from rfl, nI_ltI (by omega) (by omega)] at h1
    rw [b2, show (57 : Int32) = nI 57 from rfl, nI_ltI (by omega) (by omega)] at h2
    exact ⟨b, by omega, by omega, b2, b3⟩
  · rw [b1] at h1; exact absurd (by decide) h1
theorem chk3 {n rd L p q v lo hi : Nat} {M N : Mem} (h : RD rd L q M N) (hpq : p < q) (hv : v < 1000000) (hlo : lo ≤ hi) (hhi : hi ≤ 99999) (h8 : N 207 8 = nI v) : NumO rd L p lo hi M N (mX8_number_c122 n rd (nI lo) (nI hi) (nI p) (nI v) M)
    (bnp (mX11_in (N 207 8) (nI lo) (nI hi)) fun r4 => (if r4 = 0 then (bnd (mX11_wrongAt (3 : Int32) (nI p) N) fun r6 M7 => (if r6 = 0 then (some ((0 : Int32), M7)) else (some ((1 : Int32), M7)))) else (some ((1 : Int32), N)))) := by
  obtain ⟨h0, h1, h2, h3, h4, h5, h6, h7, _⟩ := id h
  obtain ⟨f1, f2, f3⟩ := RD_fault (c := 3) (at' := p) h (by decide) (by decide) (by omega)
  have hne : ¬ upd2 (upd2 M rd 3 (nI 3)) rd 4 (nI p) rd 3 = 0 := FLT_ne f1
  unfold mX8_number_c122 mX11_in mX11_wrongAt
  rw [h3, h8, if_neg (show ¬ nI q = nI p by rw [nI_eq (by omega) (by omega)]; omega), show mX8_mark rd (3 : Int32) (nI p) M = _ from mark_ok (c := 3) h4]
  simp only [bnp_some, bnd_some]
  by_cases c1 : nI v < nI lo
  · rw [if_pos c1, if_pos c1, if_neg hne]
    simp only [bnp_some, if_true]
    exact Or.inr ⟨_, _, _, rfl, rfl, f1, f2, f3⟩
  · rw [if_neg c1, if_neg c1]
    by_cases c2 : nI hi < nI v
    · rw [if_neg (Int32.not_le.mpr c2), if_pos c2, if_neg hne]
      simp only [bnp_some, if_true]
      exact Or.inr ⟨_, _, _, rfl, rfl, f1, f2, f3⟩
    · rw [if_pos (Int32.not_lt.mp c2), if_neg c2, if_pos h4]
      simp only [bnp_some]
      rw [if_neg (show ¬ (1 : Int32) = 0 by decide)]
      rw [nI_ltI (by omega) (by omega)] at c1 c2
      exact Or.inl ⟨v, q, M, N, rfl, rfl, h8, by omega, by omega, hpq, h, FR.rfl', GR.rfl'⟩
theorem num_go {n rd L p lo hi : Nat} (hrd : rd ≠ 1) (hlo : lo ≤ hi) (hhi : hi ≤ 99999) : ∀ (d k j v : Nat) (M N : Mem), j + d = 5 → d + 1 < k → v < 10 ^ j → RD rd L (p + j) M N → N 207 8 = nI v → (j = 0 → ¬ bt M L p < 48 ∧ ¬ 57 < bt M L p) →
    NumO rd L p lo hi M N (mX8_number_c27 n k rd (nI lo) (nI hi) (nI p) (nI v) (bt M L (p + j)) M) (mX11_readsNumber_c41 n k (nI lo) (nI hi) (nI p) N)
  | d, 0, _, _, _, _, _, h, _, _, _, _ => absurd h (Nat.not_lt_zero _)
  | d, k + 1, j, v, M, N, e, h, hv, hR, h8, hj0 => by
    have hh := m_here hR
    obtain ⟨h0, h1, h2, h3, h4, h5, h6, h7, hE⟩ := id hR
    have hv6 : v < 1000000 := Nat.lt_of_lt_of_le hv (Nat.le_trans (Nat.pow_le_pow_right (by decide) (show j ≤ 5 by omega)) (by decide))
    unfold mX8_number_c27 mX11_readsNumber_c41
    rw [hh, h3, h7, show nI p + (5 : Int32) = nI (p + 5) from nI_add ..]
    simp only [bnp_some]
    rw [dig_c]
    simp only [bnp_some]
    rcases Nat.eq_zero_or_pos d with hd | hd
    · have hj : j = 5 := by omega
      subst hj
      rw [if_pos (Int32.le_refl _)]
      unfold mX8_number_c87
      rw [h3, show nI p + (5 : Int32) = nI (p + 5) from nI_add .., if_pos rfl]
      by_cases c1 : bt M L (p + 5) < 48
      · rw [if_pos c1, if_pos c1, if_pos rfl]
        exact chk3 (n := n) hR (by omega) hv6 hlo hhi h8
      · rw [if_neg c1, if_neg c1]
        by_cases c2 : 57 < bt M L (p + 5)
        · rw [if_pos c2, if_pos c2, if_pos rfl]
          exact chk3 (n := n) hR (by omega) hv6 hlo hhi h8
        · rw [if_neg c2, if_neg c2, if_neg (show ¬ (1 : Int32) = 0 by decide), if_pos rfl, show mX8_mark rd (2 : Int32) (nI (p + 5)) M = _ from mark_ok (c := 2) h4]
          obtain ⟨f1, f2, f3⟩ := RD_fault (c := 2) (at' := p + 5) hR (by decide) (by decide) (by omega)
          exact Or.inr ⟨_, _, _, rfl, rfl, f1, f2, f3⟩
    · rw [if_neg (show ¬ nI (p + 5) ≤ nI (p + j) by rw [nI_leI (by omega) (by omega)]; omega)]
      have hne : ¬ nI (p + j) = nI (p + 5) := by rw [nI_eq (by omega) (by omega)]; omega
      have c87 : mX8_number_c87 n rd (nI lo) (nI hi) (nI p) (nI v) (bt M L (p + j)) M = mX8_number_c122 n rd (nI lo) (nI hi) (nI p) (nI v) M := by
        unfold mX8_number_c87
        rw [h3, show nI p + (5 : Int32) = nI (p + 5) from nI_add .., if_neg hne]
      by_cases c1 : bt M L (p + j) < 48
      · have hj : 0 < j := by
          rcases Nat.eq_zero_or_pos j with z | z
          · subst z; exact absurd c1 (hj0 rfl).1
          · exact z
        rw [if_pos c1, if_pos c1, if_pos rfl, c87]
        exact chk3 (n := n) hR (by omega) hv6 hlo hhi h8
      · rw [if_neg c1, if_neg c1]
        by_cases c2 : 57 < bt M L (p + j)
        · have hj : 0 < j := by
            rcases Nat.eq_zero_or_pos j with z | z
            · subst z; exact absurd c2 (hj0 rfl).2
            · exact z
          rw [if_pos c2, if_pos c2, if_pos rfl, c87]
          exact chk3 (n := n) hR (by omega) hv6 hlo hhi h8
        · rw [if_neg c2, if_neg c2, if_neg (show ¬ (1 : Int32) = 0 by decide), if_neg hne]
          obtain ⟨b, b1, b2, b3, b4⟩ := dig_nat c1 c2
          rw [b3, place_s, u2s]
          simp only [lt_eq]
          rw [show upd2 N 207 8 (((10 : Int32) * N 207 8 + nI b) - 48) 207 5 = nI (p + j) from (u2k _ _ (by decide)).trans h7, place_s, h8]
          have ev : ((10 : Int32) * nI v + nI b) - 48 = nI (10 * v + (b - 48)) := by
            rw [show (10 : Int32) = nI 10 from rfl, show (48 : Int32) = nI 48 from rfl, pk_mul, nI_add, pk_sub (by omega)]
            congr 1; omega
          have ev2 : (nI v * (10 : Int32) + nI b) - 48 = nI (10 * v + (b - 48)) := by
            rw [show (10 : Int32) = nI 10 from rfl, show (48 : Int32) = nI 48 from rfl, pk_mul, nI_add, pk_sub (by omega)]
            congr 1; omega
          rw [ev, ev2]
          have hR' : RD rd L (p + (j + 1)) (upd2 M rd 2 (nI (p + j + 1))) (upd2 (upd2 N 207 8 (nI (10 * v + (b - 48)))) 207 5 (nI (p + j + 1))) :=
            RD_next hrd ⟨h0, h1, h2, h3, h4, h5, by rw [u2k _ _ (by decide)]; exact h6, by rw [u2k _ _ (by decide)]; exact h7, fun i hi => by rw [u2o _ _ (by decide)]; exact hE i hi⟩ b4
          have hb' : bt (upd2 M rd 2 (nI (p + j + 1))) L (p + (j + 1)) = bt M L (p + (j + 1)) := by
            unfold bt; rw [u2o _ _ (Ne.symm hrd)]
          have hbyte : mX8_byteAt rd (nI (p + j + 1)) (upd2 M rd 2 (nI (p + j + 1))) = some (bt (upd2 M rd 2 (nI (p + j + 1))) L (p + (j + 1))) := c_byte hR'.2.2.1 h1 (by omega)
          rw [hbyte]
          simp only [bnp_some]
          have ih := num_go (n := n) (L := L) (p := p) hrd hlo hhi (d - 1) k (j + 1) (10 * v + (b - 48)) _ _ (by omega) (by omega) (by rw [Nat.pow_succ]; omega) hR' (by rw [u2k _ _ (by decide), u2s]) (fun z => absurd z (by omega))
          rcases ih with ⟨v', q, M2, N2, i1, i2, i3, i4, i5, i6, i7, i8, i9⟩ | ⟨r, M2, N2, i1, i2, i3, i4, i5⟩
          · exact Or.inl ⟨v', q, M2, N2, i1, i2, i3, i4, i5, i6, i7, (FR_up (by decide)).trans i8, ((GR_up (by omega)).trans (GR_up (by omega))).trans i9⟩
          · exact Or.inr ⟨r, M2, N2, i1, i2, i3, (FR_up (by decide)).trans i4, ((GR_up (by omega)).trans (GR_up (by omega))).trans i5⟩
theorem R_num {n rd L p lo hi : Nat} {M N : Mem} (hrd : rd ≠ 1) (hlo : lo ≤ hi) (hhi : hi ≤ 99999) (hn : 20000 ≤ n) (h : RD rd L p M N) : NumO rd L p lo hi M N (mX8_number n rd (nI lo) (nI hi) M) (numC n (nI lo) (nI hi) N) := by
  have hh := m_here h
  obtain ⟨h0, h1, h2, h3, h4, h5, h6, h7, hE⟩ := id h
  unfold mX8_number numC
  rw [if_pos h4, h3, h7, c_byte h2 h1 (by omega), hh]
  simp only [bnp_some]
  rw [dig_c]
  simp only [bnp_some]
  have hR' : RD rd L (p + 0) M (upd2 N 207 8 0) := ⟨h0, h1, h2, h3, h4, h5, by rw [u2k _ _ (by decide)]; exact h6, by rw [u2k _ _ (by decide)]; exact h7, fun i hi => by rw [u2o _ _ (by decide)]; exact hE i hi⟩
  have c1 : ∀ (k : Nat), (bt M L p < 48 ∨ 57 < bt M L p) → mX8_number_c27 n (k + 1) rd (nI lo) (nI hi) (nI p) 0 (bt M L p) M = some (nI lo, upd2 (upd2 M rd 3 (nI 1)) rd 4 (nI p)) := by
    intro k hb
    have c87 : mX8_number_c87 n rd (nI lo) (nI hi) (nI p) 0 (bt M L p) M = mX8_number_c122 n rd (nI lo) (nI hi) (nI p) 0 M := by
      unfold mX8_number_c87
      rw [h3, show nI p + (5 : Int32) = nI (p + 5) from nI_add .., if_neg (show ¬ nI p = nI (p + 5) by rw [nI_eq (by omega) (by omega)]; omega)]
    unfold mX8_number_c27
    rw [h3, show nI p + (5 : Int32) = nI (p + 5) from nI_add .., if_neg (show ¬ nI (p + 5) ≤ nI p by rw [nI_leI (by omega) (by omega)]; omega), c87]
    have e : mX8_number_c122 n rd (nI lo) (nI hi) (nI p) 0 M = some (nI lo, upd2 (upd2 M rd 3 (nI 1)) rd 4 (nI p)) := by
      obtain ⟨f1, f2, f3⟩ := RD_fault (c := 1) (at' := p) h (by decide) (by decide) (by omega)
      unfold mX8_number_c122
      rw [h3, if_pos rfl, show mX8_mark rd (1 : Int32) (nI p) M = _ from mark_ok (c := 1) h4]
      simp only [bnp_some]
      rw [if_neg (FLT_ne f1)]
    by_cases c1 : bt M L p < 48
    · rw [if_pos c1]; exact e
    · rw [if_neg c1]
      rcases hb with hb | hb
      · exact absurd hb c1
      · rw [if_pos hb]; exact e
  obtain ⟨f1, f2, f3⟩ := RD_fault (c := 1) (at' := p) h (by decide) (by decide) (by omega)
  obtain ⟨n', hn'⟩ : ∃ n', n = n' + 1 := ⟨n - 1, by omega⟩
  by_cases d1 : bt M L p < 48
  · rw [if_pos d1, if_pos rfl]
    have := c1 n' (Or.inl d1)
    rw [← hn'] at this
    rw [this]
    exact Or.inr ⟨_, _, _, rfl, rfl, f1, f2, f3⟩
  · rw [if_neg d1]
    by_cases d2 : 57 < bt M L p
    · rw [if_pos d2, if_pos rfl]
      have := c1 n' (Or.inr d2)
      rw [← hn'] at this
      rw [this]
      exact Or.inr ⟨_, _, _, rfl, rfl, f1, f2, f3⟩
    · rw [if_neg d2, if_neg (show ¬ (1 : Int32) = 0 by decide)]
      have ih := num_go (n := n) (L := L) (p := p) hrd hlo hhi 5 n 0 0 M (upd2 N 207 8 0) (by omega) (by omega) (by decide) hR' (u2s _ _ _ _) (fun _ => ⟨d1, d2⟩)
      rcases ih with ⟨v', q, M2, N2, i1, i2, i3, i4, i5, i6, i7, i8, i9⟩ | ⟨r, M2, N2, i1, i2, i3, i4, i5⟩
      · exact Or.inl ⟨v', q, M2, N2, i1, i2, i3, i4, i5, i6, i7, i8, (GR_up (by omega)).trans i9⟩
      · exact Or.inr ⟨r, M2, N2, i1, i2, i3, i4, (GR_up (by omega)).trans i5⟩
