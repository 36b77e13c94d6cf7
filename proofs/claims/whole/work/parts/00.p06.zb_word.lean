/-! letters of PLANS, digits of accounts -/
def planC (N : Mem) : Option (Int32 × Mem) := (bnp (mX11_here N) fun r4 => (bnp (mX11_in r4 (65 : Int32) (70 : Int32)) fun r5 => (if r5 = 0 then (bnd (mX11_wrongAt (1 : Int32) (N 207 5) N) fun r9 M10 => (some (r9, M10))) else (bnp (mX11_here N) fun r7 => (lt (upd2 (upd2 N 207 8 (r7 - (65 : Int32))) 207 5 (((upd2 N 207 8 (r7 - (65 : Int32))) 207 5) + (1 : Int32))) fun M8 => (some ((1 : Int32), M8)))))))
theorem rp_ok {N N1 : Mem} (h : mX11_takesSign (32 : Int32) N = some (1, N1)) : mX11_readsPlan N = planC N1 := by
  unfold mX11_readsPlan
  rw [h, bnd_some, if_neg (show ¬ (1 : Int32) = 0 by decide)]; rfl
theorem rp_no {N N1 : Mem} (h : mX11_takesSign (32 : Int32) N = some (0, N1)) : mX11_readsPlan N = some (0, N1) := by
  unfold mX11_readsPlan
  rw [h, bnd_some, if_pos rfl]
def LetO (rd L p : Nat) (M N : Mem) (mc mm : Option (Int32 × Mem)) : Prop :=
  (∃ v M2 N2, v ≤ 5 ∧ mc = some (nI v, M2) ∧ mm = some (1, N2) ∧ N2 207 8 = nI v ∧ RD rd L (p + 1) M2 N2 ∧ FR rd M M2 ∧ GR N N2) ∨
  (∃ M2 N2, mc = some (0, M2) ∧ mm = some (0, N2) ∧ FLT rd M2 N2 ∧ FR rd M M2 ∧ GR N N2)
theorem let_ok {rd L p v : Nat} {M N : Mem} (hrd : rd ≠ 1) (h : RD rd L p M N) (hp : p < L) (hv : v ≤ 5) {mc mm : Option (Int32 × Mem)} (h1 : mc = some (nI v, upd2 M rd 2 (nI (p + 1)))) (h2 : mm = some (1, upd2 (upd2 N 207 8 (nI v)) 207 5 (nI (p + 1)))) : LetO rd L p M N mc mm := by
  obtain ⟨h0, g1, g2, g3, g4, g5, g6, g7, hE⟩ := id h
  have hR' : RD rd L p M (upd2 N 207 8 (nI v)) := ⟨h0, g1, g2, g3, g4, g5, by rw [u2k _ _ (by decide)]; exact g6, by rw [u2k _ _ (by decide)]; exact g7, fun i hi => by rw [u2o _ _ (by decide)]; exact hE i hi⟩
  exact Or.inl ⟨v, _, _, hv, h1, h2, by rw [u2k _ _ (by decide), u2s], RD_next hrd hR' hp, FR_up (by decide), (GR_up (by omega)).trans (GR_up (by omega))⟩
theorem R_plan {rd L p : Nat} {M N : Mem} (hrd : rd ≠ 1) (h : RD rd L p M N) : LetO rd L p M N (mX8_planLetter rd M) (planC N) := by
  have hh := m_here h
  obtain ⟨h0, h1, h2, h3, h4, h5, h6, h7, hE⟩ := id h
  obtain ⟨f1, f2, f3⟩ := RD_fault (c := 1) (at' := p) h (by decide) (by decide) (by omega)
  unfold mX8_planLetter planC mX11_in mX11_wrongAt
  rw [h3, h7, c_byte h2 h1 (by omega), hh]
  simp only [bnp_some, bnd_some]
  rw [if_pos h4, show mX8_mark rd (1 : Int32) (nI p) M = _ from mark_ok (c := 1) h4]
  simp only [bnp_some, lt_eq]
  by_cases c1 : bt M L p < 65
  · rw [if_pos c1, if_pos c1]
    exact Or.inr ⟨_, _, rfl, rfl, f1, f2, f3⟩
  · rw [if_neg c1, if_neg c1]
    by_cases c2 : 70 < bt M L p
    · rw [if_neg (Int32.not_le.mpr c2), if_pos c2]
      exact Or.inr ⟨_, _, rfl, rfl, f1, f2, f3⟩
    · rw [if_pos (Int32.not_lt.mp c2), if_neg c2]
      rcases bt_v M L p with ⟨b, b1, b2, b3⟩ | ⟨b1, b2⟩
      · rw [b2, show (65 : Int32) = nI 65 from rfl, nI_ltI (by omega) (by omega)] at c1
        rw [b2, show (70 : Int32) = nI 70 from rfl, nI_ltI (by omega) (by omega)] at c2
        have e : bt M L p - (65 : Int32) = nI (b - 65) := by rw [b2, show (65 : Int32) = nI 65 from rfl]; exact pk_sub (by omega)
        rw [e, place_s, show upd2 N 207 8 (nI (b - 65)) 207 5 = nI p from (u2k _ _ (by decide)).trans h7, place_s]
        exact let_ok hrd h b3 (show b - 65 ≤ 5 by omega) rfl rfl
      · rw [b1] at c1; exact absurd (by decide) c1
def acctC (N : Mem) : Option (Int32 × Mem) := (bnp (mX11_here N) fun r4 => (bnp (mX11_isDigit r4) fun r5 => (if r5 = 0 then (bnd (mX11_wrongAt (1 : Int32) (N 207 5) N) fun r13 M14 => (some (r13, M14))) else (bnp (mX11_here N) fun r7 => (if r7 ≤ (53 : Int32) then (bnp (mX11_here N) fun r8 => (lt (upd2 (upd2 N 207 8 (r8 - (48 : Int32))) 207 5 (((upd2 N 207 8 (r8 - (48 : Int32))) 207 5) + (1 : Int32))) fun M9 => (some ((1 : Int32), M9)))) else (bnd (mX11_wrongAt (3 : Int32) (N 207 5) N) fun r10 M11 => (some (r10, M11))))))))
theorem ra_ok {N N1 : Mem} (h : mX11_takesSign (32 : Int32) N = some (1, N1)) : mX11_readsAccount N = acctC N1 := by
  unfold mX11_readsAccount
  rw [h, bnd_some, if_neg (show ¬ (1 : Int32) = 0 by decide)]; rfl
theorem ra_no {N N1 : Mem} (h : mX11_takesSign (32 : Int32) N = some (0, N1)) : mX11_readsAccount N = some (0, N1) := by
  unfold mX11_readsAccount
  rw [h, bnd_some, if_pos rfl]
theorem R_acct {rd L p : Nat} {M N : Mem} (hrd : rd ≠ 1) (h : RD rd L p M N) : LetO rd L p M N (mX8_accountDigit rd M) (acctC N) := by
  have hh := m_here h
  obtain ⟨h0, h1, h2, h3, h4, h5, h6, h7, hE⟩ := id h
  obtain ⟨f1, f2, f3⟩ := RD_fault (c := 1) (at' := p) h (by decide) (by decide) (by omega)
  obtain ⟨k1, k2, k3⟩ := RD_fault (c := 3) (at' := p) h (by decide) (by decide) (by omega)
  unfold mX8_accountDigit acctC mX11_wrongAt
  rw [h3, h7, c_byte h2 h1 (by omega), hh]
  simp only [bnp_some, bnd_some]
  rw [dig_c]
  simp only [bnp_some]
  rw [if_pos h4, show mX8_mark rd (1 : Int32) (nI p) M = _ from mark_ok (c := 1) h4, show mX8_mark rd (3 : Int32) (nI p) M = _ from mark_ok (c := 3) h4]
  simp only [bnp_some, lt_eq]
  by_cases c1 : bt M L p < 48
  · rw [if_pos c1, if_pos c1, if_pos rfl]
    exact Or.inr ⟨_, _, rfl, rfl, f1, f2, f3⟩
  · rw [if_neg c1, if_neg c1]
    by_cases c2 : 57 < bt M L p
    · rw [if_neg (Int32.not_le.mpr c2), if_pos c2, if_pos rfl]
      exact Or.inr ⟨_, _, rfl, rfl, f1, f2, f3⟩
    · rw [if_pos (Int32.not_lt.mp c2), if_neg c2, if_neg (show ¬ (1 : Int32) = 0 by decide)]
      obtain ⟨b, b1, b2, b3, b4⟩ := dig_nat c1 c2
      have e : bt M L p - (48 : Int32) = nI (b - 48) := by rw [b3, show (48 : Int32) = nI 48 from rfl]; exact pk_sub (by omega)
      rw [e, place_s, show upd2 N 207 8 (nI (b - 48)) 207 5 = nI p from (u2k _ _ (by decide)).trans h7, place_s, b3]
      by_cases c3 : b ≤ 53
      · rw [if_pos (show nI (b - 48) < (6 : Int32) by rw [show (6 : Int32) = nI 6 from rfl, nI_ltI (by omega) (by omega)]; omega), if_pos (show nI b ≤ (53 : Int32) by rw [show (53 : Int32) = nI 53 from rfl, nI_leI (by omega) (by omega)]; omega)]
        exact let_ok hrd h b4 (show b - 48 ≤ 5 by omega) rfl rfl
      · rw [if_neg (show ¬ nI (b - 48) < (6 : Int32) by rw [show (6 : Int32) = nI 6 from rfl, nI_ltI (by omega) (by omega)]; omega), if_neg (show ¬ nI b ≤ (53 : Int32) by rw [show (53 : Int32) = nI 53 from rfl, nI_leI (by omega) (by omega)]; omega)]
        exact Or.inr ⟨_, _, rfl, rfl, k1, k2, k3⟩
/-! words, packed -/
def PKN (b : Nat → Nat) (p : Nat) : Nat → Nat
  | 0 => 0
  | d + 1 => 32 * PKN b p d + (b (p + d) - 96)
theorem PKN_lt {b : Nat → Nat} {p : Nat} : ∀ (d : Nat), (∀ j, j < d → 97 ≤ b (p + j) ∧ b (p + j) ≤ 122) → PKN b p d < 32 ^ d
  | 0, _ => Nat.zero_lt_one
  | d + 1, h => by
    have ih := PKN_lt d (fun j hj => h j (by omega))
    have := h d (by omega)
    show 32 * PKN b p d + (b (p + d) - 96) < 32 ^ (d + 1)
    rw [Nat.pow_succ]; omega
theorem PKN_ge {b : Nat → Nat} {p : Nat} : ∀ (d : Nat), (∀ j, j < d + 1 → 97 ≤ b (p + j) ∧ b (p + j) ≤ 122) → 32 ^ d ≤ PKN b p (d + 1)
  | 0, h => by
    have := h 0 (by omega)
    show 32 ^ 0 ≤ 32 * 0 + (b (p + 0) - 96)
    rw [Nat.pow_zero]; omega
  | d + 1, h => by
    have ih := PKN_ge d (fun j hj => h j (by omega))
    show 32 ^ (d + 1) ≤ 32 * PKN b p (d + 1) + (b (p + (d + 1)) - 96)
    rw [Nat.pow_succ]; omega
theorem PKN_inj {b b' : Nat → Nat} {p q : Nat} : ∀ (d d' : Nat), (∀ j, j < d → 97 ≤ b (p + j) ∧ b (p + j) ≤ 122) → (∀ j, j < d' → 97 ≤ b' (q + j) ∧ b' (q + j) ≤ 122) → PKN b p d = PKN b' q d' → d = d' ∧ ∀ j, j < d → b (p + j) = b' (q + j)
  | 0, 0, _, _, _ => ⟨rfl, fun j hj => absurd hj (Nat.not_lt_zero _)⟩
  | 0, d' + 1, _, h', e => by
    have := PKN_ge d' h'
    have hp : 0 < 32 ^ d' := Nat.pow_pos (by decide)
    have e0 : PKN b p 0 = 0 := rfl
    omega
  | d + 1, 0, h, _, e => by
    have := PKN_ge d h
    have hp : 0 < 32 ^ d := Nat.pow_pos (by decide)
    have e0 : PKN b' q 0 = 0 := rfl
    omega
  | d + 1, d' + 1, h, h', e => by
    have a := h d (by omega)
    have a' := h' d' (by omega)
    have e2 : 32 * PKN b p d + (b (p + d) - 96) = 32 * PKN b' q d' + (b' (q + d') - 96) := e
    have ih := PKN_inj d d' (fun j hj => h j (by omega)) (fun j hj => h' j (by omega)) (by omega)
    obtain ⟨rfl, ih2⟩ := ih
    refine ⟨rfl, fun j hj => ?_⟩
    rcases (show j = d ∨ j < d by omega) with rfl | g
    · omega
    · exact ih2 j g
theorem PKN_congr {b b' : Nat → Nat} {p q : Nat} : ∀ (d : Nat), (∀ j, j < d → b (p + j) = b' (q + j)) → PKN b p d = PKN b' q d
  | 0, _ => rfl
  | d + 1, h => by
    show 32 * PKN b p d + (b (p + d) - 96) = 32 * PKN b' q d + (b' (q + d) - 96)
    rw [PKN_congr d (fun j hj => h j (by omega)), h d (by omega)]
def btN (M : Mem) (i : Nat) : Nat := (M 1 i &&& 255).toNatClampNeg
def isLet (M : Mem) (L i : Nat) : Prop := ¬ bt M L i < 97 ∧ ¬ 122 < bt M L i
theorem isLet_n {M : Mem} {L i : Nat} (h : isLet M L i) : bt M L i = nI (btN M i) ∧ 97 ≤ btN M i ∧ btN M i ≤ 122 ∧ i < L := by
  obtain ⟨h1, h2⟩ := h
  rcases bt_v M L i with ⟨b, b1, b2, b3⟩ | ⟨b1, b2⟩
  · have e : btN M i = b := by
      unfold btN
      have := b2
      unfold bt at this
      rw [if_pos b3] at this
      rw [this]; exact nI_clamp (by omega)
    rw [b2, show (97 : Int32) = nI 97 from rfl, nI_ltI (by omega) (by omega)] at h1
    rw [b2, show (122 : Int32) = nI 122 from rfl, nI_ltI (by omega) (by omega)] at h2
    rw [e]
    exact ⟨b2, by omega, by omega, b3⟩
  · rw [b1] at h1; exact absurd (by decide) h1
theorem word_end {M : Mem} {L : Nat} : ∀ (d p : Nat), p + d = L → ∃ e, p ≤ e ∧ e ≤ L ∧ (∀ i, p ≤ i → i < e → isLet M L i) ∧ ¬ isLet M L e
  | 0, p, h => ⟨p, Nat.le_refl _, by omega, fun i a b => absurd b (by omega), fun g => by have := isLet_n g; omega⟩
  | d + 1, p, h => by
    rcases Classical.em (isLet M L p) with g | g
    · obtain ⟨e, e1, e2, e3, e4⟩ := word_end (M := M) (L := L) d (p + 1) (by omega)
      refine ⟨e, by omega, e2, fun i a b => ?_, e4⟩
      rcases (show i = p ∨ p + 1 ≤ i by omega) with rfl | z
      · exact g
      · exact e3 i z b
    · exact ⟨p, Nat.le_refl _, by omega, fun i a b => absurd b (by omega), g⟩
theorem c_end_go {n rd a L e : Nat} {M : Mem} (h1 : M rd 1 = nI L) (hL : L ≤ 200) (he : e ≤ L) (hno : ¬ isLet M L e) : ∀ (d k q : Nat), q + d = e → d < k → (∀ i, q ≤ i → i < e → isLet M L i) → mX8_word_c14 n k rd a (nI q) M = mX8_word_c56 n n rd a (nI e) 0 0 0 M
  | d, 0, _, _, h, _ => absurd h (Nat.not_lt_zero _)
  | 0, k + 1, q, e0, h, hl => by
    have : q = e := by omega
    subst this
    unfold mX8_word_c14
    rw [h1, c_byte h1 hL (by omega)]
    simp only [bnp_some]
    by_cases z : nI L ≤ nI q
    · rw [if_pos z]
    · rw [if_neg z]
      by_cases z1 : bt M L q < 97
      · rw [if_pos z1]
      · rw [if_neg z1]
        by_cases z2 : 122 < bt M L q
        · rw [if_pos z2]
        · exact absurd ⟨z1, z2⟩ hno
  | d + 1, k + 1, q, e0, h, hl => by
    have g := hl q (Nat.le_refl _) (by omega)
    obtain ⟨g1, g2⟩ := g
    unfold mX8_word_c14
    rw [h1, c_byte h1 hL (by omega), if_neg (show ¬ nI L ≤ nI q by rw [nI_leI (by omega) (by omega)]; omega)]
    simp only [bnp_some]
    rw [if_neg g1, if_neg g2, place_s]
    exact c_end_go h1 hL he hno d k (q + 1) (by omega) (by omega) (fun i a b => hl i (by omega) b)
def sS (a i : Nat) : Int32 := (sByt.getD a []).getD i 0
def sN (a i : Nat) : Nat := (sS a i).toNatClampNeg
def nS (a : Nat) : Nat := sLen.getD a 0
def bdL (a : Nat) : Nat → Nat → Nat → Nat → List (Nat × Nat × Nat)
  | _, _, _, 0 => []
  | fr, idx, i, d + 1 => if i = nS a ∨ sS a i = 32 then (idx, fr, i) :: bdL a (i + 1) (idx + 1) (i + 1) d else bdL a fr idx (i + 1) d
theorem bdL_s (a fr idx i d : Nat) : bdL a fr idx i (d + 1) = if i = nS a ∨ sS a i = 32 then (idx, fr, i) :: bdL a (i + 1) (idx + 1) (i + 1) d else bdL a fr idx (i + 1) d := rfl
theorem c_same_go {n rd a L p fr to : Nat} {M : Mem} (h1 : M rd 1 = nI L) (hL : L ≤ 200) (h2 : M rd 2 = nI p) (hto : to ≤ nS a) (ha : nS a ≤ 100) (hp : p + (to - fr) ≤ L) : ∀ (d k v : Nat), v + d = to → d < k → fr ≤ v → ∃ r, mX8_isSame_c3 n k rd a (nI fr) (nI to) (nI v) M = some r ∧ (r = 1 ∨ r = 0) ∧ (r = 1 ↔ ∀ j, v - fr ≤ j → j < to - fr → sS a (fr + j) = bt M L (p + j))
  | d, 0, _, _, h, _ => absurd h (Nat.not_lt_zero _)
  | 0, k + 1, v, e, h, hv => by
    unfold mX8_isSame_c3
    rw [if_pos (show nI to ≤ nI v by rw [nI_leI (by omega) (by omega)]; omega)]
    exact ⟨1, rfl, Or.inl rfl, fun _ j a b => absurd b (by omega), fun _ => rfl⟩
  | d + 1, k + 1, v, e, h, hv => by
    obtain ⟨r, r1, r2, r3⟩ := c_same_go (n := n) h1 hL h2 hto ha hp d k (v + 1) (by omega) (by omega) (by omega)
    unfold mX8_isSame_c3
    have e1 : (nI p + nI v) - nI fr = nI (p + (v - fr)) := by
      rw [nI_add, pk_sub (by omega)]; congr 1; omega
    rw [if_neg (show ¬ nI to ≤ nI v by rw [nI_leI (by omega) (by omega)]; omega), show sLen.getD a 0 = nS a from rfl, show Int32.ofNat (nS a) = nI (nS a) from rfl, if_neg (show ¬ nI (nS a) ≤ nI v by rw [nI_leI (by omega) (by omega)]; omega), chk_n (show v < nS a by omega) (by omega), h2, e1, c_byte h1 hL (by omega), nI_clamp (by omega), place_s]
    simp only [bnp_some]
    show ∃ r, (if sS a v = bt M L (p + (v - fr)) then mX8_isSame_c3 n k rd a (nI fr) (nI to) (nI (v + 1)) M else some 0) = some r ∧ _
    by_cases q : sS a v = bt M L (p + (v - fr))
    · rw [if_pos q]
      refine ⟨r, r1, r2, fun g j j1 j2 => ?_, fun g => r3.mpr (fun j j1 j2 => g j (by omega) j2)⟩
      rcases (show j = v - fr ∨ v + 1 - fr ≤ j by omega) with rfl | z
      · rw [show fr + (v - fr) = v by omega]; exact q
      · exact r3.mp g j z j2
    · rw [if_neg q]
      refine ⟨0, rfl, Or.inr rfl, fun g => absurd g (by decide), fun g => ?_⟩
      have := g (v - fr) (Nat.le_refl _) (by omega)
      rw [show fr + (v - fr) = v by omega] at this
      exact absurd this q
/-- a word of the list that is the text's, or none -/
theorem c_find_go {n rd a L p e V : Nat} {M : Mem} (hn : 20000 ≤ n) (h1 : M rd 1 = nI L) (hL : L ≤ 200) (h2 : M rd 2 = nI p) (h3 : M rd 3 = 0) (ha : nS a ≤ 100) (hpe : p ≤ e) (he : e ≤ L) (hlet : ∀ i, p ≤ i → i < e → isLet M L i) (hV : V = PKN (btN M) p (e - p)) :
    ∀ (d k fr idx i : Nat), i + d = nS a + 1 → d < k → fr ≤ i → idx ≤ i → (∀ t ∈ bdL a fr idx i d, ∀ j, j < t.2.2 - t.2.1 → 97 ≤ sN a (t.2.1 + j) ∧ sN a (t.2.1 + j) ≤ 122 ∧ sS a (t.2.1 + j) = nI (sN a (t.2.1 + j))) →
    (∃ t ∈ bdL a fr idx i d, V = PKN (sN a) t.2.1 (t.2.2 - t.2.1) ∧ mX8_word_c56 n k rd a (nI e) (nI fr) (nI idx) (nI i) M = some (nI t.1, upd2 M rd 2 (nI e))) ∨
    ((∀ t ∈ bdL a fr idx i d, V ≠ PKN (sN a) t.2.1 (t.2.2 - t.2.1)) ∧ mX8_word_c56 n k rd a (nI e) (nI fr) (nI idx) (nI i) M = some (-1, upd2 (upd2 M rd 3 (nI 1)) rd 4 (nI p)))
  | d, 0, _, _, _, _, h, _, _, _ => absurd h (Nat.not_lt_zero _)
  | 0, k + 1, fr, idx, i, e0, h, hf, hx, ht => by
    unfold mX8_word_c56
    rw [show sLen.getD a 0 = nS a from rfl, show Int32.ofNat (nS a) = nI (nS a) from rfl, if_pos (show nI (nS a) < nI i by rw [nI_ltI (by omega) (by omega)]; omega), h2, show mX8_mark rd (1 : Int32) (nI p) M = _ from mark_ok (c := 1) h3]
    exact Or.inr ⟨fun t h => absurd h (by unfold bdL; exact List.not_mem_nil), rfl⟩
  | d + 1, k + 1, fr, idx, i, e0, h, hf, hx, ht => by
    rw [bdL_s] at ht
    rw [bdL_s]
    have c85 : (i = nS a ∨ sS a i = 32) → mX8_word_c56 n (k + 1) rd a (nI e) (nI fr) (nI idx) (nI i) M = mX8_word_c85 n (mX8_word_c56 n k) rd a (nI e) (nI fr) (nI idx) (nI i) M := by
      intro hb
      unfold mX8_word_c56
      rw [show sLen.getD a 0 = nS a from rfl, show Int32.ofNat (nS a) = nI (nS a) from rfl, if_neg (show ¬ nI (nS a) < nI i by rw [nI_ltI (by omega) (by omega)]; omega)]
      by_cases z : i = nS a
      · rw [if_pos (show nI i = nI (nS a) by rw [z])]
      · rw [if_neg (show ¬ nI i = nI (nS a) by rw [nI_eq (by omega) (by omega)]; exact z), chk_n (show i < nS a by omega) (by omega), nI_clamp (by omega)]
        rcases hb with hb | hb
        · exact absurd hb z
        · rw [if_pos (show (sByt.getD a []).getD i 0 = (32 : Int32) from hb)]
    by_cases hb : i = nS a ∨ sS a i = 32
    · rw [if_pos hb] at ht ⊢
      rw [c85 hb]
      have ih := c_find_go (n := n) hn h1 hL h2 h3 ha hpe he hlet hV d k (i + 1) (idx + 1) (i + 1) (by omega) (by omega) (Nat.le_refl _) (by omega) (fun t h => ht t (List.mem_cons_of_mem _ h))
      have ht0 := ht (idx, fr, i) (List.mem_cons_self ..)
      have go : V ≠ PKN (sN a) fr (i - fr) → mX8_word_c85 n (mX8_word_c56 n k) rd a (nI e) (nI fr) (nI idx) (nI i) M = mX8_word_c56 n k rd a (nI e) (nI (i + 1)) (nI (idx + 1)) (nI (i + 1)) M := by
        intro hne
        unfold mX8_word_c85
        rw [pk_sub hf, h2, pk_sub hpe, place_s, place_s]
        by_cases z : i - fr = e - p
        · rw [if_pos (by rw [z])]
          obtain ⟨r, r1, r2, r3⟩ := c_same_go (n := n) (a := a) (fr := fr) (to := i) h1 hL h2 (by omega) ha (by omega) (i - fr) n fr (by omega) (by omega) (Nat.le_refl _)
          unfold mX8_isSame
          rw [r1]
          simp only [bnp_some]
          rcases r2 with r2 | r2
          · exfalso
            apply hne
            rw [hV, ← z]
            refine PKN_congr _ (fun j hj => ?_)
            have a1 := r3.mp r2 j (by omega) hj
            have a2 := isLet_n (hlet (p + j) (by omega) (by omega))
            have a3 := ht0 j hj
            rw [a3.2.2, a2.1, nI_eq (by omega) (by omega)] at a1
            exact a1.symm
          · rw [if_pos r2]
        · rw [if_neg (show ¬ nI (i - fr) = nI (e - p) by rw [nI_eq (by omega) (by omega)]; exact z)]
      by_cases hm : V = PKN (sN a) fr (i - fr)
      · refine Or.inl ⟨(idx, fr, i), List.mem_cons_self .., hm, ?_⟩
        obtain ⟨z, zj⟩ := PKN_inj (b := btN M) (b' := sN a) (p := p) (q := fr) (e - p) (i - fr) (fun j hj => ⟨(isLet_n (hlet (p + j) (by omega) (by omega))).2.1, (isLet_n (hlet (p + j) (by omega) (by omega))).2.2.1⟩) (fun j hj => ⟨(ht0 j hj).1, (ht0 j hj).2.1⟩) (hV.symm.trans hm)
        unfold mX8_word_c85
        rw [pk_sub hf, h2, pk_sub hpe, if_pos (by rw [z])]
        obtain ⟨r, r1, r2, r3⟩ := c_same_go (n := n) (a := a) (fr := fr) (to := i) h1 hL h2 (by omega) ha (by omega) (i - fr) n fr (by omega) (by omega) (Nat.le_refl _)
        unfold mX8_isSame
        rw [r1]
        simp only [bnp_some]
        have : r = 1 := r3.mpr (fun j _ hj => by
          rw [(ht0 j hj).2.2, (isLet_n (hlet (p + j) (by omega) (by omega))).1, zj j (by omega)])
        rw [this, if_neg (show ¬ (1 : Int32) = 0 by decide)]
      · rw [go hm]
        rcases ih with ⟨t, t1, t2, t3⟩ | ⟨t1, t2⟩
        · exact Or.inl ⟨t, List.mem_cons_of_mem _ t1, t2, t3⟩
        · refine Or.inr ⟨fun t h => ?_, t2⟩
          rcases List.mem_cons.mp h with rfl | h
          · exact hm
          · exact t1 t h
    · rw [if_neg hb] at ht ⊢
      have ih := c_find_go (n := n) hn h1 hL h2 h3 ha hpe he hlet hV d k fr idx (i + 1) (by omega) (by omega) (by omega) (by omega) ht
      have e5 : mX8_word_c56 n (k + 1) rd a (nI e) (nI fr) (nI idx) (nI i) M = mX8_word_c56 n k rd a (nI e) (nI fr) (nI idx) (nI (i + 1)) M := by
        have z : ¬ i = nS a := fun g => hb (Or.inl g)
        have z2 : ¬ sS a i = 32 := fun g => hb (Or.inr g)
        rw [mX8_word_c56]
        rw [show sLen.getD a 0 = nS a from rfl, show Int32.ofNat (nS a) = nI (nS a) from rfl, if_neg (show ¬ nI (nS a) < nI i by rw [nI_ltI (by omega) (by omega)]; omega), if_neg (show ¬ nI i = nI (nS a) by rw [nI_eq (by omega) (by omega)]; exact z), chk_n (show i < nS a by omega) (by omega), nI_clamp (by omega), if_neg (show ¬ (sByt.getD a []).getD i 0 = (32 : Int32) from z2), place_s]
      rw [e5]
      exact ih
