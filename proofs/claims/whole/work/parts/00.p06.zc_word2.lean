/-! words on both sides -/
theorem i64_n {c : Nat} (h : c < 2 ^ 31) : Int32.toInt64 (nI c) = Int64.ofNat c := by
  apply Int64.toInt_inj.mp
  rw [Int32.toInt_toInt64, nI_toInt h, Int64.toInt_ofNat_of_lt (by omega)]
theorem pk64 {a c : Nat} (h : 97 ≤ c) (hc : c < 256) : (((32 : Int64) * Int64.ofNat a) + Int32.toInt64 (nI c)) - (97 : Int64) + (1 : Int64) = Int64.ofNat (32 * a + (c - 96)) := by
  obtain ⟨c', rfl⟩ : ∃ c', c = c' + 97 := ⟨c - 97, by omega⟩
  rw [i64_n (by omega), show (32 : Int64) = Int64.ofNat 32 from rfl, show (97 : Int64) = Int64.ofNat 97 from rfl, show (1 : Int64) = Int64.ofNat 1 from rfl, ← Int64.ofNat_mul, ← Int64.ofNat_add, show 32 * a + (c' + 97) = (32 * a + c') + 97 by omega, Int64.ofNat_add, Int64.add_sub_cancel, ← Int64.ofNat_add]
  congr 1
theorem m_here2 {L q : Nat} {M N : Mem} (hq : q ≤ L) (hL : L ≤ 200) (h6 : N 207 6 = nI L) (h7 : N 207 5 = nI q) (hE : ∀ i, i < L → M 1 i = N 210 i) : mX11_here N = some (bt M L q) := by
  unfold mX11_here bt
  rw [h6, h7]
  by_cases g : q < L
  · rw [if_neg (by rw [nI_leI (by omega) (by omega)]; omega), chk_n (show q < 400 by omega) (by decide), nI_clamp (by omega), if_pos g, hE q g]
  · rw [if_pos (by rw [nI_leI (by omega) (by omega)]; omega), if_neg g]
theorem in_let {M : Mem} {L i : Nat} : (isLet M L i → mX11_in (bt M L i) (97 : Int32) (122 : Int32) = some 1) ∧ (¬ isLet M L i → mX11_in (bt M L i) (97 : Int32) (122 : Int32) = some 0) := by
  unfold mX11_in
  refine ⟨fun h => ?_, fun h => ?_⟩
  · rw [if_neg h.1, if_neg h.2]
  · by_cases z : bt M L i < 97
    · rw [if_pos z]
    · rw [if_neg z]
      by_cases z2 : 122 < bt M L i
      · rw [if_pos z2]
      · exact absurd ⟨z, z2⟩ h
theorem h10 : (10 : Nat) ≠ 10 + HI := by decide
theorem h10' : (10 + HI : Nat) ≠ 10 := by decide
theorem hHI (k : Nat) (h : k ≤ 30) : k ≠ 10 + HI := by rw [HI_v]; omega
theorem m_word_go2 {n L p e : Nat} {M : Mem} (hL : L ≤ 200) (he : e ≤ L) (hpe : p ≤ e) (hno : ¬ isLet M L e) : ∀ (d k q : Nat) (N : Mem), q + d = e → d < k → p ≤ q → N 207 6 = nI L → N 207 5 = nI q → N 207 9 = nI p →
    lcb (N 207 10) (N 207 (10 + HI)) = Int64.ofNat (PKN (btN M) p (min (q - p) 8)) → (∀ i, i < L → M 1 i = N 210 i) → (∀ i, q ≤ i → i < e → isLet M L i) →
    ∃ N', mX11_readsWord_c13 n k N = some N' ∧ N' 207 5 = nI e ∧ N' 207 9 = nI p ∧ lcb (N' 207 10) (N' 207 (10 + HI)) = (if e - p ≤ 8 then Int64.ofNat (PKN (btN M) p (e - p)) else -1) ∧ GR N N' := by
  intro d
  induction d with
  | zero =>
    intro k q N e0 h hp h6 h5 h9 hw hE hl
    obtain ⟨k, rfl⟩ : ∃ k', k = k' + 1 := ⟨k - 1, by omega⟩
    have : q = e := by omega
    subst this
    unfold mX11_readsWord_c13
    rw [m_here2 he hL h6 h5 hE, h5, h9]
    simp only [bnp_some]
    rw [in_let.2 hno, pk_sub hp]
    simp only [bnp_some]
    rw [if_pos trivial]
    by_cases z : q - p ≤ 8
    · rw [if_pos (show nI (q - p) ≤ (8 : Int32) by rw [show (8 : Int32) = nI 8 from rfl, nI_leI (by omega) (by omega)]; exact z), if_pos z]
      refine ⟨N, rfl, h5, h9, ?_, GR.rfl'⟩
      rw [hw, show min (q - p) 8 = q - p by omega]
    · rw [if_neg (show ¬ nI (q - p) ≤ (8 : Int32) by rw [show (8 : Int32) = nI 8 from rfl, nI_leI (by omega) (by omega)]; exact z), if_neg z]
      refine ⟨_, rfl, ?_, ?_, ?_, (GR_up (by omega)).trans (GR_up (by omega))⟩
      · rw [u2k _ _ (hHI 5 (by decide)), u2k _ _ (by decide)]; exact h5
      · rw [u2k _ _ (hHI 9 (by decide)), u2k _ _ (by decide)]; exact h9
      · rw [u2k _ _ h10, u2s, u2s, lcb_of]
  | succ d ihd =>
    intro k q N e0 h hp h6 h5 h9 hw hE hl
    obtain ⟨k, rfl⟩ : ∃ k', k = k' + 1 := ⟨k - 1, by omega⟩
    have hq := hl q (Nat.le_refl _) (by omega)
    obtain ⟨b1, b2, b3, b4⟩ := isLet_n hq
    unfold mX11_readsWord_c13
    rw [m_here2 (by omega) hL h6 h5 hE, h5, h9]
    simp only [bnp_some]
    rw [in_let.1 hq, pk_sub hp, place_s]
    simp only [bnp_some]
    rw [if_neg (show ¬ (1 : Int32) = 0 by decide)]
    by_cases z : 8 ≤ q - p
    · rw [if_pos (show (8 : Int32) ≤ nI (q - p) by rw [show (8 : Int32) = nI 8 from rfl, nI_leI (by omega) (by omega)]; exact z)]
      obtain ⟨N', i1, i2, i3, i4, i5⟩ := ihd k (q + 1) (upd2 N 207 5 (nI (q + 1))) (by omega) (by omega) (by omega) (by rw [u2k _ _ (by decide)]; exact h6) (u2s _ _ _ _) (by rw [u2k _ _ (by decide)]; exact h9)
        (by rw [u2k _ _ (by decide), u2k _ _ (Ne.symm (hHI 5 (by decide))), hw, show min (q - p) 8 = min (q + 1 - p) 8 by omega]) (fun i hi => by rw [u2o _ _ (by decide)]; exact hE i hi) (fun i a b => hl i (by omega) b)
      exact ⟨N', i1, i2, i3, i4, (GR_up (by omega)).trans i5⟩
    · rw [if_neg (show ¬ (8 : Int32) ≤ nI (q - p) by rw [show (8 : Int32) = nI 8 from rfl, nI_leI (by omega) (by omega)]; exact z), hw, b1, pk64 b2 (by omega)]
      simp only [lt_eq]
      obtain ⟨v, hv⟩ : ∃ v, v = Int64.ofNat (32 * PKN (btN M) p (min (q - p) 8) + (btN M q - 96)) := ⟨_, rfl⟩
      rw [← hv, show upd2 (upd2 N 207 10 (llo v)) 207 (10 + HI) (lhi v) 207 5 = nI q from (u2k _ _ (hHI 5 (by decide))).trans ((u2k _ _ (by decide)).trans h5), place_s]
      obtain ⟨N', i1, i2, i3, i4, i5⟩ := ihd k (q + 1) (upd2 (upd2 (upd2 N 207 10 (llo v)) 207 (10 + HI) (lhi v)) 207 5 (nI (q + 1))) (by omega) (by omega) (by omega)
        (by rw [u2k _ _ (by decide), u2k _ _ (hHI 6 (by decide)), u2k _ _ (by decide)]; exact h6) (u2s _ _ _ _) (by rw [u2k _ _ (by decide), u2k _ _ (hHI 9 (by decide)), u2k _ _ (by decide)]; exact h9)
        (by
          rw [u2k _ _ (show (10 : Nat) ≠ 5 by decide), u2k _ _ h10, u2s, u2k _ _ (Ne.symm (hHI 5 (by decide))), u2s, lcb_of, hv]
          have e8 : min (q + 1 - p) 8 = min (q - p) 8 + 1 := by omega
          rw [e8]
          show _ = Int64.ofNat (32 * PKN (btN M) p (min (q - p) 8) + (btN M (p + min (q - p) 8) - 96))
          rw [show p + min (q - p) 8 = q by omega])
        (fun i hi => by rw [u2o _ _ (by decide), u2o _ _ (by decide), u2o _ _ (by decide)]; exact hE i hi) (fun i a b => hl i (by omega) b)
      exact ⟨N', i1, i2, i3, i4, (((GR_up (by omega)).trans (GR_up (by omega))).trans (GR_up (by omega))).trans i5⟩
/-- the words of a list with their numbers, packed -/
def CW (a : Nat) : List (Nat × Nat) := (bdL a 0 0 0 (nS a + 1)).map (fun t => (t.1, PKN (sN a) t.2.1 (t.2.2 - t.2.1)))
theorem CW_tab : ∀ a, a < 3 → (nS a ≤ 100 ∧ (∀ t ∈ bdL a 0 0 0 (nS a + 1), ∀ j, j < t.2.2 - t.2.1 → 97 ≤ sN a (t.2.1 + j) ∧ sN a (t.2.1 + j) ≤ 122 ∧ sS a (t.2.1 + j) = nI (sN a (t.2.1 + j))) ∧ ∀ t ∈ CW a, t.2 < 2 ^ 40) := by decide +kernel
theorem CW_0 : CW 0 = [(0, 17376357), (1, 215205), (2, 664754), (3, 595572), (4, 441477), (5, 16832101), (6, 87435), (7, 398963), (8, 6309), (9, 20536)] := by decide +kernel
theorem CW_1 : CW 1 = [(0, 37889479), (1, 24395141)] := by decide +kernel
theorem CW_2 : CW 2 = [(0, 2268462), (1, 109099237), (2, 20088467), (3, 643568), (4, 494), (5, 578868), (6, 22117), (7, 132915), (8, 203112114), (9, 16441), (10, 609658308), (11, 442053), (12, 677454)] := by decide +kernel
theorem of64_inj {a b : Nat} (ha : a < 2 ^ 62) (hb : b < 2 ^ 62) (h : Int64.ofNat a = Int64.ofNat b) : a = b := by
  have := congrArg Int64.toInt h
  rw [Int64.toInt_ofNat_of_lt (by omega), Int64.toInt_ofNat_of_lt (by omega)] at this
  omega
theorem of64_m1 {a : Nat} (ha : a < 2 ^ 62) : ¬ (-1 : Int64) = Int64.ofNat a := by
  intro h
  have := congrArg Int64.toInt h
  rw [Int64.toInt_ofNat_of_lt (by omega)] at this
  have e : (-1 : Int64).toInt = -1 := by decide
  rw [e] at this; omega
theorem R_word {n rd L p a : Nat} {M N : Mem} (hrd : rd ≠ 1) (ha : a < 3) (hn : 20000 ≤ n) (h : RD rd L p M N) : ∃ e N', p ≤ e ∧ e ≤ L ∧ mX11_readsWord n N = some N' ∧ N' 207 9 = nI p ∧ GR N N' ∧
    ((∃ t ∈ CW a, lcb (N' 207 10) (N' 207 (10 + HI)) = Int64.ofNat t.2 ∧ mX8_word n rd a M = some (nI t.1, upd2 M rd 2 (nI e)) ∧ RD rd L e (upd2 M rd 2 (nI e)) N') ∨
     ((∀ t ∈ CW a, lcb (N' 207 10) (N' 207 (10 + HI)) ≠ Int64.ofNat t.2) ∧ mX8_word n rd a M = some (-1, upd2 (upd2 M rd 3 (nI 1)) rd 4 (nI p)) ∧ FLT rd (upd2 (upd2 M rd 3 (nI 1)) rd 4 (nI p)) (upd2 N' 207 7 ((-1000 : Int32) * nI 1 - nI p)))) := by
  obtain ⟨h0, h1, h2, h3, h4, h5, h6, h7, hE⟩ := id h
  obtain ⟨k1, k2, k3⟩ := CW_tab a ha
  obtain ⟨e, e1, e2, e3, e4⟩ := word_end (M := M) (L := L) (L - p) p (by omega)
  obtain ⟨V, hV⟩ : ∃ V, V = PKN (btN M) p (e - p) := ⟨_, rfl⟩
  have hlt := fun j (hj : j < e - p) => isLet_n (e3 (p + j) (by omega) (by omega))
  have c1 : mX8_word n rd a M = mX8_word_c56 n n rd a (nI e) (nI 0) (nI 0) (nI 0) M := by
    unfold mX8_word
    rw [if_pos h4, h3]
    exact c_end_go (n := n) h2 h1 e2 e4 (e - p) n p (by omega) (by omega) e3
  have c2 := c_find_go (n := n) (rd := rd) (a := a) (e := e) (V := V) (M := M) hn h2 h1 h3 h4 k1 e1 e2 e3 hV (nS a + 1) n 0 0 0 (by omega) (by omega) (Nat.le_refl _) (Nat.le_refl _) k2
  rw [← c1] at c2
  have a1 : ∀ k, k ≤ 8 → k ≠ 9 → upd2 (upd2 (upd2 N 207 9 (nI p)) 207 10 (llo 0)) 207 (10 + HI) (lhi 0) 207 k = N 207 k := fun k hk hk9 => by
    rw [u2k _ _ (hHI k (by omega)), u2k _ _ (by omega), u2k _ _ hk9]
  obtain ⟨N', i1, i2, i3, i4, i5⟩ := m_word_go2 (n := n) h1 e2 e1 e4 (e - p) n p (upd2 (upd2 (upd2 N 207 9 (nI p)) 207 10 (llo 0)) 207 (10 + HI) (lhi 0)) (by omega) (by omega) (Nat.le_refl _) (by rw [a1 6 (by decide) (by decide)]; exact h6) (by rw [a1 5 (by decide) (by decide)]; exact h7)
    (by rw [u2k _ _ (hHI 9 (by decide)), u2k _ _ (by decide), u2s]) (by rw [u2k _ _ h10, u2s, u2s, lcb_of, Nat.sub_self]; rfl) (fun i hi => by rw [u2o _ _ (by decide), u2o _ _ (by decide), u2o _ _ (by decide)]; exact hE i hi) e3
  have hG : GR N N' := (((GR_up (by omega)).trans (GR_up (by omega))).trans (GR_up (by omega))).trans i5
  rw [← hV] at i4
  have hm : mX11_readsWord n N = some N' := by
    unfold mX11_readsWord
    rw [h7]
    exact i1
  have hbig : V < 2 ^ 40 → e - p ≤ 8 := by
    intro hv
    rcases Nat.lt_or_ge 8 (e - p) with z | z
    · obtain ⟨d, hd⟩ : ∃ d, e - p = d + 1 := ⟨e - p - 1, by omega⟩
      have g := PKN_ge (b := btN M) (p := p) d (fun j hj => ⟨(hlt j (by omega)).2.1, (hlt j (by omega)).2.2.1⟩)
      rw [← hd, ← hV] at g
      have := Nat.pow_le_pow_right (n := 32) (by decide) (show 8 ≤ d by omega)
      have e8 : 32 ^ 8 = 2 ^ 40 := by decide
      omega
    · exact z
  refine ⟨e, N', e1, e2, hm, i3, hG, ?_⟩
  rcases c2 with ⟨t, t1, t2, t3⟩ | ⟨t1, t2⟩
  · have hmem : (t.1, PKN (sN a) t.2.1 (t.2.2 - t.2.1)) ∈ CW a := List.mem_map.mpr ⟨t, t1, rfl⟩
    have hb := hbig (by rw [t2]; exact k3 _ hmem)
    refine Or.inl ⟨_, hmem, ?_, t3, ?_⟩
    · rw [i4, if_pos hb, t2]
    · exact ⟨e2, h1, by rw [u2k _ _ (by decide)]; exact h2, u2s _ _ _ _, by rw [u2k _ _ (by decide)]; exact h4, by rw [u2k _ _ (by decide)]; exact h5, by rw [hG 207 6 (Or.inr ⟨by decide, by decide, by decide, by decide, by decide, hHI 6 (by decide)⟩)]; exact h6, i2, fun i hi => by rw [u2o _ _ (Ne.symm hrd), hG 210 i (Or.inl (by decide))]; exact hE i hi⟩
  · refine Or.inr ⟨fun u hu => ?_, t2, ⟨1, p, by decide, by decide, by omega, by rw [u2k _ _ (by decide), u2s], u2s _ _ _ _, u2s _ _ _ _⟩⟩
    have hu40 := k3 u hu
    obtain ⟨t, m1, m2⟩ := List.mem_map.mp hu
    have hne := t1 t m1
    rw [← m2] at hu40 ⊢
    rw [i4]
    by_cases z : e - p ≤ 8
    · rw [if_pos z]
      intro g
      have hVlt : V < 32 ^ (e - p) := by rw [hV]; exact PKN_lt _ (fun j hj => ⟨(hlt j hj).2.1, (hlt j hj).2.2.1⟩)
      have hp8 := Nat.pow_le_pow_right (n := 32) (by decide) z
      have e8 : 32 ^ 8 = 2 ^ 40 := by decide
      exact hne (of64_inj (by omega) (by omega) g)
    · rw [if_neg z]
      exact of64_m1 (by omega)
