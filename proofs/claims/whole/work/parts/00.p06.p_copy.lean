/-! all that is billed is copied -/
def Fr (lo hi : Nat) (M M' : Mem) : Prop := ∀ o k, (o < lo ∨ hi ≤ o) → M' o k = M o k
theorem Fr.rfl' {lo hi : Nat} {M : Mem} : Fr lo hi M M := fun _ _ _ => rfl
theorem Fr.trans {lo hi : Nat} {M M1 M2 : Mem} (h1 : Fr lo hi M M1) (h2 : Fr lo hi M1 M2) : Fr lo hi M M2 := fun o k h => (h2 o k h).trans (h1 o k h)
theorem Fr.wide {lo hi lo' hi' : Nat} {M M' : Mem} (h : Fr lo hi M M') (h1 : lo' ≤ lo) (h2 : hi ≤ hi') : Fr lo' hi' M M' := fun o k g => h o k (by omega)
theorem cpM_o (M : Mem) {a b sp dp n o i : Nat} (h : o ≠ b) : cpyM M a b sp dp n o i = M o i := by
  unfold cpyM; rw [if_neg (fun q => h q.1)]
theorem cpM_i (M : Mem) {a b n i : Nat} (h : i < n) : cpyM M a b 0 0 n b i = M a i := by
  unfold cpyM; rw [if_pos ⟨rfl, by omega, by omega⟩]; rw [Nat.zero_add, Nat.sub_zero]
theorem tn0 : Int32.toNatClampNeg (0 : Int32) = 0 := rfl
theorem tn3 : Int32.toNatClampNeg (3 : Int32) = 3 := rfl
theorem tn4 : Int32.toNatClampNeg (4 : Int32) = 4 := rfl
theorem cpc4 {α : Type} {y : Option α} : cpc (0 : Int32) (0 : Int32) (4 : Int32) 4 4 y = y := if_pos (by decide)
theorem cpc3 {α : Type} {y : Option α} : cpc (0 : Int32) (0 : Int32) (3 : Int32) 3 3 y = y := if_pos (by decide)
theorem zb_ok {α : Type} {v : Int32} {y : Option α} (h : v = 0 ∨ v = 1) : zb v y = y := if_pos h
theorem isM_01 {v : Int32} {k : Nat} (h : isM v k 1) : v = 0 ∨ v = 1 := by
  obtain ⟨h1, h2⟩ := h
  rcases (show k = 0 ∨ k = 1 by omega) with rfl | rfl
  · exact Or.inl h1
  · exact Or.inr h1
theorem c_cpP {q s p : Nat} {M : Mem} {f : Nat → Int32} (hR : RP s p M f) (hI : IP f p) (hd : q + 5 ≤ s ∨ s + 5 ≤ q) : ∃ M', mX7_copyFrom q s M = some M' ∧ RP q p M' f ∧ Fr q (q + 5) M M' := by
  obtain ⟨r0, r1, r2, r3, r4, r5, r6, r7, r8⟩ := hR
  have hz : M s 6 = 0 ∨ M s 6 = 1 := by rw [r4]; exact isM_01 hI.2.2.2.2.1
  have hT := hI.2.2.1.2
  have hK := hI.2.2.2.2.2.2.1.2
  unfold mX7_copyFrom
  simp (disch := omega) only [lt_eq, cpc4, cpc3, tn0, tn3, tn4, cpM_o, u2o]
  rw [zb_ok hz]
  refine ⟨_, rfl, ⟨?_, ?_, ?_, ?_, ?_, ?_, ?_, fun i hi => ⟨?_, ?_⟩, fun i hi => ⟨?_, ?_⟩⟩, fun o k h => ?_⟩
  · simp (disch := omega) only [cpM_o, u2o, u2k, u2s]; exact r0
  · simp (disch := omega) only [cpM_o, u2o, u2k, u2s]; exact r1
  · simp (disch := omega) only [cpM_o, u2o, u2k, u2s]; exact r2
  · simp (disch := omega) only [cpM_o, u2o, u2k, u2s]; exact r3
  · simp (disch := omega) only [cpM_o, u2o, u2k, u2s]; exact r4
  · simp (disch := omega) only [cpM_o, u2o, u2k, u2s]; exact r5
  · simp (disch := omega) only [cpM_o, u2o, u2k, u2s]; exact r6
  · simp (disch := omega) only [cpM_o, cpM_i, u2o, u2k, u2s]; exact (r7 i hi).1
  · simp (disch := omega) only [cpM_o, cpM_i, u2o, u2k, u2s]; exact (r7 i hi).2
  · simp (disch := omega) only [cpM_o, cpM_i, u2o, u2k, u2s]; exact (r8 i hi).1
  · simp (disch := omega) only [cpM_o, cpM_i, u2o, u2k, u2s]; exact (r8 i hi).2
  · simp (disch := omega) only [cpM_o, u2o]
theorem c_cpT {t s n : Nat} {f : Nat → Int32} (hI : IT f) (hd : t + 34 ≤ s ∨ s + 34 ≤ t) : ∀ (d k i : Nat) (M : Mem), i + d = 6 → d < k → RT s M f → (∀ p, p < i → RP (t + 4 + 5 * p) p M f) → ∃ M', mX9_copyFrom_c2 n k t s (nI i) M = some M' ∧ RT t M' f ∧ M' t 7 = M s 7 ∧ Fr t (t + 34) M M'
  | d, 0, _, _, _, h, _, _ => absurd h (Nat.not_lt_zero _)
  | 0, k + 1, i, M, e, h, hR, hP => by
    have hi : i = 6 := by omega
    subst hi
    obtain ⟨r0, r1, r2, r3, r4, r5⟩ := hR
    have hX := hI.2.2.2.1.2
    unfold mX9_copyFrom_c2
    rw [if_pos (show (6 : Int32) ≤ nI 6 by decide)]
    simp (disch := omega) only [lt_eq, cpc4, tn0, tn4, cpM_o, u2o]
    refine ⟨_, rfl, ⟨?_, ?_, ?_, ?_, fun i hi => ⟨?_, ?_⟩, fun p hp => ?_⟩, ?_, fun o k h => ?_⟩
    · simp (disch := omega) only [cpM_o, u2o, u2k, u2s]; exact r0
    · simp (disch := omega) only [cpM_o, u2o, u2k, u2s]; exact r1
    · simp (disch := omega) only [cpM_o, u2o, u2k, u2s]; exact r2
    · simp (disch := omega) only [cpM_o, u2o, u2k, u2s]; exact r3
    · simp (disch := omega) only [cpM_o, cpM_i, u2o, u2k, u2s]; exact (r4 i hi).1
    · simp (disch := omega) only [cpM_o, cpM_i, u2o, u2k, u2s]; exact (r4 i hi).2
    · have hIP := hI.2.2.2.2.2 p hp
      exact RP_congr (hP p hp) hIP.2.2.1.2 hIP.2.2.2.2.2.2.1.2 (fun o k g1 g2 => by simp (disch := omega) only [cpM_o, u2o]) (fun _ _ => rfl)
    · exact u2s _ _ _ _
    · simp (disch := omega) only [cpM_o, u2o]
  | d + 1, k + 1, i, M, e, h, hR, hP => by
    have hx : i < 6 := by omega
    have hIP := hI.2.2.2.2.2 i hx
    obtain ⟨M1, p1, p2, p3⟩ := c_cpP (q := t + 4 + 5 * i) (hR.2.2.2.2.2 i hx) hIP (by omega)
    obtain ⟨M2, q1, q2, q3, q4⟩ := c_cpT (t := t) (s := s) (n := n) hI hd d k (i + 1) M1 (by omega) (by omega) (RT_congr hR hI (fun o k g1 g2 => p3 o k (by omega)) (fun _ _ _ _ => rfl))
      (fun p hp => by
        rcases (show p = i ∨ p < i by omega) with rfl | g
        · exact p2
        · have hIp := hI.2.2.2.2.2 p (by omega)
          exact RP_congr (hP p g) hIp.2.2.1.2 hIp.2.2.2.2.2.2.1.2 (fun o k g1 g2 => p3 o k (by omega)) (fun _ _ => rfl))
    refine ⟨M2, ?_, q2, by rw [q3]; exact p3 s 7 (by omega), (p3.wide (by omega) (by omega)).trans q4⟩
    unfold mX9_copyFrom_c2
    rw [if_neg (by rw [show (6 : Int32) = nI 6 from rfl, nI_leI (by omega) (by omega)]; omega), chk_n hx (by decide), chk_n hx (by decide), nI_clamp (by omega), show t + 1 + 3 + 5 * i = t + 4 + 5 * i by omega, show s + 1 + 3 + 5 * i = s + 4 + 5 * i by omega, p1]
    simp only [bnp_some]
    rw [show (1 : Int32) = nI 1 from rfl, nI_add]
    exact q1
theorem c_cpA {a s x : Nat} {M : Mem} {f : Nat → Int32} (hR : RA s x M f) (hI : IA f x) (hx : M a 0 = nI x) (hd : a ≠ s) : ∃ M', mX0_copyFrom a s M = some M' ∧ RA a x M' f ∧ Fr a (a + 1) M M' := by
  obtain ⟨a0, a1, a2, a3, a4, a5, a6, a7, a8, a9, a10, a11, a12, a13⟩ := hR
  have h01 : (fA f x 0 = 0 ∨ fA f x 0 = 1) ∧ (fA f x 8 = 0 ∨ fA f x 8 = 1) ∧ (fA f x 7 = 0 ∨ fA f x 7 = 1) := by
    rcases hI with h | h
    · exact ⟨Or.inl (h 0 (by decide)), Or.inl (h 8 (by decide)), Or.inl (h 7 (by decide))⟩
    · obtain ⟨i0, i1, i2, i3, i4, i5, i6, i7, i8, i9, i10, i11⟩ := h
      exact ⟨Or.inr i0, isM_01 i10, isM_01 i9⟩
  unfold mX0_copyFrom
  simp (disch := omega) only [lt_eq, u2o]
  rw [zb_ok (by rw [a1]; exact h01.1), zb_ok (by rw [a2]; exact h01.2.1), zb_ok (by rw [a3]; exact h01.2.2)]
  refine ⟨_, rfl, ⟨?_, ?_, ?_, ?_, ?_, ?_, ?_, ?_, ?_, ?_, ?_, ?_, ?_, ?_⟩, fun o k h => ?_⟩
  · simp (disch := omega) only [u2k]; exact hx
  · simp (disch := omega) only [u2k, u2s]; exact a1
  · simp (disch := omega) only [u2k, u2s]; exact a2
  · simp (disch := omega) only [u2k, u2s]; exact a3
  · simp (disch := omega) only [u2k, u2s]; exact a4
  · simp (disch := omega) only [u2k, u2s]; exact a5
  · simp (disch := omega) only [u2k, u2s]; exact a6
  · simp (disch := omega) only [u2k, u2s]; exact a7
  · simp (disch := omega) only [u2k, u2s]; exact a8
  · simp (disch := omega) only [u2k, u2s]; exact a9
  · simp (disch := omega) only [u2k, u2s]; exact a10
  · simp (disch := omega) only [u2k, u2s]; exact a11
  · simp (disch := omega) only [u2k, u2s]; exact a12
  · simp (disch := omega) only [u2k, u2s]; exact a13
  · simp (disch := omega) only [u2o]
theorem cpcE {α : Type} {z : Nat} {y : Option α} (h : z ≤ 400) : cpc (0 : Int32) (0 : Int32) (nI z) 400 400 y = y := by
  unfold cpc
  rw [nI_clamp (by omega), tn0]
  exact if_pos ⟨by decide, by decide, nI_pos (by omega), by omega, by omega⟩
theorem c_cpE {e s : Nat} {M : Mem} {f : Nat → Int32} (hR : RE s M f) (h1 : f 1 = nI (sz f)) (hs : sz f ≤ 400) (hd : e + 11 ≤ s ∨ s + 11 ≤ e) : ∃ M', mX5_copyFrom e s M = some M' ∧ RE e M' f ∧ Fr e (e + 11) M M' := by
  obtain ⟨r0, rE⟩ := hR
  have hm : (if (0 : Int32) < (if (400 : Int32) < nI (sz f) then (400 : Int32) else nI (sz f)) then (if (400 : Int32) < nI (sz f) then (400 : Int32) else nI (sz f)) else (0 : Int32)) = nI (sz f) := by
    rw [if_neg (show ¬ (400 : Int32) < nI (sz f) by rw [show (400 : Int32) = nI 400 from rfl, nI_ltI (by omega) (by omega)]; omega)]
    by_cases h : (0 : Int32) < nI (sz f)
    · rw [if_pos h]
    · rw [if_neg h]
      have : ¬ 0 < sz f := fun q => h (by rw [show (0 : Int32) = nI 0 from rfl, nI_ltI (by omega) (by omega)]; exact q)
      have h0 : sz f = 0 := by omega
      rw [h0]; rfl
  unfold mX5_copyFrom
  rw [r0, h1, hm]
  simp (disch := omega) only [lt_eq, u2s, cpcE, tn0, cpM_o, nI_clamp]
  refine ⟨_, rfl, ⟨?_, fun i hi => ?_⟩, fun o k h => ?_⟩
  · simp (disch := omega) only [cpM_o, u2s]; exact h1.symm
  · simp (disch := omega) only [cpM_o, cpM_i, u2o]
    exact rE i hi
  · simp (disch := omega) only [cpM_o, u2o]
def IDX (b : Nat) (M : Mem) : Prop := ∀ x, x < 6 → M (b + 35 + 12 + x) 0 = nI x
theorem IDX_Fr {b lo hi : Nat} {M M' : Mem} (h : IDX b M) (hF : Fr lo hi M M') (hd : hi ≤ b + 47 ∨ b + 53 ≤ lo) : IDX b M' := fun x hx => by rw [hF _ _ (by omega)]; exact h x hx
theorem RA_congrM {a x : Nat} {M M' : Mem} {f : Nat → Int32} (h : RA a x M f) (hM : ∀ k, M' a k = M a k) : RA a x M' f := by
  unfold RA
  simp only [hM]
  exact h
theorem RE_congrM {e : Nat} {M M' : Mem} {f : Nat → Int32} (h : RE e M f) (hM : ∀ o k, e ≤ o → o < e + 11 → M' o k = M o k) : RE e M' f := by
  obtain ⟨r0, rE⟩ := h
  refine ⟨by rw [hM _ _ (by omega) (by omega)]; exact r0, fun i hi => ?_⟩
  simp (disch := omega) only [hM]
  exact rE i hi
theorem c_cpB {b s n : Nat} {f : Nat → Int32} (hI : INV0 f) (hd : b + 53 ≤ s ∨ s + 53 ≤ b) : ∀ (d k i : Nat) (M : Mem), i + d = 6 → d < k → RS s M f → IDX b M → RT (b + 1) M f → M (b + 1) 7 = M (s + 1) 7 → (∀ x, x < i → RA (b + 35 + 12 + x) x M f) → ∃ M', mX1_copyFrom_c13 n k b s (nI i) M = some M' ∧ RS b M' f ∧ Fr b (b + 53) M M'
  | d, 0, _, _, _, h, _, _, _, _, _ => absurd h (Nat.not_lt_zero _)
  | 0, k + 1, i, M, e, h, hR, hX, hT, h7, hA => by
    have hi : i = 6 := by omega
    subst hi
    obtain ⟨q0, q1, qT, qA, qE⟩ := hR
    obtain ⟨M1, p1, p2, p3⟩ := c_cpE (e := b + 36) qE hI.2.1.1 hI.2.1.2 (by omega)
    unfold mX1_copyFrom_c13
    rw [if_pos (show (6 : Int32) ≤ nI 6 by decide), p1]
    simp only [bnp_some]
    refine ⟨_, rfl, ⟨?_, ?_, ?_, fun x hx => ?_, ?_⟩, fun o k h => ?_⟩
    · rw [u2s, p3 _ _ (by omega)]; exact q0
    · rw [u2o _ _ (by omega), p3 _ _ (by omega), h7]; exact q1
    · exact RT_congr hT hI.2.2.2.1 (fun o k g1 g2 => by rw [u2o _ _ (by omega), p3 _ _ (by omega)]) (fun _ _ _ _ => rfl)
    · exact RA_congrM (hA x hx) (fun k => by rw [u2o _ _ (by omega), p3 _ _ (by omega)])
    · exact RE_congrM p2 (fun o k g1 g2 => u2o _ _ (by omega))
    · rw [u2o _ _ (by omega), p3 _ _ (by omega)]
  | d + 1, k + 1, i, M, e, h, hR, hX, hT, h7, hA => by
    have hx : i < 6 := by omega
    obtain ⟨q0, q1, qT, qA, qE⟩ := id hR
    obtain ⟨M1, p1, p2, p3⟩ := c_cpA (a := b + 35 + 12 + i) (qA i hx) (hI.2.2.2.2.1 i hx) (hX i hx) (by omega)
    have hR1 : RS s M1 f := ⟨by rw [p3 _ _ (by omega)]; exact q0, by rw [p3 _ _ (by omega)]; exact q1, RT_congr qT hI.2.2.2.1 (fun o k g1 g2 => p3 _ _ (by omega)) (fun _ _ _ _ => rfl), fun x hx => RA_congrM (qA x hx) (fun k => p3 _ _ (by omega)), RE_congrM qE (fun o k g1 g2 => p3 _ _ (by omega))⟩
    obtain ⟨M2, r1, r2, r3⟩ := c_cpB (b := b) (s := s) (n := n) hI hd d k (i + 1) M1 (by omega) (by omega) hR1
      (fun x hx' => by
        rcases (show x = i ∨ x ≠ i by omega) with rfl | g
        · exact p2.1
        · rw [p3 _ _ (by omega)]; exact hX x hx')
      (RT_congr hT hI.2.2.2.1 (fun o k g1 g2 => p3 _ _ (by omega)) (fun _ _ _ _ => rfl)) (by rw [p3 _ _ (by omega), p3 _ _ (by omega)]; exact h7)
      (fun x hx' => by
        rcases (show x = i ∨ x < i by omega) with rfl | g
        · exact p2
        · exact RA_congrM (hA x g) (fun k => p3 _ _ (by omega)))
    refine ⟨M2, ?_, r2, (p3.wide (by omega) (by omega)).trans r3⟩
    unfold mX1_copyFrom_c13
    rw [if_neg (by rw [show (6 : Int32) = nI 6 from rfl, nI_leI (by omega) (by omega)]; omega), chk_n hx (by decide), chk_n hx (by decide), nI_clamp (by omega), p1]
    simp only [bnp_some]
    rw [show (1 : Int32) = nI 1 from rfl, nI_add]
    exact r1
theorem c_copy {b s n : Nat} {M : Mem} {f : Nat → Int32} (hI : INV0 f) (hd : b + 53 ≤ s ∨ s + 53 ≤ b) (hR : RS s M f) (hX : IDX b M) (hn : 500 ≤ n) : ∃ M', mX1_copyFrom n b s M = some M' ∧ RS b M' f ∧ Fr b (b + 53) M M' := by
  obtain ⟨q0, q1, qT, qA, qE⟩ := id hR
  obtain ⟨M1, p1, p2, p3, p4⟩ := c_cpT (t := b + 1) (s := s + 1) (n := n) hI.2.2.2.1 (by omega) 6 n 0 M rfl (by omega) qT (fun p hp => absurd hp (Nat.not_lt_zero _))
  have hR1 : RS s M1 f := ⟨by rw [p4 _ _ (by omega)]; exact q0, by rw [p4 _ _ (by omega)]; exact q1, RT_congr qT hI.2.2.2.1 (fun o k g1 g2 => p4 _ _ (by omega)) (fun _ _ _ _ => rfl), fun x hx => RA_congrM (qA x hx) (fun k => p4 _ _ (by omega)), RE_congrM qE (fun o k g1 g2 => p4 _ _ (by omega))⟩
  obtain ⟨M2, r1, r2, r3⟩ := c_cpB (b := b) (s := s) (n := n) hI hd 6 n 0 M1 rfl (by omega) hR1 (IDX_Fr hX p4 (by omega)) p2 (by rw [p3, p4 _ _ (by omega)]) (fun x hx => absurd hx (Nat.not_lt_zero _))
  refine ⟨M2, ?_, r2, (p4.wide (by omega) (by omega)).trans r3⟩
  unfold mX1_copyFrom mX9_copyFrom
  rw [show (0 : Int32) = nI 0 from rfl, p1]
  exact r1
/-! the reference's copies of its row -/
def cpR (f : Nat → Int32) (p q m : Nat) : Nat → Int32 := fun j => if 4250 * q ≤ j ∧ j < 4250 * q + m then f (j - 4250 * q + 4250 * p) else f j
theorem cpR_0 (f : Nat → Int32) (p q : Nat) : cpR f p q 0 = f := by
  funext j; unfold cpR; rw [if_neg (by omega)]
theorem cpR_o {f : Nat → Int32} {p q m j : Nat} (h : j < 4250 * q ∨ 4250 * q + m ≤ j) : cpR f p q m j = f j := by
  unfold cpR; rw [if_neg (by omega)]
theorem cpR_i {f : Nat → Int32} {p q m w : Nat} (h : w < m) : cpR f p q m (4250 * q + w) = f (4250 * p + w) := by
  unfold cpR; rw [if_pos (by omega)]; congr 1; omega
theorem cpR_s {f : Nat → Int32} {p q m : Nat} (hpq : p ≠ q) (hm : m < 4250) : upd (cpR f p q m) (4250 * q + m) (cpR f p q m (4250 * p + m)) = cpR f p q (m + 1) := by
  funext j
  rw [cpR_o (j := 4250 * p + m) (by omega)]
  unfold upd cpR
  by_cases h : j = 4250 * q + m
  · rw [if_pos h, if_pos (by omega), h]; congr 1; omega
  · rw [if_neg h]
    by_cases h2 : 4250 * q ≤ j ∧ j < 4250 * q + m
    · rw [if_pos h2, if_pos (by omega)]
    · rw [if_neg h2, if_neg (by omega)]
theorem m_cp_go {p q n : Nat} {N : Mem} {f : Nat → Int32} (hp : p ≤ 2) (hq : q ≤ 2) (hpq : p ≠ q) : ∀ (d k i : Nat), i + d = 4250 → d < k → mX11_copies_c2 n k (nI p) (nI q) (nI i) (stF N (cpR f p q i)) = some (stF N (cpR f p q 4250))
  | d, 0, _, _, h => absurd h (Nat.not_lt_zero _)
  | 0, k + 1, i, e, h => by
    have hi : i = 4250 := by omega
    subst hi
    unfold mX11_copies_c2
    rw [if_pos (show (4250 : Int32) ≤ nI 4250 by decide)]
  | d + 1, k + 1, i, e, h => by
    have ih := m_cp_go (n := n) (N := N) (f := f) hp hq hpq d k (i + 1) (by omega) (by omega)
    unfold mX11_copies_c2
    rw [if_neg (by rw [show (4250 : Int32) = nI 4250 from rfl, nI_leI (by omega) (by omega)]; omega)]
    simp (disch := omega) only [nI_lit, nI_add, pk_mul, nI_clamp, chk_n, upd2_stF, lt_eq, stF_f]
    rw [cpR_s hpq (by omega)]
    exact ih
theorem m_copies {p q n : Nat} {N : Mem} {f : Nat → Int32} (hp : p ≤ 2) (hq : q ≤ 2) (hpq : p ≠ q) (hn : 5000 ≤ n) : mX11_copies n (nI p) (nI q) (stF N f) = some (stF N (cpR f p q 4250)) := by
  have := m_cp_go (n := n) (N := N) (f := f) hp hq hpq 4250 n 0 rfl (by omega)
  rw [cpR_0] at this
  exact this
/-! of the row only the first part counts -/
theorem row_A {f f' : Nat → Int32} (hf : ∀ j, j < 4250 → f' j = f j) (x w : Nat) (hx : x < 6) (hw : w < 12) : fA f' x w = fA f x w := hf _ (by omega)
theorem row_sz {f f' : Nat → Int32} (hf : ∀ j, j < 4250 → f' j = f j) : sz f' = sz f := by unfold sz; rw [hf 1 (by decide)]
theorem row_all {f f' : Nat → Int32} (hs : sz f ≤ 400) (hf : ∀ j, j < 4250 → f' j = f j) (x : Nat) : allS f' x = allS f x := by
  unfold allS
  rw [row_sz hf]
  apply sumR_congr
  intro j _ hj
  rw [show fE f' j 1 = fE f j 1 from hf _ (by omega), show fE f' j 7 = fE f j 7 from hf _ (by omega)]
theorem RS_row {b : Nat} {M : Mem} {f f' : Nat → Int32} (hR : RS b M f) (hI : INV0 f) (hf : ∀ j, j < 4250 → f' j = f j) : RS b M f' := by
  obtain ⟨q0, q1, qT, qA, e0, qE⟩ := hR
  have hs := hI.2.1.2
  have fz := row_sz hf
  refine ⟨by rw [hf 0 (by decide)]; exact q0, by rw [hf 4 (by decide)]; exact q1, RT_congr qT hI.2.2.2.1 (fun _ _ _ _ => rfl) (fun j _ h _ => hf j (by omega)), fun x hx => ?_, by rw [hf 1 (by decide)]; exact e0, fun i hi => ?_⟩
  · have := qA x hx
    unfold RA aN aD at *
    rw [row_all hs hf]
    simp (disch := omega) only [row_A hf]
    exact this
  · rw [fz] at hi
    have k : ∀ w, w < 10 → fE f' i w = fE f i w := fun w hw => hf _ (by omega)
    simp (disch := omega) only [k]
    exact qE i hi
theorem INV0_row {f f' : Nat → Int32} (hI : INV0 f) (hf : ∀ j, j < 4250 → f' j = f j) : INV0 f' := by
  obtain ⟨t0, t1, t2, hIT, hIA, hIE⟩ := hI
  have hs := t1.2
  have eT : tD f' = tD f := by unfold tD; rw [hf 0 (by decide)]
  have eS := row_sz hf
  have eC : cL f' = cL f := by unfold cL; rw [hf 4 (by decide)]
  unfold INV0
  rw [eT, eS, eC, hf 0 (by decide), hf 1 (by decide), hf 4 (by decide)]
  exact ⟨t0, t1, t2, IT_congr hIT (fun j _ h _ => hf j (by omega)), fun y hy => IA_congr (hIA y hy) (fun w hw => row_A hf y w hy hw) (Nat.le_of_eq eT.symm) (Nat.le_of_eq eS.symm),
    fun i hi => IE_congr (hIE i hi) (fun w hw => hf _ (by omega)) (Nat.le_of_eq eS.symm) (fun y hy h1 => by rw [row_A hf y 0 hy (by decide)]; exact h1)⟩
theorem INV_row {f f' : Nat → Int32} (hI : INV f) (hf : ∀ j, j < 4250 → f' j = f j) : INV f' := by
  have hI' := INV0_row hI.1 hf
  exact ⟨hI', fun y hy => RUN_same hI' hy (hI.2 y hy) (by unfold tD; rw [hf 0 (by decide)]) (fun w hw => row_A hf y w hy (by omega))⟩
