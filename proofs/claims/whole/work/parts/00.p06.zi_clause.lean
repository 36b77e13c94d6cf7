/-! parts of a CLAUSE, on both sides -/
def FB (M M' : Mem) : Prop := ∀ o k, (o < 164 ∨ 199 ≤ o ∨ (o = 164 ∧ k = 7) ∨ (o = 198 ∧ k = 1)) → M' o k = M o k
def GB (N N' : Mem) : Prop := ∀ o k, ¬ ((o = 207 ∧ (k = 5 ∨ k = 7 ∨ k = 8 ∨ k = 9 ∨ k = 10 ∨ k = 10 + HI)) ∨ o = 211) → N' o k = N o k
theorem FB.trans {M M1 M2 : Mem} (h1 : FB M M1) (h2 : FB M1 M2) : FB M M2 := fun o k h => (h2 o k h).trans (h1 o k h)
theorem GB.trans {M M1 M2 : Mem} (h1 : GB M M1) (h2 : GB M1 M2) : GB M M2 := fun o k h => (h2 o k h).trans (h1 o k h)
theorem FR.b {M M' : Mem} (h : FR 198 M M') : FB M M' := fun o k g => h o k (by omega)
theorem GR.b {N N' : Mem} (h : GR N N') : GB N N' := fun o k g => h o k (by omega)
theorem FB_up {M : Mem} {o k : Nat} {v : Int32} (h1 : 164 ≤ o) (h2 : o ≤ 197) (h3 : o = 164 → k ≠ 7) : FB M (upd2 M o k v) := fun o' k' g => by
  by_cases z : o' = o
  · subst z
    exact u2k _ _ (by
      intro e; subst e
      rcases g with g | g | g | g
      · omega
      · omega
      · exact h3 g.1 g.2
      · omega)
  · exact u2o _ _ z
theorem GB_up {N : Mem} {k : Nat} {v : Int32} : GB N (upd2 N 211 k v) := fun o' k' g => u2o _ _ (by omega)
theorem row211 {N : Mem} {k : Nat} {v : Int32} : upd2 N 211 k v 211 = upd (N 211) k v := by
  funext i; unfold upd2 upd; simp
theorem DR_fr {M M2 N N2 : Mem} (h : RT 164 M (N 211)) (hI : IT (N 211)) (h1 : FR 198 M M2) (h2 : GR N N2) : RT 164 M2 (N2 211) ∧ IT (N2 211) := by
  have e : N2 211 = N 211 := funext fun k => h2 211 k (Or.inl (by decide))
  rw [e]
  exact ⟨RT_congr h hI (fun o k a b => h1 o k (by omega)) (fun _ _ _ _ => rfl), hI⟩
def ClO (L : Nat) (M N : Mem) (mc : Option Mem) (mm : Option (Int32 × Mem)) : Prop :=
  (∃ q M' N', mc = some M' ∧ mm = some (1, N') ∧ RD 198 L q M' N' ∧ RT 164 M' (N' 211) ∧ IT (N' 211) ∧ FB M M' ∧ GB N N') ∨
  (∃ M' N', mc = some M' ∧ mm = some (0, N') ∧ FLT 198 M' N' ∧ FB M M' ∧ GB N N')
theorem ClO.pre {L : Nat} {M N M1 N1 : Mem} {mc : Option Mem} {mm : Option (Int32 × Mem)} (h : ClO L M1 N1 mc mm) (hM : FB M M1) (hN : GB N N1) : ClO L M N mc mm := by
  rcases h with ⟨q, M', N', a1, a2, a3, a4, a5, a6, a7⟩ | ⟨M', N', a1, a2, a3, a4, a5⟩
  · exact Or.inl ⟨q, M', N', a1, a2, a3, a4, a5, hM.trans a6, hN.trans a7⟩
  · exact Or.inr ⟨M', N', a1, a2, a3, hM.trans a4, hN.trans a5⟩
def KT (mm : Option (Int32 × Mem)) (j : Nat) : Option (Int32 × Mem) := (bnd mm fun r1 M2 => (if r1 = 0 then (some ((0 : Int32), M2)) else (bnd (mX11_keepsNumber (nI j) M2) fun r4 M5 => (if r4 = 0 then (some ((0 : Int32), M5)) else (some ((1 : Int32), M5))))))
theorem keep_ok {j : Nat} {M : Mem} (hj : j < 164) : mX11_keepsNumber (nI j) M = some (1, upd2 M 211 j (M 207 8)) := by
  unfold mX11_keepsNumber
  rw [chk_n hj (by decide), nI_clamp (by omega)]
/-- one NUMBER that is kept -/
theorem B_one {n L p hi o slot j : Nat} {M N : Mem} (hn : 20000 ≤ n) (ho1 : 164 ≤ o) (ho2 : o ≤ 197) (hos : o = 164 → slot ≠ 7) (hhi : hi ≤ 99999) (hj : j < 164)
    (put : ∀ (M : Mem) (g : Nat → Int32) (v : Nat), RT 164 M g → IT g → v ≤ hi → RT 164 (upd2 M o slot (nI v)) (upd g j (nI v)) ∧ IT (upd g j (nI v))) (h : RD 198 L p M N) (hT : RT 164 M (N 211)) (hI : IT (N 211)) :
    ClO L M N (bnd (mX8_number n 198 (nI 0) (nI hi) M) fun r5 M6 => some (upd2 M6 o slot r5)) (KT (numC n (nI 0) (nI hi) N) j) := by
  unfold KT
  rcases R_num (n := n) (lo := 0) (hi := hi) (by decide) (Nat.zero_le _) hhi hn h with ⟨v, q, M2, N2, c1, c2, c3, c4, c5, c6, c7, c8, c9⟩ | ⟨r, M2, N2, c1, c2, c3, c4, c5⟩
  · obtain ⟨t1, t2⟩ := DR_fr hT hI c8 c9
    obtain ⟨p1, p2⟩ := put M2 _ v t1 t2 c5
    rw [c1, c2]
    simp only [bnd_some]
    rw [if_neg (show ¬ (1 : Int32) = 0 by decide), keep_ok hj, c3]
    simp only [bnd_some]
    rw [if_neg (show ¬ (1 : Int32) = 0 by decide)]
    exact Or.inl ⟨q, _, _, rfl, rfl, RD_N (RD_M c7 (by omega) (by omega)) (Or.inl (by decide)) (by decide), by rw [row211]; exact p1, by rw [row211]; exact p2, c8.b.trans (FB_up ho1 ho2 hos), c9.b.trans GB_up⟩
  · rw [c1, c2]
    simp only [bnd_some]
    rw [if_pos trivial]
    exact Or.inr ⟨_, _, rfl, rfl, FLT_M c3 (by omega), c4.b.trans (FB_up ho1 ho2 hos), c5.b⟩
/-- a row of two NUMBERS that is added -/
theorem B_list {n L p many oc kc a1 a2 jc j1 j2 lo1 hi1 hi2 : Nat} {M N : Mem} {isA : Int32 → Mem → Option Int32} {add : Int32 → Int32 → Mem → Option Mem} {c79 : Mem → Option (Int32 × Mem)} (hn : 20000 ≤ n)
    (hlo : lo1 ≤ hi1) (hhi1 : hi1 ≤ 99999) (hhi2 : hi2 ≤ 99999) (hm : many ≤ 3) (o1 : 164 ≤ oc ∧ oc ≤ 197 ∧ (oc = 164 → kc ≠ 7)) (o2 : 164 < a1 ∧ a1 ≤ 197) (o3 : 164 < a2 ∧ a2 ≤ 197) (hj1 : j1 + 3 < 164) (hj2 : j2 + 3 < 164) (hjc : jc < 164)
    (hisA : ∀ r M', M' oc kc = nI many → (∀ k, M' a1 k = M a1 k) → isA r M' = some (if many = 0 then 1 else if r ≤ M a1 (many - 1) then 0 else 1))
    (hlast : 0 < many → M a1 (many - 1) = N 211 (j1 + (many - 1)))
    (hadd : ∀ r s M', M' oc kc = nI many → add r s M' = some (addM oc kc a1 a2 many r s M'))
    (hcnt : M oc kc = nI many)
    (hfin : ∀ (M' : Mem) (b c : Nat), RT 164 M' (N 211) → lo1 ≤ b → b ≤ hi1 → c ≤ hi2 → (0 < many → M a1 (many - 1) < nI b) → RT 164 (addM oc kc a1 a2 many (nI b) (nI c) M') (addG jc j1 j2 many (nI b) (nI c) (N 211)) ∧ IT (addG jc j1 j2 many (nI b) (nI c) (N 211)))
    (hc79 : ∀ M6, c79 M6 = chk (nI (j1 + many)) 164 (bnd (mX11_readsNumber n (nI 0) (nI hi2) (upd2 M6 211 (j1 + many) (M6 207 8))) fun r1 M2 => (if r1 = 0 then (some ((0 : Int32), M2)) else (some ((1 : Int32), upd2 (upd2 M2 211 (j2 + many) (M2 207 8)) 211 jc (nI (many + 1)))))))
    (h : RD 198 L p M N) (hT : RT 164 M (N 211)) (hI : IT (N 211)) :
    ClO L M N (bnd (mX8_number n 198 (nI lo1) (nI hi1) M) fun r1 M2 => (bnp (isA r1 M2) fun r3 => (if r3 = 0 then (bnp (mX8_mark 198 (6 : Int32) (M 198 2) M2) fun M12 => (bnp (mX8_blank 198 M12) fun M14 => (bnd (mX8_number n 198 (nI 0) (nI hi2) M14) fun r15 M16 => (add r1 r15 M16)))) else (bnp (mX8_blank 198 M2) fun M6 => (bnd (mX8_number n 198 (nI 0) (nI hi2) M6) fun r7 M8 => (add r1 r7 M8))))))
      (bnd (numC n (nI lo1) (nI hi1) N) fun r5 M6 => (if r5 = 0 then (some ((0 : Int32), M6)) else (if nI many ≤ 0 then c79 M6 else (chk (nI (j1 + many) - 1) 164 (if (M6 211 (Int32.toNatClampNeg (nI (j1 + many) - 1))) < (M6 207 8) then c79 M6 else (bnd (mX11_wrongAt (6 : Int32) (nI p) M6) fun r8 M9 => (some (r8, M9)))))))) := by
  have hp : M 198 2 = nI p := h.2.2.2.1
  have hpL : p ≤ 200 := by have := h.1; have := h.2.1; omega
  have fbA : ∀ (r s : Int32) (M' : Mem), FB M' (addM oc kc a1 a2 many r s M') := fun r s M' => by
    unfold addM
    exact ((FB_up (by omega) (by omega) (by omega)).trans (FB_up (by omega) (by omega) (by omega))).trans (FB_up o1.1 o1.2.1 o1.2.2)
  have flA : ∀ (r s : Int32) (M' N' : Mem), FLT 198 M' N' → FLT 198 (addM oc kc a1 a2 many r s M') N' := fun r s M' N' g => FLT_M (FLT_M (FLT_M g (by omega)) (by omega)) (by omega)
  rw [hp]
  rcases R_num (n := n) (lo := lo1) (hi := hi1) (by decide) hlo hhi1 hn h with ⟨b, q, M2, N2, c1, c2, c3, c4, c5, c6, c7, c8, c9⟩ | ⟨r, M2, N2, c1, c2, c3, c4, c5⟩
  · have k1 : M2 oc kc = nI many := by rw [c8 oc kc (by omega)]; exact hcnt
    have k2 : ∀ k, M2 a1 k = M a1 k := fun k => c8 a1 k (by omega)
    have e211 : N2 211 = N 211 := funext fun k => c9 211 k (Or.inl (by decide))
    rw [c1, c2]
    simp only [bnd_some]
    rw [hisA _ _ k1 k2, if_neg (show ¬ (1 : Int32) = 0 by decide), c3, e211]
    simp only [bnp_some]
    -- above all that stand there
    have above : (0 < many → M a1 (many - 1) < nI b) → ClO L M N (bnp (mX8_blank 198 M2) fun M6 => (bnd (mX8_number n 198 (nI 0) (nI hi2) M6) fun r7 M8 => (add (nI b) r7 M8))) (c79 N2) := by
      intro hab
      rw [hc79, chk_n (show j1 + many < 164 by omega) (by decide), c3]
      have hR2 : RD 198 L q M2 (upd2 N2 211 (j1 + many) (nI b)) := RD_N c7 (Or.inl (by decide)) (by decide)
      rcases P_num (n := n) (lo := 0) (hi := hi2) (by decide) (Nat.zero_le _) hhi2 hn hR2 with ⟨v, q', M3, M4, N4, v1, v2, b1, b2, b3, b4, b5, b6, b7⟩ | ⟨r, M3, M4, N4, b1, b2, b3, b4, b5, b6⟩
      · have k3 : M4 oc kc = nI many := by rw [b6 oc kc (by omega)]; exact k1
        rw [b1, b3]
        simp only [bnp_some, bnd_some]
        rw [b2, if_neg (show ¬ (1 : Int32) = 0 by decide), b4]
        simp only [bnd_some]
        rw [hadd _ _ _ k3]
        have t1 : RT 164 M4 (N 211) := RT_congr hT hI (fun o k x y => by rw [b6 o k (by omega), c8 o k (by omega)]) (fun _ _ _ _ => rfl)
        obtain ⟨f1, f2⟩ := hfin M4 b v t1 c4 c5 v2 hab
        have e4 : N4 211 = upd (N 211) (j1 + many) (nI b) := by
          have : N4 211 = upd2 N2 211 (j1 + many) (nI b) 211 := funext fun k => b7 211 k (Or.inl (by decide))
          rw [this, row211, e211]
        have e5 : upd2 (upd2 N4 211 (j2 + many) (nI v)) 211 jc (nI (many + 1)) 211 = addG jc j1 j2 many (nI b) (nI v) (N 211) := by
          rw [row211, row211, e4]; rfl
        refine Or.inl ⟨q', _, _, rfl, rfl, ?_, by rw [e5]; exact f1, by rw [e5]; exact f2, (c8.b.trans b6.b).trans (fbA _ _ _), ((c9.b.trans GB_up).trans b7.b).trans (GB_up.trans GB_up)⟩
        exact RD_N (RD_N (RD_M (RD_M (RD_M b5 (by omega) (by omega)) (by omega) (by omega)) (by omega) (by omega)) (Or.inl (by decide)) (by decide)) (Or.inl (by decide)) (by decide)
      · have k3 : M4 oc kc = nI many := by rw [b5 oc kc (by omega)]; exact k1
        rw [b1, b3]
        simp only [bnp_some, bnd_some]
        rw [b2, if_pos trivial]
        simp only [bnd_some]
        rw [hadd _ _ _ k3]
        exact Or.inr ⟨_, _, rfl, rfl, flA _ _ _ _ b4, (c8.b.trans b5.b).trans (fbA _ _ _), (c9.b.trans GB_up).trans b6.b⟩
    rcases Nat.eq_zero_or_pos many with z | z
    · rw [if_pos z, if_neg (show ¬ (1 : Int32) = 0 by decide), if_pos (show nI many ≤ 0 by rw [z]; decide)]
      exact above (fun g => by omega)
    · have hidx : nI (j1 + many) - 1 = nI (j1 + (many - 1)) := by
        rw [show (1 : Int32) = nI 1 from rfl, pk_sub (by omega)]; congr 1; omega
      rw [if_neg (show ¬ many = 0 by omega), if_neg (show ¬ nI many ≤ 0 by rw [show (0 : Int32) = nI 0 from rfl, nI_leI (by omega) (by omega)]; omega), hidx, chk_n (show j1 + (many - 1) < 164 by omega) (by decide), nI_clamp (by omega), ← hlast z]
      by_cases g : nI b ≤ M a1 (many - 1)
      · rw [if_pos g, if_pos rfl, if_neg (Int32.not_lt.mpr g)]
        obtain ⟨f1, f2, f3⟩ := RD_fault (c := 6) (at' := p) c7 (by decide) (by decide) hpL
        have hne := FLT_ne f1
        rw [show mX8_mark 198 (6 : Int32) (nI p) M2 = _ from mark_ok (c := 6) c7.2.2.2.2.1]
        simp only [bnp_some]
        rw [blank_no hne]
        simp only [bnp_some]
        rw [number_no hne]
        simp only [bnd_some]
        rw [hadd _ _ _ (by rw [u2o _ _ (by omega), u2o _ _ (by omega)]; exact k1)]
        unfold mX11_wrongAt
        simp only [bnd_some]
        exact Or.inr ⟨_, _, rfl, rfl, flA _ _ _ _ f1, (c8.b.trans f2.b).trans (fbA _ _ _), c9.b.trans f3.b⟩
      · rw [if_neg g, if_neg (show ¬ (1 : Int32) = 0 by decide), if_pos (Int32.not_le.mp g)]
        exact above (fun _ => Int32.not_le.mp g)
  · have k1 : M2 oc kc = nI many := by rw [c4 oc kc (by omega)]; exact hcnt
    have k2 : ∀ k, M2 a1 k = M a1 k := fun k => c4 a1 k (by omega)
    have hne := FLT_ne c3
    rw [c1, c2]
    simp only [bnd_some]
    rw [hisA _ _ k1 k2, if_pos trivial, mark_no hne]
    simp only [bnp_some]
    rw [blank_no hne]
    simp only [bnp_some]
    rw [number_no hne]
    simp only [bnd_some]
    rw [hadd _ _ _ k1]
    refine Or.inr ⟨addM oc kc a1 a2 many r (nI 0) M2, N2, ?_, rfl, flA _ _ _ _ c3, c4.b.trans (fbA _ _ _), c5.b⟩
    simp only [ite_self]
