/-! a CLAUSE of a PLAN, and of all PLANS, on both sides -/
theorem terms_c {v : Nat} (hv : v ≤ 5) : mX9_termsOf 164 (nI v) = some (168 + 5 * v) := by
  unfold mX9_termsOf
  rw [if_neg (nI_pos (by omega)), if_neg (show ¬ (6 : Int32) ≤ nI v by rw [show (6 : Int32) = nI 6 from rfl, nI_leI (by omega) (by omega)]; omega), chk_n (show v < 6 by omega) (by decide), nI_clamp (by omega)]
theorem rp_full {n w v p : Nat} {N : Mem} (hv : v < 6) (hw : (w = 2 ∧ N 211 (20 + 24 * v + 2) = nI 4) ∨ (w = 6 ∧ N 211 (20 + 24 * v + 14) = nI 3)) (h5 : N 207 5 = nI (p + 1)) (hp : p < 2 ^ 20) : RWf n w v N = some (0, upd2 N 207 7 ((-1000 : Int32) * nI 6 - nI p)) := by
  have e5 : N 207 5 - (1 : Int32) = nI p := by
    rw [h5, show (1 : Int32) = nI 1 from rfl, pk_sub (by omega)]; congr 1
  rcases hw with ⟨rfl, h⟩ | ⟨rfl, h⟩
  · show mX11_readsTier n (nI (20 + 24 * v)) N = _
    unfold mX11_readsTier mX11_wrongAt
    rw [show (nI (20 + 24 * v)) + (2 : Int32) = nI (20 + 24 * v + 2) from nI_add .., nI_clamp (show 20 + 24 * v + 2 < 2 ^ 31 by omega), ckD (by omega), h, if_pos (show nI 4 = (4 : Int32) by decide), e5]
    rfl
  · show mX11_readsBulk n (nI (20 + 24 * v)) N = _
    unfold mX11_readsBulk mX11_wrongAt
    rw [show (nI (20 + 24 * v)) + (14 : Int32) = nI (20 + 24 * v + 14) from nI_add .., nI_clamp (show 20 + 24 * v + 14 < 2 ^ 31 by omega), ckD (by omega), h, if_pos (show nI 3 = (3 : Int32) by decide), e5]
    rfl
theorem B_plan {n L p w : Nat} {M N : Mem} (hn : 20000 ≤ n) (hw : w < 7) (h : RD 198 L p M N) (hT : RT 164 M (N 211)) (hI : IT (N 211)) :
    (∃ v N2, v < 6 ∧ planC N = some (1, N2) ∧ N2 207 8 = nI v ∧ ClO L M N (mX2_readOfPlan n (nI w) M) (RWf n w v N2)) ∨
    (∃ N2, planC N = some (0, N2) ∧ ClO L M N (mX2_readOfPlan n (nI w) M) (some (0, N2))) := by
  have hp : M 198 2 = nI p := h.2.2.2.1
  have hpL : p ≤ 200 := by have := h.1; have := h.2.1; omega
  unfold mX2_readOfPlan mX2_readOfPlan_c36
  rw [hp]
  rcases R_plan (by decide) h with ⟨v, M2, N2, c0, c1, c2, c3, c4, c5, c6⟩ | ⟨M2, N2, c1, c2, c3, c4, c5⟩
  · obtain ⟨t1, t2⟩ := DR_fr hT hI c5 c6
    have hv : v < 6 := by omega
    have hIP := t2.2.2.2.2.2 v hv
    have hRP := RP_at t1 hv
    have k2 : M2 (168 + 5 * v) 2 = nI (pT (N2 211) v) := by rw [hRP.2.2.1]; exact hIP.2.2.1.1
    have k8 : M2 (168 + 5 * v) 8 = nI (pK (N2 211) v) := by rw [hRP.2.2.2.2.2.2.1]; exact hIP.2.2.2.2.2.2.1.1
    have hT4 := hIP.2.2.1.2
    have hK3 := hIP.2.2.2.2.2.2.1.2
    obtain ⟨f1, f2, f3⟩ := RD_fault (c := 6) (at' := p) c4 (by decide) (by decide) hpL
    refine Or.inl ⟨v, N2, hv, c2, c3, ?_⟩
    rw [c1]
    simp only [bnd_some]
    rw [terms_c c0]
    simp only [bnp_some]
    rw [k2, k8, show mX8_mark 198 (6 : Int32) (nI p) M2 = _ from mark_ok (c := 6) c4.2.2.2.2.1]
    simp only [bnp_some]
    have h5 := c4.2.2.2.2.2.2.2.1
    rw [c60_no (FLT_ne f1)]
    have hok : (w = 2 → pT (N2 211) v ≤ 3) → (w = 6 → pK (N2 211) v ≤ 2) → ClO L M N (mX2_readOfPlan_c60 n (nI w) (168 + 5 * v) M2) (RWf n w v N2) := fun a b => (B_c60 hn hv hw a b c4 t1 t2).pre c5.b c6.b
    have hbad : (w = 2 ∧ pT (N2 211) v = 4) ∨ (w = 6 ∧ pK (N2 211) v = 3) → ClO L M N (some (upd2 (upd2 M2 198 3 (nI 6)) 198 4 (nI p))) (RWf n w v N2) := fun a => by
      rw [rp_full (p := p) hv (by
        rcases a with ⟨a, b⟩ | ⟨a, b⟩
        · exact Or.inl ⟨a, (show N2 211 (20 + 24 * v + 2) = nI (pT (N2 211) v) from hIP.2.2.1.1).trans (by rw [b])⟩
        · exact Or.inr ⟨a, (show N2 211 (20 + 24 * v + 14) = nI (pK (N2 211) v) from hIP.2.2.2.2.2.2.1.1).trans (by rw [b])⟩) h5 (by omega)]
      exact Or.inr ⟨_, _, rfl, rfl, f1, c5.b.trans f2.b, c6.b.trans f3.b⟩
    by_cases w2 : w = 2
    · rw [if_pos (show nI w = (2 : Int32) by rw [w2]; rfl)]
      by_cases z : pT (N2 211) v = 4
      · rw [if_pos (show (4 : Int32) ≤ nI (pT (N2 211) v) by rw [z]; decide)]
        exact hbad (Or.inl ⟨w2, z⟩)
      · rw [if_neg (show ¬ (4 : Int32) ≤ nI (pT (N2 211) v) by rw [show (4 : Int32) = nI 4 from rfl, nI_leI (by omega) (by omega)]; omega), if_neg (show ¬ nI w = (6 : Int32) by rw [w2]; decide)]
        exact hok (fun _ => by omega) (fun g => by omega)
    · rw [if_neg (show ¬ nI w = (2 : Int32) by rw [show (2 : Int32) = nI 2 from rfl, nI_eq (by omega) (by omega)]; exact w2)]
      by_cases w6 : w = 6
      · rw [if_pos (show nI w = (6 : Int32) by rw [w6]; rfl)]
        by_cases z : pK (N2 211) v = 3
        · rw [if_neg (show ¬ nI (pK (N2 211) v) < (3 : Int32) by rw [z]; decide)]
          exact hbad (Or.inr ⟨w6, z⟩)
        · rw [if_pos (show nI (pK (N2 211) v) < (3 : Int32) by rw [show (3 : Int32) = nI 3 from rfl, nI_ltI (by omega) (by omega)]; omega)]
          exact hok (fun g => absurd g w2) (fun _ => by omega)
      · rw [if_neg (show ¬ nI w = (6 : Int32) by rw [show (6 : Int32) = nI 6 from rfl, nI_eq (by omega) (by omega)]; exact w6)]
        exact hok (fun g => absurd g w2) (fun g => absurd g w6)
  · refine Or.inr ⟨N2, c2, ?_⟩
    rw [c1]
    simp only [bnd_some]
    rw [show mX9_termsOf 164 (0 : Int32) = some 168 from terms_c (v := 0) (by decide)]
    simp only [bnp_some]
    rw [mark_no (FLT_ne c3)]
    simp only [bnp_some]
    rw [c60_no (FLT_ne c3)]
    simp only [ite_self]
    exact Or.inr ⟨_, _, rfl, rfl, c3, c4.b, c5.b⟩
