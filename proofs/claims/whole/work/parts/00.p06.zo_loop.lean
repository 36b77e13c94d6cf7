/-! all CLAUSES of a text, on both sides -/
def FK (M M' : Mem) : Prop := ∀ o k, (o < 164 ∨ 199 ≤ o) → M' o k = M o k
theorem FK.trans {M M1 M2 : Mem} (h1 : FK M M1) (h2 : FK M1 M2) : FK M M2 := fun o k h => (h2 o k h).trans (h1 o k h)
theorem FB.k {M M' : Mem} (h : FB M M') : FK M M' := fun o k g => h o k (by omega)
theorem FR.k {M M' : Mem} (h : FR 198 M M') : FK M M' := h.b.k
theorem FK_up {M : Mem} {o k : Nat} {v : Int32} (h : 164 ≤ o ∧ o ≤ 198) : FK M (upd2 M o k v) := fun o' k' g => u2o _ _ (by omega)
def refB (n k : Nat) (N : Mem) : Option (Int32 × Mem) := (bnd (mX11_readsClause n N) fun r7 M8 => (mX11_book_c82 n k r7 M8))
theorem c19_end {n k : Nat} {v : Int32} {M : Mem} : mX2_read_c19 n (k + 1) 0 v M = some ((((-1000 : Int32) * (M 198 3)) - (M 198 4)), M) := by
  unfold mX2_read_c19 mX8_faultAnswer
  by_cases h : (20 : Int32) < v
  · rw [if_pos h]; rfl
  · rw [if_neg h, if_pos rfl]; rfl
theorem c82_0 {n k : Nat} {N : Mem} : mX11_book_c82 n (k + 1) 0 N = some (N 207 7, N) := by
  unfold mX11_book_c82
  rw [if_pos rfl, if_pos rfl]
def BkO (n : Nat) (M N : Mem) (mc mm : Option (Int32 × Mem)) : Prop :=
  (∃ s M' N', mc = some (0, M') ∧ mm = mX11_book_c133 n n 2 N' ∧ s ≤ 20 ∧ M' 164 7 = nI s ∧ N' 207 12 = nI s ∧ RT 164 M' (N' 211) ∧ IT (N' 211) ∧ FK M M' ∧ GB2 N N') ∨
  (∃ r M' N', mc = some (r, M') ∧ mm = some (r, N') ∧ ¬ r = 0 ∧ FK M M' ∧ GB2 N N')
theorem BkO.pre {n : Nat} {M N M1 N1 : Mem} {mc mm : Option (Int32 × Mem)} (h : BkO n M1 N1 mc mm) (hM : FK M M1) (hN : GB2 N N1) : BkO n M N mc mm := by
  rcases h with ⟨s, M', N', a1, a2, a3, a4, a5, a6, a7, a8, a9⟩ | ⟨r, M', N', a1, a2, a3, a4, a5⟩
  · exact Or.inl ⟨s, M', N', a1, a2, a3, a4, a5, a6, a7, hM.trans a8, hN.trans a9⟩
  · exact Or.inr ⟨r, M', N', a1, a2, a3, hM.trans a4, hN.trans a5⟩
theorem book_go {n L : Nat} (hn : 20000 ≤ n) : ∀ (d k i p : Nat) (M N : Mem), i + d = 20 → d + 2 < k → RD 198 L p M N → RT 164 M (N 211) → IT (N 211) → M 164 7 = nI i → N 207 12 = nI i → BkO n M N (mX2_read_c19 n k 1 (nI i) M) (refB n k N) := by
  intro d
  induction d with
  | zero =>
    intro k i p M N e hk h hT hI h7 h12
    obtain ⟨k, rfl⟩ : ∃ k', k = k' + 1 + 1 := ⟨k - 2, by omega⟩
    have hi : i = 20 := by omega
    subst hi
    obtain ⟨f1, f2, f3⟩ := RD_fault (c := 4) (at' := p) h (by decide) (by decide) (by have := h.1; have := h.2.1; omega)
    obtain ⟨h0, g1, g2, g3, g4, g5, g6, g7, hE⟩ := id h
    have c : mX2_read_c19 n (k + 1 + 1) 1 (nI 20) M = some ((((-1000 : Int32) * (upd2 (upd2 M 198 3 (nI 4)) 198 4 (nI p) 198 3)) - (upd2 (upd2 M 198 3 (nI 4)) 198 4 (nI p) 198 4)), upd2 (upd2 M 198 3 (nI 4)) 198 4 (nI p)) := by
      rw [mX2_read_c19, if_neg (show ¬ (20 : Int32) < nI 20 by decide), if_neg (show ¬ (1 : Int32) = 0 by decide), if_pos (show nI 20 = (20 : Int32) by decide), g3, show mX8_mark 198 (4 : Int32) (nI p) M = _ from mark_ok (c := 4) g4]
      simp only [bnp_some]
      rw [goes_no (FLT_ne f1)]
      simp only [bnd_some]
      rw [c19_end]
    have m : refB n (k + 1 + 1) N = some (upd2 N 207 7 ((-1000 : Int32) * nI 4 - nI p) 207 7, upd2 N 207 7 ((-1000 : Int32) * nI 4 - nI p)) := by
      unfold refB mX11_readsClause mX11_wrongAt
      rw [h12, if_pos (show nI 20 = (20 : Int32) by decide), g7]
      simp only [bnd_some]
      rw [c82_0]; rfl
    obtain ⟨v1, v2⟩ := flt_val f1
    rw [c, m, v1]
    exact Or.inr ⟨_, _, _, rfl, rfl, v2, f2.k, f3.b2⟩
  | succ d ih =>
    intro k i p M N e hk h hT hI h7 h12
    obtain ⟨k, rfl⟩ : ∃ k', k = k' + 1 + 1 := ⟨k - 2, by omega⟩
    have hi : i < 20 := by omega
    have hc : mX2_read_c19 n (k + 1 + 1) 1 (nI i) M = (bnp (mX2_readClause n M) fun M4 => (bnd (mX8_goesOn 198 (upd2 M4 164 7 ((M4 164 7) + (1 : Int32)))) fun r5 M6 => ((mX2_read_c19 n (k + 1)) r5 (nI (i + 1)) M6))) := by
      rw [mX2_read_c19, if_neg (show ¬ (20 : Int32) < nI i by rw [show (20 : Int32) = nI 20 from rfl, nI_ltI (by omega) (by omega)]; omega), if_neg (show ¬ (1 : Int32) = 0 by decide), if_neg (show ¬ nI i = (20 : Int32) by rw [show (20 : Int32) = nI 20 from rfl, nI_eq (by omega) (by omega)]; omega), place_s]
    rw [hc]
    unfold refB
    rcases B_clause (n := n) hn hi h12 h hT hI with ⟨q, M1, N1, c1, c2, c3, c4, c5, c6, c7, c8⟩ | ⟨M1, N1, c1, c2, c3, c4, c5⟩
    · have s1 : M1 164 7 = nI i := by rw [c7 164 7 (by omega)]; exact h7
      have hR : RD 198 L q (upd2 M1 164 7 (nI (i + 1))) N1 := RD_M c3 (by decide) (by decide)
      have fM : FK M (upd2 M1 164 7 (nI (i + 1))) := c7.k.trans (FK_up (by decide))
      have tM : RT 164 (upd2 M1 164 7 (nI (i + 1))) (N1 211) := by
        obtain ⟨r0, r1, r2, r3, r4, r5⟩ := c4
        have hX := c5.2.2.2.1.2
        refine ⟨by rw [u2k _ _ (by decide)]; exact r0, by rw [u2k _ _ (by decide)]; exact r1, by rw [u2k _ _ (by decide)]; exact r2, by rw [u2k _ _ (by decide)]; exact r3, fun j hj => by rw [u2o _ _ (by decide), u2o _ _ (by decide)]; exact r4 j hj, fun w hw => ?_⟩
        have z := c5.2.2.2.2.2 w hw
        exact RP_congr (r5 w hw) z.2.2.1.2 z.2.2.2.2.2.2.1.2 (fun o k a b => u2o _ _ (by omega)) (fun _ _ => rfl)
      have hh := m_here hR
      obtain ⟨h0, g1, g2, g3, g4, g5, g6, g7, hE⟩ := id hR
      rw [c1, c2]
      simp only [bnp_some, bnd_some]
      rw [s1, place_s]
      have hmm : mX11_book_c82 n (k + 1 + 1) 1 N1 = (if nI L ≤ nI q then mX11_book_c133 n n (2 : Int32) N1 else (bnd (mX11_takesSign (59 : Int32) N1) fun r1 M2 => (if r1 = 0 then ((mX11_book_c82 n (k + 1)) (0 : Int32) M2) else (bnd (mX11_readsClause n M2) fun r4 M5 => (if r4 = 0 then ((mX11_book_c82 n (k + 1)) (0 : Int32) M5) else ((mX11_book_c82 n (k + 1)) (1 : Int32) M5)))))) := by
        rw [mX11_book_c82, if_neg (show ¬ (1 : Int32) = 0 by decide), if_neg (show ¬ (1 : Int32) = 0 by decide), g6, g7]
      rw [hmm]
      unfold mX8_goesOn
      rw [if_pos g4, g3, g2]
      by_cases hq : q < L
      · rw [if_pos (show nI q < nI L by rw [nI_ltI (by omega) (by omega)]; exact hq), if_neg (show ¬ nI L ≤ nI q by rw [nI_leI (by omega) (by omega)]; omega), c_byte g2 g1 (by omega)]
        unfold mX11_takesSign mX11_wrongAt
        rw [hh, g7]
        simp only [bnp_some, bnd_some]
        by_cases hs : bt (upd2 M1 164 7 (nI (i + 1))) L q = (59 : Int32)
        · rw [if_pos hs, if_pos hs]
          simp only [bnd_some]
          rw [if_neg (show ¬ (1 : Int32) = 0 by decide), place_s]
          have hR2 : RD 198 L (q + 1) (upd2 (upd2 M1 164 7 (nI (i + 1))) 198 2 (nI (q + 1))) (upd2 N1 207 5 (nI (q + 1))) := RD_next (by decide) hR hq
          obtain ⟨t1, t2⟩ := DR_fr tM c5 (FR_up (k := 2) (v := nI (q + 1)) (by decide)) (GR_up (N := N1) (k := 5) (v := nI (q + 1)) (by omega))
          have j7 : upd2 (upd2 M1 164 7 (nI (i + 1))) 198 2 (nI (q + 1)) 164 7 = nI (i + 1) := by rw [u2o _ _ (by decide), u2s]
          have j12 : upd2 N1 207 5 (nI (q + 1)) 207 12 = nI (i + 1) := by rw [u2k _ _ (by decide)]; exact c6
          have ih2 := ih (k + 1) (i + 1) (q + 1) (upd2 (upd2 M1 164 7 (nI (i + 1))) 198 2 (nI (q + 1))) (upd2 N1 207 5 (nI (q + 1))) (by omega) (by omega) hR2 t1 t2 j7 j12
          have e2 : (bnd (mX11_readsClause n (upd2 N1 207 5 (nI (q + 1)))) fun r4 M5 => (if r4 = 0 then ((mX11_book_c82 n (k + 1)) (0 : Int32) M5) else ((mX11_book_c82 n (k + 1)) (1 : Int32) M5))) = refB n (k + 1) (upd2 N1 207 5 (nI (q + 1))) := by
            unfold refB
            rcases (show i + 1 < 20 ∨ i + 1 = 20 by omega) with z | z
            · rcases B_clause (n := n) hn z j12 hR2 t1 t2 with ⟨_, _, _, _, w2, _⟩ | ⟨_, _, _, w2, _⟩
              · rw [w2]; rfl
              · rw [w2]; rfl
            · unfold mX11_readsClause mX11_wrongAt
              rw [j12, z, if_pos (show nI 20 = (20 : Int32) by decide)]; rfl
          rw [e2]
          exact ih2.pre (fM.trans (FR_up (by decide)).k) (GB2.trans c8 (GR_up (by omega)).b2)
        · obtain ⟨f1, f2, f3⟩ := RD_fault (c := 1) (at' := q) hR (by decide) (by decide) (by omega)
          rw [if_neg hs, if_neg hs, show mX8_mark 198 (1 : Int32) (nI q) (upd2 M1 164 7 (nI (i + 1))) = _ from mark_ok (c := 1) g4]
          simp only [bnp_some, bnd_some]
          rw [if_pos trivial, c19_end, c82_0]
          obtain ⟨v1, v2⟩ := flt_val f1
          rw [v1]
          exact Or.inr ⟨_, _, _, rfl, rfl, v2, fM.trans f2.k, GB2.trans c8 f3.b2⟩
      · rw [if_neg (show ¬ nI q < nI L by rw [nI_ltI (by omega) (by omega)]; exact hq), if_pos (show nI L ≤ nI q by rw [nI_leI (by omega) (by omega)]; omega)]
        simp only [bnd_some]
        rw [c19_end, g4, g5]
        exact Or.inl ⟨i + 1, _, N1, rfl, rfl, by omega, u2s _ _ _ _, c6, tM, c5, fM, c8⟩
    · have fM : FK M (upd2 M1 164 7 (M1 164 7 + 1)) := c4.k.trans (FK_up (by decide))
      have f1 : FLT 198 (upd2 M1 164 7 (M1 164 7 + 1)) N1 := FLT_M c3 (by decide)
      rw [c1, c2]
      simp only [bnp_some, bnd_some]
      rw [goes_no (FLT_ne f1)]
      simp only [bnd_some]
      rw [c19_end, c82_0]
      obtain ⟨v1, v2⟩ := flt_val f1
      rw [v1]
      exact Or.inr ⟨_, _, _, rfl, rfl, v2, fM, c5⟩
