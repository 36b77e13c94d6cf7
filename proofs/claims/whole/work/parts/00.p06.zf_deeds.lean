/-! DEEDS: all STEPS read, and done -/
def FSr (M M' : Mem) : Prop := ∀ o k, ¬ ((o = 199 ∧ k = 1) ∨ (200 ≤ o ∧ o ≤ 204)) → M' o k = M o k
def GSr (N N' : Mem) : Prop := ∀ o k, ¬ ((o = 207 ∧ (k = 5 ∨ k = 7 ∨ k = 8 ∨ k = 9 ∨ k = 10 ∨ k = 10 + HI ∨ k = 17)) ∨ (212 ≤ o ∧ o ≤ 215)) → N' o k = N o k
theorem FSr.trans {M M1 M2 : Mem} (h1 : FSr M M1) (h2 : FSr M1 M2) : FSr M M2 := fun o k h => (h2 o k h).trans (h1 o k h)
theorem GSr.trans {M M1 M2 : Mem} (h1 : GSr M M1) (h2 : GSr M1 M2) : GSr M M2 := fun o k h => (h2 o k h).trans (h1 o k h)
theorem FS.r {i lo : Nat} {M M' : Mem} (h : FS i lo M M') (hlo : 200 ≤ lo) : FSr M M' := fun o k g => h o k (by omega)
theorem GS2.r {i : Nat} {N N' : Mem} (h : GS2 i N N') : GSr N N' := fun o k g => h o k (by omega)
theorem FR.r {M M' : Mem} (h : FR 204 M M') : FSr M M' := fun o k g => h o k (by omega)
theorem GR.r {N N' : Mem} (h : GR N N') : GSr N N' := fun o k g => h o k (by omega)
theorem STP_cg {j : Nat} {M N M' N' : Mem} (h : STP j M N) (h1 : ∀ o, 200 ≤ o → o ≤ 203 → M' o j = M o j) (h2 : ∀ o, 213 ≤ o → o ≤ 215 → N' o j = N o j) (h3 : N' 212 (2 * j) = N 212 (2 * j)) (h4 : N' 212 (2 * j + 1) = N 212 (2 * j + 1)) : STP j M' N' := by
  obtain ⟨t, t1, t2, t3, t4, t5, t6, t7⟩ := h
  refine ⟨t, t1, ?_, ?_, fun a b => ?_, fun a => ?_, fun a => ?_, fun a => ?_⟩
  · rw [h1 200 (by decide) (by decide)]; exact t2
  · rw [h3, h4]; exact t3
  · rw [h1 201 (by decide) (by decide), h2 213 (by decide) (by decide)]; exact t4 a b
  · rw [h1 202 (by decide) (by decide), h2 214 (by decide) (by decide)]; exact t5 a
  · rw [h1 203 (by decide) (by decide), h2 215 (by decide) (by decide)]; exact t6 a
  · rw [h1 203 (by decide) (by decide), h2 213 (by decide) (by decide)]; exact t7 a
def refG (n k : Nat) (N : Mem) : Option (Int32 × Mem) := (bnd (mX11_readsStep n N) fun r8 M9 => (mX11_readsDeeds_c25 n k r8 M9))
theorem c17_end {n k : Nat} {v : Int32} {M : Mem} : mX4_read_c17 n (k + 1) 0 v M = some ((((-1000 : Int32) * (M 204 3)) - (M 204 4)), M) := by
  unfold mX4_read_c17 mX8_faultAnswer
  by_cases h : (24 : Int32) < v
  · rw [if_pos h]; rfl
  · rw [if_neg h, if_pos rfl]; rfl
theorem c25_0 {n k : Nat} {N : Mem} : mX11_readsDeeds_c25 n (k + 1) 0 N = some (0, N) := by
  unfold mX11_readsDeeds_c25
  rw [if_pos rfl]
theorem flt_val {rd : Nat} {M N : Mem} (h : FLT rd M N) : ((-1000 : Int32) * (M rd 3)) - (M rd 4) = N 207 7 ∧ ¬ N 207 7 = 0 := by
  obtain ⟨c, a, h1, h2, h3, h4, h5, h6⟩ := h
  rw [h4, h5, h6]
  refine ⟨rfl, ?_⟩
  rw [show (-1000 : Int32) = iI (-1000) from by decide, iI_n, iI_n, iI_mul, iI_sub, show (0 : Int32) = iI 0 from rfl, iI_eq (by omega) (by omega) (by omega) (by omega)]
  omega
/-- what all STEPS come to -/
def RdO (M N : Mem) (mc mm : Option (Int32 × Mem)) : Prop :=
  (∃ s M' N', mc = some (0, M') ∧ mm = some (1, N') ∧ s ≤ 24 ∧ M' 199 1 = nI s ∧ N' 207 17 = nI s ∧ (∀ j, j < s → STP j M' N') ∧ FSr M M' ∧ GSr N N') ∨
  (∃ r M' N', mc = some (r, M') ∧ mm = some (0, N') ∧ ¬ r = 0 ∧ N' 207 7 = r ∧ FSr M M' ∧ GSr N N')
theorem RdO.pre {M N M1 N1 : Mem} {mc mm : Option (Int32 × Mem)} (h : RdO M1 N1 mc mm) (hM : FSr M M1) (hN : GSr N N1) : RdO M N mc mm := by
  rcases h with ⟨s, M', N', a1, a2, a3, a4, a5, a6, a7, a8⟩ | ⟨r, M', N', a1, a2, a3, a4, a5, a6⟩
  · exact Or.inl ⟨s, M', N', a1, a2, a3, a4, a5, a6, hM.trans a7, hN.trans a8⟩
  · exact Or.inr ⟨r, M', N', a1, a2, a3, a4, hM.trans a5, hN.trans a6⟩
theorem read_go {n L : Nat} (hn : 20000 ≤ n) : ∀ (d k i p : Nat) (M N : Mem), i + d = 24 → d + 2 < k → RD 204 L p M N → M 199 1 = nI i → N 207 17 = nI i → (∀ j, j < i → STP j M N) → RdO M N (mX4_read_c17 n k 1 (nI i) M) (refG n k N) := by
  intro d
  induction d with
  | zero =>
    intro k i p M N e hk h h1 h17 hS
    obtain ⟨k, rfl⟩ : ∃ k', k = k' + 1 + 1 := ⟨k - 2, by omega⟩
    have hi : i = 24 := by omega
    subst hi
    obtain ⟨f1, f2, f3⟩ := RD_fault (c := 4) (at' := p) h (by decide) (by decide) (by have := h.1; have := h.2.1; omega)
    obtain ⟨h0, g1, g2, g3, g4, g5, g6, g7, hE⟩ := id h
    have c : mX4_read_c17 n (k + 1 + 1) 1 (nI 24) M = some ((((-1000 : Int32) * (upd2 (upd2 M 204 3 (nI 4)) 204 4 (nI p) 204 3)) - (upd2 (upd2 M 204 3 (nI 4)) 204 4 (nI p) 204 4)), upd2 (upd2 M 204 3 (nI 4)) 204 4 (nI p)) := by
      rw [mX4_read_c17, if_neg (show ¬ (24 : Int32) < nI 24 by decide), if_neg (show ¬ (1 : Int32) = 0 by decide), if_pos (show nI 24 = (24 : Int32) by decide), g3, show mX8_mark 204 (4 : Int32) (nI p) M = _ from mark_ok (c := 4) g4]
      simp only [bnp_some]
      rw [goes_no (FLT_ne f1)]
      simp only [bnd_some]
      rw [c17_end]
    have m : refG n (k + 1 + 1) N = some (0, upd2 N 207 7 ((-1000 : Int32) * nI 4 - nI p)) := by
      unfold refG mX11_readsStep mX11_wrongAt
      rw [h17, if_pos (show nI 24 = (24 : Int32) by decide), g7]
      simp only [bnd_some]
      rw [c25_0]; rfl
    obtain ⟨v1, v2⟩ := flt_val f1
    rw [c, m, v1]
    exact Or.inr ⟨_, _, _, rfl, rfl, v2, rfl, f2.r, f3.r⟩
  | succ d ih =>
    intro k i p M N e hk h h1 h17 hS
    obtain ⟨k, rfl⟩ : ∃ k', k = k' + 1 + 1 := ⟨k - 2, by omega⟩
    have hi : i < 24 := by omega
    have hc : mX4_read_c17 n (k + 1 + 1) 1 (nI i) M = (bnp (mX4_readStep n (nI i) M) fun M4 => (bnd (mX8_goesOn 204 (upd2 M4 199 1 ((M4 199 1) + (1 : Int32)))) fun r5 M6 => ((mX4_read_c17 n (k + 1)) r5 (nI (i + 1)) M6))) := by
      rw [mX4_read_c17, if_neg (show ¬ (24 : Int32) < nI i by rw [show (24 : Int32) = nI 24 from rfl, nI_ltI (by omega) (by omega)]; omega), if_neg (show ¬ (1 : Int32) = 0 by decide), if_neg (show ¬ nI i = (24 : Int32) by rw [show (24 : Int32) = nI 24 from rfl, nI_eq (by omega) (by omega)]; omega), place_s]
    rw [hc]
    unfold refG
    rcases R_step (n := n) hn hi h h17 with ⟨q, M1, N1, c1, c2, c3, c4, c5, c6, c7⟩ | ⟨M1, N1, c1, c2, c3, c4, c5⟩
    · have s1 : M1 199 1 = nI i := by rw [c6 199 1 (by omega)]; exact h1
      have hR : RD 204 L q (upd2 M1 199 1 (nI (i + 1))) N1 := RD_M c3 (by decide) (by decide)
      have fM : FSr M (upd2 M1 199 1 (nI (i + 1))) := fun o k g => by
        have : upd2 M1 199 1 (nI (i + 1)) o k = M1 o k := by
          by_cases z : o = 199
          · subst z; exact u2k _ _ (by omega)
          · exact u2o _ _ z
        rw [this]; exact c6 o k (by omega)
      have hS' : ∀ j, j < i + 1 → STP j (upd2 M1 199 1 (nI (i + 1))) N1 := fun j hj => by
        rcases (show j = i ∨ j < i by omega) with rfl | g
        · exact STP_cg c5 (fun o a b => u2o _ _ (by omega)) (fun _ _ _ => rfl) rfl rfl
        · refine STP_cg (hS j g) (fun o a b => ?_) (fun o a b => c7 o j (by omega)) (c7 212 _ (by omega)) (c7 212 _ (by omega))
          rw [u2o _ _ (by omega)]; exact c6 o j (by omega)
      have hh := m_here hR
      obtain ⟨h0, g1, g2, g3, g4, g5, g6, g7, hE⟩ := id hR
      rw [c1, c2]
      simp only [bnp_some, bnd_some]
      rw [s1, place_s]
      have hmm : mX11_readsDeeds_c25 n (k + 1 + 1) 1 N1 = (if nI L ≤ nI q then (some (1, N1)) else (bnd (mX11_takesSign (59 : Int32) N1) fun r1 M2 => (if r1 = 0 then ((mX11_readsDeeds_c25 n (k + 1)) (0 : Int32) M2) else (bnd (mX11_readsStep n M2) fun r4 M5 => (if r4 = 0 then ((mX11_readsDeeds_c25 n (k + 1)) (0 : Int32) M5) else ((mX11_readsDeeds_c25 n (k + 1)) (1 : Int32) M5)))))) := by
        rw [mX11_readsDeeds_c25, if_neg (show ¬ (1 : Int32) = 0 by decide), g6, g7]
      rw [hmm]
      unfold mX8_goesOn
      rw [if_pos g4, g3, g2]
      by_cases hq : q < L
      · rw [if_pos (show nI q < nI L by rw [nI_ltI (by omega) (by omega)]; exact hq), if_neg (show ¬ nI L ≤ nI q by rw [nI_leI (by omega) (by omega)]; omega), c_byte g2 g1 (by omega)]
        unfold mX11_takesSign mX11_wrongAt
        rw [hh, g7]
        simp only [bnp_some, bnd_some]
        by_cases hs : bt (upd2 M1 199 1 (nI (i + 1))) L q = (59 : Int32)
        · rw [if_pos hs, if_pos hs]
          simp only [bnd_some]
          rw [if_neg (show ¬ (1 : Int32) = 0 by decide), place_s]
          have hR2 : RD 204 L (q + 1) (upd2 (upd2 M1 199 1 (nI (i + 1))) 204 2 (nI (q + 1))) (upd2 N1 207 5 (nI (q + 1))) := RD_next (by decide) hR hq
          have ih2 := ih (k + 1) (i + 1) (q + 1) (upd2 (upd2 M1 199 1 (nI (i + 1))) 204 2 (nI (q + 1))) (upd2 N1 207 5 (nI (q + 1))) (by omega) (by omega) hR2 (by rw [u2o _ _ (by decide), u2s]) (by rw [u2k _ _ (by decide)]; exact c4) (fun j hj => STP_cg (hS' j hj) (fun o a b => u2o _ _ (by omega)) (fun o a b => u2o _ _ (by omega)) (u2o _ _ (by decide)) (u2o _ _ (by decide)))
          have e2 : (bnd (mX11_readsStep n (upd2 N1 207 5 (nI (q + 1)))) fun r4 M5 => (if r4 = 0 then ((mX11_readsDeeds_c25 n (k + 1)) (0 : Int32) M5) else ((mX11_readsDeeds_c25 n (k + 1)) (1 : Int32) M5))) = refG n (k + 1) (upd2 N1 207 5 (nI (q + 1))) := by
            unfold refG
            rcases (show i + 1 < 24 ∨ i + 1 = 24 by omega) with z | z
            · rcases R_step (n := n) hn z hR2 (by rw [u2k _ _ (by decide)]; exact c4) with ⟨_, _, _, _, w2, _⟩ | ⟨_, _, _, w2, _⟩
              · rw [w2]; rfl
              · rw [w2]; rfl
            · unfold mX11_readsStep mX11_wrongAt
              rw [show upd2 N1 207 5 (nI (q + 1)) 207 17 = nI 24 from by rw [u2k _ _ (by decide), c4, z], if_pos (show nI 24 = (24 : Int32) by decide)]; rfl
          rw [e2]
          exact ih2.pre (fM.trans (FR_up (by decide)).r) (GSr.trans c7.r (GR_up (by omega)).r)
        · obtain ⟨f1, f2, f3⟩ := RD_fault (c := 1) (at' := q) hR (by decide) (by decide) (by omega)
          rw [if_neg hs, if_neg hs, show mX8_mark 204 (1 : Int32) (nI q) (upd2 M1 199 1 (nI (i + 1))) = _ from mark_ok (c := 1) g4]
          simp only [bnp_some, bnd_some]
          rw [if_pos trivial, c17_end, c25_0]
          obtain ⟨v1, v2⟩ := flt_val f1
          rw [v1]
          exact Or.inr ⟨_, _, _, rfl, rfl, v2, rfl, fM.trans f2.r, GSr.trans c7.r f3.r⟩
      · rw [if_neg (show ¬ nI q < nI L by rw [nI_ltI (by omega) (by omega)]; exact hq), if_pos (show nI L ≤ nI q by rw [nI_leI (by omega) (by omega)]; omega)]
        simp only [bnd_some]
        rw [c17_end, g4, g5]
        exact Or.inl ⟨i + 1, _, N1, rfl, rfl, by omega, u2s _ _ _ _, c4, hS', fM, c7.r⟩
    · have fM : FSr M (upd2 M1 199 1 (M1 199 1 + 1)) := fun o k g => by
        have : upd2 M1 199 1 (M1 199 1 + 1) o k = M1 o k := by
          by_cases z : o = 199
          · subst z; exact u2k _ _ (by omega)
          · exact u2o _ _ z
        rw [this]; exact c4 o k (by omega)
      have f1 : FLT 204 (upd2 M1 199 1 (M1 199 1 + 1)) N1 := FLT_M c3 (by decide)
      rw [c1, c2]
      simp only [bnp_some, bnd_some]
      rw [goes_no (FLT_ne f1)]
      simp only [bnd_some]
      rw [c17_end, c25_0]
      obtain ⟨v1, v2⟩ := flt_val f1
      rw [v1]
      exact Or.inr ⟨_, _, _, rfl, rfl, v2, rfl, fM, c5.r⟩
/-- one STEP is done -/
theorem OPR_if {b : Nat} {M N : Mem} {f : Nat → Int32} {x y : Option (Int32 × Mem)} {P : Int32 → Prop} {dP : DecidablePred P} (h : OPR b M N f x y) : OPR b M N f (bnd x fun r M => if P r then some ((0 : Int32), M) else some ((1 : Int32), M)) (bnd y fun r M => if P r then some ((0 : Int32), M) else some ((1 : Int32), M)) := by
  obtain ⟨r, M', N', f', h1, h2, h3, h4, h5, h6⟩ := h
  rw [h1, h2]
  simp only [bnd_some]
  by_cases z : P r
  · rw [if_pos z, if_pos z]; exact ⟨_, M', N', f', rfl, rfl, h3, h4, h5, h6⟩
  · rw [if_neg z, if_neg z]; exact ⟨_, M', N', f', rfl, rfl, h3, h4, h5, h6⟩
theorem do_one {b n i s : Nat} {M N : Mem} {f : Nat → Int32} (hS : SIM b M N f) (hn : 20000 ≤ n) (hs : s ≤ 24) (hi : i < s) (h1 : M 199 1 = nI s) (hP : STP i M N) : OPR b M N f (mX4_isDone n (nI i) b M) (mX11_does n (nI i) (stF N f)) := by
  obtain ⟨t, t1, t2, t3, t4, t5, t6, t7⟩ := hP
  obtain ⟨w, c⟩ := t
  have t2' : M 200 i = nI w := t2
  have t3' : lcb (N 212 (2 * i)) (N 212 (2 * i + 1)) = Int64.ofNat c := t3
  unfold mX4_isDone mX11_does
  rw [if_neg (nI_pos (by omega)), h1, if_neg (show ¬ nI s ≤ nI i by rw [nI_leI (by omega) (by omega)]; omega), if_pos (show nI i < (24 : Int32) by rw [show (24 : Int32) = nI 24 from rfl, nI_ltI (by omega) (by omega)]; omega)]
  have ck : ∀ (y : Option (Int32 × Mem)), chk (nI i) 24 y = y := fun y => chk_n (by omega) (by decide)
  simp only [ck]
  rw [show Int32.toNatClampNeg (nI i) = i from nI_clamp (by omega), t2', show stF N f 212 = N 212 from stF_o _ _ (by decide), show stF N f 213 = N 213 from stF_o _ _ (by decide), show stF N f 214 = N 214 from stF_o _ _ (by decide), show stF N f 215 = N 215 from stF_o _ _ (by decide), t3']
  rw [CW_2] at t1
  simp only [List.mem_cons, List.not_mem_nil, or_false, Prod.mk.injEq] at t1
  rcases t1 with ⟨rfl, rfl⟩ | ⟨rfl, rfl⟩ | ⟨rfl, rfl⟩ | ⟨rfl, rfl⟩ | ⟨rfl, rfl⟩ | ⟨rfl, rfl⟩ | ⟨rfl, rfl⟩ | ⟨rfl, rfl⟩ | ⟨rfl, rfl⟩ | ⟨rfl, rfl⟩ | ⟨rfl, rfl⟩ | ⟨rfl, rfl⟩ | ⟨rfl, rfl⟩
  · rw [if_pos (by decide), if_pos (by decide), t4 (by decide) (by decide), t5 (by decide), t6 (by decide)]
    exact OPR_if (P := fun r => r < 0) (op_begin hS (by omega) _ _ _)
  · rw [if_neg (by decide), if_pos (by decide), if_neg (by decide), if_pos (by decide), t4 (by decide) (by decide), t5 (by decide)]
    exact OPR_if (P := fun r => r ≤ (-1000000 : Int32)) (op_change hS (by omega) _ _)
  · rw [if_neg (by decide), if_neg (by decide), if_pos (by decide), if_neg (by decide), if_neg (by decide), if_pos (by decide), t4 (by decide) (by decide), t6 (by decide)]
    exact OPR_if (P := fun r => r ≤ (-1000000 : Int32)) (op_seats hS (by omega) _ _)
  · rw [if_neg (by decide), if_neg (by decide), if_neg (by decide), if_pos (by decide), if_neg (by decide), if_neg (by decide), if_neg (by decide), if_neg (by decide), if_neg (by decide), if_pos (by decide), t4 (by decide) (by decide)]
    unfold mX11_does_c180
    rw [if_pos (by decide)]
    exact OPR_if (P := fun r => r ≤ (-1000000 : Int32)) (op_pause hS (by omega) _ _ (Or.inr rfl))
  · rw [if_neg (by decide), if_neg (by decide), if_neg (by decide), if_neg (by decide), if_pos (by decide), if_neg (by decide), if_neg (by decide), if_neg (by decide), if_neg (by decide), if_neg (by decide), if_neg (by decide), if_pos (by decide), t4 (by decide) (by decide)]
    unfold mX11_does_c180
    rw [if_neg (by decide)]
    exact OPR_if (P := fun r => r ≤ (-1000000 : Int32)) (op_pause hS (by omega) _ _ (Or.inl rfl))
  · rw [if_neg (by decide), if_neg (by decide), if_neg (by decide), if_neg (by decide), if_neg (by decide), if_pos (by decide), if_neg (by decide), if_neg (by decide), if_neg (by decide), if_neg (by decide), if_neg (by decide), if_neg (by decide), if_neg (by decide), if_pos (by decide), t4 (by decide) (by decide)]
    exact OPR_if (P := fun r => r ≤ (-1000000 : Int32)) (op_quit hS (by omega) _)
  · rw [if_neg (by decide), if_neg (by decide), if_neg (by decide), if_neg (by decide), if_neg (by decide), if_neg (by decide), if_pos (by decide), if_neg (by decide), if_neg (by decide), if_neg (by decide), if_neg (by decide), if_neg (by decide), if_neg (by decide), if_neg (by decide), if_neg (by decide), if_pos (by decide), t4 (by decide) (by decide), t6 (by decide)]
    exact OPR_if (P := fun r => r < 0) (op_use hS _ _)
  · rw [if_neg (by decide), if_neg (by decide), if_neg (by decide), if_neg (by decide), if_neg (by decide), if_neg (by decide), if_neg (by decide), if_pos (by decide), if_neg (by decide), if_neg (by decide), if_neg (by decide), if_neg (by decide), if_neg (by decide), if_neg (by decide), if_neg (by decide), if_neg (by decide), if_neg (by decide), if_pos (by decide), t7 (by decide)]
    exact OPR_if (P := fun r => r < 0) (op_days hS (by omega) _)
  · rw [if_neg (by decide), if_neg (by decide), if_neg (by decide), if_neg (by decide), if_neg (by decide), if_neg (by decide), if_neg (by decide), if_neg (by decide), if_pos (by decide), if_neg (by decide), if_neg (by decide), if_neg (by decide), if_neg (by decide), if_neg (by decide), if_neg (by decide), if_neg (by decide), if_neg (by decide), if_neg (by decide), if_neg (by decide), if_pos (by decide), t4 (by decide) (by decide), t6 (by decide)]
    exact OPR_if (P := fun r => r ≤ (-1000000 : Int32)) (op_favour hS (by omega) _ _)
  · rw [if_neg (by decide), if_neg (by decide), if_neg (by decide), if_neg (by decide), if_neg (by decide), if_neg (by decide), if_neg (by decide), if_neg (by decide), if_neg (by decide), if_pos (by decide), if_neg (by decide), if_neg (by decide), if_neg (by decide), if_pos (by decide), t4 (by decide) (by decide), t6 (by decide)]
    exact OPR_if (P := fun r => r < 0) (op_pay hS _ _)
  · rw [if_neg (by decide), if_neg (by decide), if_neg (by decide), if_neg (by decide), if_neg (by decide), if_neg (by decide), if_neg (by decide), if_neg (by decide), if_neg (by decide), if_neg (by decide), if_pos (by decide), if_neg (by decide), if_neg (by decide), if_neg (by decide), if_neg (by decide), if_pos (by decide), t4 (by decide) (by decide)]
    exact OPR_if (P := fun r => r < 0) (op_remind hS (by omega) _)
  · rw [if_neg (by decide), if_neg (by decide), if_neg (by decide), if_neg (by decide), if_neg (by decide), if_neg (by decide), if_neg (by decide), if_neg (by decide), if_neg (by decide), if_neg (by decide), if_neg (by decide), if_pos (by decide), if_neg (by decide), if_neg (by decide), if_neg (by decide), if_neg (by decide), if_neg (by decide), if_neg (by decide), if_neg (by decide), if_neg (by decide), if_neg (by decide), if_neg (by decide), if_neg (by decide), if_pos (by decide), t4 (by decide) (by decide), t6 (by decide)]
    exact OPR_if (P := fun r => r ≤ (-1000000 : Int32)) (op_move hS (by omega) _ _)
  · rw [if_neg (by decide), if_neg (by decide), if_neg (by decide), if_neg (by decide), if_neg (by decide), if_neg (by decide), if_neg (by decide), if_neg (by decide), if_neg (by decide), if_neg (by decide), if_neg (by decide), if_neg (by decide), if_neg (by decide), if_neg (by decide), if_neg (by decide), if_neg (by decide), if_neg (by decide), if_neg (by decide), if_neg (by decide), if_neg (by decide), if_neg (by decide), if_neg (by decide), if_neg (by decide), if_neg (by decide), t7 (by decide)]
    exact OPR_if (P := fun r => r < 0) (op_turn hS (by omega) _)
theorem do_go {b n s : Nat} (hb : b = 4 ∨ b = 110) (hn : 20000 ≤ n) (hs : s ≤ 24) : ∀ (d k i : Nat) (M N : Mem) (f : Nat → Int32), i + d = s → d < k → SIM b M N f → M 199 1 = nI s → N 207 17 = nI s → (∀ j, i ≤ j → j < s → STP j M N) →
    ∃ r M' N' f', (b = 4 → mX10_deeds_c32 n k (nI i) M = some (r, M')) ∧ (b = 110 → ∀ x, mX10_tried_c51 n k x (nI i) M = mX10_tried_c85 n x M') ∧ mX11_doesAll_c2 n k (nI i) (stF N f) = some (r, stF N' f') ∧ SIM b M' N' f' ∧ FD b M M' ∧ NE N N' ∧ FX f f' := by
  intro d
  induction d with
  | zero =>
    intro k i M N f e hk hS h1 h17 hP
    obtain ⟨k, rfl⟩ : ∃ k', k = k' + 1 := ⟨k - 1, by omega⟩
    have z : nI s ≤ nI i := by rw [nI_leI (by omega) (by omega)]; omega
    refine ⟨nI i, M, N, f, fun _ => ?_, fun _ x => ?_, ?_, hS, FD.rfl', NE.rfl', FX.rfl'⟩
    · rw [mX10_deeds_c32, h1, if_pos z]
    · rw [mX10_tried_c51, h1, if_pos z]
    · rw [mX11_doesAll_c2, stF_o _ _ (by decide), h17, if_pos z]
  | succ d ih =>
    intro k i M N f e hk hS h1 h17 hP
    obtain ⟨k, rfl⟩ : ∃ k', k = k' + 1 := ⟨k - 1, by omega⟩
    have z : ¬ nI s ≤ nI i := by rw [nI_leI (by omega) (by omega)]; omega
    obtain ⟨r, M1, N1, f1, a1, a2, a3, a4, a5, a6⟩ := do_one hS hn hs (show i < s by omega) h1 (hP i (Nat.le_refl _) (by omega))
    have b1 : M1 199 1 = nI s := by rw [a4 199 1 (by omega)]; exact h1
    have b17 : N1 207 17 = nI s := by rw [a5 207 17 (by decide) (by decide) (by decide)]; exact h17
    have bP : ∀ j, i + 1 ≤ j → j < s → STP j M1 N1 := fun j j1 j2 => STP_cg (hP j (by omega) j2) (fun o x y => a4 o j (by omega)) (fun o x y => a5 o j (by omega) (fun h => by omega) (by omega)) (a5 212 _ (by decide) (fun h => absurd h (by decide)) (by decide)) (a5 212 _ (by decide) (fun h => absurd h (by decide)) (by decide))
    by_cases hr : r = 0
    · refine ⟨nI i, M1, N1, f1, fun hb => ?_, fun hb x => ?_, ?_, a3, a4, a5, a6⟩
      · subst hb
        rw [mX10_deeds_c32, h1, if_neg z, a1]
        simp only [bnd_some]
        rw [if_pos hr]
      · subst hb
        rw [mX10_tried_c51, h1, if_neg z, a1]
        simp only [bnd_some]
        rw [if_pos hr]
      · rw [mX11_doesAll_c2, stF_o _ _ (by decide), h17, if_neg z, a2]
        simp only [bnd_some]
        rw [if_pos hr]
    · obtain ⟨r', M2, N2, f2, c1, c2, c3, c4, c5, c6, c7⟩ := ih k (i + 1) M1 N1 f1 (by omega) (by omega) a3 b1 b17 bP
      refine ⟨r', M2, N2, f2, fun hb => ?_, fun hb x => ?_, ?_, c4, a4.trans c5, a5.trans c6, a6.trans c7⟩
      · have c1' := c1 hb
        subst hb
        rw [mX10_deeds_c32, h1, if_neg z, a1]
        simp only [bnd_some]
        rw [if_neg hr, place_s]; exact c1'
      · have c2' := c2 hb x
        subst hb
        rw [mX10_tried_c51, h1, if_neg z, a1]
        simp only [bnd_some]
        rw [if_neg hr, place_s]; exact c2'
      · rw [mX11_doesAll_c2, stF_o _ _ (by decide), h17, if_neg z, a2]
        simp only [bnd_some]
        rw [if_neg hr, place_s]; exact c3
