/-! begin, move -/
theorem le3652 {z : Int} (h1 : -2147483648 ≤ z) (h2 : z < 2147483648) : (iI z ≤ (3652 : Int32)) = (z ≤ 3652) := by
  have e : (3652 : Int32) = nI 3652 := nI_lit 3652
  rw [e, iI_nI_le (by omega) h1 h2]; rfl
theorem leT {z : Int} (h1 : -2147483648 ≤ z) (h2 : z < 2147483648) : (iI z ≤ nI 3652) = (z ≤ 3652) := by rw [iI_nI_le (by omega) h1 h2]; rfl
theorem upd_self {f : Nat → Int32} {j : Nat} {v : Int32} (h : f j = v) : upd f j v = f := by
  funext i
  unfold upd
  split
  · next e => subst e; exact h.symm
  · rfl
theorem isM_of {x : Int32} {k N : Nat} (h : x = nI k) (hk : k ≤ N) (hN : N < 2 ^ 31) : isM x (na x) N := by
  subst h; exact isM_nI hk hN
/-- an account as it begins, before its charge -/
def bgF (f : Nat → Int32) (x p an : Nat) : Nat → Int32 := upd (upd (upd (upd f (170 + 12 * x + 0) (nI 1)) (170 + 12 * x + 1) (nI p)) (170 + 12 * x + 2) (nI an)) (170 + 12 * x + 10) (nI 1)
theorem bg_out {f : Nat → Int32} {x p an j : Nat} (h : j < 170 + 12 * x ∨ 182 + 12 * x ≤ j) : bgF f x p an j = f j := by
  unfold bgF
  simp (disch := omega) only [upd_n]
theorem bg_0 {f : Nat → Int32} {x p an : Nat} : fA (bgF f x p an) x 0 = nI 1 ∧ fA (bgF f x p an) x 1 = nI p ∧ fA (bgF f x p an) x 2 = nI an ∧ fA (bgF f x p an) x 10 = nI 1 ∧ ∀ w, w < 10 → 3 ≤ w → fA (bgF f x p an) x w = fA f x w := by
  unfold bgF fA
  refine ⟨?_, ?_, ?_, ?_, fun w h1 h2 => ?_⟩ <;> simp (disch := omega) only [upd_n, upd_s]
theorem m_beg {N : Mem} {f : Nat → Int32} {x p an n : Nat} (hx : x < 6) (hz : ∀ w, w < 12 → fA f x w = nI 0) : ∀ (d k i : Nat), i + d = 12 → d < k → mX11_begin_c72 n k (nI x) (nI p) (nI an) (nI i) (stF N f) = (bnp (mX11_opens n (nI x) (nI 0) (stF N (bgF f x p an))) fun M10 => (bnd (mX11_charges n (nI x) M10) fun r11 M12 => (some (r11, M12))))
  | d, 0, _, _, h => absurd h (Nat.not_lt_zero _)
  | 0, k + 1, i, e, h => by
    unfold mX11_begin_c72
    simp (disch := omega) only [nI_lit, nI_add, pk_mul, nI_clamp, nI_leI, nI_ltI, nI_eq, nI_t0, nI_le0, nI_e0, nI_0le, nI_lt0, m_sets, bnp_some]
    rw [if_pos (show 12 ≤ i by omega)]
    rfl
  | d + 1, k + 1, i, e, h => by
    have ih := m_beg (N := N) (p := p) (an := an) (n := n) hx hz d k (i + 1) (by omega) (by omega)
    unfold mX11_begin_c72
    simp (disch := omega) only [nI_lit, nI_add, pk_mul, nI_clamp, nI_leI, nI_ltI, nI_eq, nI_t0, nI_le0, nI_e0, nI_0le, nI_lt0, m_sets, bnp_some]
    rw [if_neg (show ¬ 12 ≤ i by omega), upd_self (show f (170 + 12 * x + i) = nI 0 from hz i (by omega))]
    exact ih
theorem op_begin {b n : Nat} {M N : Mem} {f : Nat → Int32} (hS : SIM b M N f) (hn : 200 ≤ n) (a p c : Int32) : OPR b M N f (mX1_startAccount n b a p c M) (mX11_begin n a p c (stF N f)) := by
  unfold mX1_startAccount mX11_begin
  obtain ⟨hb, hC, hM, hRS, ⟨hI0, hRun⟩⟩ := id hS
  have h1 := hI0.2.1.1; have h1' := hI0.2.1.2
  have t1 := hI0.1.1; have t1' := hI0.1.2
  have e10 : ((1 : Int32) = 0) = False := eq_false (by decide)
  rcases isAccount_c a with ⟨x, -, hx5, rfl, g1, g2⟩ | ⟨g1, g2⟩
  · have hx : x < 6 := by omega
    rcases isPlan_c p with ⟨q, -, hq, rfl, g3, g4⟩ | ⟨g3, g4⟩
    · rcases isAnchor_c c with ⟨an, ha1, ha2, rfl, g5, g6⟩ | ⟨g5, g6⟩
      · rw [g1, g2, g3, g4, g5, g6]
        simp only [bnp_some, e10, if_false]
        have room := room_c (k := 1) hRS hI0 (by decide)
        obtain ⟨a0, a1, a2, a3, a4, a5, a6, a7, a8, a9, a10, a11, a12, a13⟩ := hRS.2.2.2.1 x hx
        simp (disch := omega) only [nI_lit, chk_n, nI_clamp, bnp_some, stF_f, h1, room, nI_eq, a1, hRS.1]
        by_cases hs : sz f ≤ 399
        · rw [if_pos (show sz f + 1 ≤ 400 by omega), if_neg (show ¬ nI 1 = nI 0 by decide), if_neg (show ¬ sz f = 400 by omega)]
          have hB : mX11_isBegun (nI x) (stF N f) = some (if fA f x 0 = nI 1 then 1 else 0) := by
            unfold mX11_isBegun
            rw [g2]
            simp (disch := omega) only [bnp_some, nI_lit, m_ofS]
            rcases hI0.2.2.2.2.1 x hx with hz | hA
            · rw [hz 0 (by decide)]; rfl
            · rw [hA.1]; rfl
          rw [hB]
          simp only [bnp_some]
          rcases hI0.2.2.2.2.1 x hx with hz | hA
          · rw [hz 0 (by decide), t1, if_neg (show ¬ nI 0 = nI 1 by decide), if_pos (show nI 0 = nI 0 from rfl), if_pos (show (0 : Int32) = nI 0 by decide), cal_nt hC ha1 ha2 t1' hn, mod_nt (CalM_stF hM) ha1 ha2 t1' hn]
            obtain ⟨b1, b2, b3, b4, b5⟩ := LT_NT ha1 t1'
            simp only [bnp_some]
            have eT := leT (z := NT an (tD f)) (by omega) (by omega)
            by_cases hT : NT an (tD f) ≤ 3652
            · have hT' : iI (NT an (tD f)) ≤ nI 3652 := by rw [eT]; exact hT
              rw [if_pos hT', if_pos hT', m_beg hx hz 12 n 0 rfl (by omega)]
              simp only [lt_eq]
              obtain ⟨z0, z1, z2, z10, zw⟩ := bg_0 (f := f) (x := x) (p := q) (an := an)
              have hIT := hI0.2.2.2.1
              have hI1 : IT (upd f (170 + 12 * x + 0) (nI 1)) := IT_congr hIT (fun j _ _ _ => upd_n _ _ (by omega))
              have hI2 : IT (upd (upd f (170 + 12 * x + 0) (nI 1)) (170 + 12 * x + 1) (nI q)) := IT_congr hI1 (fun j _ _ _ => upd_n _ _ (by omega))
              have hI3 : IT (upd (upd (upd f (170 + 12 * x + 0) (nI 1)) (170 + 12 * x + 1) (nI q)) (170 + 12 * x + 2) (nI an)) := IT_congr hI2 (fun j _ _ _ => upd_n _ _ (by omega))
              have hI4 : IT (bgF f x q an) := IT_congr hI3 (fun j _ _ _ => upd_n _ _ (by omega))
              have r1 := RSx_put (w := 0) (k := 1) (v := nI 1) (hRS.x hx) hIT hx (by omega)
              have r2 := RSx_put (w := 1) (k := 4) (v := nI q) r1 hI1 hx (by omega)
              have r3 := RSx_put (w := 2) (k := 5) (v := nI an) r2 hI2 hx (by omega)
              have r4 := RSx_put (w := 10) (k := 6) (v := nI 1) r3 hI3 hx (by omega)
              obtain ⟨M0, hM0⟩ : ∃ M0, M0 = upd2 (upd2 (upd2 (upd2 M (b + 35 + 12 + x) 1 (nI 1)) (b + 35 + 12 + x) 4 (nI q)) (b + 35 + 12 + x) 5 (nI an)) (b + 35 + 12 + x) 6 (nI 1) := ⟨_, rfl⟩
              rw [← hM0] at r4 ⊢
              have hF0 : FD b M M0 := by
                subst hM0
                exact (((FD_put hx).trans (FD_put hx)).trans (FD_put hx)).trans (FD_put hx)
              have hC0 := CalC_FD hb hC hF0
              have b0 : bgF f x q an 0 = f 0 := bg_out (by omega)
              have bT : tD (bgF f x q an) = tD f := by unfold tD; rw [b0]
              have bS : sz (bgF f x q an) = sz f := by unfold sz; rw [bg_out (by omega)]
              have eN : aN (bgF f x q an) x = an := by unfold aN; rw [z2]; exact na_nI (by omega)
              obtain ⟨M1, w1, w2, w3, w4⟩ := s_open (N := N) (q := nI 0) (n := n) (f := bgF f x q an) hb r4 hC0 hM hI4 (by rw [b0, bT]; exact hI0.1) hx (by rw [z2, eN]; exact ⟨rfl, ha2⟩) (by rw [eN]; exact ha1) hn
              rw [w1, w2]
              simp only [bnp_some]
              have o3 := op_3 (f := bgF f x q an) (x := x) (q := nI 0)
              have o4 := op_4 (f := bgF f x q an) (x := x) (q := nI 0)
              have o5 := op_5 (f := bgF f x q an) (x := x) (q := nI 0)
              rw [b0] at o4
              rw [eN, bT] at o5
              have oA : ∀ w, w < 12 → w ≠ 3 → w ≠ 4 → w ≠ 5 → fA (opF (bgF f x q an) x (nI 0)) x w = fA (bgF f x q an) x w := fun w hw k3 k4 k5 => op_A x w hw (Or.inr ⟨k3, k4, k5⟩)
              have oT : tD (opF (bgF f x q an) x (nI 0)) = tD f := by unfold tD; rw [op_lo (by omega) hx, b0]
              have oS : sz (opF (bgF f x q an) x (nI 0)) = sz f := by unfold sz; rw [op_lo (by omega) hx, bg_out (by omega)]
              have oN : aN (opF (bgF f x q an) x (nI 0)) x = an := by unfold aN; rw [oA 2 (by decide) (by decide) (by decide) (by decide), z2]; exact na_nI (by omega)
              have oD : aD (opF (bgF f x q an) x (nI 0)) x = tD f := by unfold aD; rw [o4]; rfl
              have hA : IA1 (opF (bgF f x q an) x (nI 0)) x := by
                unfold IA1
                rw [oT, oS, oN, oD, o3, o4, o5, oA 0 (by decide) (by decide) (by decide) (by decide), oA 2 (by decide) (by decide) (by decide) (by decide), z0, z2]
                unfold aB aQ aU aZ aX aP aS
                rw [o3, oA 1 (by decide) (by decide) (by decide) (by decide), oA 6 (by decide) (by decide) (by decide) (by decide), oA 7 (by decide) (by decide) (by decide) (by decide), oA 8 (by decide) (by decide) (by decide) (by decide), oA 9 (by decide) (by decide) (by decide) (by decide), oA 10 (by decide) (by decide) (by decide) (by decide), z1, z10, zw 6 (by decide) (by decide), zw 7 (by decide) (by decide), zw 8 (by decide) (by decide), zw 9 (by decide) (by decide), hz 6 (by decide), hz 7 (by decide), hz 8 (by decide), hz 9 (by decide)]
                refine ⟨rfl, isM_nI (by omega) (by decide), ⟨rfl, ha2⟩, ha1, isM_nI (by omega) (by decide), hI0.1, rfl, hT, isM_nI (by omega) (by decide), isM_nI (by omega) (by decide), isM_nI (by omega) (by decide), isM_nI (by omega) (by decide), isM_nI (by omega) (by decide), ?_, Nat.le_refl _, ?_⟩
                · rw [na_nI (by omega)]; exact Nat.le_refl _
                · rw [na_nI (by omega)]; exact Nat.zero_le _
              have hI5 : INV0 (opF (bgF f x q an) x (nI 0)) := INV0_acc hI0 hx (fun j hj => by
                  unfold opF
                  rw [upd_n _ _ (by omega), upd_n _ _ (by omega), upd_n _ _ (by omega), bg_out hj]) (fun _ => hA.1) (Or.inr hA)
              have hr5 : (tD (opF (bgF f x q an) x (nI 0)) : Int) < NT (aN (opF (bgF f x q an) x (nI 0)) x) (aD (opF (bgF f x q an) x (nI 0)) x) := by
                rw [oT, oN, oD]; exact b2
              obtain ⟨M2, y1, y2, y3, y4⟩ := s_charge w3 hM hI5 hx hA (by omega) hr5 hn
              have hI6 := INV0_ch hI5 hx hA (by omega) hr5
              have hFD := (hF0.trans w4).trans y4
              rw [y1, y2]
              refine ⟨_, _, N, _, rfl, rfl, ⟨hb, CalC_FD hb hC hFD, hM, y3, hI6, fun y hy => ?_⟩, hFD, NE.rfl', ?_⟩
              · have et : tD (chF (opF (bgF f x q an) x (nI 0)) x) = tD f := by unfold chF; rw [wr_tD, oT]
                by_cases h : y = x
                · subst h
                  intro _ _
                  rw [et]
                  have k2 : aN (chF (opF (bgF f y q an) y (nI 0)) y) y = an := by unfold aN chF; rw [wr_A hx (by decide)]; exact oN
                  have k4 : aD (chF (opF (bgF f y q an) y (nI 0)) y) y = tD f := by unfold aD chF; rw [wr_A hx (by decide)]; exact oD
                  rw [k2, k4]; exact b2
                · refine RUN_same hI6 hy (hRun y hy) et (fun u hu => ?_)
                  unfold chF
                  rw [wr_A hy (by omega), op_A y u (by omega) (Or.inl h)]
                  exact bg_out (by omega)
              · refine FX.trans (FX.trans (f1 := bgF f x q an) (fun j hj => bg_out (by omega)) (FX_op hx)) (FX_wr (by omega))
            · have hT' : ¬ iI (NT an (tD f)) ≤ nI 3652 := by rw [eT]; exact hT
              rw [if_neg hT', if_neg hT']; exact OPR_no hS _
          · rw [hA.1, if_neg (show ¬ nI 1 = nI 0 by decide), if_pos (show nI 1 = nI 1 from rfl), if_neg (show ¬ (1 : Int32) = nI 0 by decide)]; exact OPR_no hS _
        · rw [if_neg (show ¬ sz f + 1 ≤ 400 by omega), if_pos (show nI 0 = nI 0 from rfl), if_pos (show sz f = 400 by omega)]; exact OPR_no hS _
      · rw [g1, g2, g3, g4, g5, g6]; exact OPR_no hS _
    · rw [g1, g2, g3, g4]; exact OPR_no hS _
  · rw [g1, g2]; exact OPR_no hS _
