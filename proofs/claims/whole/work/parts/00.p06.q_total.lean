/-! all of both memories; keep, undo, the tape -/
def secR (F : Nat → Int32) (q : Nat) : Nat → Int32 := fun j => F (4250 * q + j)
def TAP (M N : Mem) : Prop := ∃ T, T ≤ 400 ∧ M 0 1 = nI T ∧ N 207 4 = nI T ∧ ∀ i, i < T → M 1 i = N 210 i
def KPT (M : Mem) (f : Nat → Int32) : Prop := M 0 6 = 0 ∨ (M 0 6 = 1 ∧ RS 57 M (secR f 1) ∧ INV (secR f 1))
def TOT (M N : Mem) : Prop := SIM 4 M N (N 209) ∧ IDX 57 M ∧ IDX 110 M ∧ TAP M N ∧ M 0 6 = N 207 2 ∧ KPT M (N 209)
def RES (mc mm : Option (Int32 × Mem)) : Prop := ∃ r M' N', mc = some (r, M') ∧ mm = some (r, N') ∧ TOT M' N'
theorem RS_frame {b : Nat} {M M' : Mem} {f : Nat → Int32} (hR : RS b M f) (hI : INV0 f) (hM : ∀ o k, b ≤ o → o < b + 53 → M' o k = M o k) : RS b M' f := by
  obtain ⟨q0, q1, qT, qA, qE⟩ := hR
  exact ⟨by rw [hM _ _ (by omega) (by omega)]; exact q0, by rw [hM _ _ (by omega) (by omega)]; exact q1, RT_congr qT hI.2.2.2.1 (fun o k g1 g2 => hM _ _ (by omega) (by omega)) (fun _ _ _ _ => rfl),
    fun x hx => RA_congrM (qA x hx) (fun k => hM _ _ (by omega) (by omega)), RE_congrM qE (fun o k g1 g2 => hM _ _ (by omega) (by omega))⟩
theorem CalM_eq {N N' : Mem} (h : CalM N) (e : ∀ k, N' 208 k = N 208 k) : CalM N' := fun m hm => by rw [e]; exact h m hm
theorem CalC_eq {M M' : Mem} (h : CalC M) (e : ∀ k, M' 3 k = M 3 k) : CalC M' := fun m hm => by rw [e]; exact h m hm
/-- of a class's memory what stays while a text is read, and of the reference's -/
def FT (M M' : Mem) : Prop := ∀ o k, ((2 ≤ o ∧ o < 163) ∨ (o = 0 ∧ k ≠ 1)) → M' o k = M o k
def GT (N N' : Mem) : Prop := ∀ o k, (o = 208 ∨ o = 209 ∨ (o = 207 ∧ k = 2)) → N' o k = N o k
theorem FT.rfl' {M : Mem} : FT M M := fun _ _ _ => rfl
theorem GT.rfl' {M : Mem} : GT M M := fun _ _ _ => rfl
theorem FT.trans {M M1 M2 : Mem} (h1 : FT M M1) (h2 : FT M1 M2) : FT M M2 := fun o k h => (h2 o k h).trans (h1 o k h)
theorem GT.trans {M M1 M2 : Mem} (h1 : GT M M1) (h2 : GT M1 M2) : GT M M2 := fun o k h => (h2 o k h).trans (h1 o k h)
theorem T_tape {M N M' N' : Mem} (hT : TOT M N) (hF : FT M M') (hG : GT N N') (hA : TAP M' N') : TOT M' N' := by
  obtain ⟨⟨hb, hC, hM, hRS, hI⟩, h57, h110, -, h6, hK⟩ := hT
  have e9 : N' 209 = N 209 := funext fun k => hG 209 k (by omega)
  have e6 : M' 0 6 = M 0 6 := hF 0 6 (by omega)
  refine ⟨⟨hb, CalC_eq hC (fun k => hF 3 k (by omega)), CalM_eq hM (fun k => hG 208 k (by omega)), ?_, by rw [e9]; exact hI⟩, fun x hx => ?_, fun x hx => ?_, hA, ?_, ?_⟩
  · rw [e9]; exact RS_frame hRS hI.1 (fun o k g1 g2 => hF o k (by omega))
  · rw [hF _ _ (by omega)]; exact h57 x hx
  · rw [hF _ _ (by omega)]; exact h110 x hx
  · rw [e6, hG 207 2 (by omega)]; exact h6
  · rw [e9]
    rcases hK with q | ⟨q1, q2, q3⟩
    · exact Or.inl (e6.trans q)
    · exact Or.inr ⟨e6.trans q1, RS_frame q2 q3.1 (fun o k g1 g2 => hF o k (by omega)), q3⟩
theorem T_op {M N : Mem} {mc mm : Option (Int32 × Mem)} (hT : TOT M N) (h : OPR 4 M N (N 209) mc mm) : RES mc mm := by
  obtain ⟨r, M', N', f', e1, e2, ⟨gb, gC, gM, gRS, gI⟩, hF, hN, hX⟩ := h
  obtain ⟨⟨hb, hC, hM, hRS, hI⟩, h57, h110, ⟨T, t1, t2, t3, t4⟩, h6, hK⟩ := hT
  have e6 : M' 0 6 = M 0 6 := hF 0 6 (by omega)
  refine ⟨r, M', stF N' f', e1, e2, ⟨gb, gC, CalM_stF gM, gRS, gI⟩, fun x hx => ?_, fun x hx => ?_, ⟨T, t1, ?_, ?_, fun i hi => ?_⟩, ?_, ?_⟩
  · rw [hF _ _ (by omega)]; exact h57 x hx
  · rw [hF _ _ (by omega)]; exact h110 x hx
  · rw [hF 0 1 (by omega)]; exact t2
  · rw [stF_o _ _ (by decide), hN 207 4 (by decide) (by decide) (by decide)]; exact t3
  · rw [hF 1 i (by omega), stF_o _ _ (by decide), hN 210 i (by decide) (fun h => absurd h (by decide)) (by decide)]; exact t4 i hi
  · rw [e6, stF_o _ _ (by decide), hN 207 2 (by decide) (by decide) (by decide)]; exact h6
  · rw [stF_f]
    have es : secR f' 1 = secR (N 209) 1 := funext fun j => hX _ (by omega)
    rcases hK with q | ⟨q1, q2, q3⟩
    · exact Or.inl (e6.trans q)
    · refine Or.inr ⟨e6.trans q1, ?_, ?_⟩
      · rw [es]; exact RS_frame q2 q3.1 (fun o k g1 g2 => hF o k (by omega))
      · rw [es]; exact q3
theorem bnd_id {x : Option (Int32 × Mem)} : (bnd x fun r M => some (r, M)) = x := by
  rcases x with _ | ⟨r, M⟩ <;> rfl
theorem bnp_id {α : Type} {x : Option α} : (bnp x fun r => some r) = x := by
  cases x <;> rfl
theorem T_cp {M N : Mem} {mc mm : Option (Int32 × Mem)} (hT : TOT M N) (h : OPR 4 M (N) (N 209) mc mm) : RES mc mm := T_op hT h
/-! feed -/
theorem put_go {n : Nat} {a : Int32} : ∀ (d k T : Nat) (M N : Mem), d < k → T + d ≤ 400 → d ≤ 4 → M 0 1 = nI T → N 207 4 = nI T → (∀ i, i < T → M 1 i = N 210 i) →
    ∃ M' N', mX10_putOnTape_c3 n k a (iI (8 * (d : Int) - 8)) M = some M' ∧ mX11_types_c2 n k a (iI ((d : Int) - 1)) N = some N' ∧ M' 0 1 = nI (T + d) ∧ N' 207 4 = nI (T + d) ∧ (∀ i, i < T + d → M' 1 i = N' 210 i) ∧ FT M M' ∧ GT N N'
  | d, 0, _, _, _, h, _, _, _, _, _ => absurd h (Nat.not_lt_zero _)
  | 0, k + 1, T, M, N, h, hT, h4, hM, hN, hE => by
    unfold mX10_putOnTape_c3 mX11_types_c2
    rw [if_pos (show iI (8 * ((0 : Nat) : Int) - 8) < 0 by decide), if_pos (show iI (((0 : Nat) : Int) - 1) < 0 by decide)]
    exact ⟨M, N, rfl, rfl, hM, hN, hE, FT.rfl', GT.rfl'⟩
  | d + 1, k + 1, T, M, N, h, hT, h4, hM, hN, hE => by
    obtain ⟨v, hv⟩ : ∃ v, v = vp_nar .byte (Int8.toInt32 (Int32.toInt8 (a >>> (nI (8 * d) &&& 31)))) := ⟨_, rfl⟩
    have g1 : upd2 (upd2 M 1 T v) 0 1 (nI (T + 1)) 0 1 = nI (T + 1) := u2s _ _ _ _
    have g2 : upd2 (upd2 N 210 T v) 207 4 (nI (T + 1)) 207 4 = nI (T + 1) := u2s _ _ _ _
    have g3 : ∀ i, i < T + 1 → upd2 (upd2 M 1 T v) 0 1 (nI (T + 1)) 1 i = upd2 (upd2 N 210 T v) 207 4 (nI (T + 1)) 210 i := fun i hi => by
      rw [show upd2 (upd2 M 1 T v) 0 1 (nI (T + 1)) 1 i = upd2 M 1 T v 1 i from u2o _ _ (by decide), show upd2 (upd2 N 210 T v) 207 4 (nI (T + 1)) 210 i = upd2 N 210 T v 210 i from u2o _ _ (by decide)]
      by_cases q : i = T
      · subst q; rw [u2s, u2s]
      · rw [u2k _ _ q, u2k _ _ q]; exact hE i (by omega)
    obtain ⟨M', N', p1, p2, p3, p4, p5, p6, p7⟩ := put_go (n := n) (a := a) d k (T + 1) _ _ (by omega) (by omega) (by omega) g1 g2 g3
    refine ⟨M', N', ?_, ?_, by rw [p3]; congr 1; omega, by rw [p4]; congr 1; omega, fun i hi => p5 i (by omega), FT.trans (fun o k' g => ?_) p6, GT.trans (fun o k' g => ?_) p7⟩
    · have e1 : iI (8 * ((d + 1 : Nat) : Int) - 8) = nI (8 * d) := by rw [iI_n]; congr 1; omega
      have e2 : nI (8 * d) + -8 = iI (8 * (d : Int) - 8) := by
        rw [show (-8 : Int32) = iI (-8) from rfl, iI_n, iI_add]; congr 1
      unfold mX10_putOnTape_c3
      rw [e1, hM, if_neg (nI_pos (by omega)), if_neg (nI_pos (by omega)), if_neg (show ¬ (400 : Int32) ≤ nI T by rw [show (400 : Int32) = nI 400 from rfl, nI_leI (by omega) (by omega)]; omega), chk_n (by omega) (by omega), nI_clamp (by omega), e2, ← hv]
      simp only [lt_eq]
      rw [u2o _ _ (by decide), hM, show (1 : Int32) = nI 1 from rfl, nI_add]
      exact p1
    · have e1 : iI (((d + 1 : Nat) : Int) - 1) = nI d := by rw [iI_n]; congr 1; omega
      have e2 : nI d + -1 = iI ((d : Int) - 1) := by
        rw [show (-1 : Int32) = iI (-1) from rfl, iI_n, iI_add]; congr 1
      unfold mX11_types_c2
      rw [e1, hN, if_neg (nI_pos (by omega)), chk_n (by omega) (by omega), nI_clamp (by omega), e2, show (8 : Int32) = nI 8 from rfl, pk_mul, ← hv]
      simp only [lt_eq]
      rw [u2o _ _ (by decide), hN, show (1 : Int32) = nI 1 from rfl, nI_add]
      exact p2
    · by_cases q : o = 0
      · subst q; rw [u2k _ _ (by omega), u2o _ _ (by decide)]
      · rw [u2o _ _ q, u2o _ _ (by omega)]
    · by_cases q : o = 207
      · subst q; rw [u2k _ _ (by omega), u2o _ _ (by decide)]
      · rw [u2o _ _ q, u2o _ _ (by omega)]
section
variable {M N : Mem} {n : Nat}
theorem q_begin (hT : TOT M N) (hn : 20000 ≤ n) (a b c : Int32) : RES (mX10_begin n a b c M) (mX11_begin n a b c N) := by
  unfold mX10_begin; rw [bnd_id]
  have := op_begin (n := n) hT.1 (by omega) a b c
  rw [stF_self] at this
  exact T_op hT this
theorem q_change (hT : TOT M N) (hn : 20000 ≤ n) (a b : Int32) : RES (mX10_change n a b M) (mX11_change n a b N) := by
  unfold mX10_change; rw [bnd_id]
  have := op_change (n := n) hT.1 (by omega) a b
  rw [stF_self] at this
  exact T_op hT this
theorem q_seats (hT : TOT M N) (hn : 20000 ≤ n) (a b : Int32) : RES (mX10_seats n a b M) (mX11_seats n a b N) := by
  unfold mX10_seats; rw [bnd_id]
  have := op_seats (n := n) hT.1 (by omega) a b
  rw [stF_self] at this
  exact T_op hT this
theorem q_pause (hT : TOT M N) (hn : 20000 ≤ n) (a b : Int32) (hb : b = 0 ∨ b = 1) : RES (mX10_pause n a b M) (mX11_pause n a b N) := by
  unfold mX10_pause; rw [bnd_id]
  have := op_pause (n := n) hT.1 (by omega) a b hb
  rw [stF_self] at this
  exact T_op hT this
theorem q_giveUp (hT : TOT M N) (hn : 20000 ≤ n) (a : Int32) : RES (mX10_giveUp n a M) (mX11_giveUp n a N) := by
  unfold mX10_giveUp; rw [bnd_id]
  have := op_quit (n := n) hT.1 (by omega) a
  rw [stF_self] at this
  exact T_op hT this
theorem q_move (hT : TOT M N) (hn : 20000 ≤ n) (a b : Int32) : RES (mX10_move n a b M) (mX11_move n a b N) := by
  unfold mX10_move; rw [bnd_id]
  have := op_move (n := n) hT.1 (by omega) a b
  rw [stF_self] at this
  exact T_op hT this
theorem q_use (hT : TOT M N) (a b : Int32) : RES (mX10_use a b M) (mX11_use a b N) := by
  unfold mX10_use; rw [bnd_id]
  have := op_use hT.1 a b
  rw [stF_self] at this
  exact T_op hT this
theorem q_days (hT : TOT M N) (hn : 20000 ≤ n) (a : Int32) : RES (mX10_days n a M) (mX11_days n a N) := by
  unfold mX10_days; rw [bnd_id]
  have := op_days (n := n) hT.1 (by omega) a
  rw [stF_self] at this
  exact T_op hT this
theorem q_favour (hT : TOT M N) (hn : 20000 ≤ n) (a b : Int32) : RES (mX10_favour a b M) (mX11_favour n a b N) := by
  unfold mX10_favour; rw [bnd_id]
  have := op_favour (n := n) hT.1 (by omega) a b
  rw [stF_self] at this
  exact T_op hT this
theorem q_pay (hT : TOT M N) (a b : Int32) : RES (mX10_pay a b M) (mX11_pay a b N) := by
  unfold mX10_pay; rw [bnd_id]
  have := op_pay hT.1 a b
  rw [stF_self] at this
  exact T_op hT this
theorem q_remind (hT : TOT M N) (hn : 20000 ≤ n) (a : Int32) : RES (mX10_remind n a M) (mX11_remind n a N) := by
  unfold mX10_remind; rw [bnd_id]
  have := op_remind (n := n) hT.1 (by omega) a
  rw [stF_self] at this
  exact T_op hT this
theorem q_turn (hT : TOT M N) (hn : 20000 ≤ n) (a : Int32) : RES (mX10_turn a M) (mX11_turn n a N) := by
  unfold mX10_turn; rw [bnd_id]
  have := op_turn (n := n) hT.1 (by omega) a
  rw [stF_self] at this
  exact T_op hT this
theorem q_keep (hT : TOT M N) (hn : 20000 ≤ n) : RES (mX10_keep n M) (mX11_keep n N) := by
  obtain ⟨⟨hb, hC, hM, hRS, hI⟩, h57, h110, ⟨T, t1, t2, t3, t4⟩, h6, hK⟩ := hT
  obtain ⟨M1, p1, p2, p3⟩ := c_copy (b := 57) (s := 4) (n := n) hI.1 (by omega) hRS h57 (by omega)
  have hf : ∀ j, j < 4250 → cpR (N 209) 0 1 4250 j = N 209 j := fun j hj => cpR_o (by omega)
  have hf1 : ∀ j, j < 4250 → secR (cpR (N 209) 0 1 4250) 1 j = N 209 j := fun j hj => by
    unfold secR; rw [cpR_i hj]; congr 1; omega
  have hm := m_copies (p := 0) (q := 1) (n := n) (N := upd2 N 207 2 1) (f := N 209) (by decide) (by decide) (by decide) (by omega)
  have e0 : stF (upd2 N 207 2 1) (N 209) = upd2 N 207 2 1 := by
    have : upd2 N 207 2 1 209 = N 209 := by funext k; exact u2o _ _ (by decide)
    rw [← this]; exact stF_self _
  rw [e0] at hm
  have f1 : ∀ o k, (o < 57 ∨ 110 ≤ o) → (o ≠ 0 ∨ k ≠ 6) → upd2 M1 0 6 1 o k = M o k := fun o k h g => by
    by_cases q : o = 0
    · subst q; rw [u2k _ _ (by omega)]; exact p3 _ _ (by omega)
    · rw [u2o _ _ q]; exact p3 _ _ h
  refine ⟨N 209 1, upd2 M1 0 6 1, stF (upd2 N 207 2 1) (cpR (N 209) 0 1 4250), ?_, ?_, ⟨hb, CalC_eq hC (fun k => f1 _ _ (by omega) (by omega)), CalM_stF (CalM_eq hM (fun k => u2o _ _ (by decide))), ?_, ?_⟩, ?_, ?_, ⟨T, t1, ?_, ?_, fun i hi => ?_⟩, ?_, ?_⟩
  · unfold mX10_keep
    rw [p1]
    simp only [bnp_some]
    rw [show upd2 M1 0 6 1 40 0 = N 209 1 from (f1 _ _ (by omega) (by omega)).trans hRS.2.2.2.2.1]
  · unfold mX11_keep
    rw [show (0 : Int32) = nI 0 from rfl, show mX11_copies n (nI 0) 1 (upd2 N 207 2 1) = _ from hm]
    simp only [bnp_some]
    rw [ck1, show Int32.toNatClampNeg (1 : Int32) = 1 from rfl, stF_f, hf 1 (by decide)]
  · rw [stF_f]; exact RS_row (RS_frame hRS hI.1 (fun o k g1 g2 => f1 _ _ (by omega) (by omega))) hI.1 hf
  · rw [stF_f]; exact INV_row hI hf
  · exact fun x hx => by rw [u2o _ _ (by omega)]; exact (p2.2.2.2.1 x hx).1
  · exact fun x hx => by rw [f1 _ _ (by omega) (by omega)]; exact h110 x hx
  · rw [f1 _ _ (by omega) (by omega)]; exact t2
  · rw [stF_o _ _ (by decide), u2k _ _ (by decide)]; exact t3
  · rw [f1 _ _ (by omega) (by omega), stF_o _ _ (by decide), u2o _ _ (by decide)]; exact t4 i hi
  · rw [u2s, stF_o _ _ (by decide), u2s]
  · rw [stF_f]
    exact Or.inr ⟨u2s _ _ _ _, RS_row (RS_frame p2 hI.1 (fun o k g1 g2 => u2o _ _ (by omega))) hI.1 hf1, INV_row hI hf1⟩
theorem q_undo (hT : TOT M N) (hn : 20000 ≤ n) : RES (mX10_undo n M) (mX11_undo n N) := by
  obtain ⟨⟨hb, hC, hM, hRS, hI⟩, h57, h110, ⟨T, t1, t2, t3, t4⟩, h6, hK⟩ := id hT
  unfold mX10_undo mX11_undo
  rw [← h6]
  rcases hK with q | ⟨q1, q2, q3⟩
  · rw [if_pos q, if_pos q]
    exact ⟨_, _, _, rfl, rfl, hT⟩
  · rw [q1, if_neg (show ¬ (1 : Int32) = 0 by decide), if_neg (show ¬ (1 : Int32) = 0 by decide)]
    have hX4 : IDX 4 M := fun x hx => (hRS.2.2.2.1 x hx).1
    obtain ⟨M1, p1, p2, p3⟩ := c_copy (b := 4) (s := 57) (n := n) q3.1 (by omega) q2 hX4 (by omega)
    have hf : ∀ j, j < 4250 → cpR (N 209) 1 0 4250 j = secR (N 209) 1 j := fun j hj => by
      have := cpR_i (f := N 209) (p := 1) (q := 0) hj
      rw [show 4250 * 0 + j = j by omega] at this
      exact this
    have hf1 : secR (cpR (N 209) 1 0 4250) 1 = secR (N 209) 1 := funext fun j => cpR_o (by omega)
    have hm := m_copies (p := 1) (q := 0) (n := n) (N := N) (f := N 209) (by decide) (by decide) (by decide) (by omega)
    rw [stF_self] at hm
    refine ⟨1, M1, stF N (cpR (N 209) 1 0 4250), ?_, ?_, ⟨hb, CalC_eq hC (fun k => p3 _ _ (by omega)), CalM_stF hM, ?_, ?_⟩, ?_, ?_, ⟨T, t1, ?_, ?_, fun i hi => ?_⟩, ?_, ?_⟩
    · rw [p1]; rfl
    · rw [show (1 : Int32) = nI 1 from rfl, show mX11_copies n (nI 1) 0 N = _ from hm]; rfl
    · rw [stF_f]; exact RS_row p2 q3.1 hf
    · rw [stF_f]; exact INV_row q3 hf
    · exact fun x hx => by rw [p3 _ _ (by omega)]; exact h57 x hx
    · exact fun x hx => by rw [p3 _ _ (by omega)]; exact h110 x hx
    · rw [p3 _ _ (by omega)]; exact t2
    · rw [stF_o _ _ (by decide)]; exact t3
    · rw [p3 _ _ (by omega), stF_o _ _ (by decide)]; exact t4 i hi
    · rw [p3 _ _ (by omega), stF_o _ _ (by decide)]; exact h6
    · rw [stF_f]
      refine Or.inr ⟨by rw [p3 _ _ (by omega)]; exact q1, ?_, ?_⟩
      · rw [hf1]; exact RS_frame q2 q3.1 (fun o k g1 g2 => p3 _ _ (by omega))
      · rw [hf1]; exact q3
theorem q_count (hT : TOT M N) (a : Int32) : ∃ r, mX10_count a M = some r ∧ mX11_count a N = some r := by
  obtain ⟨⟨hb, hC, hM, hRS, hI⟩, h57, h110, ⟨T, t1, t2, t3, t4⟩, h6, hK⟩ := hT
  unfold mX10_count mX11_count
  rw [ck1, ck0, show chk (4 : Int32) 12750 (some (N 209 (Int32.toNatClampNeg (4 : Int32)))) = some (N 209 4) from chk_n (i := 4) (by decide) (by decide), show Int32.toNatClampNeg (1 : Int32) = 1 from rfl, tn0]
  rw [show M 40 0 = N 209 1 from hRS.2.2.2.2.1, show M 4 4 = N 209 0 from hRS.1, show M 5 7 = N 209 4 from hRS.2.1, t2, t3]
  split
  · exact ⟨_, rfl, rfl⟩
  · split
    · exact ⟨_, rfl, rfl⟩
    · split
      · exact ⟨_, rfl, rfl⟩
      · split
        · exact ⟨_, rfl, rfl⟩
        · exact ⟨_, rfl, rfl⟩
theorem put_1 {a : Int32} {T : Nat} {M N : Mem} (hn : 20000 ≤ n) (hT : T + 4 ≤ 400) (hM : M 0 1 = nI T) (hN : N 207 4 = nI T) (hE : ∀ i, i < T → M 1 i = N 210 i) :
    ∃ M' N', mX10_putOnTape n a M = some M' ∧ mX11_types n a N = some N' ∧ M' 0 1 = nI (T + 4) ∧ N' 207 4 = nI (T + 4) ∧ (∀ i, i < T + 4 → M' 1 i = N' 210 i) ∧ FT M M' ∧ GT N N' :=
  put_go (n := n) (a := a) 4 n T M N (by omega) hT (by decide) hM hN hE
theorem q_feed (hT : TOT M N) (hn : 20000 ≤ n) (a b c d e : Int32) : RES (mX10_feed n a b c d e M) (mX11_feed n a b c d e N) := by
  obtain ⟨hS, h57, h110, ⟨T, t1, t2, t3, t4⟩, h6, hK⟩ := id hT
  unfold mX10_feed mX11_feed
  rw [t2, t3, show (20 : Int32) = nI 20 from rfl, nI_add]
  have e : (nI (T + 20) ≤ (400 : Int32)) = (T + 20 ≤ 400) := by rw [show (400 : Int32) = nI 400 from rfl]; exact propext (nI_leI (by omega) (by omega))
  by_cases h : T + 20 ≤ 400
  · rw [if_pos (by rw [e]; exact h), if_pos (by rw [e]; exact h)]
    obtain ⟨M1, N1, a1, a2, a3, a4, a5, a6, a7⟩ := put_1 (n := n) (a := a) hn (by omega) t2 t3 t4
    rw [a1, a2]; simp only [bnp_some]
    obtain ⟨M2, N2, b1, b2, b3, b4, b5, b6, b7⟩ := put_1 (n := n) (a := b) hn (by omega) a3 a4 a5
    rw [b1, b2]; simp only [bnp_some]
    obtain ⟨M3, N3, c1, c2, c3, c4, c5, c6, c7⟩ := put_1 (n := n) (a := c) hn (by omega) b3 b4 b5
    rw [c1, c2]; simp only [bnp_some]
    obtain ⟨M4, N4, d1, d2, d3, d4, d5, d6, d7⟩ := put_1 (n := n) (a := d) hn (by omega) c3 c4 c5
    rw [d1, d2]; simp only [bnp_some]
    obtain ⟨M5, N5, f1, f2, f3, f4, f5, f6, f7⟩ := put_1 (n := n) (a := _) hn (by omega) d3 d4 d5
    rw [f1, f2]; simp only [bnp_some]
    rw [f3, f4]
    exact ⟨_, M5, N5, rfl, rfl, T_tape hT ((((a6.trans b6).trans c6).trans d6).trans f6) ((((a7.trans b7).trans c7).trans d7).trans f7) ⟨_, by omega, f3, f4, f5⟩⟩
  · rw [if_neg (by rw [e]; exact h), if_neg (by rw [e]; exact h)]
    exact ⟨_, _, _, rfl, rfl, hT⟩
end
