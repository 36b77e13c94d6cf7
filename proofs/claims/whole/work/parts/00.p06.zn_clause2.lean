/-! a whole CLAUSE, on both sides -/
theorem B_oneB {n L p hi o slot j : Nat} {M N : Mem} (hn : 20000 ≤ n) (ho1 : 164 ≤ o) (ho2 : o ≤ 197) (hos : o = 164 → slot ≠ 7) (hhi : hi ≤ 99999) (hj : j < 164)
    (put : ∀ (M : Mem) (g : Nat → Int32) (v : Nat), RT 164 M g → IT g → v ≤ hi → RT 164 (upd2 M o slot (nI v)) (upd g j (nI v)) ∧ IT (upd g j (nI v))) (h : RD 198 L p M N) (hT : RT 164 M (N 211)) (hI : IT (N 211)) :
    ClO L M N (bnp (mX8_blank 198 M) fun M8 => bnd (mX8_number n 198 (nI 0) (nI hi) M8) fun r5 M6 => some (upd2 M6 o slot r5)) (KT (mX11_readsNumber n (nI 0) (nI hi) N) j) := by
  rcases R_blank (by decide) h with ⟨M1, N1, b1, b2, b3, b4, b5⟩ | ⟨M1, N1, b1, b2, b3, b4, b5⟩
  · obtain ⟨t1, t2⟩ := DR_fr hT hI b4 b5
    rw [b1, rn_ok b2]
    simp only [bnp_some]
    exact (B_one hn ho1 ho2 hos hhi hj put b3 t1 t2).pre b4.b b5.b
  · rw [b1, rn_no b2]
    simp only [bnp_some]
    rw [number_no (FLT_ne b3)]
    simp only [bnd_some]
    exact Or.inr ⟨_, _, rfl, rfl, FLT_M b3 (by omega), b4.b.trans (FB_up ho1 ho2 hos), b5.b⟩
theorem less_eq {n : Nat} {N : Mem} : mX11_readsLess n N = bnd (KT (mX11_readsNumber n (nI 0) (nI 100) N) 2) fun r M5 => if r = 0 then some (0, M5) else KT (mX11_readsNumber n (nI 0) (nI 99) M5) 3 := by
  unfold mX11_readsLess KT
  rw [show (100 : Int32) = nI 100 from rfl, show (99 : Int32) = nI 99 from rfl, show mX11_readsNumber n (0 : Int32) (nI 100) N = mX11_readsNumber n (nI 0) (nI 100) N from rfl]
  rcases mX11_readsNumber n (nI 0) (nI 100) N with _ | ⟨r, M2⟩
  · rfl
  · simp only [bnd_some]
    by_cases z : r = 0
    · rw [if_pos z, if_pos z]; rfl
    · rw [if_neg z, if_neg z, show mX11_keepsNumber (2 : Int32) M2 = some (1, upd2 M2 211 2 (M2 207 8)) from keep_ok (j := 2) (by decide), show mX11_keepsNumber (nI 2) M2 = some (1, upd2 M2 211 2 (M2 207 8)) from keep_ok (j := 2) (by decide)]
      simp only [bnd_some]
      rw [if_neg (show ¬ (1 : Int32) = 0 by decide), if_neg (show ¬ (1 : Int32) = 0 by decide)]
      simp only [bnd_some]
      rw [if_neg (show ¬ (1 : Int32) = 0 by decide)]; rfl
theorem bnd_bnp {x : Option (Int32 × Mem)} {F : Int32 → Mem → Mem} {K : Mem → Option Mem} : (bnd x fun r M => bnp (some (F r M)) K) = bnp (bnd x fun r M => some (F r M)) K := by
  rcases x with _ | ⟨r, M⟩
  · rfl
  · rfl
theorem B_less {n L p : Nat} {M N N0 : Mem} (hn : 20000 ≤ n) (h0 : mX11_takesSign (32 : Int32) N0 = some (1, N)) (h : RD 198 L p M N) (hT : RT 164 M (N 211)) (hI : IT (N 211)) :
    ClO L M N (bnd (mX8_number n 198 (0 : Int32) (100 : Int32) M) fun r5 M6 => (bnp (mX8_blank 198 (upd2 M6 164 1 r5)) fun M8 => (bnd (mX8_number n 198 (0 : Int32) (99 : Int32) M8) fun r9 M10 => (some (upd2 M10 164 2 r9))))) (mX11_readsLess n N0) := by
  have e : (bnd (mX8_number n 198 (0 : Int32) (100 : Int32) M) fun r5 M6 => (bnp (mX8_blank 198 (upd2 M6 164 1 r5)) fun M8 => (bnd (mX8_number n 198 (0 : Int32) (99 : Int32) M8) fun r9 M10 => (some (upd2 M10 164 2 r9))))) =
      bnp (bnd (mX8_number n 198 (nI 0) (nI 100) M) fun r5 M6 => some (upd2 M6 164 1 r5)) fun M7 => (bnp (mX8_blank 198 M7) fun M8 => bnd (mX8_number n 198 (nI 0) (nI 99) M8) fun r5 M6 => some (upd2 M6 164 2 r5)) := bnd_bnp (x := mX8_number n 198 (nI 0) (nI 100) M) (F := fun r M6 => upd2 M6 164 1 r) (K := fun M7 => (bnp (mX8_blank 198 M7) fun M8 => bnd (mX8_number n 198 (nI 0) (nI 99) M8) fun r5 M6 => some (upd2 M6 164 2 r5)))
  rw [e, less_eq, rn_ok h0]
  rcases B_one (n := n) (o := 164) (slot := 1) (j := 2) (hi := 100) hn (by decide) (by decide) (by decide) (by decide) (by decide) (fun M g v a b c => putT (k := 1) (j := 2) (B := 100) (Or.inl ⟨rfl, rfl, rfl⟩) a b c) h hT hI with ⟨q, M1, N1, a1, a2, a3, a4, a5, a6, a7⟩ | ⟨M1, N1, a1, a2, a3, a4, a5⟩
  · rw [a1, a2]
    simp only [bnp_some, bnd_some]
    rw [if_neg (show ¬ (1 : Int32) = 0 by decide)]
    exact (B_oneB (n := n) (o := 164) (slot := 2) (j := 3) (hi := 99) hn (by decide) (by decide) (by decide) (by decide) (by decide) (fun M g v a b c => putT (k := 2) (j := 3) (B := 99) (Or.inr (Or.inl ⟨rfl, rfl, rfl⟩)) a b c) a3 a4 a5).pre a6 a7
  · rw [a1, a2]
    simp only [bnp_some, bnd_some]
    rw [if_pos trivial, blank_no (FLT_ne a3)]
    simp only [bnp_some]
    rw [number_no (FLT_ne a3)]
    simp only [bnd_some]
    exact Or.inr ⟨_, _, rfl, rfl, FLT_M a3 (by decide), a4.trans (FB_up (by decide) (by decide) (by decide)), a5⟩
/-- behind the word -/
theorem B_c45 {n L p w c : Nat} {M N : Mem} (hn : 20000 ≤ n) (hm : (w, c) ∈ CW 0) (h9 : w = 9 → nX (N 211) ≤ 3) (h : RD 198 L p M N) (hT : RT 164 M (N 211)) (hI : IT (N 211)) :
    ClO L M N (mX2_readClause_c45 n (nI w) M) (RC n (Int64.ofNat c) N) := by
  have hm' := hm
  rw [CW_0] at hm'
  simp only [List.mem_cons, List.not_mem_nil, or_false, Prod.mk.injEq] at hm'
  have hw : w < 10 := by omega
  have hX := hI.2.2.2.1.1
  have k7 : (nI w = (7 : Int32)) = (w = 7) := by rw [show (7 : Int32) = nI 7 from rfl, nI_eq (by omega) (by omega)]
  have k8 : (nI w = (8 : Int32)) = (w = 8) := by rw [show (8 : Int32) = nI 8 from rfl, nI_eq (by omega) (by omega)]
  have k9 : (nI w = (9 : Int32)) = (w = 9) := by rw [show (9 : Int32) = nI 9 from rfl, nI_eq (by omega) (by omega)]
  unfold mX2_readClause_c45
  simp only [k7, k8, k9]
  rcases R_blank (by decide) h with ⟨M1, N1, b1, b2, b3, b4, b5⟩ | ⟨M1, N1, b1, b2, b3, b4, b5⟩
  · obtain ⟨t1, t2⟩ := DR_fr hT hI b4 b5
    have e211 : N1 211 = N 211 := funext fun k => b5 211 k (Or.inl (by decide))
    have h5 : N 207 5 + 1 = nI (p + 1) := by rw [h.2.2.2.2.2.2.2.1]; exact nI_add ..
    rw [b1]
    simp only [bnp_some]
    rw [sound_ok b3.2.2.2.2.1]
    simp only [bnp_some]
    rw [if_neg (show ¬ (1 : Int32) = 0 by decide)]
    refine ClO.pre ?_ b4.b b5.b
    by_cases w7 : w < 7
    · rw [if_neg (show ¬ w = 7 by omega), if_neg (show ¬ w = 8 by omega), if_neg (show ¬ w = 9 by omega), bnp_id]
      rcases B_plan (n := n) (w := w) hn w7 b3 t1 t2 with ⟨v, N2, v1, v2, v3, v4⟩ | ⟨N2, v1, v2⟩
      · rw [rc_plan hm w7 ((rp_ok b2).trans v2) v3]; exact v4
      · rw [rc_planno hm w7 ((rp_ok b2).trans v1)]; exact v2
    · rcases (show (w = 7 ∧ c = 398963) ∨ (w = 8 ∧ c = 6309) ∨ (w = 9 ∧ c = 20536) by omega) with ⟨rfl, rfl⟩ | ⟨rfl, rfl⟩ | ⟨rfl, rfl⟩
      · rw [if_pos rfl, show RC n (Int64.ofNat 398963) N = mX11_readsLess n N from rc_less]
        exact B_less hn b2 b3 t1 t2
      · rw [if_neg (show ¬ (8 : Nat) = 7 by decide), if_pos rfl, show RC n (Int64.ofNat 6309) N = _ from rc_fee, rn_ok b2]
        exact B_one (n := n) (o := 164) (slot := 3) (j := 5) (hi := 20) hn (by decide) (by decide) (by decide) (by decide) (by decide) (fun M g v a b c => putT (k := 3) (j := 5) (B := 20) (Or.inr (Or.inr ⟨rfl, rfl, rfl⟩)) a b c) b3 t1 t2
      · have hX3 := h9 rfl
        have hc := B_tax (n := n) (N0 := N) hn hX3 (by rw [e211]) hX h5 b3 t1 t2
        rw [if_neg (show ¬ (9 : Nat) = 7 by decide), if_neg (show ¬ (9 : Nat) = 8 by decide), if_pos rfl, bnp_id, show RC n (Int64.ofNat 20536) N = mX11_readsTax n N from rc_tax]
        unfold mX11_readsTax
        rw [show N 211 (Int32.toNatClampNeg (6 : Int32)) = nI (nX (N 211)) from hX] at hc ⊢
        rw [show chk (6 : Int32) 164 = fun (y : Option (Int32 × Mem)) => y from funext fun y => chk_n (show 6 < 164 by decide) (by decide)]
        rw [if_neg (show ¬ nI (nX (N 211)) = (4 : Int32) by rw [show (4 : Int32) = nI 4 from rfl, nI_eq (by omega) (by omega)]; omega), show mX11_readsNumber n (0 : Int32) (3652 : Int32) N = _ from rn_ok b2]
        exact hc
  · rw [b1]
    simp only [bnp_some]
    rw [sound_no (FLT_ne b3)]
    simp only [bnp_some]
    rw [if_pos trivial]
    have hR : RC n (Int64.ofNat c) N = some (0, N1) := by
      by_cases w7 : w < 7
      · exact rc_planno hm w7 (rp_no b2)
      · rcases (show (w = 7 ∧ c = 398963) ∨ (w = 8 ∧ c = 6309) ∨ (w = 9 ∧ c = 20536) by omega) with ⟨rfl, rfl⟩ | ⟨rfl, rfl⟩ | ⟨rfl, rfl⟩
        · rw [show RC n (Int64.ofNat 398963) N = mX11_readsLess n N from rc_less, less_eq, rn_no b2]; rfl
        · rw [show RC n (Int64.ofNat 6309) N = _ from rc_fee, rn_no b2]; rfl
        · have hX3 := h9 rfl
          rw [show RC n (Int64.ofNat 20536) N = mX11_readsTax n N from rc_tax]
          unfold mX11_readsTax
          rw [show N 211 (Int32.toNatClampNeg (6 : Int32)) = nI (nX (N 211)) from hX, if_neg (show ¬ nI (nX (N 211)) = (4 : Int32) by rw [show (4 : Int32) = nI 4 from rfl, nI_eq (by omega) (by omega)]; omega), show mX11_readsNumber n (0 : Int32) (3652 : Int32) N = _ from rn_no b2]
          exact chk_n (show 6 < 164 by decide) (by decide)
    rw [hR]
    exact Or.inr ⟨_, _, rfl, rfl, b3, b4.b, b5.b⟩
def GB2 (N N' : Mem) : Prop := ∀ o k, ¬ ((o = 207 ∧ (k = 5 ∨ k = 7 ∨ k = 8 ∨ k = 9 ∨ k = 10 ∨ k = 10 + HI ∨ k = 12)) ∨ o = 211) → N' o k = N o k
theorem GB2.trans {N N1 N2 : Mem} (h1 : GB2 N N1) (h2 : GB2 N1 N2) : GB2 N N2 := fun o k h => (h2 o k h).trans (h1 o k h)
theorem GB.b2 {N N' : Mem} (h : GB N N') : GB2 N N' := fun o k g => h o k (by omega)
theorem GR.b2 {N N' : Mem} (h : GR N N') : GB2 N N' := h.b.b2
theorem GB2_up {N : Mem} {v : Int32} : GB2 N (upd2 N 207 12 v) := fun o k g => by
  by_cases z : o = 207
  · subst z; exact u2k _ _ (by omega)
  · exact u2o _ _ z
def ClR (L i : Nat) (M N : Mem) (mc : Option Mem) (mm : Option (Int32 × Mem)) : Prop :=
  (∃ q M' N', mc = some M' ∧ mm = some (1, N') ∧ RD 198 L q M' N' ∧ RT 164 M' (N' 211) ∧ IT (N' 211) ∧ N' 207 12 = nI (i + 1) ∧ FB M M' ∧ GB2 N N') ∨
  (∃ M' N', mc = some M' ∧ mm = some (0, N') ∧ FLT 198 M' N' ∧ FB M M' ∧ GB2 N N')
theorem B_clause {n L p i : Nat} {M N : Mem} (hn : 20000 ≤ n) (hi : i < 20) (h12 : N 207 12 = nI i) (h : RD 198 L p M N) (hT : RT 164 M (N 211)) (hI : IT (N 211)) : ClR L i M N (mX2_readClause n M) (mX11_readsClause n N) := by
  have hp : M 198 2 = nI p := h.2.2.2.1
  have hpL : p ≤ 200 := by have := h.1; have := h.2.1; omega
  have n20 : ¬ N 207 12 = (20 : Int32) := by rw [h12, show (20 : Int32) = nI 20 from rfl, nI_eq (by omega) (by omega)]; omega
  obtain ⟨e, N1, e1, e2, w1, w2, w3, w4⟩ := R_word (n := n) (a := 0) (by decide) (by decide) hn h
  have g12 : N1 207 12 = nI i := (w3 207 12 (Or.inr ⟨by decide, by decide, by decide, by decide, by decide, hHI 12 (by decide)⟩)).trans h12
  unfold mX2_readClause
  rw [hp]
  rcases w4 with ⟨⟨w, c⟩, t1, t2, t3, t4⟩ | ⟨t1, t2, t3⟩
  · obtain ⟨f1, f2⟩ := DR_fr hT hI (FR_up (k := 2) (v := nI e) (by decide)) w3
    have hcw : mX11_isClauseWord (Int64.ofNat c) = some 1 := by
      have hm' := t1
      rw [CW_0] at hm'
      simp only [List.mem_cons, List.not_mem_nil, or_false, Prod.mk.injEq] at hm'
      rcases hm' with ⟨-, rfl⟩ | ⟨-, rfl⟩ | ⟨-, rfl⟩ | ⟨-, rfl⟩ | ⟨-, rfl⟩ | ⟨-, rfl⟩ | ⟨-, rfl⟩ | ⟨-, rfl⟩ | ⟨-, rfl⟩ | ⟨-, rfl⟩ <;> decide
    have t2' : lcb (N1 207 10) (N1 207 (10 + HI)) = Int64.ofNat c := t2
    have t3' : mX8_word n 198 0 M = some (nI w, upd2 M 198 2 (nI e)) := t3
    have hw10 : w < 10 ∧ (w = 9 → c = 20536) := by
      have hm' := t1
      rw [CW_0] at hm'
      simp only [List.mem_cons, List.not_mem_nil, or_false, Prod.mk.injEq] at hm'
      omega
    rw [rc_eq n20 w1 t2' hcw, t3', g12, show nI i + (1 : Int32) = nI (i + 1) from nI_add ..]
    simp only [bnd_some]
    obtain ⟨N3, hN3⟩ : ∃ N3, N3 = upd2 N1 207 12 (nI (i + 1)) := ⟨_, rfl⟩
    have q12 : N3 207 12 = nI (i + 1) := by rw [hN3]; exact u2s _ _ _ _
    have q211 : N3 211 = N1 211 := funext fun k => by rw [hN3]; exact u2o _ _ (by decide)
    have qR : RD 198 L e (upd2 M 198 2 (nI e)) N3 := by rw [hN3]; exact RD_N t4 (Or.inr ⟨by decide, by decide⟩) (by decide)
    have qG : GB2 N N3 := by rw [hN3]; exact w3.b2.trans GB2_up
    have qF : FB M (upd2 M 198 2 (nI e)) := (FR_up (k := 2) (by decide)).b
    rw [← q211] at f1 f2
    rw [← hN3]
    have hX : upd2 M 198 2 (nI e) 164 4 = nI (nX (N3 211)) := by rw [f1.2.2.2.1]; exact f2.2.2.2.1.1
    have hX4 := f2.2.2.2.1.2
    have hok : (w = 9 → nX (N3 211) ≤ 3) → ClR L i M N (mX2_readClause_c45 n (nI w) (upd2 M 198 2 (nI e))) (RC n (Int64.ofNat c) N3) := fun z => by
      rcases B_c45 hn t1 z qR f1 f2 with ⟨q, M', N', a1, a2, a3, a4, a5, a6, a7⟩ | ⟨M', N', a1, a2, a3, a4, a5⟩
      · exact Or.inl ⟨q, M', N', a1, a2, a3, a4, a5, (a7 207 12 (by have := hHI 12 (by decide); omega)).trans q12, qF.trans a6, qG.trans a7.b2⟩
      · exact Or.inr ⟨M', N', a1, a2, a3, qF.trans a4, qG.trans a5.b2⟩
    by_cases w9 : w = 9
    · rw [if_pos (show nI w = (9 : Int32) by rw [w9]; rfl), hX]
      by_cases z : nX (N3 211) = 4
      · rw [if_neg (show ¬ nI (nX (N3 211)) < (4 : Int32) by rw [z]; decide)]
        obtain ⟨c1, c2, c3⟩ := RD_fault (c := 6) (at' := p) qR (by decide) (by decide) hpL
        have q9 : N3 207 9 = nI p := by rw [hN3, u2k _ _ (by decide)]; exact w2
        have hr : RC n (Int64.ofNat c) N3 = some (0, upd2 N3 207 7 ((-1000 : Int32) * nI 6 - nI p)) := by
          rw [hw10.2 w9, show RC n (Int64.ofNat 20536) N3 = mX11_readsTax n N3 from rc_tax]
          unfold mX11_readsTax mX11_wrongAt
          rw [show N3 211 (Int32.toNatClampNeg (6 : Int32)) = nI 4 from (show N3 211 6 = nI (nX (N3 211)) from f2.2.2.2.1.1).trans (by rw [z]), if_pos (show nI 4 = (4 : Int32) by decide), q9]
          exact chk_n (show 6 < 164 by decide) (by decide)
        rw [hr, show mX8_mark 198 (6 : Int32) (nI p) (upd2 M 198 2 (nI e)) = _ from mark_ok (c := 6) qR.2.2.2.2.1]
        simp only [bnp_some]
        unfold mX2_readClause_c45
        rw [blank_no (FLT_ne c1)]
        simp only [bnp_some]
        rw [sound_no (FLT_ne c1)]
        simp only [bnp_some]
        rw [if_pos trivial]
        exact Or.inr ⟨_, _, rfl, rfl, c1, qF.trans c2.b, qG.trans c3.b2⟩
      · rw [if_pos (show nI (nX (N3 211)) < (4 : Int32) by rw [show (4 : Int32) = nI 4 from rfl, nI_ltI (by omega) (by omega)]; omega)]
        exact hok (fun _ => by omega)
    · rw [if_neg (show ¬ nI w = (9 : Int32) by rw [show (9 : Int32) = nI 9 from rfl, nI_eq (by omega) (by omega)]; exact w9)]
      exact hok (fun z => absurd z w9)
  · rw [rc_no n20 w1 (word_no10 t1), t2, w2]
    simp only [bnd_some]
    rw [if_neg (show ¬ (-1 : Int32) = 9 by decide)]
    unfold mX2_readClause_c45
    rw [blank_no (FLT_ne t3)]
    simp only [bnp_some]
    rw [sound_no (FLT_ne t3)]
    simp only [bnp_some]
    rw [if_pos trivial]
    exact Or.inr ⟨_, _, rfl, rfl, t3, ((FR_up (k := 3) (by decide)).trans (FR_up (k := 4) (by decide))).b, w3.b2.trans (GR_up (by omega)).b2⟩
