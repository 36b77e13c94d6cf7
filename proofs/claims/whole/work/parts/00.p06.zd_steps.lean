/-! STEPS, read on both sides -/
def FS (i lo : Nat) (M M' : Mem) : Prop := ∀ o k, ¬ ((o = 204 ∧ k ≠ 1) ∨ (lo ≤ o ∧ o ≤ 203 ∧ k = i)) → M' o k = M o k
def GSf (i lo : Nat) (N N' : Mem) : Prop := ∀ o k, ¬ ((o = 207 ∧ (k = 5 ∨ k = 7 ∨ k = 8 ∨ k = 9 ∨ k = 10 ∨ k = 10 + HI)) ∨ (213 ≤ o ∧ lo ≤ o ∧ o ≤ 215 ∧ k = i) ∨ (lo ≤ 212 ∧ o = 212 ∧ (k = 2 * i ∨ k = 2 * i + 1))) → N' o k = N o k
theorem FS.trans {i lo lo' : Nat} {M M1 M2 : Mem} (h1 : FS i lo M M1) (h2 : FS i lo' M1 M2) (h : lo ≤ lo') : FS i lo M M2 := fun o k g => (h2 o k (by omega)).trans (h1 o k g)
theorem GSf.trans {i lo lo' : Nat} {M M1 M2 : Mem} (h1 : GSf i lo M M1) (h2 : GSf i lo' M1 M2) (h : lo ≤ lo') : GSf i lo M M2 := fun o k g => (h2 o k (by omega)).trans (h1 o k g)
theorem FR.fs {i lo : Nat} {M M' : Mem} (h : FR 204 M M') : FS i lo M M' := fun o k g => h o k (by omega)
theorem GR.gs {i lo : Nat} {N N' : Mem} (h : GR N N') : GSf i lo N N' := fun o k g => h o k (by omega)
theorem FS_up {i lo o : Nat} {M : Mem} {v : Int32} (h : lo ≤ o ∧ o ≤ 203) : FS i lo M (upd2 M o i v) := fun o' k g => by
  by_cases q : o' = o
  · subst q; exact u2k _ _ (by omega)
  · exact u2o _ _ q
theorem GS_up' {i lo o : Nat} {N : Mem} {v : Int32} (h : lo ≤ o ∧ 213 ≤ o ∧ o ≤ 215) : GSf i lo N (upd2 N o i v) := fun o' k g => by
  by_cases q : o' = o
  · subst q; exact u2k _ _ (by omega)
  · exact u2o _ _ q
/-- cells that the reader doesn't look at -/
theorem RD_M {rd L p o k : Nat} {M N : Mem} {v : Int32} (h : RD rd L p M N) (h1 : o ≠ rd) (h2 : o ≠ 1) : RD rd L p (upd2 M o k v) N := by
  obtain ⟨a0, a1, a2, a3, a4, a5, a6, a7, a8⟩ := h
  exact ⟨a0, a1, by rw [u2o _ _ (Ne.symm h1)]; exact a2, by rw [u2o _ _ (Ne.symm h1)]; exact a3, by rw [u2o _ _ (Ne.symm h1)]; exact a4, by rw [u2o _ _ (Ne.symm h1)]; exact a5, a6, a7, fun i hi => by rw [u2o _ _ (Ne.symm h2)]; exact a8 i hi⟩
theorem RD_N {rd L p o k : Nat} {M N : Mem} {v : Int32} (h : RD rd L p M N) (h1 : o ≠ 207 ∨ (k ≠ 5 ∧ k ≠ 6)) (h2 : o ≠ 210) : RD rd L p M (upd2 N o k v) := by
  obtain ⟨a0, a1, a2, a3, a4, a5, a6, a7, a8⟩ := h
  have e : ∀ j, j = 5 ∨ j = 6 → upd2 N o k v 207 j = N 207 j := fun j hj => by
    by_cases q : o = 207
    · subst q; exact u2k _ _ (by omega)
    · exact u2o _ _ (Ne.symm q)
  exact ⟨a0, a1, a2, a3, a4, a5, by rw [e 6 (by omega)]; exact a6, by rw [e 5 (by omega)]; exact a7, fun i hi => by rw [u2o _ _ (Ne.symm h2)]; exact a8 i hi⟩
theorem FLT_M {rd o k : Nat} {M N : Mem} {v : Int32} (h : FLT rd M N) (h1 : o ≠ rd) : FLT rd (upd2 M o k v) N := by
  obtain ⟨c, a, b1, b2, b3, b4, b5, b6⟩ := h
  exact ⟨c, a, b1, b2, b3, by rw [u2o _ _ (Ne.symm h1)]; exact b4, by rw [u2o _ _ (Ne.symm h1)]; exact b5, b6⟩
theorem FLT_eq {rd : Nat} {M M' N : Mem} (h : FLT rd M N) (h3 : M' rd 3 = M rd 3) (h4 : M' rd 4 = M rd 4) : FLT rd M' N := by
  obtain ⟨c, a, b1, b2, b3, b4, b5, b6⟩ := h
  exact ⟨c, a, b1, b2, b3, h3.trans b4, h4.trans b5, b6⟩
/-- a blank, and what is due behind it -/
theorem P_acct {L p : Nat} {M N : Mem} (h : RD 204 L p M N) : (∃ v M1 M2 N2, mX8_blank 204 M = some M1 ∧ mX8_accountDigit 204 M1 = some (nI v, M2) ∧ mX11_readsAccount N = some (1, N2) ∧ N2 207 8 = nI v ∧ RD 204 L (p + 2) M2 N2 ∧ FR 204 M M2 ∧ GR N N2) ∨
    (∃ M1 M2 N2, mX8_blank 204 M = some M1 ∧ mX8_accountDigit 204 M1 = some (0, M2) ∧ mX11_readsAccount N = some (0, N2) ∧ FLT 204 M2 N2 ∧ FR 204 M M2 ∧ GR N N2) := by
  rcases R_blank (by decide) h with ⟨M1, N1, b1, b2, b3, b4, b5⟩ | ⟨M1, N1, b1, b2, b3, b4, b5⟩
  · rcases R_acct (by decide) b3 with ⟨v, M2, N2, c0, c1, c2, c3, c4, c5, c6⟩ | ⟨M2, N2, c1, c2, c3, c4, c5⟩
    · exact Or.inl ⟨v, M1, M2, N2, b1, c1, by rw [ra_ok b2]; exact c2, c3, c4, b4.trans c5, b5.trans c6⟩
    · exact Or.inr ⟨M1, M2, N2, b1, c1, by rw [ra_ok b2]; exact c2, c3, b4.trans c4, b5.trans c5⟩
  · exact Or.inr ⟨M1, M1, N1, b1, acct_no (FLT_ne b3), ra_no b2, b3, b4, b5⟩
theorem P_plan {rd L p : Nat} {M N : Mem} (hrd : rd ≠ 1) (h : RD rd L p M N) : (∃ v M1 M2 N2, v ≤ 5 ∧ mX8_blank rd M = some M1 ∧ mX8_planLetter rd M1 = some (nI v, M2) ∧ mX11_readsPlan N = some (1, N2) ∧ N2 207 8 = nI v ∧ RD rd L (p + 2) M2 N2 ∧ FR rd M M2 ∧ GR N N2) ∨
    (∃ M1 M2 N2, mX8_blank rd M = some M1 ∧ mX8_planLetter rd M1 = some (0, M2) ∧ mX11_readsPlan N = some (0, N2) ∧ FLT rd M2 N2 ∧ FR rd M M2 ∧ GR N N2) := by
  rcases R_blank hrd h with ⟨M1, N1, b1, b2, b3, b4, b5⟩ | ⟨M1, N1, b1, b2, b3, b4, b5⟩
  · rcases R_plan hrd b3 with ⟨v, M2, N2, c0, c1, c2, c3, c4, c5, c6⟩ | ⟨M2, N2, c1, c2, c3, c4, c5⟩
    · exact Or.inl ⟨v, M1, M2, N2, c0, b1, c1, by rw [rp_ok b2]; exact c2, c3, c4, b4.trans c5, b5.trans c6⟩
    · exact Or.inr ⟨M1, M2, N2, b1, c1, by rw [rp_ok b2]; exact c2, c3, b4.trans c4, b5.trans c5⟩
  · exact Or.inr ⟨M1, M1, N1, b1, plan_no (FLT_ne b3), rp_no b2, b3, b4, b5⟩
theorem P_num {n rd L p lo hi : Nat} {M N : Mem} (hrd : rd ≠ 1) (hlo : lo ≤ hi) (hhi : hi ≤ 99999) (hn : 20000 ≤ n) (h : RD rd L p M N) : (∃ v q M1 M2 N2, lo ≤ v ∧ v ≤ hi ∧ mX8_blank rd M = some M1 ∧ mX8_number n rd (nI lo) (nI hi) M1 = some (nI v, M2) ∧ mX11_readsNumber n (nI lo) (nI hi) N = some (1, N2) ∧ N2 207 8 = nI v ∧ RD rd L q M2 N2 ∧ FR rd M M2 ∧ GR N N2) ∨
    (∃ r M1 M2 N2, mX8_blank rd M = some M1 ∧ mX8_number n rd (nI lo) (nI hi) M1 = some (r, M2) ∧ mX11_readsNumber n (nI lo) (nI hi) N = some (0, N2) ∧ FLT rd M2 N2 ∧ FR rd M M2 ∧ GR N N2) := by
  rcases R_blank hrd h with ⟨M1, N1, b1, b2, b3, b4, b5⟩ | ⟨M1, N1, b1, b2, b3, b4, b5⟩
  · rcases R_num (n := n) hrd hlo hhi hn b3 with ⟨v, q, M2, N2, c1, c2, c3, c4, c5, c6, c7, c8, c9⟩ | ⟨r, M2, N2, c1, c2, c3, c4, c5⟩
    · exact Or.inl ⟨v, q, M1, M2, N2, c4, c5, b1, c1, by rw [rn_ok b2]; exact c2, c3, c7, b4.trans c8, b5.trans c9⟩
    · exact Or.inr ⟨r, M1, M2, N2, b1, c1, by rw [rn_ok b2]; exact c2, c3, b4.trans c4, b5.trans c5⟩
  · exact Or.inr ⟨nI lo, M1, M1, N1, b1, number_no (FLT_ne b3), rn_no b2, b3, b4, b5⟩
def StO (L i lo lor : Nat) (M N : Mem) (mc : Option Mem) (mm : Option (Int32 × Mem)) (K : Mem → Mem → Prop) : Prop :=
  (∃ q M' N', mc = some M' ∧ mm = some (1, N') ∧ RD 204 L q M' N' ∧ N' 207 17 = nI i ∧ K M' N' ∧ FS i lo M M' ∧ GSf i lor N N') ∨
  (∃ M' N', mc = some M' ∧ mm = some (0, N') ∧ FLT 204 M' N' ∧ FS i lo M M' ∧ GSf i lor N N')
def fol (w : Nat) : Int32 := folL.getD w 0
theorem c100_no {n i w : Nat} {M : Mem} (hi : i < 24) (hw : w < 13) (h : ¬ M 204 3 = 0) : ∃ M', mX4_readStep_c100 n (nI i) (nI w) M = some M' ∧ FS i 203 M M' ∧ ∀ k, M' 204 k = M 204 k := by
  unfold mX4_readStep_c100
  rw [chk_n hw (by decide), blank_no h]
  simp only [bnp_some]
  rw [number_no h]
  simp only [bnd_some]
  rw [chk_n hi (by decide), show Int32.toNatClampNeg (nI i) = i from nI_clamp (by omega)]
  by_cases z : (folL.getD (Int32.toNatClampNeg (nI w)) 0 &&& (4 : Int32)) = 0
  · rw [if_pos z]; exact ⟨M, rfl, fun _ _ _ => rfl, fun _ => rfl⟩
  · rw [if_neg z]; exact ⟨_, rfl, FS_up (by omega), fun k => u2o _ _ (by decide)⟩
theorem c70_no {n i w : Nat} {M : Mem} (hi : i < 24) (hw : w < 13) (h : ¬ M 204 3 = 0) : ∃ M', mX4_readStep_c70 n (nI i) (nI w) M = some M' ∧ FS i 202 M M' ∧ ∀ k, M' 204 k = M 204 k := by
  unfold mX4_readStep_c70
  rw [chk_n hw (by decide), blank_no h]
  simp only [bnp_some]
  rw [plan_no h]
  simp only [bnd_some]
  rw [chk_n hi (by decide), show Int32.toNatClampNeg (nI i) = i from nI_clamp (by omega)]
  by_cases z : (folL.getD (Int32.toNatClampNeg (nI w)) 0 &&& (2 : Int32)) = 0
  · rw [if_pos z]
    obtain ⟨M', m1, m2, m3⟩ := c100_no (n := n) hi hw h
    exact ⟨M', m1, fun o k g => m2 o k (by omega), m3⟩
  · rw [if_neg z]
    obtain ⟨M', m1, m2, m3⟩ := c100_no (n := n) (M := upd2 M 202 i 0) hi hw (by rw [u2o _ _ (by decide)]; exact h)
    exact ⟨M', m1, FS.trans (FS_up (by omega)) m2 (by decide), fun k => by rw [m3, u2o _ _ (by decide)]⟩
/-- no NUMBER follows -/
theorem St_A {n L i w p : Nat} {M N : Mem} (hi : i < 24) (hw : w < 13) (hf : (fol w &&& 4) = 0) (h : RD 204 L p M N) (h17 : N 207 17 = nI i) : StO L i 203 215 M N (mX4_readStep_c100 n (nI i) (nI w) M) (some (1, N)) (fun _ _ => True) := by
  refine Or.inl ⟨p, M, N, ?_, rfl, h, h17, trivial, fun _ _ _ => rfl, fun _ _ _ => rfl⟩
  unfold mX4_readStep_c100
  rw [chk_n hw (by decide), nI_clamp (by omega), if_pos (show (folL.getD w 0 &&& (4 : Int32)) = 0 from hf)]
def endN (n o : Nat) (N : Mem) : Option (Int32 × Mem) := (bnd (mX11_readsNumber n (0 : Int32) (99999 : Int32) N) fun r4 M5 => (if r4 = 0 then (some ((0 : Int32), M5)) else (chk (M5 207 17) 24 (some ((1 : Int32), (upd2 M5 o (Int32.toNatClampNeg (M5 207 17)) (M5 207 8)))))))
/-- a NUMBER follows, and is the last -/
theorem St_B {n L i w p o : Nat} {M N : Mem} (hi : i < 24) (hw : w < 13) (ho : o = 213 ∨ o = 215) (hf : ¬ (fol w &&& 4) = 0) (hn : 20000 ≤ n) (h : RD 204 L p M N) (h17 : N 207 17 = nI i) : StO L i 203 o M N (mX4_readStep_c100 n (nI i) (nI w) M) (endN n o N) (fun M' N' => M' 203 i = N' o i) := by
  have g17 : ∀ {N' : Mem}, GR N N' → N' 207 17 = nI i := fun g => (g 207 17 (Or.inr ⟨by decide, by decide, by decide, by decide, by decide, hHI 17 (by decide)⟩)).trans h17
  unfold mX4_readStep_c100 endN
  rw [chk_n hw (by decide), nI_clamp (by omega), if_neg (show ¬ (folL.getD w 0 &&& (4 : Int32)) = 0 from hf), nI_lit 99999, show (0 : Int32) = nI 0 from rfl]
  rcases P_num (n := n) (lo := 0) (hi := 99999) (by decide) (by decide) (by decide) hn h with ⟨v, q, M1, M2, N2, v1, v2, b1, b2, b3, b4, b5, b6, b7⟩ | ⟨r, M1, M2, N2, b1, b2, b3, b4, b5, b6⟩
  · rw [b1, b3]
    simp only [bnp_some, bnd_some]
    rw [b2]
    simp only [bnd_some]
    rw [if_neg (show ¬ (1 : Int32) = nI 0 by decide), g17 b7, chk_n hi (by decide), chk_n hi (by decide), show Int32.toNatClampNeg (nI i) = i from nI_clamp (by omega), b4]
    have hN : N2 207 17 = nI i := g17 b7
    refine Or.inl ⟨q, _, _, rfl, rfl, RD_N (RD_M b5 (by decide) (by decide)) (Or.inl (by omega)) (by omega), by rw [u2o _ _ (by omega)]; exact hN, by show upd2 M2 203 i (nI v) 203 i = upd2 N2 o i (nI v) o i; rw [u2s, u2s], FS.trans b6.fs (FS_up (by omega)) (Nat.le_refl _), GSf.trans b7.gs (GS_up' (by omega)) (Nat.le_refl _)⟩
  · rw [b1, b3]
    simp only [bnp_some, bnd_some]
    rw [b2]
    simp only [bnd_some]
    rw [if_pos (show (0 : Int32) = nI 0 from rfl), chk_n hi (by decide), show Int32.toNatClampNeg (nI i) = i from nI_clamp (by omega)]
    exact Or.inr ⟨_, _, rfl, rfl, FLT_M b4 (by decide), FS.trans b5.fs (FS_up (by omega)) (Nat.le_refl _), b6.gs⟩
/-- a PLAN follows, and then what the rest tells -/
theorem St_C {n L i w p : Nat} {M N : Mem} {X : Mem → Option (Int32 × Mem)} {K : Mem → Mem → Prop} (hi : i < 24) (hw : w < 13) (hf : ¬ (fol w &&& 2) = 0) (hX : ∀ q M N, RD 204 L q M N → N 207 17 = nI i → StO L i 203 215 M N (mX4_readStep_c100 n (nI i) (nI w) M) (X N) K) (h : RD 204 L p M N) (h17 : N 207 17 = nI i) :
    StO L i 202 214 M N (mX4_readStep_c70 n (nI i) (nI w) M) (bnd (mX11_readsPlan N) fun r10 M11 => (if r10 = 0 then (some ((0 : Int32), M11)) else (chk (M11 207 17) 24 (X (upd2 M11 214 (Int32.toNatClampNeg (M11 207 17)) (M11 207 8)))))) (fun M' N' => K M' N' ∧ M' 202 i = N' 214 i) := by
  have g17 : ∀ {N' : Mem}, GR N N' → N' 207 17 = nI i := fun g => (g 207 17 (Or.inr ⟨by decide, by decide, by decide, by decide, by decide, hHI 17 (by decide)⟩)).trans h17
  unfold mX4_readStep_c70
  rw [chk_n hw (by decide), nI_clamp (by omega), if_neg (show ¬ (folL.getD w 0 &&& (2 : Int32)) = 0 from hf)]
  rcases P_plan (by decide) h with ⟨v, M1, M2, N2, v2, b1, b2, b3, b4, b5, b6, b7⟩ | ⟨M1, M2, N2, b1, b2, b3, b4, b5, b6⟩
  · rw [b1, b3]
    simp only [bnp_some, bnd_some]
    rw [b2]
    simp only [bnd_some]
    rw [if_neg (show ¬ (1 : Int32) = 0 by decide), g17 b7, chk_n hi (by decide), chk_n hi (by decide), show Int32.toNatClampNeg (nI i) = i from nI_clamp (by omega), b4]
    have hR : RD 204 L (p + 2) (upd2 M2 202 i (nI v)) (upd2 N2 214 i (nI v)) := RD_N (RD_M b5 (by decide) (by decide)) (Or.inl (by decide)) (by decide)
    have h17' : upd2 N2 214 i (nI v) 207 17 = nI i := by rw [u2o _ _ (by decide)]; exact g17 b7
    rcases hX _ _ _ hR h17' with ⟨q, M', N', c1, c2, c3, c4, c5, c6, c7⟩ | ⟨M', N', c1, c2, c3, c4, c5⟩
    · refine Or.inl ⟨q, M', N', c1, c2, c3, c4, ⟨c5, ?_⟩, FS.trans (FS.trans b6.fs (FS_up (by omega)) (Nat.le_refl _)) c6 (by decide), GSf.trans (GSf.trans b7.gs (GS_up' (by omega)) (Nat.le_refl _)) c7 (by decide)⟩
      rw [c6 202 i (by omega), c7 214 i (by omega), u2s, u2s]
    · exact Or.inr ⟨M', N', c1, c2, c3, FS.trans (FS.trans b6.fs (FS_up (by omega)) (Nat.le_refl _)) c4 (by decide), GSf.trans (GSf.trans b7.gs (GS_up' (by omega)) (Nat.le_refl _)) c5 (by decide)⟩
  · rw [b1, b3]
    simp only [bnp_some, bnd_some]
    rw [b2]
    simp only [bnd_some, if_true]
    rw [chk_n hi (by decide), show Int32.toNatClampNeg (nI i) = i from nI_clamp (by omega)]
    obtain ⟨M', m1, m2, m3⟩ := c100_no (n := n) (M := upd2 M2 202 i 0) hi hw (by rw [u2o _ _ (by decide)]; exact FLT_ne b4)
    exact Or.inr ⟨M', N2, m1, rfl, FLT_eq b4 (by rw [m3, u2o _ _ (by decide)]) (by rw [m3, u2o _ _ (by decide)]), FS.trans (FS.trans b5.fs (FS_up (by omega)) (Nat.le_refl _)) m2 (by decide), b6.gs⟩
/-- no PLAN follows -/
theorem St_C0 {n L i w : Nat} {M N : Mem} {mm : Option (Int32 × Mem)} {K : Mem → Mem → Prop} (hi : i < 24) (hw : w < 13) (hf : (fol w &&& 2) = 0) (h : StO L i 203 215 M N (mX4_readStep_c100 n (nI i) (nI w) M) mm K) : StO L i 202 214 M N (mX4_readStep_c70 n (nI i) (nI w) M) mm K := by
  have e : mX4_readStep_c70 n (nI i) (nI w) M = mX4_readStep_c100 n (nI i) (nI w) M := by
    unfold mX4_readStep_c70
    rw [chk_n hw (by decide), nI_clamp (by omega), if_pos (show (folL.getD w 0 &&& (2 : Int32)) = 0 from hf)]
  rw [e]
  rcases h with ⟨q, M', N', c1, c2, c3, c4, c5, c6, c7⟩ | ⟨M', N', c1, c2, c3, c4, c5⟩
  · exact Or.inl ⟨q, M', N', c1, c2, c3, c4, c5, fun o k g => c6 o k (by omega), fun o k g => c7 o k (by omega)⟩
  · exact Or.inr ⟨M', N', c1, c2, c3, fun o k g => c4 o k (by omega), fun o k g => c5 o k (by omega)⟩
/-- an account follows, and then what the rest tells -/
theorem St_D {n L i w p : Nat} {M N : Mem} {Y : Mem → Option (Int32 × Mem)} {K : Mem → Mem → Prop} (hi : i < 24) (hw : w < 13) (hY : ∀ q M N, RD 204 L q M N → N 207 17 = nI i → StO L i 202 214 M N (mX4_readStep_c70 n (nI i) (nI w) M) (Y N) K) (h : RD 204 L p M N) (h17 : N 207 17 = nI i) :
    StO L i 201 213 M N (bnp (mX8_blank 204 M) fun M12 => (bnd (mX8_accountDigit 204 M12) fun r13 M14 => (chk (nI i) 24 (mX4_readStep_c70 n (nI i) (nI w) (upd2 M14 201 (Int32.toNatClampNeg (nI i)) r13))))) (bnd (mX11_readsAccount N) fun r7 M8 => (if r7 = 0 then (some ((0 : Int32), M8)) else (chk (M8 207 17) 24 (Y (upd2 M8 213 (Int32.toNatClampNeg (M8 207 17)) (M8 207 8)))))) (fun M' N' => K M' N' ∧ M' 201 i = N' 213 i) := by
  have g17 : ∀ {N' : Mem}, GR N N' → N' 207 17 = nI i := fun g => (g 207 17 (Or.inr ⟨by decide, by decide, by decide, by decide, by decide, hHI 17 (by decide)⟩)).trans h17
  rcases P_acct h with ⟨v, M1, M2, N2, b1, b2, b3, b4, b5, b6, b7⟩ | ⟨M1, M2, N2, b1, b2, b3, b4, b5, b6⟩
  · rw [b1, b3]
    simp only [bnp_some, bnd_some]
    rw [b2]
    simp only [bnd_some]
    rw [if_neg (show ¬ (1 : Int32) = 0 by decide), g17 b7, chk_n hi (by decide), chk_n hi (by decide), show Int32.toNatClampNeg (nI i) = i from nI_clamp (by omega), b4]
    have hR : RD 204 L (p + 2) (upd2 M2 201 i (nI v)) (upd2 N2 213 i (nI v)) := RD_N (RD_M b5 (by decide) (by decide)) (Or.inl (by decide)) (by decide)
    have h17' : upd2 N2 213 i (nI v) 207 17 = nI i := by rw [u2o _ _ (by decide)]; exact g17 b7
    rcases hY _ _ _ hR h17' with ⟨q, M', N', c1, c2, c3, c4, c5, c6, c7⟩ | ⟨M', N', c1, c2, c3, c4, c5⟩
    · refine Or.inl ⟨q, M', N', c1, c2, c3, c4, ⟨c5, ?_⟩, FS.trans (FS.trans b6.fs (FS_up (by omega)) (Nat.le_refl _)) c6 (by decide), GSf.trans (GSf.trans b7.gs (GS_up' (by omega)) (Nat.le_refl _)) c7 (by decide)⟩
      rw [c6 201 i (by omega), c7 213 i (by omega), u2s, u2s]
    · exact Or.inr ⟨M', N', c1, c2, c3, FS.trans (FS.trans b6.fs (FS_up (by omega)) (Nat.le_refl _)) c4 (by decide), GSf.trans (GSf.trans b7.gs (GS_up' (by omega)) (Nat.le_refl _)) c5 (by decide)⟩
  · rw [b1, b3]
    simp only [bnp_some, bnd_some]
    rw [b2]
    simp only [bnd_some, if_true]
    rw [chk_n hi (by decide), show Int32.toNatClampNeg (nI i) = i from nI_clamp (by omega)]
    obtain ⟨M', m1, m2, m3⟩ := c70_no (n := n) (M := upd2 M2 201 i 0) hi hw (by rw [u2o _ _ (by decide)]; exact FLT_ne b4)
    exact Or.inr ⟨M', N2, m1, rfl, FLT_eq b4 (by rw [m3, u2o _ _ (by decide)]) (by rw [m3, u2o _ _ (by decide)]), FS.trans (FS.trans b5.fs (FS_up (by omega)) (Nat.le_refl _)) m2 (by decide), b6.gs⟩
