/-! a STEP as a whole, on both sides -/
def STP (i : Nat) (M N : Mem) : Prop := ∃ t, t ∈ CW 2 ∧ M 200 i = nI t.1 ∧ lcb (N 212 (2 * i)) (N 212 (2 * i + 1)) = Int64.ofNat t.2 ∧ (t.1 ≠ 7 → t.1 ≠ 12 → M 201 i = N 213 i) ∧ ((t.1 = 0 ∨ t.1 = 1) → M 202 i = N 214 i) ∧
  ((t.1 = 0 ∨ t.1 = 2 ∨ t.1 = 6 ∨ t.1 = 8 ∨ t.1 = 9 ∨ t.1 = 11) → M 203 i = N 215 i) ∧ ((t.1 = 7 ∨ t.1 = 12) → M 203 i = N 213 i)
def KW (w i : Nat) (M N : Mem) : Prop := (w ≠ 7 → w ≠ 12 → M 201 i = N 213 i) ∧ ((w = 0 ∨ w = 1) → M 202 i = N 214 i) ∧ ((w = 0 ∨ w = 2 ∨ w = 6 ∨ w = 8 ∨ w = 9 ∨ w = 11) → M 203 i = N 215 i) ∧ ((w = 7 ∨ w = 12) → M 203 i = N 213 i)
def tailC (n i w : Nat) (M : Mem) : Option Mem := if (fol w &&& 1) = 0 then mX4_readStep_c70 n (nI i) (nI w) M else (bnp (mX8_blank 204 M) fun M12 => (bnd (mX8_accountDigit 204 M12) fun r13 M14 => (chk (nI i) 24 (mX4_readStep_c70 n (nI i) (nI w) (upd2 M14 201 (Int32.toNatClampNeg (nI i)) r13)))))
theorem StO.mono {L i lo lor lo' lor' : Nat} {M N : Mem} {mc : Option Mem} {mm : Option (Int32 × Mem)} {K K' : Mem → Mem → Prop} (h : StO L i lo lor M N mc mm K) (hl : lo' ≤ lo) (hr : lor' ≤ lor) (hK : ∀ M N, K M N → K' M N) : StO L i lo' lor' M N mc mm K' := by
  rcases h with ⟨q, M', N', c1, c2, c3, c4, c5, c6, c7⟩ | ⟨M', N', c1, c2, c3, c4, c5⟩
  · exact Or.inl ⟨q, M', N', c1, c2, c3, c4, hK _ _ c5, fun o k g => c6 o k (by omega), fun o k g => c7 o k (by omega)⟩
  · exact Or.inr ⟨M', N', c1, c2, c3, fun o k g => c4 o k (by omega), fun o k g => c5 o k (by omega)⟩
def rest2 (n : Nat) (W : Int64) (N : Mem) : Option (Int32 × Mem) := (if (lg_cmp W (2268462 : Int64)) = 0 then (bnd (mX11_readsPlan N) fun r10 M11 => (if r10 = 0 then (some ((0 : Int32), M11)) else (chk (M11 207 17) 24 (mX11_readsRest_c103 n W (upd2 M11 214 (Int32.toNatClampNeg (M11 207 17)) (M11 207 8)))))) else (if (lg_cmp W (109099237 : Int64)) = 0 then (bnd (mX11_readsPlan N) fun r13 M14 => (if r13 = 0 then (some ((0 : Int32), M14)) else (chk (M14 207 17) 24 (mX11_readsRest_c103 n W (upd2 M14 214 (Int32.toNatClampNeg (M14 207 17)) (M14 207 8)))))) else (mX11_readsRest_c103 n W N)))
theorem rest_acc {n : Nat} {W : Int64} {N : Mem} (h1 : ¬ lg_cmp W (132915 : Int64) = 0) (h2 : ¬ lg_cmp W (677454 : Int64) = 0) : mX11_readsRest n W N = (bnd (mX11_readsAccount N) fun r7 M8 => (if r7 = 0 then (some ((0 : Int32), M8)) else (chk (M8 207 17) 24 (rest2 n W (upd2 M8 213 (Int32.toNatClampNeg (M8 207 17)) (M8 207 8)))))) := by
  unfold mX11_readsRest
  rw [if_neg h1, if_neg h2]; rfl
theorem tail_acc {n i w : Nat} {M : Mem} (h : ¬ (fol w &&& 1) = 0) : tailC n i w M = (bnp (mX8_blank 204 M) fun M12 => (bnd (mX8_accountDigit 204 M12) fun r13 M14 => (chk (nI i) 24 (mX4_readStep_c70 n (nI i) (nI w) (upd2 M14 201 (Int32.toNatClampNeg (nI i)) r13))))) := if_neg h
theorem c103_num {n : Nat} {W : Int64} {N : Mem} (h1 : ¬ lg_cmp W (109099237 : Int64) = 0) (h2 : ¬ lg_cmp W (643568 : Int64) = 0) (h3 : ¬ lg_cmp W (494 : Int64) = 0) (h4 : ¬ lg_cmp W (578868 : Int64) = 0) (h5 : ¬ lg_cmp W (609658308 : Int64) = 0) : mX11_readsRest_c103 n W N = endN n 215 N := by
  unfold mX11_readsRest_c103
  rw [if_neg h1, if_neg h2, if_neg h3, if_neg h4, if_neg h5]; rfl
theorem c103_end {n : Nat} {W : Int64} {N : Mem} (h : W = 109099237 ∨ W = 643568 ∨ W = 494 ∨ W = 578868 ∨ W = 609658308) : mX11_readsRest_c103 n W N = some (1, N) := by
  unfold mX11_readsRest_c103
  rcases h with rfl | rfl | rfl | rfl | rfl
  · rw [if_pos (by decide)]
  · rw [if_neg (by decide), if_pos (by decide)]
  · rw [if_neg (by decide), if_neg (by decide), if_pos (by decide)]
  · rw [if_neg (by decide), if_neg (by decide), if_neg (by decide), if_pos (by decide)]
  · rw [if_neg (by decide), if_neg (by decide), if_neg (by decide), if_neg (by decide), if_pos (by decide)]
section
variable {n L i : Nat}
/-- account alone -/
theorem W_1 {w : Nat} {W : Int64} {p : Nat} {M N : Mem} (hi : i < 24) (hw : w = 3 ∧ W = 643568 ∨ w = 4 ∧ W = 494 ∨ w = 5 ∧ W = 578868 ∨ w = 10 ∧ W = 609658308) (h : RD 204 L p M N) (h17 : N 207 17 = nI i) : StO L i 201 213 M N (tailC n i w M) (mX11_readsRest n W N) (KW w i) := by
  have f1 : ¬ (fol w &&& 1) = 0 := by rcases hw with ⟨rfl, _⟩ | ⟨rfl, _⟩ | ⟨rfl, _⟩ | ⟨rfl, _⟩ <;> decide
  have f2 : (fol w &&& 2) = 0 := by rcases hw with ⟨rfl, _⟩ | ⟨rfl, _⟩ | ⟨rfl, _⟩ | ⟨rfl, _⟩ <;> decide
  have f4 : (fol w &&& 4) = 0 := by rcases hw with ⟨rfl, _⟩ | ⟨rfl, _⟩ | ⟨rfl, _⟩ | ⟨rfl, _⟩ <;> decide
  have hw13 : w < 13 := by omega
  have r1 : ¬ lg_cmp W (132915 : Int64) = 0 := by rcases hw with ⟨_, rfl⟩ | ⟨_, rfl⟩ | ⟨_, rfl⟩ | ⟨_, rfl⟩ <;> decide
  have r2 : ¬ lg_cmp W (677454 : Int64) = 0 := by rcases hw with ⟨_, rfl⟩ | ⟨_, rfl⟩ | ⟨_, rfl⟩ | ⟨_, rfl⟩ <;> decide
  have r3 : ¬ lg_cmp W (2268462 : Int64) = 0 := by rcases hw with ⟨_, rfl⟩ | ⟨_, rfl⟩ | ⟨_, rfl⟩ | ⟨_, rfl⟩ <;> decide
  have r4 : ¬ lg_cmp W (109099237 : Int64) = 0 := by rcases hw with ⟨_, rfl⟩ | ⟨_, rfl⟩ | ⟨_, rfl⟩ | ⟨_, rfl⟩ <;> decide
  rw [rest_acc r1 r2, tail_acc f1]
  refine (St_D (n := n) (Y := rest2 n W) (K := fun _ _ => True) hi hw13 (fun q M N h h17 => ?_) h h17).mono (Nat.le_refl _) (Nat.le_refl _) (fun M N g => ⟨fun _ _ => g.2, fun z => by omega, fun z => by omega, fun z => by omega⟩)
  unfold rest2
  have r5 : W = 109099237 ∨ W = 643568 ∨ W = 494 ∨ W = 578868 ∨ W = 609658308 := by
    rcases hw with ⟨_, z⟩ | ⟨_, z⟩ | ⟨_, z⟩ | ⟨_, z⟩
    · exact Or.inr (Or.inl z)
    · exact Or.inr (Or.inr (Or.inl z))
    · exact Or.inr (Or.inr (Or.inr (Or.inl z)))
    · exact Or.inr (Or.inr (Or.inr (Or.inr z)))
  rw [if_neg r3, if_neg r4, c103_end r5]
  exact St_C0 hi hw13 f2 (St_A hi hw13 f4 h h17)
/-- account and NUMBER -/
theorem W_5 {w : Nat} {W : Int64} {p : Nat} {M N : Mem} (hn : 20000 ≤ n) (hi : i < 24) (hw : w = 2 ∧ W = 20088467 ∨ w = 6 ∧ W = 22117 ∨ w = 8 ∧ W = 203112114 ∨ w = 9 ∧ W = 16441 ∨ w = 11 ∧ W = 442053) (h : RD 204 L p M N) (h17 : N 207 17 = nI i) : StO L i 201 213 M N (tailC n i w M) (mX11_readsRest n W N) (KW w i) := by
  have f1 : ¬ (fol w &&& 1) = 0 := by rcases hw with ⟨rfl, _⟩ | ⟨rfl, _⟩ | ⟨rfl, _⟩ | ⟨rfl, _⟩ | ⟨rfl, _⟩ <;> decide
  have f2 : (fol w &&& 2) = 0 := by rcases hw with ⟨rfl, _⟩ | ⟨rfl, _⟩ | ⟨rfl, _⟩ | ⟨rfl, _⟩ | ⟨rfl, _⟩ <;> decide
  have f4 : ¬ (fol w &&& 4) = 0 := by rcases hw with ⟨rfl, _⟩ | ⟨rfl, _⟩ | ⟨rfl, _⟩ | ⟨rfl, _⟩ | ⟨rfl, _⟩ <;> decide
  have hw13 : w < 13 := by omega
  have r1 : ¬ lg_cmp W (132915 : Int64) = 0 := by rcases hw with ⟨_, rfl⟩ | ⟨_, rfl⟩ | ⟨_, rfl⟩ | ⟨_, rfl⟩ | ⟨_, rfl⟩ <;> decide
  have r2 : ¬ lg_cmp W (677454 : Int64) = 0 := by rcases hw with ⟨_, rfl⟩ | ⟨_, rfl⟩ | ⟨_, rfl⟩ | ⟨_, rfl⟩ | ⟨_, rfl⟩ <;> decide
  have r3 : ¬ lg_cmp W (2268462 : Int64) = 0 := by rcases hw with ⟨_, rfl⟩ | ⟨_, rfl⟩ | ⟨_, rfl⟩ | ⟨_, rfl⟩ | ⟨_, rfl⟩ <;> decide
  have r4 : ¬ lg_cmp W (109099237 : Int64) = 0 := by rcases hw with ⟨_, rfl⟩ | ⟨_, rfl⟩ | ⟨_, rfl⟩ | ⟨_, rfl⟩ | ⟨_, rfl⟩ <;> decide
  have r5 : ¬ lg_cmp W (643568 : Int64) = 0 := by rcases hw with ⟨_, rfl⟩ | ⟨_, rfl⟩ | ⟨_, rfl⟩ | ⟨_, rfl⟩ | ⟨_, rfl⟩ <;> decide
  have r6 : ¬ lg_cmp W (494 : Int64) = 0 := by rcases hw with ⟨_, rfl⟩ | ⟨_, rfl⟩ | ⟨_, rfl⟩ | ⟨_, rfl⟩ | ⟨_, rfl⟩ <;> decide
  have r7 : ¬ lg_cmp W (578868 : Int64) = 0 := by rcases hw with ⟨_, rfl⟩ | ⟨_, rfl⟩ | ⟨_, rfl⟩ | ⟨_, rfl⟩ | ⟨_, rfl⟩ <;> decide
  have r8 : ¬ lg_cmp W (609658308 : Int64) = 0 := by rcases hw with ⟨_, rfl⟩ | ⟨_, rfl⟩ | ⟨_, rfl⟩ | ⟨_, rfl⟩ | ⟨_, rfl⟩ <;> decide
  rw [rest_acc r1 r2, tail_acc f1]
  refine (St_D (n := n) (Y := rest2 n W) (K := fun M' N' => M' 203 i = N' 215 i) hi hw13 (fun q M N h h17 => ?_) h h17).mono (Nat.le_refl _) (Nat.le_refl _) (fun M N g => ⟨fun _ _ => g.2, fun z => by omega, fun _ => g.1, fun z => by omega⟩)
  unfold rest2
  rw [if_neg r3, if_neg r4, c103_num r4 r5 r6 r7 r8]
  exact St_C0 hi hw13 f2 (St_B hi hw13 (Or.inr rfl) f4 hn h h17)
/-- account and PLAN -/
theorem W_3 {p : Nat} {M N : Mem} (hi : i < 24) (h : RD 204 L p M N) (h17 : N 207 17 = nI i) : StO L i 201 213 M N (tailC n i 1 M) (mX11_readsRest n (109099237 : Int64) N) (KW 1 i) := by
  rw [rest_acc (by decide) (by decide), tail_acc (by decide)]
  refine (St_D (n := n) (w := 1) (Y := rest2 n 109099237) (K := fun M' N' => True ∧ M' 202 i = N' 214 i) hi (by decide) (fun q M N h h17 => ?_) h h17).mono (Nat.le_refl _) (Nat.le_refl _) (fun M N g => ⟨fun _ _ => g.2, fun _ => g.1.2, fun z => by omega, fun z => by omega⟩)
  unfold rest2
  rw [if_neg (by decide), if_pos (by decide)]
  refine St_C (n := n) (w := 1) (X := mX11_readsRest_c103 n 109099237) (K := fun _ _ => True) hi (by decide) (by decide) (fun q M N h h17 => ?_) h h17
  rw [c103_end (by decide)]
  exact St_A hi (by decide) (by decide) h h17
/-- account, PLAN and NUMBER -/
theorem W_7 {p : Nat} {M N : Mem} (hn : 20000 ≤ n) (hi : i < 24) (h : RD 204 L p M N) (h17 : N 207 17 = nI i) : StO L i 201 213 M N (tailC n i 0 M) (mX11_readsRest n (2268462 : Int64) N) (KW 0 i) := by
  rw [rest_acc (by decide) (by decide), tail_acc (by decide)]
  refine (St_D (n := n) (w := 0) (Y := rest2 n 2268462) (K := fun M' N' => M' 203 i = N' 215 i ∧ M' 202 i = N' 214 i) hi (by decide) (fun q M N h h17 => ?_) h h17).mono (Nat.le_refl _) (Nat.le_refl _) (fun M N g => ⟨fun _ _ => g.2, fun _ => g.1.2, fun _ => g.1.1, fun z => by omega⟩)
  unfold rest2
  rw [if_pos (by decide)]
  refine St_C (n := n) (w := 0) (X := mX11_readsRest_c103 n 2268462) (K := fun M' N' => M' 203 i = N' 215 i) hi (by decide) (by decide) (fun q M N h h17 => ?_) h h17
  rw [c103_num (by decide) (by decide) (by decide) (by decide) (by decide)]
  exact St_B hi (by decide) (Or.inr rfl) (by decide) hn h h17
/-- NUMBER alone -/
theorem W_4 {w : Nat} {W : Int64} {p : Nat} {M N : Mem} (hn : 20000 ≤ n) (hi : i < 24) (hw : w = 7 ∧ W = 132915 ∨ w = 12 ∧ W = 677454) (h : RD 204 L p M N) (h17 : N 207 17 = nI i) : StO L i 201 213 M N (tailC n i w M) (mX11_readsRest n W N) (KW w i) := by
  have f1 : (fol w &&& 1) = 0 := by rcases hw with ⟨rfl, _⟩ | ⟨rfl, _⟩ <;> decide
  have f2 : (fol w &&& 2) = 0 := by rcases hw with ⟨rfl, _⟩ | ⟨rfl, _⟩ <;> decide
  have f4 : ¬ (fol w &&& 4) = 0 := by rcases hw with ⟨rfl, _⟩ | ⟨rfl, _⟩ <;> decide
  have hw13 : w < 13 := by omega
  have e1 : mX11_readsRest n W N = endN n 213 N := by
    unfold mX11_readsRest
    rcases hw with ⟨_, rfl⟩ | ⟨_, rfl⟩
    · rw [if_pos (by decide)]; rfl
    · rw [if_neg (by decide), if_pos (by decide)]; rfl
  have e2 : tailC n i w M = mX4_readStep_c70 n (nI i) (nI w) M := if_pos f1
  have e3 : mX4_readStep_c70 n (nI i) (nI w) M = mX4_readStep_c100 n (nI i) (nI w) M := by
    unfold mX4_readStep_c70
    rw [chk_n hw13 (by decide), nI_clamp (by omega), if_pos (show (folL.getD w 0 &&& (2 : Int32)) = 0 from f2)]
  rw [e1, e2, e3]
  exact (St_B hi hw13 (Or.inl rfl) f4 hn h h17).mono (by decide) (Nat.le_refl _) (fun M N g => ⟨fun a b => by omega, fun z => by omega, fun z => by omega, fun _ => g⟩)
end
theorem W_all {n L i w c p : Nat} {M N : Mem} (hn : 20000 ≤ n) (hi : i < 24) (hm : (w, c) ∈ CW 2) (h : RD 204 L p M N) (h17 : N 207 17 = nI i) : StO L i 201 213 M N (tailC n i w M) (mX11_readsRest n (Int64.ofNat c) N) (KW w i) ∧ mX11_isDeed (Int64.ofNat c) = some 1 ∧ w < 13 := by
  rw [CW_2] at hm
  simp only [List.mem_cons, List.not_mem_nil, or_false, Prod.mk.injEq] at hm
  rcases hm with ⟨rfl, rfl⟩ | ⟨rfl, rfl⟩ | ⟨rfl, rfl⟩ | ⟨rfl, rfl⟩ | ⟨rfl, rfl⟩ | ⟨rfl, rfl⟩ | ⟨rfl, rfl⟩ | ⟨rfl, rfl⟩ | ⟨rfl, rfl⟩ | ⟨rfl, rfl⟩ | ⟨rfl, rfl⟩ | ⟨rfl, rfl⟩ | ⟨rfl, rfl⟩
  · exact ⟨W_7 hn hi h h17, by decide, by decide⟩
  · exact ⟨W_3 hi h h17, by decide, by decide⟩
  · exact ⟨W_5 hn hi (Or.inl ⟨rfl, rfl⟩) h h17, by decide, by decide⟩
  · exact ⟨W_1 hi (Or.inl ⟨rfl, rfl⟩) h h17, by decide, by decide⟩
  · exact ⟨W_1 hi (Or.inr (Or.inl ⟨rfl, rfl⟩)) h h17, by decide, by decide⟩
  · exact ⟨W_1 hi (Or.inr (Or.inr (Or.inl ⟨rfl, rfl⟩))) h h17, by decide, by decide⟩
  · exact ⟨W_5 hn hi (Or.inr (Or.inl ⟨rfl, rfl⟩)) h h17, by decide, by decide⟩
  · exact ⟨W_4 hn hi (Or.inl ⟨rfl, rfl⟩) h h17, by decide, by decide⟩
  · exact ⟨W_5 hn hi (Or.inr (Or.inr (Or.inl ⟨rfl, rfl⟩))) h h17, by decide, by decide⟩
  · exact ⟨W_5 hn hi (Or.inr (Or.inr (Or.inr (Or.inl ⟨rfl, rfl⟩)))) h h17, by decide, by decide⟩
  · exact ⟨W_1 hi (Or.inr (Or.inr (Or.inr ⟨rfl, rfl⟩))) h h17, by decide, by decide⟩
  · exact ⟨W_5 hn hi (Or.inr (Or.inr (Or.inr (Or.inr ⟨rfl, rfl⟩)))) h h17, by decide, by decide⟩
  · exact ⟨W_4 hn hi (Or.inr ⟨rfl, rfl⟩) h h17, by decide, by decide⟩
theorem deed_no {W : Int64} (h : ∀ t ∈ CW 2, W ≠ Int64.ofNat t.2) : mX11_isDeed W = some 0 := by
  rw [CW_2] at h
  have k : ∀ (j : Nat) (t : Nat × Nat), ([(0, 2268462), (1, 109099237), (2, 20088467), (3, 643568), (4, 494), (5, 578868), (6, 22117), (7, 132915), (8, 203112114), (9, 16441), (10, 609658308), (11, 442053), (12, 677454)] : List (Nat × Nat))[j]? = some t → ∀ c : Int64, Int64.ofNat t.2 = c → ¬ lg_cmp W c = 0 := fun j t ht c hc z => h t (List.mem_of_getElem? ht) (((lg_cmp_eq _ _).mp z).trans hc.symm)
  unfold mX11_isDeed
  rw [if_neg (k 0 (0, 2268462) rfl 2268462 rfl), if_neg (k 1 (1, 109099237) rfl 109099237 rfl), if_neg (k 3 (3, 643568) rfl 643568 rfl), if_neg (k 4 (4, 494) rfl 494 rfl), if_neg (k 5 (5, 578868) rfl 578868 rfl), if_neg (k 6 (6, 22117) rfl 22117 rfl), if_neg (k 7 (7, 132915) rfl 132915 rfl), if_neg (k 8 (8, 203112114) rfl 203112114 rfl), if_neg (k 11 (11, 442053) rfl 442053 rfl), if_neg (k 12 (12, 677454) rfl 677454 rfl), if_neg (k 2 (2, 20088467) rfl 20088467 rfl), if_neg (k 9 (9, 16441) rfl 16441 rfl), if_neg (k 10 (10, 609658308) rfl 609658308 rfl)]
def GS2 (i : Nat) (N N' : Mem) : Prop := ∀ o k, ¬ ((o = 207 ∧ (k = 5 ∨ k = 7 ∨ k = 8 ∨ k = 9 ∨ k = 10 ∨ k = 10 + HI ∨ k = 17)) ∨ (213 ≤ o ∧ o ≤ 215 ∧ k = i) ∨ (o = 212 ∧ (k = 2 * i ∨ k = 2 * i + 1))) → N' o k = N o k
theorem R_step {n L i p : Nat} {M N : Mem} (hn : 20000 ≤ n) (hi : i < 24) (h : RD 204 L p M N) (h17 : N 207 17 = nI i) :
    (∃ q M' N', mX4_readStep n (nI i) M = some M' ∧ mX11_readsStep n N = some (1, N') ∧ RD 204 L q M' N' ∧ N' 207 17 = nI (i + 1) ∧ STP i M' N' ∧ FS i 200 M M' ∧ GS2 i N N') ∨
    (∃ M' N', mX4_readStep n (nI i) M = some M' ∧ mX11_readsStep n N = some (0, N') ∧ FLT 204 M' N' ∧ FS i 200 M M' ∧ GS2 i N N') := by
  obtain ⟨e, N1, e1, e2, w1, w2, w3, w4⟩ := R_word (n := n) (a := 2) (by decide) (by decide) hn h
  have g17 : N1 207 17 = nI i := (w3 207 17 (Or.inr ⟨by decide, by decide, by decide, by decide, by decide, hHI 17 (by decide)⟩)).trans h17
  unfold mX4_readStep mX11_readsStep
  rw [h17, if_neg (show ¬ nI i = (24 : Int32) by rw [show (24 : Int32) = nI 24 from rfl, nI_eq (by omega) (by omega)]; omega), w1]
  simp only [bnp_some]
  rcases w4 with ⟨t, t1, t2, t3, t4⟩ | ⟨t1, t2, t3⟩
  · obtain ⟨w, c⟩ := t
    obtain ⟨m1, m2, m3⟩ := W_all (n := n) (L := L) (i := i) (p := e) (M := upd2 (upd2 M 204 2 (nI e)) 200 i (nI w)) (N := upd2 (upd2 N1 212 (2 * i) (llo (Int64.ofNat c))) 212 (2 * i + 1) (lhi (Int64.ofNat c))) hn hi t1
      (RD_N (RD_N (RD_M t4 (by decide) (by decide)) (Or.inl (by decide)) (by decide)) (Or.inl (by decide)) (by decide)) (by rw [u2o _ _ (by decide), u2o _ _ (by decide)]; exact g17)
    have t2' : lcb (N1 207 10) (N1 207 (10 + HI)) = Int64.ofNat c := t2
    have t3' : mX8_word n 204 2 M = some (nI w, upd2 M 204 2 (nI e)) := t3
    have hl5 : lcb (upd2 (upd2 N1 212 (2 * i) (llo (Int64.ofNat c))) 212 (2 * i + 1) (lhi (Int64.ofNat c)) 207 10) (upd2 (upd2 N1 212 (2 * i) (llo (Int64.ofNat c))) 212 (2 * i + 1) (lhi (Int64.ofNat c)) 207 (10 + HI)) = Int64.ofNat c := by
      rw [u2o _ _ (by decide), u2o _ _ (by decide), u2o _ _ (by decide), u2o _ _ (by decide)]; exact t2'
    rw [t3', t2', m2, g17]
    simp only [bnp_some, bnd_some, lt_eq]
    rw [if_neg (show ¬ (1 : Int32) = 0 by decide), if_neg (nI_pos (by omega)), if_neg (show ¬ (13 : Int32) ≤ nI w by rw [show (13 : Int32) = nI 13 from rfl, nI_leI (by omega) (by omega)]; omega), if_neg (nI_pos (by omega)), if_pos (show nI i < (24 : Int32) by rw [show (24 : Int32) = nI 24 from rfl, nI_ltI (by omega) (by omega)]; exact hi), chk_n hi (by decide), chk_n (show w < 13 from m3) (by decide), chk_n hi (by decide), show Int32.toNatClampNeg (nI i) = i from nI_clamp (by omega), show Int32.toNatClampNeg (nI w) = w from nI_clamp (by omega), hl5]
    have ec : (if (folL.getD w 0 &&& (1 : Int32)) = 0 then mX4_readStep_c70 n (nI i) (nI w) (upd2 (upd2 M 204 2 (nI e)) 200 i (nI w)) else (bnp (mX8_blank 204 (upd2 (upd2 M 204 2 (nI e)) 200 i (nI w))) fun M12 => (bnd (mX8_accountDigit 204 M12) fun r13 M14 => (chk (nI i) 24 (mX4_readStep_c70 n (nI i) (nI w) (upd2 M14 201 i r13)))))) = tailC n i w (upd2 (upd2 M 204 2 (nI e)) 200 i (nI w)) := by
      unfold tailC
      rw [show Int32.toNatClampNeg (nI i) = i from nI_clamp (by omega)]; rfl
    rw [ec]
    have fs0 : FS i 200 M (upd2 (upd2 M 204 2 (nI e)) 200 i (nI w)) := fun o k g => by
      by_cases q : o = 200
      · subst q; rw [u2k _ _ (by omega), u2o _ _ (by decide)]
      · rw [u2o _ _ q]
        by_cases q2 : o = 204
        · subst q2; exact u2k _ _ (by omega)
        · exact u2o _ _ q2
    have gs0 : GS2 i N (upd2 (upd2 N1 212 (2 * i) (llo (Int64.ofNat c))) 212 (2 * i + 1) (lhi (Int64.ofNat c))) := fun o k g => by
      by_cases q : o = 212
      · subst q; rw [u2k _ _ (by omega), u2k _ _ (by omega)]; exact w3 _ _ (Or.inl (by decide))
      · rw [u2o _ _ q, u2o _ _ q]; exact w3 _ _ (by omega)
    rcases m1 with ⟨q, M', N', c1, c2, c3, c4, c5, c6, c7⟩ | ⟨M', N', c1, c2, c3, c4, c5⟩
    · rw [c1, c2]
      simp only [bnd_some]
      rw [if_neg (show ¬ (1 : Int32) = 0 by decide), c4, place_s]
      refine Or.inl ⟨q, M', _, rfl, rfl, RD_N c3 (Or.inr ⟨by decide, by decide⟩) (by decide), u2s _ _ _ _, ⟨(w, c), t1, ?_, ?_, ?_⟩, fun o k g => ?_, fun o k g => ?_⟩
      · rw [c6 200 i (by omega), u2s]
      · have d1 : N' 212 (2 * i) = llo (Int64.ofNat c) := by rw [c7 212 (2 * i) (by omega), u2k _ _ (by omega), u2s]
        have d2 : N' 212 (2 * i + 1) = lhi (Int64.ofNat c) := by rw [c7 212 (2 * i + 1) (by omega), u2s]
        rw [u2o _ _ (by decide), u2o _ _ (by decide), d1, d2, lcb_of]
      · obtain ⟨k1, k2, k3, k4⟩ := c5
        refine ⟨fun a b => ?_, fun a => ?_, fun a => ?_, fun a => ?_⟩
        · rw [u2o _ _ (by decide)]; exact k1 a b
        · rw [u2o _ _ (by decide)]; exact k2 a
        · rw [u2o _ _ (by decide)]; exact k3 a
        · rw [u2o _ _ (by decide)]; exact k4 a
      · rw [c6 o k (by omega)]; exact fs0 o k g
      · have : upd2 N' 207 17 (nI (i + 1)) o k = N' o k := by
          by_cases q : o = 207
          · subst q; exact u2k _ _ (by omega)
          · exact u2o _ _ q
        rw [this, c7 o k (by omega)]; exact gs0 o k g
    · rw [c1, c2]
      simp only [bnd_some, if_true]
      exact Or.inr ⟨M', N', rfl, rfl, c3, fun o k g => (c4 o k (by omega)).trans (fs0 o k g), fun o k g => (c5 o k (by omega)).trans (gs0 o k g)⟩
  · rw [t2, deed_no t1, w2]
    simp only [bnp_some, bnd_some, if_true]
    rw [if_pos (show (-1 : Int32) < 0 by decide)]
    unfold mX11_wrongAt
    simp only [bnd_some]
    refine Or.inr ⟨_, _, rfl, rfl, t3, fun o k g => ?_, fun o k g => ?_⟩
    · by_cases q : o = 204
      · subst q
        have hk : k = 1 := by omega
        subst hk
        rw [u2k _ _ (by decide), u2k _ _ (by decide)]
      · rw [u2o _ _ q, u2o _ _ q]
    · have : upd2 N1 207 7 ((-1000 : Int32) * 1 - nI p) o k = N1 o k := by
        by_cases q : o = 207
        · subst q; exact u2k _ _ (by omega)
        · exact u2o _ _ q
      rw [this]; exact w3 _ _ (by omega)
