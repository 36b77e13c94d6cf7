/-- what a CLAUSE asks behind its word -/
def RC (n : Nat) (W : Int64) (N3 : Mem) : Option (Int32 × Mem) := (if (lg_cmp W (398963 : Int64)) = 0 then (bnd (mX11_readsOfAll n W N3) fun r5 M6 => (some (r5, M6))) else (if (lg_cmp W (6309 : Int64)) = 0 then (bnd (mX11_readsOfAll n W N3) fun r8 M9 => (some (r8, M9))) else (if (lg_cmp W (20536 : Int64)) = 0 then (bnd (mX11_readsOfAll n W N3) fun r47 M48 => (some (r47, M48))) else (bnd (mX11_readsPlan N3) fun r11 M12 => (if r11 = 0 then (some ((0 : Int32), M12)) else (if (lg_cmp W (664754 : Int64)) = 0 then (bnd (mX11_readsTier n ((20 : Int32) + ((24 : Int32) * (M12 207 8))) M12) fun r44 M45 => (some (r44, M45))) else (if (lg_cmp W (87435 : Int64)) = 0 then (bnd (mX11_readsBulk n ((20 : Int32) + ((24 : Int32) * (M12 207 8))) M12) fun r41 M42 => (some (r41, M42))) else (if (lg_cmp W (441477 : Int64)) = 0 then (bnd (mX11_readsMode n ((20 : Int32) + ((24 : Int32) * (M12 207 8))) M12) fun r38 M39 => (some (r38, M39))) else (if (lg_cmp W (17376357 : Int64)) = 0 then (bnd (mX11_readsNumber n (0 : Int32) (99999 : Int32) M12) fun r32 M33 => (if r32 = 0 then (some ((0 : Int32), M33)) else (bnd (mX11_keepsNumber (((20 : Int32) + ((24 : Int32) * (M12 207 8))) + (0 : Int32)) M33) fun r35 M36 => (if r35 = 0 then (some ((0 : Int32), M36)) else (some ((1 : Int32), M36)))))) else (if (lg_cmp W (215205 : Int64)) = 0 then (bnd (mX11_readsNumber n (0 : Int32) (9999 : Int32) M12) fun r26 M27 => (if r26 = 0 then (some ((0 : Int32), M27)) else (bnd (mX11_keepsNumber (((20 : Int32) + ((24 : Int32) * (M12 207 8))) + (1 : Int32)) M27) fun r29 M30 => (if r29 = 0 then (some ((0 : Int32), M30)) else (some ((1 : Int32), M30)))))) else (if (lg_cmp W (595572 : Int64)) = 0 then (bnd (mX11_readsNumber n (0 : Int32) (99 : Int32) M12) fun r20 M21 => (if r20 = 0 then (some ((0 : Int32), M21)) else (bnd (mX11_keepsNumber (((20 : Int32) + ((24 : Int32) * (M12 207 8))) + (3 : Int32)) M21) fun r23 M24 => (if r23 = 0 then (some ((0 : Int32), M24)) else (some ((1 : Int32), M24)))))) else (bnd (mX11_readsNumber n (0 : Int32) (100 : Int32) M12) fun r14 M15 => (if r14 = 0 then (some ((0 : Int32), M15)) else (bnd (mX11_keepsNumber (((20 : Int32) + ((24 : Int32) * (M12 207 8))) + (5 : Int32)) M15) fun r17 M18 => (if r17 = 0 then (some ((0 : Int32), M18)) else (some ((1 : Int32), M18)))))))))))))))))
theorem rc_eq {n : Nat} {N N1 : Mem} {W : Int64} (h12 : ¬ N 207 12 = (20 : Int32)) (h1 : mX11_readsWord n N = some N1) (h2 : lcb (N1 207 10) (N1 207 (10 + HI)) = W) (h3 : mX11_isClauseWord W = some 1) : mX11_readsClause n N = RC n W (upd2 N1 207 12 ((N1 207 12) + (1 : Int32))) := by
  unfold mX11_readsClause
  rw [if_neg h12, h1]
  simp only [bnp_some]
  rw [h2, h3]
  simp only [bnp_some]
  rw [if_neg (show ¬ (1 : Int32) = 0 by decide)]
  rfl
theorem rc_no {n : Nat} {N N1 : Mem} (h12 : ¬ N 207 12 = (20 : Int32)) (h1 : mX11_readsWord n N = some N1) (h3 : mX11_isClauseWord (lcb (N1 207 10) (N1 207 (10 + HI))) = some 0) : mX11_readsClause n N = some (0, upd2 N1 207 7 (((-1000 : Int32) * 1) - (N1 207 9))) := by
  unfold mX11_readsClause
  rw [if_neg h12, h1]
  simp only [bnp_some]
  rw [h3]
  simp only [bnp_some]
  rw [if_pos trivial]
  rfl
theorem word_no10 {W : Int64} (h : ∀ t ∈ CW 0, W ≠ Int64.ofNat t.2) : mX11_isClauseWord W = some 0 := by
  rw [CW_0] at h
  have k : ∀ (j : Nat) (t : Nat × Nat), ([(0, 17376357), (1, 215205), (2, 664754), (3, 595572), (4, 441477), (5, 16832101), (6, 87435), (7, 398963), (8, 6309), (9, 20536)] : List (Nat × Nat))[j]? = some t → ∀ c : Int64, Int64.ofNat t.2 = c → ¬ lg_cmp W c = 0 := fun j t ht c hc z => h t (List.mem_of_getElem? ht) (((lg_cmp_eq _ _).mp z).trans hc.symm)
  unfold mX11_isClauseWord
  rw [if_neg (k 0 (0, 17376357) rfl 17376357 rfl), if_neg (k 1 (1, 215205) rfl 215205 rfl), if_neg (k 2 (2, 664754) rfl 664754 rfl), if_neg (k 3 (3, 595572) rfl 595572 rfl), if_neg (k 4 (4, 441477) rfl 441477 rfl), if_neg (k 5 (5, 16832101) rfl 16832101 rfl), if_neg (k 7 (7, 398963) rfl 398963 rfl), if_neg (k 8 (8, 6309) rfl 6309 rfl), if_neg (k 6 (6, 87435) rfl 87435 rfl), if_neg (k 9 (9, 20536) rfl 20536 rfl)]
theorem base_c {v : Nat} : (20 : Int32) + ((24 : Int32) * nI v) = nI (20 + 24 * v) := by
  rw [show (24 : Int32) = nI 24 from rfl, pk_mul, show (20 : Int32) = nI 20 from rfl, nI_add]
theorem bnd_id' {x : Option (Int32 × Mem)} : (bnd x fun r M => some (r, M)) = x := bnd_id
theorem rc_plan {n w c v : Nat} {N3 N2 : Mem} (hm : (w, c) ∈ CW 0) (hw : w < 7) (hr : mX11_readsPlan N3 = some (1, N2)) (h8 : N2 207 8 = nI v) : RC n (Int64.ofNat c) N3 = RWf n w v N2 := by
  rw [CW_0] at hm
  simp only [List.mem_cons, List.not_mem_nil, or_false, Prod.mk.injEq] at hm
  unfold RC
  rw [hr]
  simp only [bnd_some]
  rw [if_neg (show ¬ (1 : Int32) = 0 by decide), h8, base_c]
  rcases hm with ⟨rfl, rfl⟩ | ⟨rfl, rfl⟩ | ⟨rfl, rfl⟩ | ⟨rfl, rfl⟩ | ⟨rfl, rfl⟩ | ⟨rfl, rfl⟩ | ⟨rfl, rfl⟩ | ⟨rfl, rfl⟩ | ⟨rfl, rfl⟩ | ⟨rfl, rfl⟩
  · rw [if_neg (by decide), if_neg (by decide), if_neg (by decide), if_neg (by decide), if_neg (by decide), if_neg (by decide), if_pos (by decide), show (nI (20 + 24 * v)) + (0 : Int32) = nI (20 + 24 * v + 0) from nI_add .., show (99999 : Int32) = nI 99999 from nI_lit 99999]; rfl
  · rw [if_neg (by decide), if_neg (by decide), if_neg (by decide), if_neg (by decide), if_neg (by decide), if_neg (by decide), if_neg (by decide), if_pos (by decide)]
    rw [show (nI (20 + 24 * v)) + (1 : Int32) = nI (20 + 24 * v + 1) from nI_add .., show (9999 : Int32) = nI 9999 from nI_lit 9999]; rfl
  · rw [if_neg (by decide), if_neg (by decide), if_neg (by decide), if_pos (by decide), bnd_id]; rfl
  · rw [if_neg (by decide), if_neg (by decide), if_neg (by decide), if_neg (by decide), if_neg (by decide), if_neg (by decide), if_neg (by decide), if_neg (by decide), if_pos (by decide)]
    rw [show (nI (20 + 24 * v)) + (3 : Int32) = nI (20 + 24 * v + 3) from nI_add .., show (99 : Int32) = nI 99 from rfl]; rfl
  · rw [if_neg (by decide), if_neg (by decide), if_neg (by decide), if_neg (by decide), if_neg (by decide), if_pos (by decide), bnd_id]; rfl
  · rw [if_neg (by decide), if_neg (by decide), if_neg (by decide), if_neg (by decide), if_neg (by decide), if_neg (by decide), if_neg (by decide), if_neg (by decide), if_neg (by decide)]
    rw [show (nI (20 + 24 * v)) + (5 : Int32) = nI (20 + 24 * v + 5) from nI_add .., show (100 : Int32) = nI 100 from rfl]; rfl
  · rw [if_neg (by decide), if_neg (by decide), if_neg (by decide), if_neg (by decide), if_pos (by decide), bnd_id]; rfl
  · exact absurd hw (by decide)
  · exact absurd hw (by decide)
  · exact absurd hw (by decide)
theorem rc_planno {n w c : Nat} {N3 N2 : Mem} (hm : (w, c) ∈ CW 0) (hw : w < 7) (hr : mX11_readsPlan N3 = some (0, N2)) : RC n (Int64.ofNat c) N3 = some (0, N2) := by
  rw [CW_0] at hm
  simp only [List.mem_cons, List.not_mem_nil, or_false, Prod.mk.injEq] at hm
  unfold RC
  rw [hr]
  simp only [bnd_some]
  rw [if_pos trivial]
  rcases hm with ⟨rfl, rfl⟩ | ⟨rfl, rfl⟩ | ⟨rfl, rfl⟩ | ⟨rfl, rfl⟩ | ⟨rfl, rfl⟩ | ⟨rfl, rfl⟩ | ⟨rfl, rfl⟩ | ⟨rfl, rfl⟩ | ⟨rfl, rfl⟩ | ⟨rfl, rfl⟩
  · rw [if_neg (by decide), if_neg (by decide), if_neg (by decide)]
  · rw [if_neg (by decide), if_neg (by decide), if_neg (by decide)]
  · rw [if_neg (by decide), if_neg (by decide), if_neg (by decide)]
  · rw [if_neg (by decide), if_neg (by decide), if_neg (by decide)]
  · rw [if_neg (by decide), if_neg (by decide), if_neg (by decide)]
  · rw [if_neg (by decide), if_neg (by decide), if_neg (by decide)]
  · rw [if_neg (by decide), if_neg (by decide), if_neg (by decide)]
  · exact absurd hw (by decide)
  · exact absurd hw (by decide)
  · exact absurd hw (by decide)
theorem rc_less {n : Nat} {N3 : Mem} : RC n (398963 : Int64) N3 = mX11_readsLess n N3 := by
  unfold RC mX11_readsOfAll
  rw [if_pos (show lg_cmp (398963 : Int64) (398963 : Int64) = 0 by decide), if_pos (show lg_cmp (398963 : Int64) (398963 : Int64) = 0 by decide), bnd_id, bnd_id]
theorem rc_fee {n : Nat} {N3 : Mem} : RC n (6309 : Int64) N3 = KT (mX11_readsNumber n (nI 0) (nI 20) N3) 5 := by
  unfold RC mX11_readsOfAll
  rw [if_neg (show ¬ lg_cmp (6309 : Int64) (398963 : Int64) = 0 by decide), if_pos (show lg_cmp (6309 : Int64) (6309 : Int64) = 0 by decide), if_neg (show ¬ lg_cmp (6309 : Int64) (398963 : Int64) = 0 by decide), if_neg (show ¬ lg_cmp (6309 : Int64) (20536 : Int64) = 0 by decide), bnd_id]; rfl
theorem rc_tax {n : Nat} {N3 : Mem} : RC n (20536 : Int64) N3 = mX11_readsTax n N3 := by
  unfold RC mX11_readsOfAll
  rw [if_neg (show ¬ lg_cmp (20536 : Int64) (398963 : Int64) = 0 by decide), if_neg (show ¬ lg_cmp (20536 : Int64) (6309 : Int64) = 0 by decide), if_pos (show lg_cmp (20536 : Int64) (20536 : Int64) = 0 by decide), if_neg (show ¬ lg_cmp (20536 : Int64) (398963 : Int64) = 0 by decide), if_pos (show lg_cmp (20536 : Int64) (20536 : Int64) = 0 by decide), bnd_id, bnd_id]
