/-! CLAUSES of a PLAN -/
theorem ckD {i : Nat} {y : Option (Int32 × Mem)} (hi : i < 164) : chk (nI i) 164 y = y := chk_n hi (by decide)
theorem RP_at {M : Mem} {g : Nat → Int32} {v : Nat} (h : RT 164 M g) (hv : v < 6) : RP (168 + 5 * v) v M g := by
  have := h.2.2.2.2.2 v hv
  rw [show 164 + 4 + 5 * v = 168 + 5 * v by omega] at this
  exact this
theorem B_tier {n L p v many : Nat} {M N N0 : Mem} (hn : 20000 ≤ n) (hv : v < 6) (hmx : many ≤ 3) (hX : pT (N 211) v = many) (h6 : N0 211 (20 + 24 * v + 2) = nI many) (h5 : N0 207 5 + 1 = nI p) (h : RD 198 L p M N) (hT : RT 164 M (N 211)) (hI : IT (N 211)) :
    ClO L M N (mX2_readTier n (168 + 5 * v) M) (bnd (numC n (1 : Int32) (9999 : Int32) N) fun r5 M6 => (if r5 = 0 then (some ((0 : Int32), M6)) else (if (N0 211 (Int32.toNatClampNeg ((nI (20 + 24 * v)) + (2 : Int32)))) ≤ 0 then (mX11_readsTier_c79 n (nI (20 + 24 * v)) (N0 211 (Int32.toNatClampNeg ((nI (20 + 24 * v)) + (2 : Int32)))) M6) else (chk ((((nI (20 + 24 * v)) + (6 : Int32)) + (N0 211 (Int32.toNatClampNeg ((nI (20 + 24 * v)) + (2 : Int32))))) - (1 : Int32)) 164 (if (M6 211 (Int32.toNatClampNeg ((((nI (20 + 24 * v)) + (6 : Int32)) + (N0 211 (Int32.toNatClampNeg ((nI (20 + 24 * v)) + (2 : Int32))))) - (1 : Int32)))) < (M6 207 8) then (mX11_readsTier_c79 n (nI (20 + 24 * v)) (N0 211 (Int32.toNatClampNeg ((nI (20 + 24 * v)) + (2 : Int32)))) M6) else (bnd (mX11_wrongAt (6 : Int32) ((N0 207 5) + (1 : Int32)) M6) fun r8 M9 => (some (r8, M9)))))))) := by
  have hRP := RP_at hT hv
  have hIP := hI.2.2.2.2.2 v hv
  have hcnt : M (168 + 5 * v) 2 = nI many := by rw [hRP.2.2.1, hIP.2.2.1.1, hX]
  rw [show (nI (20 + 24 * v)) + (2 : Int32) = nI (20 + 24 * v + 2) from nI_add .., show (nI (20 + 24 * v)) + (6 : Int32) = nI (20 + 24 * v + 6) from nI_add .., nI_clamp (show 20 + 24 * v + 2 < 2 ^ 31 by omega), h6, h5, show nI (20 + 24 * v + 6) + nI many = nI (20 + 24 * v + 6 + many) from nI_add .., nI_lit 9999, show (1 : Int32) = nI 1 from rfl]
  have := B_list (n := n) (p := p) (many := many) (oc := 168 + 5 * v) (kc := 2) (a1 := 168 + 5 * v + 1) (a2 := 168 + 5 * v + 2) (jc := 20 + 24 * v + 2) (j1 := 20 + 24 * v + 6) (j2 := 20 + 24 * v + 10) (lo1 := 1) (hi1 := 9999) (hi2 := 99) (isA := mX7_isAboveBounds (168 + 5 * v)) (add := mX7_addTier (168 + 5 * v)) (c79 := mX11_readsTier_c79 n (nI (20 + 24 * v)) (nI many)) (L := L) (M := M) (N := N) hn (by decide) (by decide) (by decide) hmx ⟨by omega, by omega, fun _ => by decide⟩ (by omega) (by omega) (by omega) (by omega) (by omega)
    (fun r M' g1 g2 => c_isB hmx r g1 g2) (fun g => by
      have := (hRP.2.2.2.2.2.2.2.1 (many - 1) (by omega)).1
      rw [this]; unfold fP; congr 1; omega) (fun r s M' g => c_addB hmx r s g) hcnt
    (fun M' b c g1 g2 g3 g4 g5 => add_tier hv g1 hI hX (by omega) g2 g3 g4 (fun z => by
      have a := g5 z
      have b1 := (hRP.2.2.2.2.2.2.2.1 (many - 1) (by omega)).1
      have b2 := (hIP.2.2.2.2.2.2.2.1 (many - 1) (by omega)).1
      rw [b1, b2.1, nI_ltI (by have := b2.2; omega) (by omega)] at a
      exact a))
    (fun M6 => by
      unfold mX11_readsTier_c79
      rw [show (nI (20 + 24 * v)) + (2 : Int32) = nI (20 + 24 * v + 2) from nI_add .., show (nI (20 + 24 * v)) + (6 : Int32) = nI (20 + 24 * v + 6) from nI_add .., show (nI (20 + 24 * v)) + (10 : Int32) = nI (20 + 24 * v + 10) from nI_add .., show nI (20 + 24 * v + 6) + nI many = nI (20 + 24 * v + 6 + many) from nI_add .., show nI (20 + 24 * v + 10) + nI many = nI (20 + 24 * v + 10 + many) from nI_add .., nI_clamp (show 20 + 24 * v + 6 + many < 2 ^ 31 by omega), nI_clamp (show 20 + 24 * v + 10 + many < 2 ^ 31 by omega), nI_clamp (show 20 + 24 * v + 2 < 2 ^ 31 by omega), show nI many + (1 : Int32) = nI (many + 1) from nI_add .., ckD (show 20 + 24 * v + 6 + many < 164 by omega), ckD (show 20 + 24 * v + 6 + many < 164 by omega)]
      simp only [lt_eq, ckD (show 20 + 24 * v + 10 + many < 164 by omega), ckD (show 20 + 24 * v + 2 < 164 by omega)]
      rfl) h hT hI
  unfold mX2_readTier
  rw [nI_lit 9999, show (1 : Int32) = nI 1 from rfl, show (0 : Int32) = nI 0 from rfl, show (99 : Int32) = nI 99 from rfl]
  simp only [bnp_id]
  exact this
theorem B_bulk {n L p v many : Nat} {M N N0 : Mem} (hn : 20000 ≤ n) (hv : v < 6) (hmx : many ≤ 2) (hX : pK (N 211) v = many) (h6 : N0 211 (20 + 24 * v + 14) = nI many) (h5 : N0 207 5 + 1 = nI p) (h : RD 198 L p M N) (hT : RT 164 M (N 211)) (hI : IT (N 211)) :
    ClO L M N (mX2_readBulk n (168 + 5 * v) M) (bnd (numC n (2 : Int32) (9 : Int32) N) fun r5 M6 => (if r5 = 0 then (some ((0 : Int32), M6)) else (if (N0 211 (Int32.toNatClampNeg ((nI (20 + 24 * v)) + (14 : Int32)))) ≤ 0 then (mX11_readsBulk_c79 n (nI (20 + 24 * v)) (N0 211 (Int32.toNatClampNeg ((nI (20 + 24 * v)) + (14 : Int32)))) M6) else (chk ((((nI (20 + 24 * v)) + (15 : Int32)) + (N0 211 (Int32.toNatClampNeg ((nI (20 + 24 * v)) + (14 : Int32))))) - (1 : Int32)) 164 (if (M6 211 (Int32.toNatClampNeg ((((nI (20 + 24 * v)) + (15 : Int32)) + (N0 211 (Int32.toNatClampNeg ((nI (20 + 24 * v)) + (14 : Int32))))) - (1 : Int32)))) < (M6 207 8) then (mX11_readsBulk_c79 n (nI (20 + 24 * v)) (N0 211 (Int32.toNatClampNeg ((nI (20 + 24 * v)) + (14 : Int32)))) M6) else (bnd (mX11_wrongAt (6 : Int32) ((N0 207 5) + (1 : Int32)) M6) fun r8 M9 => (some (r8, M9)))))))) := by
  have hRP := RP_at hT hv
  have hIP := hI.2.2.2.2.2 v hv
  have hcnt : M (168 + 5 * v) 8 = nI many := by rw [hRP.2.2.2.2.2.2.1, hIP.2.2.2.2.2.2.1.1, hX]
  rw [show (nI (20 + 24 * v)) + (14 : Int32) = nI (20 + 24 * v + 14) from nI_add .., show (nI (20 + 24 * v)) + (15 : Int32) = nI (20 + 24 * v + 15) from nI_add .., nI_clamp (show 20 + 24 * v + 14 < 2 ^ 31 by omega), h6, h5, show nI (20 + 24 * v + 15) + nI many = nI (20 + 24 * v + 15 + many) from nI_add .., show (2 : Int32) = nI 2 from rfl, show (9 : Int32) = nI 9 from rfl]
  have := B_list (n := n) (p := p) (many := many) (oc := 168 + 5 * v) (kc := 8) (a1 := 168 + 5 * v + 3) (a2 := 168 + 5 * v + 4) (jc := 20 + 24 * v + 14) (j1 := 20 + 24 * v + 15) (j2 := 20 + 24 * v + 18) (lo1 := 2) (hi1 := 9) (hi2 := 100) (isA := mX7_isAboveBulks (168 + 5 * v)) (add := mX7_addBulk (168 + 5 * v)) (c79 := mX11_readsBulk_c79 n (nI (20 + 24 * v)) (nI many)) (L := L) (M := M) (N := N) hn (by decide) (by decide) (by decide) (by omega) ⟨by omega, by omega, fun _ => by decide⟩ (by omega) (by omega) (by omega) (by omega) (by omega)
    (fun r M' g1 g2 => c_isU hmx r g1 g2) (fun g => by
      have := (hRP.2.2.2.2.2.2.2.2 (many - 1) (by omega)).1
      rw [this]; unfold fP; congr 1; omega) (fun r s M' g => c_addU hmx r s g) hcnt
    (fun M' b c g1 g2 g3 g4 g5 => add_bulk hv g1 hI hX (by omega) g3 g4)
    (fun M6 => by
      unfold mX11_readsBulk_c79
      rw [show (nI (20 + 24 * v)) + (14 : Int32) = nI (20 + 24 * v + 14) from nI_add .., show (nI (20 + 24 * v)) + (15 : Int32) = nI (20 + 24 * v + 15) from nI_add .., show (nI (20 + 24 * v)) + (18 : Int32) = nI (20 + 24 * v + 18) from nI_add .., show nI (20 + 24 * v + 15) + nI many = nI (20 + 24 * v + 15 + many) from nI_add .., show nI (20 + 24 * v + 18) + nI many = nI (20 + 24 * v + 18 + many) from nI_add .., nI_clamp (show 20 + 24 * v + 15 + many < 2 ^ 31 by omega), nI_clamp (show 20 + 24 * v + 18 + many < 2 ^ 31 by omega), nI_clamp (show 20 + 24 * v + 14 < 2 ^ 31 by omega), show nI many + (1 : Int32) = nI (many + 1) from nI_add .., ckD (show 20 + 24 * v + 15 + many < 164 by omega), ckD (show 20 + 24 * v + 15 + many < 164 by omega)]
      simp only [lt_eq, ckD (show 20 + 24 * v + 18 + many < 164 by omega), ckD (show 20 + 24 * v + 14 < 164 by omega)]
      rfl) h hT hI
  unfold mX2_readBulk
  rw [show (2 : Int32) = nI 2 from rfl, show (9 : Int32) = nI 9 from rfl, show (0 : Int32) = nI 0 from rfl, show (100 : Int32) = nI 100 from rfl]
  simp only [bnp_id]
  exact this
def chain60 (n : Nat) (v1 : Int32) (v3 : Nat) (M2 : Mem) : Option Mem := (if v1 = (0 : Int32) then (bnd (mX8_number n 198 (0 : Int32) (99999 : Int32) M2) fun r5 M6 => (some (upd2 M6 v3 0 r5))) else (if v1 = (1 : Int32) then (bnd (mX8_number n 198 (0 : Int32) (9999 : Int32) M2) fun r8 M9 => (some (upd2 M9 v3 1 r8))) else (if v1 = (2 : Int32) then (bnp (mX2_readTier n v3 M2) fun M12 => (some M12)) else (if v1 = (3 : Int32) then (bnd (mX8_number n 198 (0 : Int32) (99 : Int32) M2) fun r14 M15 => (some (upd2 M15 v3 5 r14))) else (if v1 = (4 : Int32) then (bnd (mX8_word n 198 1 M2) fun r17 M18 => (if r17 = (1 : Int32) then (some (upd2 M18 v3 6 (1 : Int32))) else (some (upd2 M18 v3 6 (0 : Int32))))) else (if v1 = (5 : Int32) then (bnd (mX8_number n 198 (0 : Int32) (100 : Int32) M2) fun r20 M21 => (some (upd2 M21 v3 7 r20))) else (bnp (mX2_readBulk n v3 M2) fun M24 => (some M24))))))))
theorem c60_ok {n : Nat} {v1 : Int32} {v3 : Nat} {M M1 : Mem} (h1 : mX8_blank 198 M = some M1) (h0 : M1 198 3 = 0) : mX2_readOfPlan_c60 n v1 v3 M = chain60 n v1 v3 M1 := by
  unfold mX2_readOfPlan_c60
  rw [h1, bnp_some, sound_ok h0, bnp_some, if_neg (show ¬ (1 : Int32) = 0 by decide)]; rfl
theorem c60_bad {n : Nat} {v1 : Int32} {v3 : Nat} {M M1 : Mem} (h1 : mX8_blank 198 M = some M1) (h0 : ¬ M1 198 3 = 0) : mX2_readOfPlan_c60 n v1 v3 M = some M1 := by
  unfold mX2_readOfPlan_c60
  rw [h1, bnp_some, sound_no h0, bnp_some, if_pos rfl]
theorem c60_no {n : Nat} {v1 : Int32} {v3 : Nat} {M : Mem} (h0 : ¬ M 198 3 = 0) : mX2_readOfPlan_c60 n v1 v3 M = some M := c60_bad (blank_no h0) h0
/-- MODE behind its blank -/
theorem B_mode {n L p v : Nat} {M N : Mem} (hn : 20000 ≤ n) (hv : v < 6) (h : RD 198 L p M N) (hT : RT 164 M (N 211)) (hI : IT (N 211)) :
    ClO L M N (bnd (mX8_word n 198 1 M) fun r17 M18 => (if r17 = (1 : Int32) then (some (upd2 M18 (168 + 5 * v) 6 (1 : Int32))) else (some (upd2 M18 (168 + 5 * v) 6 (0 : Int32)))))
      (bnp (mX11_readsWord n N) fun M5 => (if (lg_cmp (lcb (M5 207 10) (M5 207 (10 + HI))) (37889479 : Int64)) = 0 then (mX11_readsMode_c47 n (nI (20 + 24 * v)) M5) else (if (lg_cmp (lcb (M5 207 10) (M5 207 (10 + HI))) (24395141 : Int64)) = 0 then (mX11_readsMode_c47 n (nI (20 + 24 * v)) M5) else (bnd (mX11_wrongAt (1 : Int32) (M5 207 9) M5) fun r6 M7 => (some (r6, M7)))))) := by
  obtain ⟨e, N1, e1, e2, w1, w2, w3, w4⟩ := R_word (n := n) (a := 1) (by decide) (by decide) hn h
  rw [w1]
  simp only [bnp_some]
  have fin : ∀ b, b ≤ 1 → RD 198 L e (upd2 M 198 2 (nI e)) N1 → ClO L M N (some (upd2 (upd2 M 198 2 (nI e)) (168 + 5 * v) 6 (nI b))) (some (1, upd2 N1 211 (20 + 24 * v + 4) (nI b))) := fun b hb hR => by
    obtain ⟨t1, t2⟩ := DR_fr hT hI (FR_up (k := 2) (v := nI e) (by decide)) w3
    obtain ⟨p1, p2⟩ := putP hv (B := 1) (k := 6) (w := 4) (v := b) (by omega) t1 t2 hb
    exact Or.inl ⟨e, _, _, rfl, rfl, RD_N (RD_M hR (by omega) (by omega)) (Or.inl (by decide)) (by decide), by rw [row211]; exact p1, by rw [row211]; exact p2, (FR_up (k := 2) (by decide)).b.trans (FB_up (by omega) (by omega) (by omega)), w3.b.trans GB_up⟩
  rcases w4 with ⟨t, t1, t2, t3, t4⟩ | ⟨t1, t2, t3⟩
  · rw [CW_1] at t1
    simp only [List.mem_cons, List.not_mem_nil, or_false] at t1
    have hck : ∀ (y : Option (Int32 × Mem)), chk ((nI (20 + 24 * v)) + (4 : Int32)) 164 y = y := fun y => by
      rw [show (nI (20 + 24 * v)) + (4 : Int32) = nI (20 + 24 * v + 4) from nI_add ..]; exact chk_n (by omega) (by decide)
    have hcl : Int32.toNatClampNeg ((nI (20 + 24 * v)) + (4 : Int32)) = 20 + 24 * v + 4 := by
      rw [show (nI (20 + 24 * v)) + (4 : Int32) = nI (20 + 24 * v + 4) from nI_add ..]; exact nI_clamp (by omega)
    rcases t1 with rfl | rfl
    · have t2' : lcb (N1 207 10) (N1 207 (10 + HI)) = (37889479 : Int64) := t2
      have t3' : mX8_word n 198 1 M = some (0, upd2 M 198 2 (nI e)) := t3
      unfold mX11_readsMode_c47
      rw [t3', t2', if_pos (show lg_cmp (37889479 : Int64) (37889479 : Int64) = 0 by decide), if_neg (show ¬ lg_cmp (37889479 : Int64) (24395141 : Int64) = 0 by decide), hck, hcl]
      simp only [bnd_some]
      rw [if_neg (show ¬ (0 : Int32) = 1 by decide)]
      exact fin 0 (by decide) t4
    · have t2' : lcb (N1 207 10) (N1 207 (10 + HI)) = (24395141 : Int64) := t2
      have t3' : mX8_word n 198 1 M = some (1, upd2 M 198 2 (nI e)) := t3
      unfold mX11_readsMode_c47
      rw [t3', t2', if_neg (show ¬ lg_cmp (24395141 : Int64) (37889479 : Int64) = 0 by decide), if_pos (show lg_cmp (24395141 : Int64) (24395141 : Int64) = 0 by decide), if_pos (show lg_cmp (24395141 : Int64) (24395141 : Int64) = 0 by decide), hck, hcl]
      simp only [bnd_some]
      rw [if_pos trivial]
      exact fin 1 (by decide) t4
  · rw [CW_1] at t1
    have k : ∀ (j : Nat) (t : Nat × Nat), ([(0, 37889479), (1, 24395141)] : List (Nat × Nat))[j]? = some t → ∀ c : Int64, Int64.ofNat t.2 = c → ¬ lg_cmp (lcb (N1 207 10) (N1 207 (10 + HI))) c = 0 := fun j t ht c hc z => t1 t (List.mem_of_getElem? ht) (((lg_cmp_eq _ _).mp z).trans hc.symm)
    rw [t2, if_neg (k 0 (0, 37889479) rfl 37889479 rfl), if_neg (k 1 (1, 24395141) rfl 24395141 rfl), w2]
    unfold mX11_wrongAt
    simp only [bnd_some]
    rw [if_neg (show ¬ (-1 : Int32) = 1 by decide)]
    exact Or.inr ⟨_, _, rfl, rfl, FLT_M t3 (by omega), ((FR_up (k := 3) (by decide)).trans (FR_up (k := 4) (by decide))).b.trans (FB_up (by omega) (by omega) (by omega)), w3.b.trans (GR_up (by omega)).b⟩
/-- what the reference reads behind a PLAN's letter -/
def RWf (n w v : Nat) (N : Mem) : Option (Int32 × Mem) := match w with
  | 0 => KT (mX11_readsNumber n (nI 0) (nI 99999) N) (20 + 24 * v + 0)
  | 1 => KT (mX11_readsNumber n (nI 0) (nI 9999) N) (20 + 24 * v + 1)
  | 2 => mX11_readsTier n (nI (20 + 24 * v)) N
  | 3 => KT (mX11_readsNumber n (nI 0) (nI 99) N) (20 + 24 * v + 3)
  | 4 => mX11_readsMode n (nI (20 + 24 * v)) N
  | 5 => KT (mX11_readsNumber n (nI 0) (nI 100) N) (20 + 24 * v + 5)
  | _ => mX11_readsBulk n (nI (20 + 24 * v)) N
theorem KT_no {j : Nat} {N : Mem} : KT (some (0, N)) j = some (0, N) := rfl
/-- behind the letter, where no count is full -/
theorem B_c60 {n L p v w : Nat} {M N : Mem} (hn : 20000 ≤ n) (hv : v < 6) (hw : w < 7) (h2 : w = 2 → pT (N 211) v ≤ 3) (h6 : w = 6 → pK (N 211) v ≤ 2) (h : RD 198 L p M N) (hT : RT 164 M (N 211)) (hI : IT (N 211)) :
    ClO L M N (mX2_readOfPlan_c60 n (nI w) (168 + 5 * v) M) (RWf n w v N) := by
  rcases R_blank (by decide) h with ⟨M1, N1, b1, b2, b3, b4, b5⟩ | ⟨M1, N1, b1, b2, b3, b4, b5⟩
  · rw [c60_ok b1 b3.2.2.2.2.1]
    obtain ⟨t1, t2⟩ := DR_fr hT hI b4 b5
    have e211 : N1 211 = N 211 := funext fun k => b5 211 k (Or.inl (by decide))
    have h5 : N 207 5 + 1 = nI (p + 1) := by rw [h.2.2.2.2.2.2.2.1]; exact nI_add ..
    have hIP := hI.2.2.2.2.2 v hv
    refine ClO.pre ?_ b4.b b5.b
    unfold chain60
    rcases (show w = 0 ∨ w = 1 ∨ w = 2 ∨ w = 3 ∨ w = 4 ∨ w = 5 ∨ w = 6 by omega) with rfl | rfl | rfl | rfl | rfl | rfl | rfl
    · rw [if_pos (show nI 0 = (0 : Int32) by decide), nI_lit 99999]
      show ClO L M1 N1 _ (KT (mX11_readsNumber n (nI 0) (nI 99999) N) (20 + 24 * v + 0))
      rw [rn_ok b2]
      exact B_one hn (by omega) (by omega) (by omega) (by decide) (by omega) (fun M g x a b c => putP hv (k := 0) (w := 0) (B := 99999) (by omega) a b c) b3 t1 t2
    · rw [if_neg (show ¬ nI 1 = (0 : Int32) by decide), if_pos (show nI 1 = (1 : Int32) by decide), nI_lit 9999]
      show ClO L M1 N1 _ (KT (mX11_readsNumber n (nI 0) (nI 9999) N) (20 + 24 * v + 1))
      rw [rn_ok b2]
      exact B_one hn (by omega) (by omega) (by omega) (by decide) (by omega) (fun M g x a b c => putP hv (k := 1) (w := 1) (B := 9999) (by omega) a b c) b3 t1 t2
    · rw [if_neg (show ¬ nI 2 = (0 : Int32) by decide), if_neg (show ¬ nI 2 = (1 : Int32) by decide), if_pos (show nI 2 = (2 : Int32) by decide), bnp_id]
      have e2 : N 211 (20 + 24 * v + 2) = nI (pT (N 211) v) := hIP.2.2.1.1
      have hc := B_tier (n := n) (N0 := N) hn hv (h2 rfl) (by rw [e211]) e2 h5 b3 t1 t2
      have hm4 := h2 rfl
      show ClO L M1 N1 _ (mX11_readsTier n (nI (20 + 24 * v)) N)
      unfold mX11_readsTier
      rw [show chk (nI (20 + 24 * v) + (2 : Int32)) 164 = fun (y : Option (Int32 × Mem)) => y from funext fun y => by
        rw [show (nI (20 + 24 * v)) + (2 : Int32) = nI (20 + 24 * v + 2) from nI_add ..]; exact chk_n (by omega) (by decide)]
      rw [show N 211 (Int32.toNatClampNeg (nI (20 + 24 * v) + (2 : Int32))) = nI (pT (N 211) v) from by
        rw [show (nI (20 + 24 * v)) + (2 : Int32) = nI (20 + 24 * v + 2) from nI_add .., nI_clamp (by omega)]; exact e2] at hc ⊢
      rw [if_neg (show ¬ nI (pT (N 211) v) = (4 : Int32) by rw [show (4 : Int32) = nI 4 from rfl, nI_eq (by omega) (by omega)]; omega), show mX11_readsNumber n (1 : Int32) (9999 : Int32) N = _ from rn_ok b2]
      exact hc
    · rw [if_neg (show ¬ nI 3 = (0 : Int32) by decide), if_neg (show ¬ nI 3 = (1 : Int32) by decide), if_neg (show ¬ nI 3 = (2 : Int32) by decide), if_pos (show nI 3 = (3 : Int32) by decide), show (99 : Int32) = nI 99 from rfl]
      show ClO L M1 N1 _ (KT (mX11_readsNumber n (nI 0) (nI 99) N) (20 + 24 * v + 3))
      rw [rn_ok b2]
      exact B_one hn (by omega) (by omega) (by omega) (by decide) (by omega) (fun M g x a b c => putP hv (k := 5) (w := 3) (B := 99) (by omega) a b c) b3 t1 t2
    · rw [if_neg (show ¬ nI 4 = (0 : Int32) by decide), if_neg (show ¬ nI 4 = (1 : Int32) by decide), if_neg (show ¬ nI 4 = (2 : Int32) by decide), if_neg (show ¬ nI 4 = (3 : Int32) by decide), if_pos (show nI 4 = (4 : Int32) by decide)]
      show ClO L M1 N1 _ (mX11_readsMode n (nI (20 + 24 * v)) N)
      unfold mX11_readsMode
      rw [b2]
      simp only [bnd_some]
      rw [if_neg (show ¬ (1 : Int32) = 0 by decide)]
      exact B_mode hn hv b3 t1 t2
    · rw [if_neg (show ¬ nI 5 = (0 : Int32) by decide), if_neg (show ¬ nI 5 = (1 : Int32) by decide), if_neg (show ¬ nI 5 = (2 : Int32) by decide), if_neg (show ¬ nI 5 = (3 : Int32) by decide), if_neg (show ¬ nI 5 = (4 : Int32) by decide), if_pos (show nI 5 = (5 : Int32) by decide), show (100 : Int32) = nI 100 from rfl]
      show ClO L M1 N1 _ (KT (mX11_readsNumber n (nI 0) (nI 100) N) (20 + 24 * v + 5))
      rw [rn_ok b2]
      exact B_one hn (by omega) (by omega) (by omega) (by decide) (by omega) (fun M g x a b c => putP hv (k := 7) (w := 5) (B := 100) (by omega) a b c) b3 t1 t2
    · rw [if_neg (show ¬ nI 6 = (0 : Int32) by decide), if_neg (show ¬ nI 6 = (1 : Int32) by decide), if_neg (show ¬ nI 6 = (2 : Int32) by decide), if_neg (show ¬ nI 6 = (3 : Int32) by decide), if_neg (show ¬ nI 6 = (4 : Int32) by decide), if_neg (show ¬ nI 6 = (5 : Int32) by decide), bnp_id]
      have e2 : N 211 (20 + 24 * v + 14) = nI (pK (N 211) v) := hIP.2.2.2.2.2.2.1.1
      have hc := B_bulk (n := n) (N0 := N) hn hv (h6 rfl) (by rw [e211]) e2 h5 b3 t1 t2
      have hm4 := h6 rfl
      show ClO L M1 N1 _ (mX11_readsBulk n (nI (20 + 24 * v)) N)
      unfold mX11_readsBulk
      rw [show chk (nI (20 + 24 * v) + (14 : Int32)) 164 = fun (y : Option (Int32 × Mem)) => y from funext fun y => by
        rw [show (nI (20 + 24 * v)) + (14 : Int32) = nI (20 + 24 * v + 14) from nI_add ..]; exact chk_n (by omega) (by decide)]
      rw [show N 211 (Int32.toNatClampNeg (nI (20 + 24 * v) + (14 : Int32))) = nI (pK (N 211) v) from by
        rw [show (nI (20 + 24 * v)) + (14 : Int32) = nI (20 + 24 * v + 14) from nI_add .., nI_clamp (by omega)]; exact e2] at hc ⊢
      rw [if_neg (show ¬ nI (pK (N 211) v) = (3 : Int32) by rw [show (3 : Int32) = nI 3 from rfl, nI_eq (by omega) (by omega)]; omega), show mX11_readsNumber n (2 : Int32) (9 : Int32) N = _ from rn_ok b2]
      exact hc
  · rw [c60_bad b1 (FLT_ne b3)]
    have hRW : RWf n w v N = some (0, N1) := by
      have hIP := hI.2.2.2.2.2 v hv
      rcases (show w = 0 ∨ w = 1 ∨ w = 2 ∨ w = 3 ∨ w = 4 ∨ w = 5 ∨ w = 6 by omega) with rfl | rfl | rfl | rfl | rfl | rfl | rfl
      · show KT (mX11_readsNumber n (nI 0) (nI 99999) N) _ = _
        rw [rn_no b2]; rfl
      · show KT (mX11_readsNumber n (nI 0) (nI 9999) N) _ = _
        rw [rn_no b2]; rfl
      · have e2 : N 211 (20 + 24 * v + 2) = nI (pT (N 211) v) := hIP.2.2.1.1
        have hm4 := h2 rfl
        show mX11_readsTier n (nI (20 + 24 * v)) N = _
        unfold mX11_readsTier
        rw [show (nI (20 + 24 * v)) + (2 : Int32) = nI (20 + 24 * v + 2) from nI_add .., nI_clamp (show 20 + 24 * v + 2 < 2 ^ 31 by omega), ckD (by omega), e2, if_neg (show ¬ nI (pT (N 211) v) = (4 : Int32) by rw [show (4 : Int32) = nI 4 from rfl, nI_eq (by omega) (by omega)]; omega), show mX11_readsNumber n (1 : Int32) (9999 : Int32) N = _ from rn_no b2]
        rfl
      · show KT (mX11_readsNumber n (nI 0) (nI 99) N) _ = _
        rw [rn_no b2]; rfl
      · show mX11_readsMode n (nI (20 + 24 * v)) N = _
        unfold mX11_readsMode
        rw [b2]; rfl
      · show KT (mX11_readsNumber n (nI 0) (nI 100) N) _ = _
        rw [rn_no b2]; rfl
      · have e2 : N 211 (20 + 24 * v + 14) = nI (pK (N 211) v) := hIP.2.2.2.2.2.2.1.1
        have hm4 := h6 rfl
        show mX11_readsBulk n (nI (20 + 24 * v)) N = _
        unfold mX11_readsBulk
        rw [show (nI (20 + 24 * v)) + (14 : Int32) = nI (20 + 24 * v + 14) from nI_add .., nI_clamp (show 20 + 24 * v + 14 < 2 ^ 31 by omega), ckD (by omega), e2, if_neg (show ¬ nI (pK (N 211) v) = (3 : Int32) by rw [show (3 : Int32) = nI 3 from rfl, nI_eq (by omega) (by omega)]; omega), show mX11_readsNumber n (2 : Int32) (9 : Int32) N = _ from rn_no b2]
        rfl
    rw [hRW]
    exact Or.inr ⟨_, _, rfl, rfl, b3, b4.b, b5.b⟩
