/-! deeds, side by side -/
def SIM (b : Nat) (M N : Mem) (f : Nat → Int32) : Prop := 4 ≤ b ∧ CalC M ∧ CalM N ∧ RS b M f ∧ INV f
/-- what of the reference's memory a deed may change besides its row -/
def NE (N N' : Mem) : Prop := ∀ o k, o ≠ 217 → (o = 207 → k ≠ 21) → o ≠ 209 → N' o k = N o k
theorem NE.rfl' {N : Mem} : NE N N := fun _ _ _ _ _ => rfl
theorem NE.trans {N N1 N2 : Mem} (h1 : NE N N1) (h2 : NE N1 N2) : NE N N2 := fun o k a b c => (h2 o k a b c).trans (h1 o k a b c)
theorem CalM_NE {N N' : Mem} (h : CalM N) (hF : NE N N') : CalM N' := fun m hm => by rw [hF 208 m (by decide) (fun h => absurd h (by decide)) (by decide)]; exact h m hm
/-- of the row only what is up to the last ENTRY -/
def FX (f f' : Nat → Int32) : Prop := ∀ j, 4250 ≤ j → f' j = f j
theorem FX.rfl' {f : Nat → Int32} : FX f f := fun _ _ => rfl
theorem FX.trans {f f1 f2 : Nat → Int32} (h1 : FX f f1) (h2 : FX f1 f2) : FX f f2 := fun j h => (h2 j h).trans (h1 j h)
theorem FX_wr {f : Nat → Int32} {k x : Nat} {fr to c : Int32} (hs : sz f < 400) : FX f (wrF f k x fr to c) := fun j h => by
  unfold wrF
  simp (disch := omega) only [upd_n]
theorem FX_up {f : Nat → Int32} {j : Nat} {v : Int32} (h : j < 4250) : FX f (upd f j v) := fun i hi => upd_n _ _ (by omega)
theorem FX_us {f : Nat → Int32} {x : Nat} (hx : x < 6) (hs : sz f < 400) : FX f (usF f x) := (FX_wr hs).trans (FX_up (by omega))
theorem FX_op {f : Nat → Int32} {x : Nat} {q : Int32} (hx : x < 6) : FX f (opF f x q) := fun j h => op_lo (by omega) hx
def OPR (b : Nat) (M N : Mem) (f : Nat → Int32) (mc mm : Option (Int32 × Mem)) : Prop := ∃ r M' N' f', mc = some (r, M') ∧ mm = some (r, stF N' f') ∧ SIM b M' N' f' ∧ FD b M M' ∧ NE N N' ∧ FX f f'
theorem OPR_no {b : Nat} {M N : Mem} {f : Nat → Int32} (h : SIM b M N f) (r : Int32) : OPR b M N f (some (r, M)) (some (r, stF N f)) := ⟨r, M, N, f, rfl, rfl, h, FD.rfl', NE.rfl', FX.rfl'⟩
theorem run_c {b : Nat} {M N : Mem} {f : Nat → Int32} (h : SIM b M N f) (a : Int32) :
    (∃ x, x < 6 ∧ a = nI x ∧ IA1 f x ∧ aX f x = 0 ∧ (tD f : Int) < NT (aN f x) (aD f x) ∧ mX1_hasBegun b a M = some 1 ∧ mX1_isRunning b a M = some 1 ∧ mX11_isBegun a (stF N f) = some 1 ∧ mX11_isOn a (stF N f) = some 1) ∨
    (∃ x, x < 6 ∧ a = nI x ∧ IA1 f x ∧ aX f x = 1 ∧ mX1_hasBegun b a M = some 1 ∧ mX1_isRunning b a M = some 0 ∧ mX11_isBegun a (stF N f) = some 1 ∧ mX11_isOn a (stF N f) = some 0) ∨
    (mX1_hasBegun b a M = some 0 ∧ mX1_isRunning b a M = some 0 ∧ mX11_isBegun a (stF N f) = some 0 ∧ mX11_isOn a (stF N f) = some 0) := by
  obtain ⟨hb, hC, hM, hRS, ⟨hI0, hRun⟩⟩ := h
  have e10 : (nI 1 = 0) = False := eq_false (by decide)
  rcases isAccount_c a with ⟨x, -, hx5, rfl, g1, g2⟩ | ⟨g1, g2⟩
  · have hx : x < 6 := by omega
    obtain ⟨a0, a1, a2, a3, a4, a5, a6, a7, a8, a9, a10, a11, a12, a13⟩ := hRS.2.2.2.1 x hx
    have r1 : (1 : Int32) = nI 1 := rfl
    have hB : ∀ v, fA f x 0 = nI v → v ≤ 1 → mX1_hasBegun b (nI x) M = some (nI v) ∧ mX11_isBegun (nI x) (stF N f) = some (nI v) := by
      intro v hv hv1
      unfold mX1_hasBegun mX11_isBegun
      rw [g1, g2]
      simp (disch := omega) only [bnp_some, nI_lit, chk_n, nI_clamp, m_ofS, a1, hv]
      rcases (show v = 0 ∨ v = 1 by omega) with rfl | rfl
      · exact ⟨rfl, rfl⟩
      · exact ⟨rfl, rfl⟩
    rcases hI0.2.2.2.2.1 x hx with hz | hA
    · obtain ⟨h1, h2⟩ := hB 0 (hz 0 (by decide)) (by decide)
      refine Or.inr (Or.inr ⟨h1, ?_, h2, ?_⟩)
      · unfold mX1_isRunning; rw [h1]; rfl
      · unfold mX11_isOn; rw [h2]; rfl
    · obtain ⟨h1, h2⟩ := hB 1 hA.1 (by decide)
      have hX := hA.2.2.2.2.2.2.2.2.2.2.1
      have hX1 := hX.1; have hX2 := hX.2
      have hR : ∀ v, fA f x 8 = nI v → v ≤ 1 → mX1_isRunning b (nI x) M = some (nI (1 - v)) ∧ mX11_isOn (nI x) (stF N f) = some (nI (1 - v)) := by
        intro v hv hv1
        unfold mX1_isRunning mX11_isOn
        rw [h1, h2]
        simp (disch := omega) only [bnp_some, nI_lit, chk_n, nI_clamp, m_ofS, a2, hv]
        rcases (show v = 0 ∨ v = 1 by omega) with rfl | rfl
        · exact ⟨rfl, rfl⟩
        · exact ⟨rfl, rfl⟩
      obtain ⟨h3, h4⟩ := hR _ hX1 hX2
      rcases (show aX f x = 0 ∨ aX f x = 1 by omega) with z | z
      · rw [z] at h3 h4
        exact Or.inl ⟨x, hx, rfl, hA, z, hRun x hx hA.1 z, h1, h3, h2, h4⟩
      · rw [z] at h3 h4
        exact Or.inr (Or.inl ⟨x, hx, rfl, hA, z, h1, h3, h2, h4⟩)
  · refine Or.inr (Or.inr ?_)
    have h1 : mX1_hasBegun b a M = some 0 := by unfold mX1_hasBegun; rw [g1]; rfl
    have h2 : mX11_isBegun a (stF N f) = some 0 := by unfold mX11_isBegun; rw [g2]; rfl
    exact ⟨h1, by unfold mX1_isRunning; rw [h1]; rfl, h2, by unfold mX11_isOn; rw [h2]; rfl⟩
/-- a field put in bounds -/
def okV (w v : Nat) : Prop := (w = 1 ∧ v ≤ 5) ∨ (w = 6 ∧ v ≤ 9999) ∨ (w = 7 ∧ v ≤ 1) ∨ (w = 8 ∧ v ≤ 1) ∨ (w = 9 ∧ v ≤ 99999999) ∨ (w = 10 ∧ 1 ≤ v ∧ v ≤ 9)
theorem IA1_put {f : Nat → Int32} {x w v : Nat} (hx : x < 6) (h : IA1 f x) (hv : okV w v) : IA1 (upd f (170 + 12 * x + w) (nI v)) x := by
  have hw : w < 12 := by unfold okV at hv; omega
  obtain ⟨i0, i1, i2, i3, i4, i5, i6, i7, i8, i9, i10, i11, i12, i13, i14, i15⟩ := h
  have et : tD (upd f (170 + 12 * x + w) (nI v)) = tD f := by unfold tD; rw [upd_n _ _ (by omega)]
  have es : sz (upd f (170 + 12 * x + w) (nI v)) = sz f := by unfold sz; rw [upd_n _ _ (by omega)]
  have k : ∀ w', w' < 12 → w' ≠ w → fA (upd f (170 + 12 * x + w) (nI v)) x w' = fA f x w' := fun w' h1 h2 => fA_un hw h1 (Or.inr h2)
  have s : fA (upd f (170 + 12 * x + w) (nI v)) x w = nI v := fA_us
  unfold IA1
  rw [et, es]
  unfold aB aN aQ aD aU aZ aX aP aS
  rcases hv with ⟨rfl, hv⟩ | ⟨rfl, hv⟩ | ⟨rfl, hv⟩ | ⟨rfl, hv⟩ | ⟨rfl, hv⟩ | ⟨rfl, hv1, hv⟩
  · rw [s, k 0 (by decide) (by decide), k 2 (by decide) (by decide), k 3 (by decide) (by decide), k 4 (by decide) (by decide), k 5 (by decide) (by decide), k 6 (by decide) (by decide), k 7 (by decide) (by decide), k 8 (by decide) (by decide), k 9 (by decide) (by decide), k 10 (by decide) (by decide)]
    exact ⟨i0, isM_nI hv (by decide), i2, i3, i4, i5, i6, i7, i8, i9, i10, i11, i12, i13, i14, i15⟩
  · rw [s, k 0 (by decide) (by decide), k 1 (by decide) (by decide), k 2 (by decide) (by decide), k 3 (by decide) (by decide), k 4 (by decide) (by decide), k 5 (by decide) (by decide), k 7 (by decide) (by decide), k 8 (by decide) (by decide), k 9 (by decide) (by decide), k 10 (by decide) (by decide)]
    exact ⟨i0, i1, i2, i3, i4, i5, i6, i7, isM_nI hv (by decide), i9, i10, i11, i12, i13, i14, i15⟩
  · rw [s, k 0 (by decide) (by decide), k 1 (by decide) (by decide), k 2 (by decide) (by decide), k 3 (by decide) (by decide), k 4 (by decide) (by decide), k 5 (by decide) (by decide), k 6 (by decide) (by decide), k 8 (by decide) (by decide), k 9 (by decide) (by decide), k 10 (by decide) (by decide)]
    exact ⟨i0, i1, i2, i3, i4, i5, i6, i7, i8, isM_nI hv (by decide), i10, i11, i12, i13, i14, i15⟩
  · rw [s, k 0 (by decide) (by decide), k 1 (by decide) (by decide), k 2 (by decide) (by decide), k 3 (by decide) (by decide), k 4 (by decide) (by decide), k 5 (by decide) (by decide), k 6 (by decide) (by decide), k 7 (by decide) (by decide), k 9 (by decide) (by decide), k 10 (by decide) (by decide)]
    exact ⟨i0, i1, i2, i3, i4, i5, i6, i7, i8, i9, isM_nI hv (by decide), i11, i12, i13, i14, i15⟩
  · rw [s, k 0 (by decide) (by decide), k 1 (by decide) (by decide), k 2 (by decide) (by decide), k 3 (by decide) (by decide), k 4 (by decide) (by decide), k 5 (by decide) (by decide), k 6 (by decide) (by decide), k 7 (by decide) (by decide), k 8 (by decide) (by decide), k 10 (by decide) (by decide)]
    exact ⟨i0, i1, i2, i3, i4, i5, i6, i7, i8, i9, i10, isM_nI hv (by decide), i12, i13, i14, i15⟩
  · rw [s, k 0 (by decide) (by decide), k 1 (by decide) (by decide), k 2 (by decide) (by decide), k 3 (by decide) (by decide), k 4 (by decide) (by decide), k 5 (by decide) (by decide), k 6 (by decide) (by decide), k 7 (by decide) (by decide), k 8 (by decide) (by decide), k 9 (by decide) (by decide)]
    exact ⟨i0, i1, i2, i3, i4, i5, i6, i7, i8, i9, i10, i11, isM_nI hv (by decide), by rw [na_nI (by omega)]; exact hv1, i14, i15⟩
theorem INV0_put {f : Nat → Int32} {x w v : Nat} (hI : INV0 f) (hx : x < 6) (h : IA1 f x) (hv : okV w v) : INV0 (upd f (170 + 12 * x + w) (nI v)) := by
  have hw : w < 12 ∧ w ≠ 0 := by unfold okV at hv; omega
  exact INV0_acc hI hx (fun j hj => upd_n _ _ (by omega)) (fun h0 => by rw [fA_un hw.1 (by decide) (by omega)]; exact h0) (Or.inr (IA1_put hx h hv))
/-- RUN is of four numbers -/
theorem RUN_congr {f f' : Nat → Int32} {x : Nat} (h : RUN f x) (ht : tD f' = tD f) (h0 : fA f' x 0 = nI 1 → fA f x 0 = nI 1) (h2 : fA f' x 2 = fA f x 2) (h4 : fA f' x 4 = fA f x 4) (h8 : fA f' x 8 = nI 0 → fA f x 8 = nI 0) (hm : fA f' x 0 = nI 1 → isM (fA f' x 8) (aX f' x) 1) : RUN f' x := by
  intro a1 a2
  have hX := (hm a1).1
  rw [a2] at hX
  have h9 := h8 hX
  have := h (h0 a1) (by unfold aX; rw [h9]; rfl)
  rw [ht]
  unfold aN aD at *
  rw [h2, h4]
  exact this
theorem INV0_X {f : Nat → Int32} {x : Nat} (h : INV0 f) (hx : x < 6) (h0 : fA f x 0 = nI 1) : IA1 f x := by
  rcases h.2.2.2.2.1 x hx with q | q
  · have := q 0 (by decide)
    rw [h0] at this
    exact absurd this (by decide)
  · exact q
theorem RUN_same {f f' : Nat → Int32} {x : Nat} (hI : INV0 f') (hx : x < 6) (h : RUN f x) (ht : tD f' = tD f) (hA : ∀ w, w = 0 ∨ w = 2 ∨ w = 4 ∨ w = 8 → fA f' x w = fA f x w) : RUN f' x :=
  RUN_congr h ht (fun q => by rw [← hA 0 (Or.inl rfl)]; exact q) (hA 2 (by omega)) (hA 4 (by omega)) (fun q => by rw [← hA 8 (by omega)]; exact q) (fun q => (INV0_X hI hx q).2.2.2.2.2.2.2.2.2.2.1)
theorem wr_tD {f : Nat → Int32} {k x : Nat} {fr to c : Int32} : tD (wrF f k x fr to c) = tD f := by unfold tD; rw [wr_lo (by decide) (by decide)]
theorem upA_tD {f : Nat → Int32} {x w : Nat} {v : Int32} : tD (upd f (170 + 12 * x + w) v) = tD f := by unfold tD; rw [upd_n _ _ (by omega)]
theorem upA_sz {f : Nat → Int32} {x w : Nat} {v : Int32} : sz (upd f (170 + 12 * x + w) v) = sz f := by unfold sz; rw [upd_n _ _ (by omega)]
theorem room_c {b : Nat} {M : Mem} {f : Nat → Int32} {k : Nat} (hRS : RS b M f) (hI : INV0 f) (hk : k < 400) : mX5_haveRoom (b + 36) (nI k) M = some (if sz f + k ≤ 400 then 1 else 0) := by
  have h1 := hI.2.1.1; have h2 := hI.2.1.2
  unfold mX5_haveRoom
  rw [hRS.2.2.2.2.1, h1, nI_add]
  by_cases q : sz f + k ≤ 400
  · rw [if_neg (by rw [show (400 : Int32) = nI 400 from rfl, nI_ltI (by omega) (by omega)]; omega), if_pos q]
  · rw [if_pos (by rw [show (400 : Int32) = nI 400 from rfl, nI_ltI (by omega) (by omega)]; omega), if_neg q]
/-- credit, a field put, charge -/
theorem s_swap {b x w k v n : Nat} {M N : Mem} {f : Nat → Int32} (hS : SIM b M N f) (hx : x < 6) (hA : IA1 f x) (h0 : aX f x = 0) (hrun : (tD f : Int) < NT (aN f x) (aD f x)) (hs : sz f ≤ 398) (hn : 200 ≤ n)
    (hk : (w = 7 ∧ k = 3) ∨ (w = 1 ∧ k = 4) ∨ (w = 10 ∧ k = 6)) (hv : okV w v) :
    ∃ c1 c2 M1 M2 f', mX1_writeCredit n b (b + 35 + 12 + x) M = some (c1, M1) ∧ mX11_credits n (nI x) (stF N f) = some (c1, stF N (crF f x)) ∧ mX1_writeCharge n b (b + 35 + 12 + x) (upd2 M1 (b + 35 + 12 + x) k (nI v)) = some (c2, M2) ∧
      mX11_charges n (nI x) (stF N (upd (crF f x) (170 + 12 * x + w) (nI v))) = some (c2, stF N f') ∧ SIM b M2 N f' ∧ FD b M M2 ∧ FX f f' := by
  obtain ⟨hb, hC, hM, hRS, ⟨hI0, hRun⟩⟩ := hS
  have hw12 : w < 12 := by omega
  obtain ⟨M1, w1, w2, w3, w4⟩ := s_credit hRS hM hI0 hx hA (by omega) hrun hn
  have hI1 := INV0_cr hI0 hx hA (by omega) hrun
  have cA : ∀ y u, y < 6 → u < 12 → fA (crF f x) y u = fA f y u := fun y u hy hu => wr_A hy hu
  have ct : tD (crF f x) = tD f := wr_tD
  have cs : sz (crF f x) = sz f + 1 := wr_sz (by omega)
  have hA1 : IA1 (crF f x) x := IA1_congr hA (fun u hu => cA x u hx hu) (by rw [ct]; exact Nat.le_refl _) (by omega)
  have hI2 := INV0_put hI1 hx hA1 hv
  have hA2 := IA1_put hx hA1 hv
  have hR2 : RS b (upd2 M1 (b + 35 + 12 + x) k (nI v)) (upd (crF f x) (170 + 12 * x + w) (nI v)) := RS_put w3 hI1.2.2.2.1 hx (by omega)
  have pN : ∀ y u, y < 6 → u < 12 → u ≠ w → fA (upd (crF f x) (170 + 12 * x + w) (nI v)) y u = fA f y u := fun y u hy hu h => by rw [fA_un hw12 hu (Or.inr h)]; exact cA y u hy hu
  have hrun2 : (tD (upd (crF f x) (170 + 12 * x + w) (nI v)) : Int) < NT (aN (upd (crF f x) (170 + 12 * x + w) (nI v)) x) (aD (upd (crF f x) (170 + 12 * x + w) (nI v)) x) := by
    rw [upA_tD, ct]
    unfold aN aD at *
    rw [pN x 2 hx (by decide) (by omega), pN x 4 hx (by decide) (by omega)]
    exact hrun
  have hs2 : sz (upd (crF f x) (170 + 12 * x + w) (nI v)) < 400 := by rw [upA_sz, cs]; omega
  obtain ⟨M2, z1, z2, z3, z4⟩ := s_charge hR2 hM hI2 hx hA2 hs2 hrun2 hn
  have hI3 := INV0_ch hI2 hx hA2 hs2 hrun2
  have hFD : FD b M M2 := (w4.trans (FD_put hx)).trans z4
  refine ⟨_, _, M1, M2, _, w1, w2, z1, z2, ⟨hb, CalC_FD hb hC hFD, hM, z3, hI3, fun y hy => ?_⟩, hFD, ((FX_wr (by omega)).trans (FX_up (by omega))).trans (FX_wr hs2)⟩
  refine RUN_same hI3 hy (hRun y hy) (by unfold chF; rw [wr_tD, upA_tD, ct]) (fun u hu => ?_)
  unfold chF
  rw [wr_A hy (by omega), pN y u hy (by omega) (by omega)]
