/-! the draft of THE BOOK, on both sides -/
theorem IT_plan {g g' : Nat → Int32} {p : Nat} (h : IT g) (hp : p < 6) (hf : ∀ j, (j < 20 + 24 * p ∨ 44 + 24 * p ≤ j) → g' j = g j) (hP : IP g' p) : IT g' := by
  obtain ⟨i0, i1, i2, i3, i4, i5⟩ := h
  have eX : nX g' = nX g := by unfold nX; rw [hf 6 (by omega)]
  unfold IT
  rw [eX, hf 2 (by omega), hf 3 (by omega), hf 5 (by omega), hf 6 (by omega)]
  refine ⟨i0, i1, i2, i3, fun i hi => ?_, fun q hq => ?_⟩
  · rw [hf _ (by omega), hf _ (by omega)]; exact i4 i hi
  · by_cases z : q = p
    · subst z; exact hP
    · exact IP_congr (i5 q hq) (fun w hw => hf _ (by omega))
theorem RT_plan {M M' : Mem} {g g' : Nat → Int32} {p : Nat} (h : RT 164 M g) (hI : IT g) (hp : p < 6) (hM : ∀ o k, 164 ≤ o → o < 198 → ¬ (168 + 5 * p ≤ o ∧ o ≤ 172 + 5 * p) → M' o k = M o k) (hf : ∀ j, (j < 20 + 24 * p ∨ 44 + 24 * p ≤ j) → g' j = g j) (hP : RP (168 + 5 * p) p M' g') : RT 164 M' g' := by
  obtain ⟨r0, r1, r2, r3, r4, r5⟩ := h
  have hX := hI.2.2.2.1.2
  have eX : nX g' = nX g := by unfold nX; rw [hf 6 (by omega)]
  unfold RT
  rw [eX]
  refine ⟨?_, ?_, ?_, ?_, fun i hi => ?_, fun q hq => ?_⟩
  · rw [hM _ _ (by omega) (by omega) (by omega), hf _ (by omega)]; exact r0
  · rw [hM _ _ (by omega) (by omega) (by omega), hf _ (by omega)]; exact r1
  · rw [hM _ _ (by omega) (by omega) (by omega), hf _ (by omega)]; exact r2
  · rw [hM _ _ (by omega) (by omega) (by omega), hf _ (by omega)]; exact r3
  · obtain ⟨g1, g2⟩ := r4 i hi
    rw [hM _ _ (by omega) (by omega) (by omega), hM _ _ (by omega) (by omega) (by omega), hf _ (by omega), hf _ (by omega)]; exact ⟨g1, g2⟩
  · by_cases z : q = p
    · subst z; exact hP
    · have j := hI.2.2.2.2.2 q hq
      exact RP_congr (r5 q hq) j.2.2.1.2 j.2.2.2.2.2.2.1.2 (fun o k h1 h2 => hM o k (by omega) (by omega) (by omega)) (fun w hw => hf _ (by omega))
/-- a number of THE BOOK itself -/
theorem putT {M : Mem} {g : Nat → Int32} {k j B v : Nat} (hk : (k = 1 ∧ j = 2 ∧ B = 100) ∨ (k = 2 ∧ j = 3 ∧ B = 99) ∨ (k = 3 ∧ j = 5 ∧ B = 20)) (h : RT 164 M g) (hI : IT g) (hv : v ≤ B) : RT 164 (upd2 M 164 k (nI v)) (upd g j (nI v)) ∧ IT (upd g j (nI v)) := by
  obtain ⟨r0, r1, r2, r3, r4, r5⟩ := h
  obtain ⟨i0, i1, i2, i3, i4, i5⟩ := hI
  have hX := i3.2
  have e : ∀ j', j' ≠ j → upd g j (nI v) j' = g j' := fun j' h => upd_n _ _ h
  have eX : nX (upd g j (nI v)) = nX g := by unfold nX; rw [e 6 (by omega)]
  have hP : ∀ p, p < 6 → ∀ w, w < 24 → fP (upd g j (nI v)) p w = fP g p w := fun p hp w hw => e _ (by omega)
  have eM : ∀ o k', o ≠ 164 ∨ k' ≠ k → upd2 M 164 k (nI v) o k' = M o k' := fun o k' h => by
    by_cases z : o = 164
    · subst z; exact u2k _ _ (by omega)
    · exact u2o _ _ z
  unfold RT IT
  rw [eX]
  refine ⟨⟨?_, ?_, ?_, ?_, fun i hi => ?_, fun p hp => ?_⟩, ?_, ?_, ?_, ?_, fun i hi => ?_, fun p hp => IP_congr (i5 p hp) (hP p hp)⟩
  · rcases hk with ⟨rfl, rfl, rfl⟩ | ⟨rfl, rfl, rfl⟩ | ⟨rfl, rfl, rfl⟩
    · rw [u2s, upd_s]
    · rw [eM _ _ (by decide), e _ (by decide)]; exact r0
    · rw [eM _ _ (by decide), e _ (by decide)]; exact r0
  · rcases hk with ⟨rfl, rfl, rfl⟩ | ⟨rfl, rfl, rfl⟩ | ⟨rfl, rfl, rfl⟩
    · rw [eM _ _ (by decide), e _ (by decide)]; exact r1
    · rw [u2s, upd_s]
    · rw [eM _ _ (by decide), e _ (by decide)]; exact r1
  · rcases hk with ⟨rfl, rfl, rfl⟩ | ⟨rfl, rfl, rfl⟩ | ⟨rfl, rfl, rfl⟩
    · rw [eM _ _ (by decide), e _ (by decide)]; exact r2
    · rw [eM _ _ (by decide), e _ (by decide)]; exact r2
    · rw [u2s, upd_s]
  · rw [eM _ _ (by omega), e _ (by omega)]; exact r3
  · rw [eM _ _ (by omega), eM _ _ (by omega), e _ (by omega), e _ (by omega)]; exact r4 i hi
  · have q := i5 p hp
    exact RP_congr (r5 p hp) q.2.2.1.2 q.2.2.2.2.2.2.1.2 (fun o k' h1 h2 => eM _ _ (by omega)) (hP p hp)
  · rcases hk with ⟨rfl, rfl, rfl⟩ | ⟨rfl, rfl, rfl⟩ | ⟨rfl, rfl, rfl⟩
    · rw [upd_s]; exact isN_of hv (by decide)
    · rw [e _ (by decide)]; exact i0
    · rw [e _ (by decide)]; exact i0
  · rcases hk with ⟨rfl, rfl, rfl⟩ | ⟨rfl, rfl, rfl⟩ | ⟨rfl, rfl, rfl⟩
    · rw [e _ (by decide)]; exact i1
    · rw [upd_s]; exact isN_of hv (by decide)
    · rw [e _ (by decide)]; exact i1
  · rcases hk with ⟨rfl, rfl, rfl⟩ | ⟨rfl, rfl, rfl⟩ | ⟨rfl, rfl, rfl⟩
    · rw [e _ (by decide)]; exact i2
    · rw [e _ (by decide)]; exact i2
    · rw [upd_s]; exact isN_of hv (by decide)
  · rw [e _ (by omega)]; exact i3
  · rw [e _ (by omega), e _ (by omega)]; exact i4 i hi
theorem fP_us {g : Nat → Int32} {p w : Nat} {v : Int32} : fP (upd g (20 + 24 * p + w) v) p w = v := upd_s _ _ _
theorem fP_un {g : Nat → Int32} {p w w' : Nat} {v : Int32} (h : w' ≠ w) : fP (upd g (20 + 24 * p + w) v) p w' = fP g p w' := upd_n _ _ (by omega)
/-- a number of a PLAN -/
theorem putP {M : Mem} {g : Nat → Int32} {p k w B v : Nat} (hp : p < 6) (hk : (k = 0 ∧ w = 0 ∧ B = 99999) ∨ (k = 1 ∧ w = 1 ∧ B = 9999) ∨ (k = 5 ∧ w = 3 ∧ B = 99) ∨ (k = 6 ∧ w = 4 ∧ B = 1) ∨ (k = 7 ∧ w = 5 ∧ B = 100)) (h : RT 164 M g) (hI : IT g) (hv : v ≤ B) : RT 164 (upd2 M (168 + 5 * p) k (nI v)) (upd g (20 + 24 * p + w) (nI v)) ∧ IT (upd g (20 + 24 * p + w) (nI v)) := by
  have hf : ∀ j, (j < 20 + 24 * p ∨ 44 + 24 * p ≤ j) → upd g (20 + 24 * p + w) (nI v) j = g j := fun j hj => upd_n _ _ (by omega)
  obtain ⟨i0, i1, i2, i3, i4, i5, i6, i7, i8, i9, i10⟩ := hI.2.2.2.2.2 p hp
  have hT2 := i2.2; have hK2 := i6.2
  have e2 : pT (upd g (20 + 24 * p + w) (nI v)) p = pT g p := by unfold pT; rw [fP_un (by omega)]
  have e14 : pK (upd g (20 + 24 * p + w) (nI v)) p = pK g p := by unfold pK; rw [fP_un (by omega)]
  have eB : ∀ i, pB (upd g (20 + 24 * p + w) (nI v)) p i = pB g p i := fun i => by unfold pB; rw [fP_un (by omega)]
  have eC : ∀ i, pC (upd g (20 + 24 * p + w) (nI v)) p i = pC g p i := fun i => by unfold pC; rw [fP_un (by omega)]
  have eS : ∀ i, pS (upd g (20 + 24 * p + w) (nI v)) p i = pS g p i := fun i => by unfold pS; rw [fP_un (by omega)]
  have eO : ∀ i, pO (upd g (20 + 24 * p + w) (nI v)) p i = pO g p i := fun i => by unfold pO; rw [fP_un (by omega)]
  have hIP : IP (upd g (20 + 24 * p + w) (nI v)) p := by
    unfold IP
    rw [e2, e14, fP_un (w' := 2) (by omega), fP_un (w' := 14) (by omega)]
    simp only [eB, eC, eS, eO]
    refine ⟨?_, ?_, i2, ?_, ?_, ?_, i6, fun i hi => by rw [fP_un (by omega), fP_un (by omega)]; exact i7 i hi, fun i hi => by rw [fP_un (by omega), fP_un (by omega)]; exact i8 i hi, i9, i10⟩
    · unfold pP
      by_cases z : w = 0
      · subst z; rw [fP_us]; exact isM_nI (by omega) (by decide)
      · rw [fP_un (by omega)]; exact i0
    · unfold pF
      by_cases z : w = 1
      · subst z; rw [fP_us]; exact isM_nI (by omega) (by decide)
      · rw [fP_un (by omega)]; exact i1
    · unfold pR
      by_cases z : w = 3
      · subst z; rw [fP_us]; exact isM_nI (by omega) (by decide)
      · rw [fP_un (by omega)]; exact i3
    · unfold pW
      by_cases z : w = 4
      · subst z; rw [fP_us]; exact isM_nI (by omega) (by decide)
      · rw [fP_un (by omega)]; exact i4
    · unfold pZ
      by_cases z : w = 5
      · subst z; rw [fP_us]; exact isM_nI (by omega) (by decide)
      · rw [fP_un (by omega)]; exact i5
  have hR := h.2.2.2.2.2 p hp
  rw [show 164 + 4 + 5 * p = 168 + 5 * p by omega] at hR
  obtain ⟨r0, r1, r2, r3, r4, r5, r6, r7, r8⟩ := hR
  have hRP : RP (168 + 5 * p) p (upd2 M (168 + 5 * p) k (nI v)) (upd g (20 + 24 * p + w) (nI v)) := by
    unfold RP
    rw [e2, e14]
    refine ⟨?_, ?_, ?_, ?_, ?_, ?_, ?_, fun i hi => by rw [fP_un (by omega), fP_un (by omega), u2o _ _ (by omega), u2o _ _ (by omega)]; exact r7 i hi, fun i hi => by rw [fP_un (by omega), fP_un (by omega), u2o _ _ (by omega), u2o _ _ (by omega)]; exact r8 i hi⟩
    · by_cases z : w = 0
      · have : k = 0 := by omega
        subst z; subst this; rw [fP_us, u2s]
      · rw [fP_un (by omega), u2k _ _ (by omega)]; exact r0
    · by_cases z : w = 1
      · have : k = 1 := by omega
        subst z; subst this; rw [fP_us, u2s]
      · rw [fP_un (by omega), u2k _ _ (by omega)]; exact r1
    · rw [fP_un (by omega), u2k _ _ (by omega)]; exact r2
    · by_cases z : w = 3
      · have : k = 5 := by omega
        subst z; subst this; rw [fP_us, u2s]
      · rw [fP_un (by omega), u2k _ _ (by omega)]; exact r3
    · by_cases z : w = 4
      · have : k = 6 := by omega
        subst z; subst this; rw [fP_us, u2s]
      · rw [fP_un (by omega), u2k _ _ (by omega)]; exact r4
    · by_cases z : w = 5
      · have : k = 7 := by omega
        subst z; subst this; rw [fP_us, u2s]
      · rw [fP_un (by omega), u2k _ _ (by omega)]; exact r5
    · rw [fP_un (by omega), u2k _ _ (by omega)]; exact r6
  exact ⟨RT_plan h hI hp (fun o k' h1 h2 h3 => u2o _ _ (by omega)) hf hRP, IT_plan hI hp hf hIP⟩
/-- a row of two numbers is added -/
def addM (oc kc a1 a2 m : Nat) (r s : Int32) (M : Mem) : Mem := upd2 (upd2 (upd2 M a1 m r) a2 m s) oc kc (nI (m + 1))
def addG (jc j1 j2 m : Nat) (r s : Int32) (g : Nat → Int32) : Nat → Int32 := upd (upd (upd g (j1 + m) r) (j2 + m) s) jc (nI (m + 1))
theorem add_tax {M : Mem} {g : Nat → Int32} {m b c : Nat} (h : RT 164 M g) (hI : IT g) (hm : nX g = m) (hm4 : m < 4) (hb : b ≤ 3652) (hc : c ≤ 100) : RT 164 (addM 164 4 166 167 m (nI b) (nI c) M) (addG 6 7 11 m (nI b) (nI c) g) ∧ IT (addG 6 7 11 m (nI b) (nI c) g) := by
  obtain ⟨r0, r1, r2, r3, r4, r5⟩ := h
  obtain ⟨i0, i1, i2, i3, i4, i5⟩ := hI
  have e : ∀ j, j ≠ 6 → j ≠ 7 + m → j ≠ 11 + m → addG 6 7 11 m (nI b) (nI c) g j = g j := fun j h1 h2 h3 => by
    unfold addG; rw [upd_n _ _ h1, upd_n _ _ h3, upd_n _ _ h2]
  have e6 : addG 6 7 11 m (nI b) (nI c) g 6 = nI (m + 1) := upd_s _ _ _
  have e7 : addG 6 7 11 m (nI b) (nI c) g (7 + m) = nI b := by unfold addG; rw [upd_n _ _ (by omega), upd_n _ _ (by omega), upd_s]
  have e11 : addG 6 7 11 m (nI b) (nI c) g (11 + m) = nI c := by unfold addG; rw [upd_n _ _ (by omega), upd_s]
  have eX : nX (addG 6 7 11 m (nI b) (nI c) g) = m + 1 := by unfold nX; rw [e6]; exact na_nI (by omega)
  have hP : ∀ p, p < 6 → ∀ w, w < 24 → fP (addG 6 7 11 m (nI b) (nI c) g) p w = fP g p w := fun p hp w hw => e _ (by omega) (by omega) (by omega)
  have eM : ∀ o k, o ≠ 166 → o ≠ 167 → (o = 164 → k ≠ 4) → addM 164 4 166 167 m (nI b) (nI c) M o k = M o k := fun o k h1 h2 h3 => by
    unfold addM
    by_cases z : o = 164
    · subst z; rw [u2k _ _ (h3 rfl), u2o _ _ h2, u2o _ _ h1]
    · rw [u2o _ _ z, u2o _ _ h2, u2o _ _ h1]
  refine ⟨?_, ?_⟩
  · unfold RT
    rw [eX]
    refine ⟨?_, ?_, ?_, ?_, fun i hi => ?_, fun p hp => ?_⟩
    · rw [eM _ _ (by decide) (by decide) (by decide), e _ (by decide) (by omega) (by omega)]; exact r0
    · rw [eM _ _ (by decide) (by decide) (by decide), e _ (by decide) (by omega) (by omega)]; exact r1
    · rw [eM _ _ (by decide) (by decide) (by decide), e _ (by decide) (by omega) (by omega)]; exact r2
    · rw [e6]; exact u2s _ _ _ _
    · have k166 : addM 164 4 166 167 m (nI b) (nI c) M 166 i = upd2 M 166 m (nI b) 166 i := by unfold addM; rw [u2o _ _ (by decide), u2o _ _ (by decide)]
      have k167 : addM 164 4 166 167 m (nI b) (nI c) M 167 i = upd2 (upd2 M 166 m (nI b)) 167 m (nI c) 167 i := by unfold addM; rw [u2o _ _ (by decide)]
      rw [show 164 + 2 = 166 from rfl, show 164 + 3 = 167 from rfl, k166, k167]
      by_cases z : i = m
      · subst z; rw [u2s, u2s, e7, e11]; exact ⟨rfl, rfl⟩
      · rw [u2k _ _ z, u2k _ _ z, u2o _ _ (by decide), e _ (by omega) (by omega) (by omega), e _ (by omega) (by omega) (by omega)]; exact r4 i (by omega)
    · have q := i5 p hp
      exact RP_congr (r5 p hp) q.2.2.1.2 q.2.2.2.2.2.2.1.2 (fun o k h1 h2 => eM _ _ (by omega) (by omega) (by omega)) (hP p hp)
  · unfold IT
    rw [eX, e 2 (by decide) (by omega) (by omega), e 3 (by decide) (by omega) (by omega), e 5 (by decide) (by omega) (by omega), e6]
    refine ⟨i0, i1, i2, ⟨rfl, by omega⟩, fun i hi => ?_, fun p hp => IP_congr (i5 p hp) (hP p hp)⟩
    by_cases z : i = m
    · subst z; rw [e7, e11]; exact ⟨isN_of hb (by decide), isN_of hc (by decide)⟩
    · rw [e _ (by omega) (by omega) (by omega), e _ (by omega) (by omega) (by omega)]; exact i4 i hi
theorem add_tier {M : Mem} {g : Nat → Int32} {p m b c : Nat} (hp : p < 6) (h : RT 164 M g) (hI : IT g) (hm : pT g p = m) (hm4 : m < 4) (hb1 : 1 ≤ b) (hb : b ≤ 9999) (hc : c ≤ 99) (hl : 0 < m → pB g p (m - 1) < b) :
    RT 164 (addM (168 + 5 * p) 2 (168 + 5 * p + 1) (168 + 5 * p + 2) m (nI b) (nI c) M) (addG (20 + 24 * p + 2) (20 + 24 * p + 6) (20 + 24 * p + 10) m (nI b) (nI c) g) ∧ IT (addG (20 + 24 * p + 2) (20 + 24 * p + 6) (20 + 24 * p + 10) m (nI b) (nI c) g) := by
  obtain ⟨g', hg'⟩ : ∃ g', g' = addG (20 + 24 * p + 2) (20 + 24 * p + 6) (20 + 24 * p + 10) m (nI b) (nI c) g := ⟨_, rfl⟩
  obtain ⟨M', hM'⟩ : ∃ M', M' = addM (168 + 5 * p) 2 (168 + 5 * p + 1) (168 + 5 * p + 2) m (nI b) (nI c) M := ⟨_, rfl⟩
  rw [← hg', ← hM']
  have hf : ∀ j, (j < 20 + 24 * p ∨ 44 + 24 * p ≤ j) → g' j = g j := fun j hj => by
    rw [hg']; unfold addG; rw [upd_n _ _ (by omega), upd_n _ _ (by omega), upd_n _ _ (by omega)]
  have e : ∀ w, w ≠ 2 → w ≠ 6 + m → w ≠ 10 + m → fP g' p w = fP g p w := fun w h1 h2 h3 => by
    rw [hg']; unfold addG fP; rw [upd_n _ _ (by omega), upd_n _ _ (by omega), upd_n _ _ (by omega)]
  have e2 : fP g' p 2 = nI (m + 1) := by rw [hg']; exact upd_s _ _ _
  have e6 : fP g' p (6 + m) = nI b := by
    rw [hg']; unfold addG fP; rw [upd_n _ _ (by omega), upd_n _ _ (by omega), show 20 + 24 * p + (6 + m) = 20 + 24 * p + 6 + m by omega, upd_s]
  have e10 : fP g' p (10 + m) = nI c := by
    rw [hg']; unfold addG fP; rw [upd_n _ _ (by omega), show 20 + 24 * p + (10 + m) = 20 + 24 * p + 10 + m by omega, upd_s]
  obtain ⟨i0, i1, i2, i3, i4, i5, i6, i7, i8, i9, i10⟩ := hI.2.2.2.2.2 p hp
  have hK2 := i6.2
  have eT : pT g' p = m + 1 := by unfold pT; rw [e2]; exact na_nI (by omega)
  have eK : pK g' p = pK g p := by unfold pK; rw [e 14 (by omega) (by omega) (by omega)]
  have eB : ∀ i, i < 4 → i ≠ m → pB g' p i = pB g p i := fun i hi h => by unfold pB; rw [e _ (by omega) (by omega) (by omega)]
  have eBm : pB g' p m = b := by unfold pB; rw [e6]; exact na_nI (by omega)
  have hIP : IP g' p := by
    unfold IP
    rw [eT, eK, e 0 (by omega) (by omega) (by omega), e 1 (by omega) (by omega) (by omega), e2, e 3 (by omega) (by omega) (by omega), e 4 (by omega) (by omega) (by omega), e 5 (by omega) (by omega) (by omega), e 14 (by omega) (by omega) (by omega)]
    refine ⟨?_, ?_, ⟨rfl, by omega⟩, ?_, ?_, ?_, i6, fun i hi => ?_, fun i hi => ?_, fun i hi => ?_, fun i hi => ?_⟩
    · unfold pP; rw [e 0 (by omega) (by omega) (by omega)]; exact i0
    · unfold pF; rw [e 1 (by omega) (by omega) (by omega)]; exact i1
    · unfold pR; rw [e 3 (by omega) (by omega) (by omega)]; exact i3
    · unfold pW; rw [e 4 (by omega) (by omega) (by omega)]; exact i4
    · unfold pZ; rw [e 5 (by omega) (by omega) (by omega)]; exact i5
    · by_cases z : i = m
      · subst z; unfold pB pC; rw [e6, e10]; exact ⟨isM_nI hb (by decide), isM_nI hc (by decide)⟩
      · unfold pB pC; rw [e _ (by omega) (by omega) (by omega), e _ (by omega) (by omega) (by omega)]; exact i7 i hi
    · unfold pS pO; rw [e _ (by omega) (by omega) (by omega), e _ (by omega) (by omega) (by omega)]; exact i8 i hi
    · by_cases z : i + 1 = m
      · rw [z, eBm, eB i (by omega) (by omega)]
        have := hl (by omega)
        rw [show m - 1 = i by omega] at this
        exact this
      · rw [eB i (by omega) (by omega), eB (i + 1) (by omega) (by omega)]; exact i9 i (by omega)
    · by_cases z : i = m
      · subst z; rw [eBm]; exact hb1
      · rw [eB i (by omega) z]; exact i10 i (by omega)
  have hR := h.2.2.2.2.2 p hp
  rw [show 164 + 4 + 5 * p = 168 + 5 * p by omega] at hR
  obtain ⟨r0, r1, r2, r3, r4, r5, r6, r7, r8⟩ := hR
  have eM : ∀ o k, o ≠ 168 + 5 * p + 1 → o ≠ 168 + 5 * p + 2 → (o = 168 + 5 * p → k ≠ 2) → M' o k = M o k := fun o k h1 h2 h3 => by
    rw [hM']; unfold addM
    by_cases z : o = 168 + 5 * p
    · subst z; rw [u2k _ _ (h3 rfl), u2o _ _ h2, u2o _ _ h1]
    · rw [u2o _ _ z, u2o _ _ h2, u2o _ _ h1]
  have hRP : RP (168 + 5 * p) p M' g' := by
    unfold RP
    rw [eT, eK, e 0 (by omega) (by omega) (by omega), e 1 (by omega) (by omega) (by omega), e2, e 3 (by omega) (by omega) (by omega), e 4 (by omega) (by omega) (by omega), e 5 (by omega) (by omega) (by omega), e 14 (by omega) (by omega) (by omega)]
    refine ⟨?_, ?_, ?_, ?_, ?_, ?_, ?_, fun i hi => ?_, fun i hi => ?_⟩
    · rw [eM _ _ (by omega) (by omega) (by omega)]; exact r0
    · rw [eM _ _ (by omega) (by omega) (by omega)]; exact r1
    · rw [hM']; exact u2s _ _ _ _
    · rw [eM _ _ (by omega) (by omega) (by omega)]; exact r3
    · rw [eM _ _ (by omega) (by omega) (by omega)]; exact r4
    · rw [eM _ _ (by omega) (by omega) (by omega)]; exact r5
    · rw [eM _ _ (by omega) (by omega) (by omega)]; exact r6
    · have k1 : M' (168 + 5 * p + 1) i = upd2 M (168 + 5 * p + 1) m (nI b) (168 + 5 * p + 1) i := by rw [hM']; unfold addM; rw [u2o _ _ (by omega), u2o _ _ (by omega)]
      have k2 : M' (168 + 5 * p + 2) i = upd2 (upd2 M (168 + 5 * p + 1) m (nI b)) (168 + 5 * p + 2) m (nI c) (168 + 5 * p + 2) i := by rw [hM']; unfold addM; rw [u2o _ _ (by omega)]
      rw [k1, k2]
      by_cases z : i = m
      · subst z; rw [u2s, u2s, e6, e10]; exact ⟨rfl, rfl⟩
      · rw [u2k _ _ z, u2k _ _ z, u2o _ _ (by omega), e _ (by omega) (by omega) (by omega), e _ (by omega) (by omega) (by omega)]; exact r7 i (by omega)
    · rw [eM _ _ (by omega) (by omega) (by omega), eM _ _ (by omega) (by omega) (by omega), e _ (by omega) (by omega) (by omega), e _ (by omega) (by omega) (by omega)]; exact r8 i hi
  exact ⟨RT_plan h hI hp (fun o k h1 h2 h3 => eM o k (by omega) (by omega) (by omega)) hf hRP, IT_plan hI hp hf hIP⟩
theorem add_bulk {M : Mem} {g : Nat → Int32} {p m b c : Nat} (hp : p < 6) (h : RT 164 M g) (hI : IT g) (hm : pK g p = m) (hm3 : m < 3) (hb : b ≤ 9) (hc : c ≤ 100) :
    RT 164 (addM (168 + 5 * p) 8 (168 + 5 * p + 3) (168 + 5 * p + 4) m (nI b) (nI c) M) (addG (20 + 24 * p + 14) (20 + 24 * p + 15) (20 + 24 * p + 18) m (nI b) (nI c) g) ∧ IT (addG (20 + 24 * p + 14) (20 + 24 * p + 15) (20 + 24 * p + 18) m (nI b) (nI c) g) := by
  obtain ⟨g', hg'⟩ : ∃ g', g' = addG (20 + 24 * p + 14) (20 + 24 * p + 15) (20 + 24 * p + 18) m (nI b) (nI c) g := ⟨_, rfl⟩
  obtain ⟨M', hM'⟩ : ∃ M', M' = addM (168 + 5 * p) 8 (168 + 5 * p + 3) (168 + 5 * p + 4) m (nI b) (nI c) M := ⟨_, rfl⟩
  rw [← hg', ← hM']
  have hf : ∀ j, (j < 20 + 24 * p ∨ 44 + 24 * p ≤ j) → g' j = g j := fun j hj => by
    rw [hg']; unfold addG; rw [upd_n _ _ (by omega), upd_n _ _ (by omega), upd_n _ _ (by omega)]
  have e : ∀ w, w ≠ 14 → w ≠ 15 + m → w ≠ 18 + m → fP g' p w = fP g p w := fun w h1 h2 h3 => by
    rw [hg']; unfold addG fP; rw [upd_n _ _ (by omega), upd_n _ _ (by omega), upd_n _ _ (by omega)]
  have e14 : fP g' p 14 = nI (m + 1) := by rw [hg']; exact upd_s _ _ _
  have e15 : fP g' p (15 + m) = nI b := by
    rw [hg']; unfold addG fP; rw [upd_n _ _ (by omega), upd_n _ _ (by omega), show 20 + 24 * p + (15 + m) = 20 + 24 * p + 15 + m by omega, upd_s]
  have e18 : fP g' p (18 + m) = nI c := by
    rw [hg']; unfold addG fP; rw [upd_n _ _ (by omega), show 20 + 24 * p + (18 + m) = 20 + 24 * p + 18 + m by omega, upd_s]
  obtain ⟨i0, i1, i2, i3, i4, i5, i6, i7, i8, i9, i10⟩ := hI.2.2.2.2.2 p hp
  have hT2 := i2.2
  have eK : pK g' p = m + 1 := by unfold pK; rw [e14]; exact na_nI (by omega)
  have eT : pT g' p = pT g p := by unfold pT; rw [e 2 (by omega) (by omega) (by omega)]
  have eB : ∀ i, i < 4 → pB g' p i = pB g p i := fun i hi => by unfold pB; rw [e _ (by omega) (by omega) (by omega)]
  have hIP : IP g' p := by
    unfold IP
    rw [eT, eK, e 0 (by omega) (by omega) (by omega), e 1 (by omega) (by omega) (by omega), e 2 (by omega) (by omega) (by omega), e 3 (by omega) (by omega) (by omega), e 4 (by omega) (by omega) (by omega), e 5 (by omega) (by omega) (by omega), e14]
    refine ⟨?_, ?_, i2, ?_, ?_, ?_, ⟨rfl, by omega⟩, fun i hi => ?_, fun i hi => ?_, fun i hi => ?_, fun i hi => ?_⟩
    · unfold pP; rw [e 0 (by omega) (by omega) (by omega)]; exact i0
    · unfold pF; rw [e 1 (by omega) (by omega) (by omega)]; exact i1
    · unfold pR; rw [e 3 (by omega) (by omega) (by omega)]; exact i3
    · unfold pW; rw [e 4 (by omega) (by omega) (by omega)]; exact i4
    · unfold pZ; rw [e 5 (by omega) (by omega) (by omega)]; exact i5
    · unfold pB pC; rw [e _ (by omega) (by omega) (by omega), e _ (by omega) (by omega) (by omega)]; exact i7 i hi
    · by_cases z : i = m
      · subst z; unfold pS pO; rw [e15, e18]; exact ⟨isM_nI hb (by decide), isM_nI hc (by decide)⟩
      · unfold pS pO; rw [e _ (by omega) (by omega) (by omega), e _ (by omega) (by omega) (by omega)]; exact i8 i hi
    · rw [eB i (by omega), eB (i + 1) (by omega)]; exact i9 i hi
    · rw [eB i (by omega)]; exact i10 i hi
  have hR := h.2.2.2.2.2 p hp
  rw [show 164 + 4 + 5 * p = 168 + 5 * p by omega] at hR
  obtain ⟨r0, r1, r2, r3, r4, r5, r6, r7, r8⟩ := hR
  have eM : ∀ o k, o ≠ 168 + 5 * p + 3 → o ≠ 168 + 5 * p + 4 → (o = 168 + 5 * p → k ≠ 8) → M' o k = M o k := fun o k h1 h2 h3 => by
    rw [hM']; unfold addM
    by_cases z : o = 168 + 5 * p
    · subst z; rw [u2k _ _ (h3 rfl), u2o _ _ h2, u2o _ _ h1]
    · rw [u2o _ _ z, u2o _ _ h2, u2o _ _ h1]
  have hRP : RP (168 + 5 * p) p M' g' := by
    unfold RP
    rw [eT, eK, e 0 (by omega) (by omega) (by omega), e 1 (by omega) (by omega) (by omega), e 2 (by omega) (by omega) (by omega), e 3 (by omega) (by omega) (by omega), e 4 (by omega) (by omega) (by omega), e 5 (by omega) (by omega) (by omega), e14]
    refine ⟨?_, ?_, ?_, ?_, ?_, ?_, ?_, fun i hi => ?_, fun i hi => ?_⟩
    · rw [eM _ _ (by omega) (by omega) (by omega)]; exact r0
    · rw [eM _ _ (by omega) (by omega) (by omega)]; exact r1
    · rw [eM _ _ (by omega) (by omega) (by omega)]; exact r2
    · rw [eM _ _ (by omega) (by omega) (by omega)]; exact r3
    · rw [eM _ _ (by omega) (by omega) (by omega)]; exact r4
    · rw [eM _ _ (by omega) (by omega) (by omega)]; exact r5
    · rw [hM']; exact u2s _ _ _ _
    · rw [eM _ _ (by omega) (by omega) (by omega), eM _ _ (by omega) (by omega) (by omega), e _ (by omega) (by omega) (by omega), e _ (by omega) (by omega) (by omega)]; exact r7 i hi
    · have k1 : M' (168 + 5 * p + 3) i = upd2 M (168 + 5 * p + 3) m (nI b) (168 + 5 * p + 3) i := by rw [hM']; unfold addM; rw [u2o _ _ (by omega), u2o _ _ (by omega)]
      have k2 : M' (168 + 5 * p + 4) i = upd2 (upd2 M (168 + 5 * p + 3) m (nI b)) (168 + 5 * p + 4) m (nI c) (168 + 5 * p + 4) i := by rw [hM']; unfold addM; rw [u2o _ _ (by omega)]
      rw [k1, k2]
      by_cases z : i = m
      · subst z; rw [u2s, u2s, e15, e18]; exact ⟨rfl, rfl⟩
      · rw [u2k _ _ z, u2k _ _ z, u2o _ _ (by omega), e _ (by omega) (by omega) (by omega), e _ (by omega) (by omega) (by omega)]; exact r8 i (by omega)
  exact ⟨RT_plan h hI hp (fun o k h1 h2 h3 => eM o k (by omega) (by omega) (by omega)) hf hRP, IT_plan hI hp hf hIP⟩
