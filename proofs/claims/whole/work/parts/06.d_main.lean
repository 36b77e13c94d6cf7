/-! the law: its loop, its start -/
section LW
variable {l : Launch} {cx : CX} {i : Nat} {M N : Mem}
theorem L_head (hL : @LE.le Nat _ (cx.2.2.1 5) 3072) (hi : i ≤ 3200) (hx : i + 6 ≤ cx.2.2.1 5 → LW l cx 27 (LSx i) [] M) : LW l cx 18 (LSx i) [] M := by
  refine J_ild3 dL_law_18 ?_
  refine J_ald0 dL_law_19 ?_
  refine J_scrlen dL_law_20 ?_
  refine J_bipush (v := nI 6) dL_law_21 rfl ?_
  refine J_isub dL_law_23 ?_
  have e : Int32.ofNat (cx.2.2.1 5) - nI 6 = iI ((cx.2.2.1 5 : Int) - 6) := by
    show nI _ - nI 6 = _
    rw [iI_n, iI_n, iI_sub]; rfl
  rw [e]
  by_cases h : iI ((cx.2.2.1 5 : Int) - 6) < nI i
  · refine JO_x (if_pos h).symm (J_ic_gt (x2 := none) 1638 dL_law_24 rfl ?_ JO_none)
    refine J_iconst (v := 1) dL_law_1638 rfl ?_
    exact J_zret dL_law_1639 rfl (Or.inr rfl) rfl
  · refine JO_x (if_neg h).symm (J_ic_gt (x := none) 1638 dL_law_24 rfl JO_none ?_)
    refine hx ?_
    rw [iI_n, iI_lt (by omega) (by omega) (by omega) (by omega)] at h
    omega
theorem L_sw (hL : @LE.le Nat _ (cx.2.2.1 5) 3072) (hi : i + 6 ≤ cx.2.2.1 5) (hT : TOT M N) (next : ∀ M1 N1, TOT M1 N1 → LW l cx 1632 (LSx i) [] (CB M1 N1)) : LW l cx 27 (LSx i) [] (CB M N) := by
  refine J_ald0 dL_law_27 ?_
  refine J_ild3 dL_law_28 ?_
  refine J_scr (vp_in_nI (by omega) (by omega)) dL_law_29 ?_
  refine J_bipush (v := 63) dL_law_30 rfl ?_
  refine J_iand dL_law_32 ?_
  obtain ⟨j, hj, e⟩ := pk_andE (scx cx (nI i).toNatClampNeg) (m := 63) 6 (by decide)
  rw [e]
  exact L_case hj hT hi hL next
theorem law_loop (hL : @LE.le Nat _ (cx.2.2.1 5) 3072) : ∀ (d i : Nat) (M N : Mem), @LE.le Nat _ (cx.2.2.1 5) (i + d) → i ≤ 3100 → TOT M N → LW l cx 18 (LSx i) [] (CB M N) := by
  intro d
  induction d with
  | zero =>
    intro i M N hd hi hT
    exact L_head hL (by omega) (fun w => by omega)
  | succ d ih =>
    intro i M N hd hi hT
    refine L_head hL (by omega) (fun w => ?_)
    refine L_sw hL w hT (fun M1 N1 hT1 => ?_)
    refine J_iinc3 (w := nI (i + 6)) dL_law_1632 (by decide) rfl (by rw [show Int32.ofInt 6 = nI 6 from rfl, nI_add]) ?_
    refine J_goto 18 dL_law_1635 rfl ?_
    exact ih (i + 6) M1 N1 (by omega) (by omega) hT1
end LW
def h0 : Nat → Nat → Option Nat := fun _ _ => none
def M00 : Mem := fun _ _ => 0
def MC0 : Mem := mac (0 + 1 + 109 + 47) 6 (mac (0 + 1 + 56 + 47) 6 (mac (0 + 1 + 3 + 47) 6 (mcl (0 + 1 + 1 + 1) 123 M00)))
def NC0 : Mem := mcl (207 + 1 + 0) 127 M00
theorem MC_z {o k : Nat} (h1 : ¬ (k = 0 ∧ ((51 ≤ o ∧ o < 57) ∨ (104 ≤ o ∧ o < 110) ∨ (157 ≤ o ∧ o < 163)))) (h2 : ¬ (o = 3 ∧ k < 123)) : MC0 o k = 0 := by
  unfold MC0 mac mcl
  rw [if_neg (by omega), if_neg (by omega), if_neg (by omega), if_neg (by omega)]; rfl
theorem MC_x {b x : Nat} (hb : b = 4 ∨ b = 57 ∨ b = 110) (hx : x < 6) : MC0 (b + 35 + 12 + x) 0 = nI x := by
  unfold MC0 mac mcl
  rcases hb with rfl | rfl | rfl
  · rw [if_neg (by omega), if_neg (by omega), if_pos (by omega), show 4 + 35 + 12 + x - (0 + 1 + 3 + 47) = x by omega]
  · rw [if_neg (by omega), if_pos (by omega), show 57 + 35 + 12 + x - (0 + 1 + 56 + 47) = x by omega]
  · rw [if_pos (by omega), show 110 + 35 + 12 + x - (0 + 1 + 109 + 47) = x by omega]
theorem MC_c {m : Nat} (hm : m < 123) : MC0 3 m = iI (ms m) := by
  unfold MC0 mac mcl
  rw [if_neg (by omega), if_neg (by omega), if_neg (by omega), if_pos (by omega)]
theorem NC_c {m : Nat} (hm : m < 127) : NC0 208 m = iI (ms m) := by
  unfold NC0 mcl
  rw [if_pos (by omega)]
theorem NC_z {o k : Nat} (h : ¬ (o = 208 ∧ k < 127)) : NC0 o k = 0 := by
  unfold NC0 mcl
  rw [if_neg (by omega)]; rfl
def Z0 : Nat → Int32 := fun _ => 0
theorem NC_209 : NC0 209 = Z0 := funext fun k => NC_z (by omega)
theorem na0 : na (0 : Int32) = 0 := by decide +kernel
theorem isM0 (N : Nat) : isM (0 : Int32) (na 0) N := ⟨by decide +kernel, by rw [na0]; exact Nat.zero_le _⟩
theorem isN0 (N : Nat) : isN (0 : Int32) N := ⟨by decide +kernel, by rw [na0]; exact Nat.zero_le _⟩
theorem no_na {i : Nat} : ¬ i < na (0 : Int32) := by rw [na0]; exact Nat.not_lt_zero _
theorem ne01 : ¬ (0 : Int32) = nI 1 := by decide +kernel
theorem INV_0 : INV Z0 := by
  refine ⟨⟨isM0 _, isM0 _, isM0 _, ⟨isN0 _, isN0 _, isN0 _, isM0 _, fun i _ => ⟨isN0 _, isN0 _⟩, fun p _ => ⟨isM0 _, isM0 _, isM0 _, isM0 _, isM0 _, isM0 _, isM0 _, fun i _ => ⟨isM0 _, isM0 _⟩, fun i _ => ⟨isM0 _, isM0 _⟩, fun i h => ?_, fun i h => ?_⟩⟩, fun x _ => Or.inl (fun w _ => ?_), fun i h => ?_⟩, fun x _ h => ?_⟩
  · exact absurd h no_na
  · exact absurd h no_na
  · show (0 : Int32) = nI 0
    decide +kernel
  · exact absurd h no_na
  · exact absurd h ne01
theorem RP_0 {q p : Nat} (hq : ∀ o k, q ≤ o → o < q + 5 → MC0 o k = 0) : RP q p MC0 Z0 := by
  have e : ∀ k, MC0 q k = 0 := fun k => hq q k (Nat.le_refl _) (by omega)
  exact ⟨e _, e _, e _, e _, e _, e _, e _, fun i h => absurd h no_na, fun i h => absurd h no_na⟩
theorem RS_0 : RS 4 MC0 Z0 := by
  refine ⟨MC_z (by omega) (by omega), MC_z (by omega) (by omega), ⟨MC_z (by omega) (by omega), MC_z (by omega) (by omega), MC_z (by omega) (by omega), MC_z (by omega) (by omega), fun i h => absurd h no_na, fun p hp => RP_0 (fun o k h1 h2 => MC_z (by omega) (by omega))⟩, fun x hx => ?_, MC_z (by omega) (by omega), fun i h => absurd h no_na⟩
  have e : ∀ k, k ≠ 0 → MC0 (4 + 35 + 12 + x) k = 0 := fun k hk => MC_z (by omega) (by omega)
  refine ⟨MC_x (Or.inl rfl) hx, e _ (by decide), e _ (by decide), e _ (by decide), e _ (by decide), e _ (by decide), e _ (by decide), e _ (by decide), e _ (by decide), e _ (by decide), fun h => absurd h ne01, e _ (by decide), e _ (by decide), ?_⟩
  rw [e _ (by decide)]
  show (0 : Int32) = sumR _ 0 (na 0)
  rw [na0]; rfl
theorem TOT_0 : TOT MC0 NC0 := by
  refine ⟨⟨Nat.le_refl _, fun m hm => MC_c hm, fun m hm => NC_c hm, ?_, ?_⟩, fun x hx => MC_x (Or.inr (Or.inl rfl)) hx, fun x hx => MC_x (Or.inr (Or.inr rfl)) hx, ⟨0, Nat.zero_le _, ?_, ?_, fun i h => absurd h (Nat.not_lt_zero _)⟩, ?_, Or.inl (MC_z (by omega) (by omega))⟩
  · rw [NC_209]; exact RS_0
  · rw [NC_209]; exact INV_0
  · rw [MC_z (by omega) (by omega)]; decide +kernel
  · rw [NC_z (by omega)]; decide +kernel
  · rw [MC_z (by omega) (by omega), NC_z (by omega)]
theorem CB_0 : mcl (207 + 1 + 0) 127 MC0 = CB MC0 NC0 := by
  funext o k
  by_cases h : o < 207
  · rw [CB_lo _ _ h]
    unfold mcl
    rw [if_neg (by omega)]
  · rw [CB_hi _ _ h]
    unfold NC0 mcl
    by_cases h2 : o = 207 + 1 + 0 ∧ k < 127
    · rw [if_pos h2, if_pos h2]
    · rw [if_neg h2, if_neg h2]; exact MC_z (by omega) (by omega)
theorem rfL_len : rfL.length = 218 := by decide +kernel
theorem G_all : G (gR 207 (207 + 11) (gR 0 (0 + 207) h0)) = GS := by
  show G _ = G GS.2.2
  refine congrArg G (funext fun o => funext fun k => ?_)
  unfold gR
  by_cases h : 207 ≤ o ∧ o < 207 + 11
  · rw [if_pos h]
  · rw [if_neg h]
    by_cases h2 : 0 ≤ o ∧ o < 0 + 207
    · rw [if_pos h2]
    · rw [if_neg h2, GS_row]
      have e : rowR o = [] := by
        unfold rowR
        rw [List.getD_eq_getElem?_getD, List.getElem?_eq_none_iff.mpr (by rw [rfL_len]; omega)]; rfl
      rw [e]; rfl
theorem ZH_0 : ZH h0 0 := fun _ _ _ => rfl
theorem ZM_0 : ZM M00 0 := fun _ _ _ => rfl
theorem ZH_207 : ZH (gR 0 (0 + 207) h0) 207 := fun o k h => by unfold gR; rw [if_neg (by omega)]; rfl
theorem ZM_207 : ZM MC0 207 := fun o k h => MC_z (by omega) (by omega)
set_option maxRecDepth 100000 in
theorem law_main {l : Launch} {cx : CX} (hL : @LE.le Nat _ (cx.2.2.1 5) 3072) : JO l cx room_1 yL_law cL_law 4 (some .boolean) 218 27776 true 0 0 EL1 (G h0) 0 0 0 [some (.ref SC), none, none, none] [] M00 (some ()) := by
  refine J_new (by decide) rfl (Nat.le_refl _) nk_L_7 dL_law_0 (by decide +kernel) (fun _ => rfl) (fun _ => rfl) ⟨by decide, by decide⟩ ?_
  refine J_dup_r dL_law_3 ?_
  refine J_cI (xc := some ()) (f := fun _ => some ()) (as := []) (kX10 l cx (by decide) (by decide +kernel) ZH_0 ZM_0) ki_L_9 dL_law_4 rfl ⟨rfl, rfl, by decide, by decide⟩ ⟨by decide, by decide, Nat.le_of_ble_eq_true rfl⟩ (by decide) rfl (Nat.le_refl _) (fun b v g' M' hE => ?_)
  obtain ⟨rfl, rfl, rfl⟩ := hE
  refine J_ast1 dL_law_7 (by decide) rfl ?_
  refine JO_M (M' := MC0) rfl ?_
  refine J_new (by decide) rfl (Nat.le_refl _) nk_L_10 dL_law_8 (by decide +kernel) (fun k => by show gR 0 (0 + 207) h0 207 k = none; exact ZH_207 _ _ (Nat.le_refl _)) (fun k => by show MC0 207 k = 0; exact ZM_207 _ _ (Nat.le_refl _)) ⟨by decide, by decide⟩ ?_
  refine J_dup_r dL_law_11 ?_
  refine J_cI (xc := some ()) (f := fun _ => some ()) (as := []) (kX11 l cx (q := 207) (by decide) (by decide +kernel) ZH_207 ZM_207) ki_L_12 dL_law_12 rfl ⟨rfl, rfl, by decide, by decide⟩ ⟨by decide, by decide, Nat.le_of_ble_eq_true rfl⟩ (by decide) rfl (Nat.le_refl _) (fun b v g' M' hE => ?_)
  obtain ⟨rfl, rfl, rfl⟩ := hE
  rw [G_all]
  refine J_ast2 dL_law_15 (by decide) rfl ?_
  refine J_iconst (v := 0) dL_law_16 rfl ?_
  refine J_ist3 dL_law_17 (by decide) rfl ?_
  refine JO_M CB_0 ?_
  refine JO_cs (ck' := 218) (sk' := 27776) rfl rfl ?_
  exact law_loop hL (cx.2.2.1 5) 0 MC0 NC0 (by omega) (by omega) TOT_0
