set_option maxRecDepth 100000 in
theorem jX11_entry (l : Launch) (cx : CX) (n : Nat) (a : Int32) (b : Int32) (M : Mem) : Con l cx ({ frames := 2, cells := 0, slots := 0, locals := 43 } : Room) yX11_entry cX11_entry 3 (some .int) 0 0 false 207 218 (EP M) GS [.ref 207, .int a, .int b] M (mX11_entry a b M) := by
  unfold mX11_entry
  refine Con.of (ls := [some (.ref 207), some (.int a), some (.int b)]) (by decide) rfl (Nat.le_of_ble_eq_true rfl) ?_
  refine J_ald0 dX11_entry_0 ?_
  refine J_ild1 dX11_entry_1 ?_
  refine J_cVB (jX11_isEntry l cx n a M) ck_RX11_268 dX11_entry_2 rfl kk_207 ⟨rfl, rfl, by decide, by decide⟩ ⟨Nat.zero_le _, Nat.zero_le _, Nat.le_of_ble_eq_true rfl⟩ (fun r1 z2 => ?_)
  refine J_if_eq 27 dX11_entry_5 rfl ?_ ?_
  · refine J_ldc dX11_entry_27 wd_63 ?_
    exact J_iret dX11_entry_29 rfl ⟨rfl, rfl, rfl⟩
  · refine J_ild2 dX11_entry_8 ?_
    refine J_iconst (v := 0) dX11_entry_9 rfl ?_
    refine J_bipush (v := 9) dX11_entry_10 rfl ?_
    refine J_cSB (jX11_in l cx n b (0 : Int32) (9 : Int32) M) ck_RX11_56 dX11_entry_12 rfl ⟨rfl, rfl, by decide, by decide⟩ ⟨Nat.zero_le _, Nat.zero_le _, Nat.le_of_ble_eq_true rfl⟩ (fun r3 z4 => ?_)
    refine J_if_eq 27 dX11_entry_15 rfl ?_ ?_
    · refine J_ldc dX11_entry_27 wd_63 ?_
      exact J_iret dX11_entry_29 rfl ⟨rfl, rfl, rfl⟩
    · refine J_ald0 dX11_entry_18 ?_
      refine J_ild1 dX11_entry_19 ?_
      refine J_ild2 dX11_entry_20 ?_
      refine J_cVP (jX11_entryOf l cx n a b M) ck_RX11_219 dX11_entry_21 rfl kk_207 ⟨rfl, rfl, by decide, by decide⟩ ⟨Nat.zero_le _, Nat.zero_le _, Nat.le_of_ble_eq_true rfl⟩ (fun r5 => ?_)
      refine J_goto 29 dX11_entry_24 rfl ?_
      exact J_iret dX11_entry_29 rfl ⟨rfl, rfl, rfl⟩
set_option maxRecDepth 100000 in
theorem jX11_period_c27 {l : Launch} {cx : CX} {n : Nat} {M : Mem} : ∀ (f : Nat) {v1 : Int32} {v2 : Int32} {v3 : Int32} {v4 : Int32}, JO l cx ({ frames := 3, cells := 0, slots := 0, locals := 63 } : Room) yX11_period cX11_period 5 (some .int) 0 0 false 207 218 (EP M) GS 0 0 27 [some (.ref 207), some (.int v1), some (.int v2), some (.int v3), some (.int v4)] [] M (mX11_period_c27 n f v1 v2 v3 v4 M) := by
  intro f
  induction f with
  | zero =>
    intros
    exact J_none
  | succ f ih =>
    intro v1 v2 v3 v4
    unfold mX11_period_c27
    refine J_ild4 dX11_period_27 ?_
    refine J_ald0 dX11_period_29 ?_
    refine J_getr (q := 209) fl_RX11_13 dX11_period_30 kk_207 rfl (rf_11_1 kk_207) ?_
    refine J_iconst (v := 1) dX11_period_33 rfl ?_
    refine J_iald dX11_period_34 kk_209 rfl ?_
    refine J_ic_ge 77 dX11_period_35 rfl ?_ ?_
    · refine J_ild3 dX11_period_77 ?_
      exact J_iret dX11_period_78 rfl ⟨rfl, rfl, rfl⟩
    · refine J_ald0 dX11_period_38 ?_
      refine J_ild4 dX11_period_39 ?_
      refine J_iconst (v := 1) dX11_period_41 rfl ?_
      refine J_cVP (jX11_entryOf l cx n v4 (1 : Int32) M) ck_RX11_219 dX11_period_42 rfl kk_207 ⟨rfl, rfl, by decide, by decide⟩ ⟨Nat.zero_le _, Nat.zero_le _, Nat.le_of_ble_eq_true rfl⟩ (fun r1 => ?_)
      refine J_ild1 dX11_period_45 ?_
      refine J_ic_ne 71 dX11_period_46 rfl ?_ ?_
      · refine J_iinc4 (w := (v4 + (1 : Int32))) dX11_period_71 (by decide) rfl rfl ?_
        refine J_goto 27 dX11_period_74 rfl ?_
        exact J_wk (wk_s (wk_s (wk_s (wk_s (wk_s wk_0))))) (ih)
      · refine J_ald0 dX11_period_49 ?_
        refine J_ild4 dX11_period_50 ?_
        refine J_iconst (v := 3) dX11_period_52 rfl ?_
        refine J_cVP (jX11_entryOf l cx n v4 (3 : Int32) M) ck_RX11_219 dX11_period_53 rfl kk_207 ⟨rfl, rfl, by decide, by decide⟩ ⟨Nat.zero_le _, Nat.zero_le _, Nat.le_of_ble_eq_true rfl⟩ (fun r2 => ?_)
        refine J_ild2 dX11_period_56 ?_
        refine J_ic_ne 71 dX11_period_57 rfl ?_ ?_
        · refine J_iinc4 (w := (v4 + (1 : Int32))) dX11_period_71 (by decide) rfl rfl ?_
          refine J_goto 27 dX11_period_74 rfl ?_
          exact J_wk (wk_s (wk_s (wk_s (wk_s (wk_s wk_0))))) (ih)
        · refine J_ild3 dX11_period_60 ?_
          refine J_ald0 dX11_period_61 ?_
          refine J_ild4 dX11_period_62 ?_
          refine J_bipush (v := 7) dX11_period_64 rfl ?_
          refine J_cVP (jX11_entryOf l cx n v4 (7 : Int32) M) ck_RX11_219 dX11_period_66 rfl kk_207 ⟨rfl, rfl, by decide, by decide⟩ ⟨Nat.zero_le _, Nat.zero_le _, Nat.le_of_ble_eq_true rfl⟩ (fun r3 => ?_)
          refine J_iadd dX11_period_69 ?_
          refine J_ist3 dX11_period_70 (by decide) rfl ?_
          refine J_iinc4 (w := (v4 + (1 : Int32))) dX11_period_71 (by decide) rfl rfl ?_
          refine J_goto 27 dX11_period_74 rfl ?_
          exact J_wk (wk_s (wk_s (wk_s (wk_s (wk_s wk_0))))) (ih)
set_option maxRecDepth 100000 in
theorem jX11_period (l : Launch) (cx : CX) (n : Nat) (a : Int32) (b : Int32) (M : Mem) : Con l cx ({ frames := 3, cells := 0, slots := 0, locals := 63 } : Room) yX11_period cX11_period 5 (some .int) 0 0 false 207 218 (EP M) GS [.ref 207, .int a, .int b] M (mX11_period n a b M) := by
  unfold mX11_period
  refine Con.of (ls := [some (.ref 207), some (.int a), some (.int b), none, none]) (by decide) rfl (Nat.le_of_ble_eq_true rfl) ?_
  refine J_ald0 dX11_period_0 ?_
  refine J_ild1 dX11_period_1 ?_
  refine J_cVB (jX11_isBegun l cx n a M) ck_RX11_216 dX11_period_2 rfl kk_207 ⟨rfl, rfl, by decide, by decide⟩ ⟨Nat.zero_le _, Nat.zero_le _, Nat.le_of_ble_eq_true rfl⟩ (fun r4 z5 => ?_)
  refine J_if_eq 19 dX11_period_5 rfl ?_ ?_
  · refine J_ldc dX11_period_19 wd_63 ?_
    exact J_iret dX11_period_21 rfl ⟨rfl, rfl, rfl⟩
  · refine J_ild2 dX11_period_8 ?_
    refine J_iconst (v := 0) dX11_period_9 rfl ?_
    refine J_sipush (v := 199) dX11_period_10 rfl ?_
    refine J_cSB (jX11_in l cx n b (0 : Int32) (199 : Int32) M) ck_RX11_56 dX11_period_13 rfl ⟨rfl, rfl, by decide, by decide⟩ ⟨Nat.zero_le _, Nat.zero_le _, Nat.le_of_ble_eq_true rfl⟩ (fun r6 z7 => ?_)
    refine J_if_ne 22 dX11_period_16 rfl ?_ ?_
    · refine J_iconst (v := 0) dX11_period_22 rfl ?_
      refine J_ist3 dX11_period_23 (by decide) rfl ?_
      refine J_iconst (v := 0) dX11_period_24 rfl ?_
      refine J_ist4 dX11_period_25 (by decide) rfl ?_
      exact J_wk (wk_s (wk_s (wk_s (wk_s (wk_s wk_0))))) (jX11_period_c27 (n := n) n)
    · refine J_ldc dX11_period_19 wd_63 ?_
      exact J_iret dX11_period_21 rfl ⟨rfl, rfl, rfl⟩
set_option maxRecDepth 100000 in
theorem jX11_says (l : Launch) (cx : CX) (n : Nat) (a : Int32) (M : Mem) : Con l cx ({ frames := 0, cells := 0, slots := 0, locals := 0 } : Room) yX11_says cX11_says 2 none 0 0 false 207 218 EV GS [.ref 207, .int a] M (mX11_says a M) := by
  unfold mX11_says
  refine Con.of (ls := [some (.ref 207), some (.int a)]) (by decide) rfl (Nat.le_of_ble_eq_true rfl) ?_
  refine J_ald0 dX11_says_0 ?_
  refine J_getr (q := 216) fl_RX11_36 dX11_says_1 kk_207 rfl (rf_11_18 kk_207) ?_
  refine J_ald0 dX11_says_4 ?_
  refine J_geti fl_RX11_373 dX11_says_5 kk_207 rfl ?_
  refine J_ild1 dX11_says_8 ?_
  refine J_i2b dX11_says_9 ?_
  refine J_bast dX11_says_10 kk_216 rfl ?_
  refine J_lt (fun M1 => ?_)
  refine J_ald0 dX11_says_11 ?_
  refine J_ald0 dX11_says_12 ?_
  refine J_geti fl_RX11_373 dX11_says_13 kk_207 rfl ?_
  refine J_iconst (v := 1) dX11_says_16 rfl ?_
  refine J_iadd dX11_says_17 ?_
  refine J_puti fl_RX11_373 dX11_says_18 kk_207 rfl (by decide) ?_
  exact J_vret dX11_says_21 rfl ⟨rfl, rfl, rfl⟩
set_option maxRecDepth 100000 in
theorem jX11_saysNumber_c53 {l : Launch} {cx : CX} {n : Nat} : ∀ (f : Nat) {v1 : Int32} {v3 : Int32} {v4 : Int32} {v5 : Int32} {M : Mem}, JO l cx ({ frames := 1, cells := 0, slots := 0, locals := 21 } : Room) yX11_saysNumber cX11_saysNumber 6 none 0 0 false 207 218 EV GS 0 0 53 [some (.ref 207), some (.int v1), none, some (.int v3), some (.int v4), some (.int v5)] [] M (mX11_saysNumber_c53 n f v1 v3 v4 v5 M) := by
  intro f
  induction f with
  | zero =>
    intros
    exact J_none
  | succ f ih =>
    intro v1 v3 v4 v5 M
    unfold mX11_saysNumber_c53
    refine J_ild5 dX11_saysNumber_53 ?_
    refine J_ild3 dX11_saysNumber_55 ?_
    refine J_ic_ge 86 dX11_saysNumber_56 rfl ?_ ?_
    · exact J_vret dX11_saysNumber_86 rfl ⟨rfl, rfl, rfl⟩
    · refine J_ald0 dX11_saysNumber_59 ?_
      refine J_bipush (v := 48) dX11_saysNumber_60 rfl ?_
      refine J_ild1 dX11_saysNumber_62 ?_
      refine J_ild4 dX11_saysNumber_63 ?_
      refine J_idiv dX11_saysNumber_65 ?_
      refine J_bipush (v := 10) dX11_saysNumber_66 rfl ?_
      refine J_iremK dX11_saysNumber_68 (by decide) ?_
      refine J_iadd dX11_saysNumber_69 ?_
      refine J_cVV (jX11_says l cx n ((48 : Int32) + ((v1 / v4) - (v1 / v4) / (10 : Int32) * (10 : Int32))) M) ck_RX11_376 dX11_saysNumber_70 rfl kk_207 ⟨rfl, rfl, by decide, by decide⟩ ⟨Nat.zero_le _, Nat.zero_le _, Nat.le_of_ble_eq_true rfl⟩ (fun M2 => ?_)
      refine J_ild4 dX11_saysNumber_73 ?_
      refine J_bipush (v := 10) dX11_saysNumber_75 rfl ?_
      refine J_idivK dX11_saysNumber_77 (by decide) ?_
      refine J_ist4 dX11_saysNumber_78 (by decide) rfl ?_
      refine J_iinc5 (w := (v5 + (1 : Int32))) dX11_saysNumber_80 (by decide) rfl rfl ?_
      refine J_goto 53 dX11_saysNumber_83 rfl ?_
      exact J_wk (wk_s (wk_s (wk_n (wk_s (wk_s (wk_s wk_0)))))) (ih)
set_option maxRecDepth 100000 in
theorem jX11_saysNumber_c27 {l : Launch} {cx : CX} {n : Nat} : ∀ (f : Nat) {v1 : Int32} {v3 : Int32} {v4 : Int32} {M : Mem}, JO l cx ({ frames := 1, cells := 0, slots := 0, locals := 21 } : Room) yX11_saysNumber cX11_saysNumber 6 none 0 0 false 207 218 EV GS 0 0 27 [some (.ref 207), some (.int v1), none, some (.int v3), some (.int v4), none] [] M (mX11_saysNumber_c27 n f v1 v3 v4 M) := by
  intro f
  induction f with
  | zero =>
    intros
    exact J_none
  | succ f ih =>
    intro v1 v3 v4 M
    unfold mX11_saysNumber_c27
    refine J_ild1 dX11_saysNumber_27 ?_
    refine J_ild4 dX11_saysNumber_28 ?_
    refine J_idiv dX11_saysNumber_30 ?_
    refine J_bipush (v := 9) dX11_saysNumber_31 rfl ?_
    refine J_ic_le 50 dX11_saysNumber_33 rfl ?_ ?_
    · refine J_iconst (v := 0) dX11_saysNumber_50 rfl ?_
      refine J_ist5 dX11_saysNumber_51 (by decide) rfl ?_
      exact J_wk (wk_s (wk_s (wk_n (wk_s (wk_s (wk_s wk_0)))))) (jX11_saysNumber_c53 (n := n) n)
    · refine J_ild4 dX11_saysNumber_36 ?_
      refine J_bipush (v := 10) dX11_saysNumber_38 rfl ?_
      refine J_imul dX11_saysNumber_40 ?_
      refine J_ist4 dX11_saysNumber_41 (by decide) rfl ?_
      refine J_ild3 dX11_saysNumber_43 ?_
      refine J_iconst (v := 1) dX11_saysNumber_44 rfl ?_
      refine J_iadd dX11_saysNumber_45 ?_
      refine J_ist3 dX11_saysNumber_46 (by decide) rfl ?_
      refine J_goto 27 dX11_saysNumber_47 rfl ?_
      exact J_wk (wk_s (wk_s (wk_n (wk_s (wk_s (wk_n wk_0)))))) (ih)
set_option maxRecDepth 100000 in
theorem jX11_saysNumber_c8 {l : Launch} {cx : CX} {n : Nat} : ∀ (f : Nat) {v1 : Int32} {v2 : Int32} {v3 : Int32} {v4 : Int32} {v5 : Int32} {M : Mem}, JO l cx ({ frames := 1, cells := 0, slots := 0, locals := 21 } : Room) yX11_saysNumber cX11_saysNumber 6 none 0 0 false 207 218 EV GS 0 0 8 [some (.ref 207), some (.int v1), some (.int v2), some (.int v3), some (.int v4), some (.int v5)] [] M (mX11_saysNumber_c8 n f v1 v2 v3 v4 v5 M) := by
  intro f
  induction f with
  | zero =>
    intros
    exact J_none
  | succ f ih =>
    intro v1 v2 v3 v4 v5 M
    unfold mX11_saysNumber_c8
    refine J_ild5 dX11_saysNumber_8 ?_
    refine J_ild2 dX11_saysNumber_10 ?_
    refine J_ic_ge 27 dX11_saysNumber_11 rfl ?_ ?_
    · exact J_wk (wk_s (wk_s (wk_n (wk_s (wk_s (wk_n wk_0)))))) (jX11_saysNumber_c27 (n := n) n)
    · refine J_ild4 dX11_saysNumber_14 ?_
      refine J_bipush (v := 10) dX11_saysNumber_16 rfl ?_
      refine J_imul dX11_saysNumber_18 ?_
      refine J_ist4 dX11_saysNumber_19 (by decide) rfl ?_
      refine J_iinc5 (w := (v5 + (1 : Int32))) dX11_saysNumber_21 (by decide) rfl rfl ?_
      refine J_goto 8 dX11_saysNumber_24 rfl ?_
      exact J_wk (wk_s (wk_s (wk_s (wk_s (wk_s (wk_s wk_0)))))) (ih)
set_option maxRecDepth 100000 in
theorem jX11_saysNumber (l : Launch) (cx : CX) (n : Nat) (a : Int32) (b : Int32) (M : Mem) : Con l cx ({ frames := 1, cells := 0, slots := 0, locals := 21 } : Room) yX11_saysNumber cX11_saysNumber 6 none 0 0 false 207 218 EV GS [.ref 207, .int a, .int b] M (mX11_saysNumber n a b M) := by
  unfold mX11_saysNumber
  refine Con.of (ls := [some (.ref 207), some (.int a), some (.int b), none, none, none]) (by decide) rfl (Nat.le_of_ble_eq_true rfl) ?_
  refine J_ild2 dX11_saysNumber_0 ?_
  refine J_ist3 dX11_saysNumber_1 (by decide) rfl ?_
  refine J_iconst (v := 1) dX11_saysNumber_2 rfl ?_
  refine J_ist4 dX11_saysNumber_3 (by decide) rfl ?_
  refine J_iconst (v := 1) dX11_saysNumber_5 rfl ?_
  refine J_ist5 dX11_saysNumber_6 (by decide) rfl ?_
  exact J_wk (wk_s (wk_s (wk_s (wk_s (wk_s (wk_s wk_0)))))) (jX11_saysNumber_c8 (n := n) n)
set_option maxRecDepth 100000 in
theorem jX11_saysWord_c3 {l : Launch} {cx : CX} {n : Nat} : ∀ (f : Nat) {v1 : Int64} {v3 : Int32} {M : Mem}, JO l cx ({ frames := 1, cells := 0, slots := 0, locals := 21 } : Room) yX11_saysWord cX11_saysWord 4 none 0 0 false 207 218 EV GS 0 0 3 [some (.ref 207), some (.long v1), none, some (.int v3)] [] M (mX11_saysWord_c3 n f v1 v3 M) := by
  intro f
  induction f with
  | zero =>
    intros
    exact J_none
  | succ f ih =>
    intro v1 v3 M
    unfold mX11_saysWord_c3
    refine J_ild3 dX11_saysWord_3 ?_
    refine J_if_lt 40 dX11_saysWord_4 rfl ?_ ?_
    · exact J_vret dX11_saysWord_40 rfl ⟨rfl, rfl, rfl⟩
    · refine J_lld1 dX11_saysWord_7 ?_
      refine J_iconst (v := 5) dX11_saysWord_8 rfl ?_
      refine J_ild3 dX11_saysWord_9 ?_
      refine J_imul dX11_saysWord_10 ?_
      refine J_lshr dX11_saysWord_11 ?_
      refine J_lconst (v := 0) dX11_saysWord_12 rfl ?_
      refine J_lcmp dX11_saysWord_13 ?_
      refine J_if_le 34 dX11_saysWord_14 rfl ?_ ?_
      · refine J_iinc3 (w := (v3 + (-1 : Int32))) dX11_saysWord_34 (by decide) rfl rfl ?_
        refine J_goto 3 dX11_saysWord_37 rfl ?_
        exact J_wk (wk_s (wk_s (wk_n (wk_s wk_0)))) (ih)
      · refine J_ald0 dX11_saysWord_17 ?_
        refine J_bipush (v := 96) dX11_saysWord_18 rfl ?_
        refine J_lld1 dX11_saysWord_20 ?_
        refine J_iconst (v := 5) dX11_saysWord_21 rfl ?_
        refine J_ild3 dX11_saysWord_22 ?_
        refine J_imul dX11_saysWord_23 ?_
        refine J_lshr dX11_saysWord_24 ?_
        refine J_ldc2 dX11_saysWord_25 wd_80 ?_
        refine J_land dX11_saysWord_28 ?_
        refine J_l2i dX11_saysWord_29 ?_
        refine J_iadd dX11_saysWord_30 ?_
        refine J_cVV (jX11_says l cx n ((96 : Int32) + (Int64.toInt32 ((v1 >>> (Int32.toInt64 ((5 : Int32) * v3) &&& 63)) &&& (31 : Int64)))) M) ck_RX11_376 dX11_saysWord_31 rfl kk_207 ⟨rfl, rfl, by decide, by decide⟩ ⟨Nat.zero_le _, Nat.zero_le _, Nat.le_of_ble_eq_true rfl⟩ (fun M2 => ?_)
        refine J_iinc3 (w := (v3 + (-1 : Int32))) dX11_saysWord_34 (by decide) rfl rfl ?_
        refine J_goto 3 dX11_saysWord_37 rfl ?_
        exact J_wk (wk_s (wk_s (wk_n (wk_s wk_0)))) (ih)
set_option maxRecDepth 100000 in
theorem jX11_saysWord (l : Launch) (cx : CX) (n : Nat) (a : Int64) (M : Mem) : Con l cx ({ frames := 1, cells := 0, slots := 0, locals := 21 } : Room) yX11_saysWord cX11_saysWord 4 none 0 0 false 207 218 EV GS [.ref 207, .long a] M (mX11_saysWord n a M) := by
  unfold mX11_saysWord
  refine Con.of (ls := [some (.ref 207), some (.long a), none, none]) (by decide) rfl (Nat.le_of_ble_eq_true rfl) ?_
  refine J_bipush (v := 7) dX11_saysWord_0 rfl ?_
  refine J_ist3 dX11_saysWord_2 (by decide) rfl ?_
  exact J_wk (wk_s (wk_s (wk_n (wk_s wk_0)))) (jX11_saysWord_c3 (n := n) n)
set_option maxRecDepth 100000 in
theorem jX11_saysDate (l : Launch) (cx : CX) (n : Nat) (a : Int32) (M : Mem) : Con l cx ({ frames := 2, cells := 0, slots := 0, locals := 46 } : Room) yX11_saysDate cX11_saysDate 2 none 0 0 false 207 218 EV GS [.ref 207, .int a] M (mX11_saysDate n a M) := by
  unfold mX11_saysDate
  refine Con.of (ls := [some (.ref 207), some (.int a)]) (by decide) rfl (Nat.le_of_ble_eq_true rfl) ?_
  refine J_ald0 dX11_saysDate_0 ?_
  refine J_ald0 dX11_saysDate_1 ?_
  refine J_ild1 dX11_saysDate_2 ?_
  refine J_iconst (v := 0) dX11_saysDate_3 rfl ?_
  refine J_cVP (jX11_dateOf l cx n a (0 : Int32) M) ck_RX11_76 dX11_saysDate_4 rfl kk_207 ⟨rfl, rfl, by decide, by decide⟩ ⟨Nat.zero_le _, Nat.zero_le _, Nat.le_of_ble_eq_true rfl⟩ (fun r1 => ?_)
  refine J_iconst (v := 4) dX11_saysDate_7 rfl ?_
  refine J_cVV (jX11_saysNumber l cx n r1 (4 : Int32) M) ck_RX11_381 dX11_saysDate_8 rfl kk_207 ⟨rfl, rfl, by decide, by decide⟩ ⟨Nat.zero_le _, Nat.zero_le _, Nat.le_of_ble_eq_true rfl⟩ (fun M3 => ?_)
  refine J_ald0 dX11_saysDate_11 ?_
  refine J_bipush (v := 45) dX11_saysDate_12 rfl ?_
  refine J_cVV (jX11_says l cx n (45 : Int32) M3) ck_RX11_376 dX11_saysDate_14 rfl kk_207 ⟨rfl, rfl, by decide, by decide⟩ ⟨Nat.zero_le _, Nat.zero_le _, Nat.le_of_ble_eq_true rfl⟩ (fun M5 => ?_)
  refine J_ald0 dX11_saysDate_17 ?_
  refine J_ald0 dX11_saysDate_18 ?_
  refine J_ild1 dX11_saysDate_19 ?_
  refine J_iconst (v := 1) dX11_saysDate_20 rfl ?_
  refine J_cVP (jX11_dateOf l cx n a (1 : Int32) M5) ck_RX11_76 dX11_saysDate_21 rfl kk_207 ⟨rfl, rfl, by decide, by decide⟩ ⟨Nat.zero_le _, Nat.zero_le _, Nat.le_of_ble_eq_true rfl⟩ (fun r6 => ?_)
  refine J_iconst (v := 2) dX11_saysDate_24 rfl ?_
  refine J_cVV (jX11_saysNumber l cx n r6 (2 : Int32) M5) ck_RX11_381 dX11_saysDate_25 rfl kk_207 ⟨rfl, rfl, by decide, by decide⟩ ⟨Nat.zero_le _, Nat.zero_le _, Nat.le_of_ble_eq_true rfl⟩ (fun M8 => ?_)
  refine J_ald0 dX11_saysDate_28 ?_
  refine J_bipush (v := 45) dX11_saysDate_29 rfl ?_
  refine J_cVV (jX11_says l cx n (45 : Int32) M8) ck_RX11_376 dX11_saysDate_31 rfl kk_207 ⟨rfl, rfl, by decide, by decide⟩ ⟨Nat.zero_le _, Nat.zero_le _, Nat.le_of_ble_eq_true rfl⟩ (fun M10 => ?_)
  refine J_ald0 dX11_saysDate_34 ?_
  refine J_ald0 dX11_saysDate_35 ?_
  refine J_ild1 dX11_saysDate_36 ?_
  refine J_iconst (v := 2) dX11_saysDate_37 rfl ?_
  refine J_cVP (jX11_dateOf l cx n a (2 : Int32) M10) ck_RX11_76 dX11_saysDate_38 rfl kk_207 ⟨rfl, rfl, by decide, by decide⟩ ⟨Nat.zero_le _, Nat.zero_le _, Nat.le_of_ble_eq_true rfl⟩ (fun r11 => ?_)
  refine J_iconst (v := 2) dX11_saysDate_41 rfl ?_
  refine J_cVV (jX11_saysNumber l cx n r11 (2 : Int32) M10) ck_RX11_381 dX11_saysDate_42 rfl kk_207 ⟨rfl, rfl, by decide, by decide⟩ ⟨Nat.zero_le _, Nat.zero_le _, Nat.le_of_ble_eq_true rfl⟩ (fun M13 => ?_)
  exact J_vret dX11_saysDate_45 rfl ⟨rfl, rfl, rfl⟩
set_option maxRecDepth 100000 in
theorem jX11_kindWord (l : Launch) (cx : CX) (n : Nat) (a : Int32) (M : Mem) : Con l cx ({ frames := 0, cells := 0, slots := 0, locals := 0 } : Room) yX11_kindWord cX11_kindWord 1 (some .long) 0 0 false 207 218 (EL M) GS [.int a] M (mX11_kindWord a) := by
  unfold mX11_kindWord
  refine Con.of (ls := [some (.int a)]) (by decide) rfl (Nat.le_of_ble_eq_true rfl) ?_
  refine J_ild0 dX11_kindWord_0 ?_
  refine J_if_ne 10 dX11_kindWord_1 rfl ?_ ?_
  · refine J_ild0 dX11_kindWord_10 ?_
    refine J_iconst (v := 1) dX11_kindWord_11 rfl ?_
    refine J_ic_ne 21 dX11_kindWord_12 rfl ?_ ?_
    · refine J_ild0 dX11_kindWord_21 ?_
      refine J_iconst (v := 2) dX11_kindWord_22 rfl ?_
      refine J_ic_ne 32 dX11_kindWord_23 rfl ?_ ?_
      · refine J_ild0 dX11_kindWord_32 ?_
        refine J_iconst (v := 3) dX11_kindWord_33 rfl ?_
        refine J_ic_ne 43 dX11_kindWord_34 rfl ?_ ?_
        · refine J_ild0 dX11_kindWord_43 ?_
          refine J_iconst (v := 4) dX11_kindWord_44 rfl ?_
          refine J_ic_ne 54 dX11_kindWord_45 rfl ?_ ?_
          · refine J_ldc2 dX11_kindWord_54 wd_59 ?_
            exact J_lret dX11_kindWord_57 rfl ⟨rfl, rfl, rfl⟩
          · refine J_ldc2 dX11_kindWord_48 wd_81 ?_
            refine J_goto 57 dX11_kindWord_51 rfl ?_
            exact J_lret dX11_kindWord_57 rfl ⟨rfl, rfl, rfl⟩
        · refine J_ldc2 dX11_kindWord_37 wd_75 ?_
          refine J_goto 57 dX11_kindWord_40 rfl ?_
          exact J_lret dX11_kindWord_57 rfl ⟨rfl, rfl, rfl⟩
      · refine J_ldc2 dX11_kindWord_26 wd_82 ?_
        refine J_goto 57 dX11_kindWord_29 rfl ?_
        exact J_lret dX11_kindWord_57 rfl ⟨rfl, rfl, rfl⟩
    · refine J_ldc2 dX11_kindWord_15 wd_83 ?_
      refine J_goto 57 dX11_kindWord_18 rfl ?_
      exact J_lret dX11_kindWord_57 rfl ⟨rfl, rfl, rfl⟩
  · refine J_ldc2 dX11_kindWord_4 wd_84 ?_
    refine J_goto 57 dX11_kindWord_7 rfl ?_
    exact J_lret dX11_kindWord_57 rfl ⟨rfl, rfl, rfl⟩
set_option maxRecDepth 100000 in
theorem jX11_laysLine_c140 {l : Launch} {cx : CX} {n : Nat} {s0 : Int32} {M : Mem} : JO l cx ({ frames := 3, cells := 0, slots := 0, locals := 67 } : Room) yX11_laysLine cX11_laysLine 4 none 0 0 false 207 218 EV GS 0 0 140 [some (.ref 207), none, none, none] [.int s0] M (mX11_laysLine_c140 n s0 M) := by
  unfold mX11_laysLine_c140
  refine J_ist3 dX11_laysLine_140 (by decide) rfl ?_
  refine J_ald0 dX11_laysLine_141 ?_
  refine J_ild3 dX11_laysLine_142 ?_
  refine J_bipush (v := 100) dX11_laysLine_143 rfl ?_
  refine J_idivK dX11_laysLine_145 (by decide) ?_
  refine J_iconst (v := 1) dX11_laysLine_146 rfl ?_
  refine J_cVV (jX11_saysNumber l cx n (s0 / (100 : Int32)) (1 : Int32) M) ck_RX11_381 dX11_laysLine_147 rfl kk_207 ⟨rfl, rfl, by decide, by decide⟩ ⟨Nat.zero_le _, Nat.zero_le _, Nat.le_of_ble_eq_true rfl⟩ (fun M2 => ?_)
  refine J_ald0 dX11_laysLine_150 ?_
  refine J_bipush (v := 46) dX11_laysLine_151 rfl ?_
  refine J_cVV (jX11_says l cx n (46 : Int32) M2) ck_RX11_376 dX11_laysLine_153 rfl kk_207 ⟨rfl, rfl, by decide, by decide⟩ ⟨Nat.zero_le _, Nat.zero_le _, Nat.le_of_ble_eq_true rfl⟩ (fun M4 => ?_)
  refine J_ald0 dX11_laysLine_156 ?_
  refine J_ild3 dX11_laysLine_157 ?_
  refine J_bipush (v := 100) dX11_laysLine_158 rfl ?_
  refine J_iremK dX11_laysLine_160 (by decide) ?_
  refine J_iconst (v := 2) dX11_laysLine_161 rfl ?_
  refine J_cVV (jX11_saysNumber l cx n (s0 - s0 / (100 : Int32) * (100 : Int32)) (2 : Int32) M4) ck_RX11_381 dX11_laysLine_162 rfl kk_207 ⟨rfl, rfl, by decide, by decide⟩ ⟨Nat.zero_le _, Nat.zero_le _, Nat.le_of_ble_eq_true rfl⟩ (fun M6 => ?_)
  exact J_vret dX11_laysLine_165 rfl ⟨rfl, rfl, rfl⟩
set_option maxRecDepth 100000 in
theorem jX11_laysLine (l : Launch) (cx : CX) (n : Nat) (a : Int32) (M : Mem) : Con l cx ({ frames := 3, cells := 0, slots := 0, locals := 67 } : Room) yX11_laysLine cX11_laysLine 4 none 0 0 false 207 218 EV GS [.ref 207, .int a] M (mX11_laysLine n a M) := by
  unfold mX11_laysLine
  refine Con.of (ls := [some (.ref 207), some (.int a), none, none]) (by decide) rfl (Nat.le_of_ble_eq_true rfl) ?_
  refine J_ald0 dX11_laysLine_0 ?_
  refine J_iconst (v := 0) dX11_laysLine_1 rfl ?_
  refine J_puti fl_RX11_373 dX11_laysLine_2 kk_207 rfl (by decide) ?_
  refine J_ald0 dX11_laysLine_5 ?_
  refine J_bipush (v := 80) dX11_laysLine_6 rfl ?_
  refine J_cVV (jX11_says l cx n (80 : Int32) (upd2 M 207 19 (0 : Int32))) ck_RX11_376 dX11_laysLine_8 rfl kk_207 ⟨rfl, rfl, by decide, by decide⟩ ⟨Nat.zero_le _, Nat.zero_le _, Nat.le_of_ble_eq_true rfl⟩ (fun M8 => ?_)
  refine J_ald0 dX11_laysLine_11 ?_
  refine J_ald0 dX11_laysLine_12 ?_
  refine J_ild1 dX11_laysLine_13 ?_
  refine J_iconst (v := 3) dX11_laysLine_14 rfl ?_
  refine J_cVP (jX11_entryOf l cx n a (3 : Int32) M8) ck_RX11_219 dX11_laysLine_15 rfl kk_207 ⟨rfl, rfl, by decide, by decide⟩ ⟨Nat.zero_le _, Nat.zero_le _, Nat.le_of_ble_eq_true rfl⟩ (fun r9 => ?_)
  refine J_iconst (v := 1) dX11_laysLine_18 rfl ?_
  refine J_cVV (jX11_saysNumber l cx n r9 (1 : Int32) M8) ck_RX11_381 dX11_laysLine_19 rfl kk_207 ⟨rfl, rfl, by decide, by decide⟩ ⟨Nat.zero_le _, Nat.zero_le _, Nat.le_of_ble_eq_true rfl⟩ (fun M11 => ?_)
  refine J_ald0 dX11_laysLine_22 ?_
  refine J_bipush (v := 32) dX11_laysLine_23 rfl ?_
  refine J_cVV (jX11_says l cx n (32 : Int32) M11) ck_RX11_376 dX11_laysLine_25 rfl kk_207 ⟨rfl, rfl, by decide, by decide⟩ ⟨Nat.zero_le _, Nat.zero_le _, Nat.le_of_ble_eq_true rfl⟩ (fun M13 => ?_)
  refine J_ald0 dX11_laysLine_28 ?_
  refine J_ald0 dX11_laysLine_29 ?_
  refine J_ild1 dX11_laysLine_30 ?_
  refine J_iconst (v := 4) dX11_laysLine_31 rfl ?_
  refine J_cVP (jX11_entryOf l cx n a (4 : Int32) M13) ck_RX11_219 dX11_laysLine_32 rfl kk_207 ⟨rfl, rfl, by decide, by decide⟩ ⟨Nat.zero_le _, Nat.zero_le _, Nat.le_of_ble_eq_true rfl⟩ (fun r14 => ?_)
  refine J_cVV (jX11_saysDate l cx n r14 M13) ck_RX11_392 dX11_laysLine_35 rfl kk_207 ⟨rfl, rfl, by decide, by decide⟩ ⟨Nat.zero_le _, Nat.zero_le _, Nat.le_of_ble_eq_true rfl⟩ (fun M16 => ?_)
  refine J_ald0 dX11_laysLine_38 ?_
  refine J_bipush (v := 32) dX11_laysLine_39 rfl ?_
  refine J_cVV (jX11_says l cx n (32 : Int32) M16) ck_RX11_376 dX11_laysLine_41 rfl kk_207 ⟨rfl, rfl, by decide, by decide⟩ ⟨Nat.zero_le _, Nat.zero_le _, Nat.le_of_ble_eq_true rfl⟩ (fun M18 => ?_)
  refine J_ald0 dX11_laysLine_44 ?_
  refine J_ldc2 dX11_laysLine_45 wd_85 ?_
  refine J_cVV (jX11_saysWord l cx n (655 : Int64) M18) ck_RX11_397 dX11_laysLine_48 rfl kk_207 ⟨rfl, rfl, by decide, by decide⟩ ⟨Nat.zero_le _, Nat.zero_le _, Nat.le_of_ble_eq_true rfl⟩ (fun M20 => ?_)
  refine J_ald0 dX11_laysLine_51 ?_
  refine J_bipush (v := 32) dX11_laysLine_52 rfl ?_
  refine J_cVV (jX11_says l cx n (32 : Int32) M20) ck_RX11_376 dX11_laysLine_54 rfl kk_207 ⟨rfl, rfl, by decide, by decide⟩ ⟨Nat.zero_le _, Nat.zero_le _, Nat.le_of_ble_eq_true rfl⟩ (fun M22 => ?_)
  refine J_ald0 dX11_laysLine_57 ?_
  refine J_ald0 dX11_laysLine_58 ?_
  refine J_ild1 dX11_laysLine_59 ?_
  refine J_iconst (v := 5) dX11_laysLine_60 rfl ?_
  refine J_cVP (jX11_entryOf l cx n a (5 : Int32) M22) ck_RX11_219 dX11_laysLine_61 rfl kk_207 ⟨rfl, rfl, by decide, by decide⟩ ⟨Nat.zero_le _, Nat.zero_le _, Nat.le_of_ble_eq_true rfl⟩ (fun r23 => ?_)
  refine J_cVV (jX11_saysDate l cx n r23 M22) ck_RX11_392 dX11_laysLine_64 rfl kk_207 ⟨rfl, rfl, by decide, by decide⟩ ⟨Nat.zero_le _, Nat.zero_le _, Nat.le_of_ble_eq_true rfl⟩ (fun M25 => ?_)
  refine J_ald0 dX11_laysLine_67 ?_
  refine J_bipush (v := 32) dX11_laysLine_68 rfl ?_
  refine J_cVV (jX11_says l cx n (32 : Int32) M25) ck_RX11_376 dX11_laysLine_70 rfl kk_207 ⟨rfl, rfl, by decide, by decide⟩ ⟨Nat.zero_le _, Nat.zero_le _, Nat.le_of_ble_eq_true rfl⟩ (fun M27 => ?_)
  refine J_ald0 dX11_laysLine_73 ?_
  refine J_bipush (v := 65) dX11_laysLine_74 rfl ?_
  refine J_ald0 dX11_laysLine_76 ?_
  refine J_ild1 dX11_laysLine_77 ?_
  refine J_bipush (v := 6) dX11_laysLine_78 rfl ?_
  refine J_cVP (jX11_entryOf l cx n a (6 : Int32) M27) ck_RX11_219 dX11_laysLine_80 rfl kk_207 ⟨rfl, rfl, by decide, by decide⟩ ⟨Nat.zero_le _, Nat.zero_le _, Nat.le_of_ble_eq_true rfl⟩ (fun r28 => ?_)
  refine J_iadd dX11_laysLine_83 ?_
  refine J_cVV (jX11_says l cx n ((65 : Int32) + r28) M27) ck_RX11_376 dX11_laysLine_84 rfl kk_207 ⟨rfl, rfl, by decide, by decide⟩ ⟨Nat.zero_le _, Nat.zero_le _, Nat.le_of_ble_eq_true rfl⟩ (fun M30 => ?_)
  refine J_ald0 dX11_laysLine_87 ?_
  refine J_bipush (v := 32) dX11_laysLine_88 rfl ?_
  refine J_cVV (jX11_says l cx n (32 : Int32) M30) ck_RX11_376 dX11_laysLine_90 rfl kk_207 ⟨rfl, rfl, by decide, by decide⟩ ⟨Nat.zero_le _, Nat.zero_le _, Nat.le_of_ble_eq_true rfl⟩ (fun M32 => ?_)
  refine J_ald0 dX11_laysLine_93 ?_
  refine J_ald0 dX11_laysLine_94 ?_
  refine J_ild1 dX11_laysLine_95 ?_
  refine J_iconst (v := 0) dX11_laysLine_96 rfl ?_
  refine J_cVP (jX11_entryOf l cx n a (0 : Int32) M32) ck_RX11_219 dX11_laysLine_97 rfl kk_207 ⟨rfl, rfl, by decide, by decide⟩ ⟨Nat.zero_le _, Nat.zero_le _, Nat.le_of_ble_eq_true rfl⟩ (fun r33 => ?_)
  refine J_cSL (jX11_kindWord l cx n r33 M32) ck_RX11_401 dX11_laysLine_100 rfl ⟨rfl, rfl, by decide, by decide⟩ ⟨Nat.zero_le _, Nat.zero_le _, Nat.le_of_ble_eq_true rfl⟩ (fun r34 => ?_)
  refine J_cVV (jX11_saysWord l cx n r34 M32) ck_RX11_397 dX11_laysLine_103 rfl kk_207 ⟨rfl, rfl, by decide, by decide⟩ ⟨Nat.zero_le _, Nat.zero_le _, Nat.le_of_ble_eq_true rfl⟩ (fun M36 => ?_)
  refine J_ald0 dX11_laysLine_106 ?_
  refine J_bipush (v := 32) dX11_laysLine_107 rfl ?_
  refine J_cVV (jX11_says l cx n (32 : Int32) M36) ck_RX11_376 dX11_laysLine_109 rfl kk_207 ⟨rfl, rfl, by decide, by decide⟩ ⟨Nat.zero_le _, Nat.zero_le _, Nat.le_of_ble_eq_true rfl⟩ (fun M38 => ?_)
  refine J_ald0 dX11_laysLine_112 ?_
  refine J_ild1 dX11_laysLine_113 ?_
  refine J_bipush (v := 7) dX11_laysLine_114 rfl ?_
  refine J_cVP (jX11_entryOf l cx n a (7 : Int32) M38) ck_RX11_219 dX11_laysLine_116 rfl kk_207 ⟨rfl, rfl, by decide, by decide⟩ ⟨Nat.zero_le _, Nat.zero_le _, Nat.le_of_ble_eq_true rfl⟩ (fun r39 => ?_)
  refine J_ist2 dX11_laysLine_119 (by decide) rfl ?_
  refine J_ild2 dX11_laysLine_120 ?_
  refine J_if_ge 130 dX11_laysLine_121 rfl ?_ ?_
  · refine J_ild2 dX11_laysLine_130 ?_
    refine J_if_ge 139 dX11_laysLine_131 rfl ?_ ?_
    · refine J_ild2 dX11_laysLine_139 ?_
      exact J_wk (wk_s (wk_n (wk_n (wk_n wk_0)))) (jX11_laysLine_c140 (n := n))
    · refine J_ild2 dX11_laysLine_134 ?_
      refine J_ineg dX11_laysLine_135 ?_
      refine J_goto 140 dX11_laysLine_136 rfl ?_
      exact J_wk (wk_s (wk_n (wk_n (wk_n wk_0)))) (jX11_laysLine_c140 (n := n))
  · refine J_ald0 dX11_laysLine_124 ?_
    refine J_bipush (v := 45) dX11_laysLine_125 rfl ?_
    refine J_cVV (jX11_says l cx n (45 : Int32) M38) ck_RX11_376 dX11_laysLine_127 rfl kk_207 ⟨rfl, rfl, by decide, by decide⟩ ⟨Nat.zero_le _, Nat.zero_le _, Nat.le_of_ble_eq_true rfl⟩ (fun M41 => ?_)
    refine J_ild2 dX11_laysLine_130 ?_
    refine J_if_ge 139 dX11_laysLine_131 rfl ?_ ?_
    · refine J_ild2 dX11_laysLine_139 ?_
      exact J_wk (wk_s (wk_n (wk_n (wk_n wk_0)))) (jX11_laysLine_c140 (n := n))
    · refine J_ild2 dX11_laysLine_134 ?_
      refine J_ineg dX11_laysLine_135 ?_
      refine J_goto 140 dX11_laysLine_136 rfl ?_
      exact J_wk (wk_s (wk_n (wk_n (wk_n wk_0)))) (jX11_laysLine_c140 (n := n))
set_option maxRecDepth 100000 in
theorem jX11_line (l : Launch) (cx : CX) (n : Nat) (a : Int32) (b : Int32) (M : Mem) : Con l cx ({ frames := 4, cells := 0, slots := 0, locals := 90 } : Room) yX11_line cX11_line 3 (some .int) 0 0 false 207 218 EI GS [.ref 207, .int a, .int b] M (mX11_line n a b M) := by
  unfold mX11_line
  refine Con.of (ls := [some (.ref 207), some (.int a), some (.int b)]) (by decide) rfl (Nat.le_of_ble_eq_true rfl) ?_
  refine J_ald0 dX11_line_0 ?_
  refine J_ild1 dX11_line_1 ?_
  refine J_cVB (jX11_isEntry l cx n a M) ck_RX11_268 dX11_line_2 rfl kk_207 ⟨rfl, rfl, by decide, by decide⟩ ⟨Nat.zero_le _, Nat.zero_le _, Nat.le_of_ble_eq_true rfl⟩ (fun r1 z2 => ?_)
  refine J_if_ne 10 dX11_line_5 rfl ?_ ?_
  · refine J_ild2 dX11_line_10 ?_
    refine J_iconst (v := -1) dX11_line_11 rfl ?_
    refine J_ic_ge 18 dX11_line_12 rfl ?_ ?_
    · refine J_ald0 dX11_line_18 ?_
      refine J_ild1 dX11_line_19 ?_
      refine J_cVV (jX11_laysLine l cx n a M) ck_RX11_405 dX11_line_20 rfl kk_207 ⟨rfl, rfl, by decide, by decide⟩ ⟨Nat.zero_le _, Nat.zero_le _, Nat.le_of_ble_eq_true rfl⟩ (fun M4 => ?_)
      refine J_ild2 dX11_line_23 ?_
      refine J_iconst (v := -1) dX11_line_24 rfl ?_
      refine J_ic_ne 33 dX11_line_25 rfl ?_ ?_
      · refine J_ild2 dX11_line_33 ?_
        refine J_ald0 dX11_line_34 ?_
        refine J_geti fl_RX11_373 dX11_line_35 kk_207 rfl ?_
        refine J_ic_ge 50 dX11_line_38 rfl ?_ ?_
        · refine J_bipush (v := -4) dX11_line_50 rfl ?_
          exact J_iret dX11_line_52 rfl ⟨rfl, rfl, rfl⟩
        · refine J_ald0 dX11_line_41 ?_
          refine J_getr (q := 216) fl_RX11_36 dX11_line_42 kk_207 rfl (rf_11_18 kk_207) ?_
          refine J_ild2 dX11_line_45 ?_
          refine J_bald dX11_line_46 kk_216 rfl ?_
          refine J_goto 52 dX11_line_47 rfl ?_
          exact J_iret dX11_line_52 rfl ⟨rfl, rfl, rfl⟩
      · refine J_ald0 dX11_line_28 ?_
        refine J_geti fl_RX11_373 dX11_line_29 kk_207 rfl ?_
        exact J_iret dX11_line_32 rfl ⟨rfl, rfl, rfl⟩
    · refine J_bipush (v := -9) dX11_line_15 rfl ?_
      exact J_iret dX11_line_17 rfl ⟨rfl, rfl, rfl⟩
  · refine J_iconst (v := -1) dX11_line_8 rfl ?_
    exact J_iret dX11_line_9 rfl ⟨rfl, rfl, rfl⟩
set_option maxRecDepth 100000 in
theorem jX11_late (l : Launch) (cx : CX) (n : Nat) (a : Int32) (b : Int32) (M : Mem) : Con l cx ({ frames := 3, cells := 0, slots := 0, locals := 69 } : Room) yX11_late cX11_late 3 (some .int) 0 0 false 207 218 EI GS [.ref 207, .int a, .int b] M (mX11_late n a b M) := by
  unfold mX11_late
  refine Con.of (ls := [some (.ref 207), some (.int a), some (.int b)]) (by decide) rfl (Nat.le_of_ble_eq_true rfl) ?_
  refine J_ald0 dX11_late_0 ?_
  refine J_ild1 dX11_late_1 ?_
  refine J_cVB (jX11_isBegun l cx n a M) ck_RX11_216 dX11_late_2 rfl kk_207 ⟨rfl, rfl, by decide, by decide⟩ ⟨Nat.zero_le _, Nat.zero_le _, Nat.le_of_ble_eq_true rfl⟩ (fun r1 z2 => ?_)
  refine J_if_eq 33 dX11_late_5 rfl ?_ ?_
  · refine J_ldc dX11_late_33 wd_63 ?_
    exact J_iret dX11_late_35 rfl ⟨rfl, rfl, rfl⟩
  · refine J_ild2 dX11_late_8 ?_
    refine J_ald0 dX11_late_9 ?_
    refine J_getr (q := 209) fl_RX11_13 dX11_late_10 kk_207 rfl (rf_11_1 kk_207) ?_
    refine J_iconst (v := 0) dX11_late_13 rfl ?_
    refine J_iald dX11_late_14 kk_209 rfl ?_
    refine J_sipush (v := 3652) dX11_late_15 rfl ?_
    refine J_cSB (jX11_in l cx n b (M 209 (Int32.toNatClampNeg (0 : Int32))) (3652 : Int32) M) ck_RX11_56 dX11_late_18 rfl ⟨rfl, rfl, by decide, by decide⟩ ⟨Nat.zero_le _, Nat.zero_le _, Nat.le_of_ble_eq_true rfl⟩ (fun r3 z4 => ?_)
    refine J_if_eq 33 dX11_late_21 rfl ?_ ?_
    · refine J_ldc dX11_late_33 wd_63 ?_
      exact J_iret dX11_late_35 rfl ⟨rfl, rfl, rfl⟩
    · refine J_ald0 dX11_late_24 ?_
      refine J_ild1 dX11_late_25 ?_
      refine J_ild2 dX11_late_26 ?_
      refine J_cVI (jX11_lateOn l cx n a b M) ck_RX11_414 dX11_late_27 rfl kk_207 ⟨rfl, rfl, by decide, by decide⟩ ⟨Nat.zero_le _, Nat.zero_le _, Nat.le_of_ble_eq_true rfl⟩ (fun r5 M6 => ?_)
      refine J_goto 35 dX11_late_30 rfl ?_
      exact J_iret dX11_late_35 rfl ⟨rfl, rfl, rfl⟩
set_option maxRecDepth 100000 in
theorem jX11_open (l : Launch) (cx : CX) (n : Nat) (a : Int32) (M : Mem) : Con l cx ({ frames := 2, cells := 0, slots := 0, locals := 45 } : Room) yX11_open cX11_open 2 (some .int) 0 0 false 207 218 EI GS [.ref 207, .int a] M (mX11_open n a M) := by
  unfold mX11_open
  refine Con.of (ls := [some (.ref 207), some (.int a)]) (by decide) rfl (Nat.le_of_ble_eq_true rfl) ?_
  refine J_ald0 dX11_open_0 ?_
  refine J_ild1 dX11_open_1 ?_
  refine J_cVB (jX11_isEntry l cx n a M) ck_RX11_268 dX11_open_2 rfl kk_207 ⟨rfl, rfl, by decide, by decide⟩ ⟨Nat.zero_le _, Nat.zero_le _, Nat.le_of_ble_eq_true rfl⟩ (fun r1 z2 => ?_)
  refine J_if_ne 11 dX11_open_5 rfl ?_ ?_
  · refine J_ald0 dX11_open_11 ?_
    refine J_ald0 dX11_open_12 ?_
    refine J_ild1 dX11_open_13 ?_
    refine J_iconst (v := 1) dX11_open_14 rfl ?_
    refine J_cVP (jX11_entryOf l cx n a (1 : Int32) M) ck_RX11_219 dX11_open_15 rfl kk_207 ⟨rfl, rfl, by decide, by decide⟩ ⟨Nat.zero_le _, Nat.zero_le _, Nat.le_of_ble_eq_true rfl⟩ (fun r3 => ?_)
    refine J_cVV (jX11_covers l cx n r3 M) ck_RX11_411 dX11_open_18 rfl kk_207 ⟨rfl, rfl, by decide, by decide⟩ ⟨Nat.zero_le _, Nat.zero_le _, Nat.le_of_ble_eq_true rfl⟩ (fun M5 => ?_)
    refine J_ald0 dX11_open_21 ?_
    refine J_getr (q := 217) fl_RX11_39 dX11_open_22 kk_207 rfl (rf_11_20 kk_207) ?_
    refine J_ild1 dX11_open_25 ?_
    refine J_iald dX11_open_26 kk_217 rfl ?_
    exact J_iret dX11_open_27 rfl ⟨rfl, rfl, rfl⟩
  · refine J_ldc dX11_open_8 wd_63 ?_
    exact J_iret dX11_open_10 rfl ⟨rfl, rfl, rfl⟩
set_option maxRecDepth 100000 in
theorem jX11_owes_c36 {l : Launch} {cx : CX} {n : Nat} : ∀ (f : Nat) {v2 : Int32} {v3 : Int32} {v4 : Int32} {v5 : Int32} {v6 : Int32} {M : Mem}, JO l cx ({ frames := 3, cells := 0, slots := 0, locals := 63 } : Room) yX11_owes cX11_owes 7 (some .int) 0 0 false 207 218 EI GS 0 0 36 [some (.ref 207), none, some (.int v2), some (.int v3), some (.int v4), some (.int v5), some (.int v6)] [] M (mX11_owes_c36 n f v2 v3 v4 v5 v6 M) := by
  intro f
  induction f with
  | zero =>
    intros
    exact J_none
  | succ f ih =>
    intro v2 v3 v4 v5 v6 M
    unfold mX11_owes_c36
    refine J_ild6 dX11_owes_36 ?_
    refine J_ald0 dX11_owes_38 ?_
    refine J_getr (q := 209) fl_RX11_13 dX11_owes_39 kk_207 rfl (rf_11_1 kk_207) ?_
    refine J_iconst (v := 1) dX11_owes_42 rfl ?_
    refine J_iald dX11_owes_43 kk_209 rfl ?_
    refine J_ic_ge 91 dX11_owes_44 rfl ?_ ?_
    · refine J_ild2 dX11_owes_91 ?_
      refine J_if_ne 99 dX11_owes_92 rfl ?_ ?_
      · refine J_ild2 dX11_owes_99 ?_
        refine J_iconst (v := 1) dX11_owes_100 rfl ?_
        refine J_ic_ne 109 dX11_owes_101 rfl ?_ ?_
        · refine J_ild2 dX11_owes_109 ?_
          refine J_iconst (v := 2) dX11_owes_110 rfl ?_
          refine J_ic_ne 119 dX11_owes_111 rfl ?_ ?_
          · refine J_ald0 dX11_owes_119 ?_
            refine J_geti fl_RX11_408 dX11_owes_120 kk_207 rfl ?_
            exact J_iret dX11_owes_123 rfl ⟨rfl, rfl, rfl⟩
          · refine J_ild5 dX11_owes_114 ?_
            refine J_goto 123 dX11_owes_116 rfl ?_
            exact J_iret dX11_owes_123 rfl ⟨rfl, rfl, rfl⟩
        · refine J_ild4 dX11_owes_104 ?_
          refine J_goto 123 dX11_owes_106 rfl ?_
          exact J_iret dX11_owes_123 rfl ⟨rfl, rfl, rfl⟩
      · refine J_ild3 dX11_owes_95 ?_
        refine J_goto 123 dX11_owes_96 rfl ?_
        exact J_iret dX11_owes_123 rfl ⟨rfl, rfl, rfl⟩
    · refine J_ald0 dX11_owes_47 ?_
      refine J_getr (q := 217) fl_RX11_39 dX11_owes_48 kk_207 rfl (rf_11_20 kk_207) ?_
      refine J_ild6 dX11_owes_51 ?_
      refine J_iald dX11_owes_53 kk_217 rfl ?_
      refine J_if_ne 60 dX11_owes_54 rfl ?_ ?_
      · refine J_ild3 dX11_owes_60 ?_
        refine J_iconst (v := 1) dX11_owes_61 rfl ?_
        refine J_iadd dX11_owes_62 ?_
        refine J_ist3 dX11_owes_63 (by decide) rfl ?_
        refine J_ild4 dX11_owes_64 ?_
        refine J_if_ge 73 dX11_owes_66 rfl ?_ ?_
        · refine J_ild5 dX11_owes_73 ?_
          refine J_ald0 dX11_owes_75 ?_
          refine J_getr (q := 217) fl_RX11_39 dX11_owes_76 kk_207 rfl (rf_11_20 kk_207) ?_
          refine J_ild6 dX11_owes_79 ?_
          refine J_iald dX11_owes_81 kk_217 rfl ?_
          refine J_iadd dX11_owes_82 ?_
          refine J_ist5 dX11_owes_83 (by decide) rfl ?_
          refine J_iinc6 (w := (v6 + (1 : Int32))) dX11_owes_85 (by decide) rfl rfl ?_
          refine J_goto 36 dX11_owes_88 rfl ?_
          exact J_wk (wk_s (wk_n (wk_s (wk_s (wk_s (wk_s (wk_s wk_0))))))) (ih)
        · refine J_ild6 dX11_owes_69 ?_
          refine J_ist4 dX11_owes_71 (by decide) rfl ?_
          refine J_ild5 dX11_owes_73 ?_
          refine J_ald0 dX11_owes_75 ?_
          refine J_getr (q := 217) fl_RX11_39 dX11_owes_76 kk_207 rfl (rf_11_20 kk_207) ?_
          refine J_ild6 dX11_owes_79 ?_
          refine J_iald dX11_owes_81 kk_217 rfl ?_
          refine J_iadd dX11_owes_82 ?_
          refine J_ist5 dX11_owes_83 (by decide) rfl ?_
          refine J_iinc6 (w := (v6 + (1 : Int32))) dX11_owes_85 (by decide) rfl rfl ?_
          refine J_goto 36 dX11_owes_88 rfl ?_
          exact J_wk (wk_s (wk_n (wk_s (wk_s (wk_s (wk_s (wk_s wk_0))))))) (ih)
      · refine J_goto 85 dX11_owes_57 rfl ?_
        refine J_iinc6 (w := (v6 + (1 : Int32))) dX11_owes_85 (by decide) rfl rfl ?_
        refine J_goto 36 dX11_owes_88 rfl ?_
        exact J_wk (wk_s (wk_n (wk_s (wk_s (wk_s (wk_s (wk_s wk_0))))))) (ih)
set_option maxRecDepth 100000 in
theorem jX11_owes (l : Launch) (cx : CX) (n : Nat) (a : Int32) (b : Int32) (M : Mem) : Con l cx ({ frames := 3, cells := 0, slots := 0, locals := 63 } : Room) yX11_owes cX11_owes 7 (some .int) 0 0 false 207 218 EI GS [.ref 207, .int a, .int b] M (mX11_owes n a b M) := by
  unfold mX11_owes
  refine Con.of (ls := [some (.ref 207), some (.int a), some (.int b), none, none, none, none]) (by decide) rfl (Nat.le_of_ble_eq_true rfl) ?_
  refine J_ald0 dX11_owes_0 ?_
  refine J_ild1 dX11_owes_1 ?_
  refine J_cVB (jX11_isBegun l cx n a M) ck_RX11_216 dX11_owes_2 rfl kk_207 ⟨rfl, rfl, by decide, by decide⟩ ⟨Nat.zero_le _, Nat.zero_le _, Nat.le_of_ble_eq_true rfl⟩ (fun r1 z2 => ?_)
  refine J_if_eq 17 dX11_owes_5 rfl ?_ ?_
  · refine J_iconst (v := -1) dX11_owes_17 rfl ?_
    exact J_iret dX11_owes_18 rfl ⟨rfl, rfl, rfl⟩
  · refine J_ild2 dX11_owes_8 ?_
    refine J_iconst (v := 0) dX11_owes_9 rfl ?_
    refine J_iconst (v := 3) dX11_owes_10 rfl ?_
    refine J_cSB (jX11_in l cx n b (0 : Int32) (3 : Int32) M) ck_RX11_56 dX11_owes_11 rfl ⟨rfl, rfl, by decide, by decide⟩ ⟨Nat.zero_le _, Nat.zero_le _, Nat.le_of_ble_eq_true rfl⟩ (fun r3 z4 => ?_)
    refine J_if_ne 19 dX11_owes_14 rfl ?_ ?_
    · refine J_ald0 dX11_owes_19 ?_
      refine J_ild1 dX11_owes_20 ?_
      refine J_cVV (jX11_covers l cx n a M) ck_RX11_411 dX11_owes_21 rfl kk_207 ⟨rfl, rfl, by decide, by decide⟩ ⟨Nat.zero_le _, Nat.zero_le _, Nat.le_of_ble_eq_true rfl⟩ (fun M6 => ?_)
      refine J_iconst (v := 0) dX11_owes_24 rfl ?_
      refine J_ist3 dX11_owes_25 (by decide) rfl ?_
      refine J_bipush (v := -2) dX11_owes_26 rfl ?_
      refine J_ist4 dX11_owes_28 (by decide) rfl ?_
      refine J_iconst (v := 0) dX11_owes_30 rfl ?_
      refine J_ist5 dX11_owes_31 (by decide) rfl ?_
      refine J_iconst (v := 0) dX11_owes_33 rfl ?_
      refine J_ist6 dX11_owes_34 (by decide) rfl ?_
      exact J_wk (wk_s (wk_n (wk_s (wk_s (wk_s (wk_s (wk_s wk_0))))))) (jX11_owes_c36 (n := n) n)
    · refine J_iconst (v := -1) dX11_owes_17 rfl ?_
      exact J_iret dX11_owes_18 rfl ⟨rfl, rfl, rfl⟩
set_option maxRecDepth 100000 in
theorem jX11_earnedOf (l : Launch) (cx : CX) (n : Nat) (a : Int32) (b : Int32) (M : Mem) : Con l cx ({ frames := 1, cells := 0, slots := 0, locals := 22 } : Room) yX11_earnedOf cX11_earnedOf 5 (some .int) 0 0 false 207 218 (EP M) GS [.ref 207, .int a, .int b] M (mX11_earnedOf a b M) := by
  unfold mX11_earnedOf
  refine Con.of (ls := [some (.ref 207), some (.int a), some (.int b), none, none]) (by decide) rfl (Nat.le_of_ble_eq_true rfl) ?_
  refine J_ald0 dX11_earnedOf_0 ?_
  refine J_ild1 dX11_earnedOf_1 ?_
  refine J_iconst (v := 4) dX11_earnedOf_2 rfl ?_
  refine J_cVP (jX11_entryOf l cx n a (4 : Int32) M) ck_RX11_219 dX11_earnedOf_3 rfl kk_207 ⟨rfl, rfl, by decide, by decide⟩ ⟨Nat.zero_le _, Nat.zero_le _, Nat.le_of_ble_eq_true rfl⟩ (fun r1 => ?_)
  refine J_ist3 dX11_earnedOf_6 (by decide) rfl ?_
  refine J_ald0 dX11_earnedOf_7 ?_
  refine J_ild1 dX11_earnedOf_8 ?_
  refine J_iconst (v := 5) dX11_earnedOf_9 rfl ?_
  refine J_cVP (jX11_entryOf l cx n a (5 : Int32) M) ck_RX11_219 dX11_earnedOf_10 rfl kk_207 ⟨rfl, rfl, by decide, by decide⟩ ⟨Nat.zero_le _, Nat.zero_le _, Nat.le_of_ble_eq_true rfl⟩ (fun r2 => ?_)
  refine J_ild3 dX11_earnedOf_13 ?_
  refine J_isub dX11_earnedOf_14 ?_
  refine J_ist4 dX11_earnedOf_15 (by decide) rfl ?_
  refine J_ald0 dX11_earnedOf_17 ?_
  refine J_ild1 dX11_earnedOf_18 ?_
  refine J_iconst (v := 0) dX11_earnedOf_19 rfl ?_
  refine J_cVP (jX11_entryOf l cx n a (0 : Int32) M) ck_RX11_219 dX11_earnedOf_20 rfl kk_207 ⟨rfl, rfl, by decide, by decide⟩ ⟨Nat.zero_le _, Nat.zero_le _, Nat.le_of_ble_eq_true rfl⟩ (fun r3 => ?_)
  refine J_iconst (v := 1) dX11_earnedOf_23 rfl ?_
  refine J_ic_gt 32 dX11_earnedOf_24 rfl ?_ ?_
  · refine J_ald0 dX11_earnedOf_32 ?_
    refine J_ild1 dX11_earnedOf_33 ?_
    refine J_iconst (v := 2) dX11_earnedOf_34 rfl ?_
    refine J_cVP (jX11_entryOf l cx n a (2 : Int32) M) ck_RX11_219 dX11_earnedOf_35 rfl kk_207 ⟨rfl, rfl, by decide, by decide⟩ ⟨Nat.zero_le _, Nat.zero_le _, Nat.le_of_ble_eq_true rfl⟩ (fun r4 => ?_)
    refine J_ild2 dX11_earnedOf_38 ?_
    refine J_ic_ge 52 dX11_earnedOf_39 rfl ?_ ?_
    · refine J_iconst (v := 0) dX11_earnedOf_52 rfl ?_
      exact J_iret dX11_earnedOf_53 rfl ⟨rfl, rfl, rfl⟩
    · refine J_ald0 dX11_earnedOf_42 ?_
      refine J_ild1 dX11_earnedOf_43 ?_
      refine J_bipush (v := 7) dX11_earnedOf_44 rfl ?_
      refine J_cVP (jX11_entryOf l cx n a (7 : Int32) M) ck_RX11_219 dX11_earnedOf_46 rfl kk_207 ⟨rfl, rfl, by decide, by decide⟩ ⟨Nat.zero_le _, Nat.zero_le _, Nat.le_of_ble_eq_true rfl⟩ (fun r5 => ?_)
      refine J_goto 53 dX11_earnedOf_49 rfl ?_
      exact J_iret dX11_earnedOf_53 rfl ⟨rfl, rfl, rfl⟩
  · refine J_ild4 dX11_earnedOf_27 ?_
    refine J_if_ne 54 dX11_earnedOf_29 rfl ?_ ?_
    · refine J_ald0 dX11_earnedOf_54 ?_
      refine J_ild1 dX11_earnedOf_55 ?_
      refine J_bipush (v := 7) dX11_earnedOf_56 rfl ?_
      refine J_cVP (jX11_entryOf l cx n a (7 : Int32) M) ck_RX11_219 dX11_earnedOf_58 rfl kk_207 ⟨rfl, rfl, by decide, by decide⟩ ⟨Nat.zero_le _, Nat.zero_le _, Nat.le_of_ble_eq_true rfl⟩ (fun r6 => ?_)
      refine J_i2l dX11_earnedOf_61 ?_
      refine J_iconst (v := 0) dX11_earnedOf_62 rfl ?_
      refine J_ild4 dX11_earnedOf_63 ?_
      refine J_ild2 dX11_earnedOf_65 ?_
      refine J_ild3 dX11_earnedOf_66 ?_
      refine J_isub dX11_earnedOf_67 ?_
      refine J_cSP (jX11_min l cx n (r2 - r1) (b - r1) M) ck_RX11_46 dX11_earnedOf_68 rfl ⟨rfl, rfl, by decide, by decide⟩ ⟨Nat.zero_le _, Nat.zero_le _, Nat.le_of_ble_eq_true rfl⟩ (fun r7 => ?_)
      refine J_cSP (jX11_max l cx n (0 : Int32) r7 M) ck_RX11_203 dX11_earnedOf_71 rfl ⟨rfl, rfl, by decide, by decide⟩ ⟨Nat.zero_le _, Nat.zero_le _, Nat.le_of_ble_eq_true rfl⟩ (fun r8 => ?_)
      refine J_i2l dX11_earnedOf_74 ?_
      refine J_lmul dX11_earnedOf_75 ?_
      refine J_ild4 dX11_earnedOf_76 ?_
      refine J_i2l dX11_earnedOf_78 ?_
      refine J_ldiv dX11_earnedOf_79 ?_
      refine J_l2i dX11_earnedOf_80 ?_
      exact J_iret dX11_earnedOf_81 rfl ⟨rfl, rfl, rfl⟩
    · refine J_ald0 dX11_earnedOf_32 ?_
      refine J_ild1 dX11_earnedOf_33 ?_
      refine J_iconst (v := 2) dX11_earnedOf_34 rfl ?_
      refine J_cVP (jX11_entryOf l cx n a (2 : Int32) M) ck_RX11_219 dX11_earnedOf_35 rfl kk_207 ⟨rfl, rfl, by decide, by decide⟩ ⟨Nat.zero_le _, Nat.zero_le _, Nat.le_of_ble_eq_true rfl⟩ (fun r9 => ?_)
      refine J_ild2 dX11_earnedOf_38 ?_
      refine J_ic_ge 52 dX11_earnedOf_39 rfl ?_ ?_
      · refine J_iconst (v := 0) dX11_earnedOf_52 rfl ?_
        exact J_iret dX11_earnedOf_53 rfl ⟨rfl, rfl, rfl⟩
      · refine J_ald0 dX11_earnedOf_42 ?_
        refine J_ild1 dX11_earnedOf_43 ?_
        refine J_bipush (v := 7) dX11_earnedOf_44 rfl ?_
        refine J_cVP (jX11_entryOf l cx n a (7 : Int32) M) ck_RX11_219 dX11_earnedOf_46 rfl kk_207 ⟨rfl, rfl, by decide, by decide⟩ ⟨Nat.zero_le _, Nat.zero_le _, Nat.le_of_ble_eq_true rfl⟩ (fun r10 => ?_)
        refine J_goto 53 dX11_earnedOf_49 rfl ?_
        exact J_iret dX11_earnedOf_53 rfl ⟨rfl, rfl, rfl⟩
set_option maxRecDepth 100000 in
theorem jX11_earned_c27 {l : Launch} {cx : CX} {n : Nat} {M : Mem} : ∀ (f : Nat) {v1 : Int32} {v2 : Int32} {v3 : Int32} {v4 : Int32}, JO l cx ({ frames := 3, cells := 0, slots := 0, locals := 63 } : Room) yX11_earned cX11_earned 5 (some .int) 0 0 false 207 218 (EP M) GS 0 0 27 [some (.ref 207), some (.int v1), some (.int v2), some (.int v3), some (.int v4)] [] M (mX11_earned_c27 n f v1 v2 v3 v4 M) := by
  intro f
  induction f with
  | zero =>
    intros
    exact J_none
  | succ f ih =>
    intro v1 v2 v3 v4
    unfold mX11_earned_c27
    refine J_ild4 dX11_earned_27 ?_
    refine J_ald0 dX11_earned_29 ?_
    refine J_getr (q := 209) fl_RX11_13 dX11_earned_30 kk_207 rfl (rf_11_1 kk_207) ?_
    refine J_iconst (v := 1) dX11_earned_33 rfl ?_
    refine J_iald dX11_earned_34 kk_209 rfl ?_
    refine J_ic_ge 65 dX11_earned_35 rfl ?_ ?_
    · refine J_ild3 dX11_earned_65 ?_
      exact J_iret dX11_earned_66 rfl ⟨rfl, rfl, rfl⟩
    · refine J_ald0 dX11_earned_38 ?_
      refine J_ild4 dX11_earned_39 ?_
      refine J_iconst (v := 1) dX11_earned_41 rfl ?_
      refine J_cVP (jX11_entryOf l cx n v4 (1 : Int32) M) ck_RX11_219 dX11_earned_42 rfl kk_207 ⟨rfl, rfl, by decide, by decide⟩ ⟨Nat.zero_le _, Nat.zero_le _, Nat.le_of_ble_eq_true rfl⟩ (fun r1 => ?_)
      refine J_ild1 dX11_earned_45 ?_
      refine J_ic_ne 59 dX11_earned_46 rfl ?_ ?_
      · refine J_iinc4 (w := (v4 + (1 : Int32))) dX11_earned_59 (by decide) rfl rfl ?_
        refine J_goto 27 dX11_earned_62 rfl ?_
        exact J_wk (wk_s (wk_s (wk_s (wk_s (wk_s wk_0))))) (ih)
      · refine J_ild3 dX11_earned_49 ?_
        refine J_ald0 dX11_earned_50 ?_
        refine J_ild4 dX11_earned_51 ?_
        refine J_ild2 dX11_earned_53 ?_
        refine J_cVP (jX11_earnedOf l cx n v4 v2 M) ck_RX11_422 dX11_earned_54 rfl kk_207 ⟨rfl, rfl, by decide, by decide⟩ ⟨Nat.zero_le _, Nat.zero_le _, Nat.le_of_ble_eq_true rfl⟩ (fun r2 => ?_)
        refine J_iadd dX11_earned_57 ?_
        refine J_ist3 dX11_earned_58 (by decide) rfl ?_
        refine J_iinc4 (w := (v4 + (1 : Int32))) dX11_earned_59 (by decide) rfl rfl ?_
        refine J_goto 27 dX11_earned_62 rfl ?_
        exact J_wk (wk_s (wk_s (wk_s (wk_s (wk_s wk_0))))) (ih)
set_option maxRecDepth 100000 in
theorem jX11_earned (l : Launch) (cx : CX) (n : Nat) (a : Int32) (b : Int32) (M : Mem) : Con l cx ({ frames := 3, cells := 0, slots := 0, locals := 63 } : Room) yX11_earned cX11_earned 5 (some .int) 0 0 false 207 218 (EP M) GS [.ref 207, .int a, .int b] M (mX11_earned n a b M) := by
  unfold mX11_earned
  refine Con.of (ls := [some (.ref 207), some (.int a), some (.int b), none, none]) (by decide) rfl (Nat.le_of_ble_eq_true rfl) ?_
  refine J_ald0 dX11_earned_0 ?_
  refine J_ild1 dX11_earned_1 ?_
  refine J_cVB (jX11_isBegun l cx n a M) ck_RX11_216 dX11_earned_2 rfl kk_207 ⟨rfl, rfl, by decide, by decide⟩ ⟨Nat.zero_le _, Nat.zero_le _, Nat.le_of_ble_eq_true rfl⟩ (fun r3 z4 => ?_)
  refine J_if_eq 19 dX11_earned_5 rfl ?_ ?_
  · refine J_ldc dX11_earned_19 wd_63 ?_
    exact J_iret dX11_earned_21 rfl ⟨rfl, rfl, rfl⟩
  · refine J_ild2 dX11_earned_8 ?_
    refine J_iconst (v := 0) dX11_earned_9 rfl ?_
    refine J_sipush (v := 3653) dX11_earned_10 rfl ?_
    refine J_cSB (jX11_in l cx n b (0 : Int32) (3653 : Int32) M) ck_RX11_56 dX11_earned_13 rfl ⟨rfl, rfl, by decide, by decide⟩ ⟨Nat.zero_le _, Nat.zero_le _, Nat.le_of_ble_eq_true rfl⟩ (fun r5 z6 => ?_)
    refine J_if_ne 22 dX11_earned_16 rfl ?_ ?_
    · refine J_iconst (v := 0) dX11_earned_22 rfl ?_
      refine J_ist3 dX11_earned_23 (by decide) rfl ?_
      refine J_iconst (v := 0) dX11_earned_24 rfl ?_
      refine J_ist4 dX11_earned_25 (by decide) rfl ?_
      exact J_wk (wk_s (wk_s (wk_s (wk_s (wk_s wk_0))))) (jX11_earned_c27 (n := n) n)
    · refine J_ldc dX11_earned_19 wd_63 ?_
      exact J_iret dX11_earned_21 rfl ⟨rfl, rfl, rfl⟩
set_option maxRecDepth 100000 in
theorem jX11_written_c27 {l : Launch} {cx : CX} {n : Nat} {M : Mem} : ∀ (f : Nat) {v1 : Int32} {v2 : Int32} {v3 : Int32} {v4 : Int32}, JO l cx ({ frames := 2, cells := 0, slots := 0, locals := 42 } : Room) yX11_written cX11_written 5 (some .int) 0 0 false 207 218 (EP M) GS 0 0 27 [some (.ref 207), some (.int v1), some (.int v2), some (.int v3), some (.int v4)] [] M (mX11_written_c27 n f v1 v2 v3 v4 M) := by
  intro f
  induction f with
  | zero =>
    intros
    exact J_none
  | succ f ih =>
    intro v1 v2 v3 v4
    unfold mX11_written_c27
    refine J_ild4 dX11_written_27 ?_
    refine J_ald0 dX11_written_29 ?_
    refine J_getr (q := 209) fl_RX11_13 dX11_written_30 kk_207 rfl (rf_11_1 kk_207) ?_
    refine J_iconst (v := 1) dX11_written_33 rfl ?_
    refine J_iald dX11_written_34 kk_209 rfl ?_
    refine J_ic_ge 70 dX11_written_35 rfl ?_ ?_
    · refine J_ild3 dX11_written_70 ?_
      exact J_iret dX11_written_71 rfl ⟨rfl, rfl, rfl⟩
    · refine J_ald0 dX11_written_38 ?_
      refine J_ild4 dX11_written_39 ?_
      refine J_iconst (v := 2) dX11_written_41 rfl ?_
      refine J_cVP (jX11_entryOf l cx n v4 (2 : Int32) M) ck_RX11_219 dX11_written_42 rfl kk_207 ⟨rfl, rfl, by decide, by decide⟩ ⟨Nat.zero_le _, Nat.zero_le _, Nat.le_of_ble_eq_true rfl⟩ (fun r1 => ?_)
      refine J_ild1 dX11_written_45 ?_
      refine J_ild2 dX11_written_46 ?_
      refine J_cSB (jX11_in l cx n r1 v1 v2 M) ck_RX11_56 dX11_written_47 rfl ⟨rfl, rfl, by decide, by decide⟩ ⟨Nat.zero_le _, Nat.zero_le _, Nat.le_of_ble_eq_true rfl⟩ (fun r2 z3 => ?_)
      refine J_if_eq 64 dX11_written_50 rfl ?_ ?_
      · refine J_iinc4 (w := (v4 + (1 : Int32))) dX11_written_64 (by decide) rfl rfl ?_
        refine J_goto 27 dX11_written_67 rfl ?_
        exact J_wk (wk_s (wk_s (wk_s (wk_s (wk_s wk_0))))) (ih)
      · refine J_ild3 dX11_written_53 ?_
        refine J_ald0 dX11_written_54 ?_
        refine J_ild4 dX11_written_55 ?_
        refine J_bipush (v := 7) dX11_written_57 rfl ?_
        refine J_cVP (jX11_entryOf l cx n v4 (7 : Int32) M) ck_RX11_219 dX11_written_59 rfl kk_207 ⟨rfl, rfl, by decide, by decide⟩ ⟨Nat.zero_le _, Nat.zero_le _, Nat.le_of_ble_eq_true rfl⟩ (fun r4 => ?_)
        refine J_iadd dX11_written_62 ?_
        refine J_ist3 dX11_written_63 (by decide) rfl ?_
        refine J_iinc4 (w := (v4 + (1 : Int32))) dX11_written_64 (by decide) rfl rfl ?_
        refine J_goto 27 dX11_written_67 rfl ?_
        exact J_wk (wk_s (wk_s (wk_s (wk_s (wk_s wk_0))))) (ih)
set_option maxRecDepth 100000 in
theorem jX11_written (l : Launch) (cx : CX) (n : Nat) (a : Int32) (b : Int32) (M : Mem) : Con l cx ({ frames := 2, cells := 0, slots := 0, locals := 42 } : Room) yX11_written cX11_written 5 (some .int) 0 0 false 207 218 (EP M) GS [.ref 207, .int a, .int b] M (mX11_written n a b M) := by
  unfold mX11_written
  refine Con.of (ls := [some (.ref 207), some (.int a), some (.int b), none, none]) (by decide) rfl (Nat.le_of_ble_eq_true rfl) ?_
  refine J_ild1 dX11_written_0 ?_
  refine J_cSB (jX11_isDay l cx n a M) ck_RX11_64 dX11_written_1 rfl ⟨rfl, rfl, by decide, by decide⟩ ⟨Nat.zero_le _, Nat.zero_le _, Nat.le_of_ble_eq_true rfl⟩ (fun r5 z6 => ?_)
  refine J_if_eq 19 dX11_written_4 rfl ?_ ?_
  · refine J_ldc dX11_written_19 wd_63 ?_
    exact J_iret dX11_written_21 rfl ⟨rfl, rfl, rfl⟩
  · refine J_ild2 dX11_written_7 ?_
    refine J_cSB (jX11_isDay l cx n b M) ck_RX11_64 dX11_written_8 rfl ⟨rfl, rfl, by decide, by decide⟩ ⟨Nat.zero_le _, Nat.zero_le _, Nat.le_of_ble_eq_true rfl⟩ (fun r7 z8 => ?_)
    refine J_if_eq 19 dX11_written_11 rfl ?_ ?_
    · refine J_ldc dX11_written_19 wd_63 ?_
      exact J_iret dX11_written_21 rfl ⟨rfl, rfl, rfl⟩
    · refine J_ild1 dX11_written_14 ?_
      refine J_ild2 dX11_written_15 ?_
      refine J_ic_le 22 dX11_written_16 rfl ?_ ?_
      · refine J_iconst (v := 0) dX11_written_22 rfl ?_
        refine J_ist3 dX11_written_23 (by decide) rfl ?_
        refine J_iconst (v := 0) dX11_written_24 rfl ?_
        refine J_ist4 dX11_written_25 (by decide) rfl ?_
        exact J_wk (wk_s (wk_s (wk_s (wk_s (wk_s wk_0))))) (jX11_written_c27 (n := n) n)
      · refine J_ldc dX11_written_19 wd_63 ?_
        exact J_iret dX11_written_21 rfl ⟨rfl, rfl, rfl⟩
set_option maxRecDepth 100000 in
theorem jX11_rateOn_c4 {l : Launch} {cx : CX} {n : Nat} {M : Mem} : ∀ (f : Nat) {v1 : Int32} {v2 : Int32} {v3 : Int32}, JO l cx ({ frames := 0, cells := 0, slots := 0, locals := 0 } : Room) yX11_rateOn cX11_rateOn 4 (some .int) 0 0 false 207 218 (EP M) GS 0 0 4 [some (.ref 207), some (.int v1), some (.int v2), some (.int v3)] [] M (mX11_rateOn_c4 n f v1 v2 v3 M) := by
  intro f
  induction f with
  | zero =>
    intros
    exact J_none
  | succ f ih =>
    intro v1 v2 v3
    unfold mX11_rateOn_c4
    refine J_ild3 dX11_rateOn_4 ?_
    refine J_ald0 dX11_rateOn_5 ?_
    refine J_getr (q := 209) fl_RX11_13 dX11_rateOn_6 kk_207 rfl (rf_11_1 kk_207) ?_
    refine J_bipush (v := 6) dX11_rateOn_9 rfl ?_
    refine J_iald dX11_rateOn_11 kk_209 rfl ?_
    refine J_ic_ge 44 dX11_rateOn_12 rfl ?_ ?_
    · refine J_ild2 dX11_rateOn_44 ?_
      exact J_iret dX11_rateOn_45 rfl ⟨rfl, rfl, rfl⟩
    · refine J_ald0 dX11_rateOn_15 ?_
      refine J_getr (q := 209) fl_RX11_13 dX11_rateOn_16 kk_207 rfl (rf_11_1 kk_207) ?_
      refine J_bipush (v := 7) dX11_rateOn_19 rfl ?_
      refine J_ild3 dX11_rateOn_21 ?_
      refine J_iadd dX11_rateOn_22 ?_
      refine J_iald dX11_rateOn_23 kk_209 rfl ?_
      refine J_ild1 dX11_rateOn_24 ?_
      refine J_ic_gt 38 dX11_rateOn_25 rfl ?_ ?_
      · refine J_iinc3 (w := (v3 + (1 : Int32))) dX11_rateOn_38 (by decide) rfl rfl ?_
        refine J_goto 4 dX11_rateOn_41 rfl ?_
        exact J_wk (wk_s (wk_s (wk_s (wk_s wk_0)))) (ih)
      · refine J_ald0 dX11_rateOn_28 ?_
        refine J_getr (q := 209) fl_RX11_13 dX11_rateOn_29 kk_207 rfl (rf_11_1 kk_207) ?_
        refine J_bipush (v := 11) dX11_rateOn_32 rfl ?_
        refine J_ild3 dX11_rateOn_34 ?_
        refine J_iadd dX11_rateOn_35 ?_
        refine J_iald dX11_rateOn_36 kk_209 rfl ?_
        refine J_ist2 dX11_rateOn_37 (by decide) rfl ?_
        refine J_iinc3 (w := (v3 + (1 : Int32))) dX11_rateOn_38 (by decide) rfl rfl ?_
        refine J_goto 4 dX11_rateOn_41 rfl ?_
        exact J_wk (wk_s (wk_s (wk_s (wk_s wk_0)))) (ih)
set_option maxRecDepth 100000 in
theorem jX11_rateOn (l : Launch) (cx : CX) (n : Nat) (a : Int32) (M : Mem) : Con l cx ({ frames := 0, cells := 0, slots := 0, locals := 0 } : Room) yX11_rateOn cX11_rateOn 4 (some .int) 0 0 false 207 218 (EP M) GS [.ref 207, .int a] M (mX11_rateOn n a M) := by
  unfold mX11_rateOn
  refine Con.of (ls := [some (.ref 207), some (.int a), none, none]) (by decide) rfl (Nat.le_of_ble_eq_true rfl) ?_
  refine J_iconst (v := 0) dX11_rateOn_0 rfl ?_
  refine J_ist2 dX11_rateOn_1 (by decide) rfl ?_
  refine J_iconst (v := 0) dX11_rateOn_2 rfl ?_
  refine J_ist3 dX11_rateOn_3 (by decide) rfl ?_
  exact J_wk (wk_s (wk_s (wk_s (wk_s wk_0)))) (jX11_rateOn_c4 (n := n) n)
set_option maxRecDepth 100000 in
theorem jX11_taxAhead_c6 {l : Launch} {cx : CX} {n : Nat} {M : Mem} : ∀ (f : Nat) {v1 : Int32} {v2 : Int32} {v3 : Int32} {v4 : Int64} {v6 : Int32}, JO l cx ({ frames := 1, cells := 0, slots := 0, locals := 23 } : Room) yX11_taxAhead cX11_taxAhead 7 (some .int) 0 0 false 207 218 (EP M) GS 0 0 6 [some (.ref 207), some (.int v1), some (.int v2), some (.int v3), some (.long v4), none, some (.int v6)] [] M (mX11_taxAhead_c6 n f v1 v2 v3 v4 v6 M) := by
  intro f
  induction f with
  | zero =>
    intros
    exact J_none
  | succ f ih =>
    intro v1 v2 v3 v4 v6
    unfold mX11_taxAhead_c6
    refine J_ild6 dX11_taxAhead_6 ?_
    refine J_ild3 dX11_taxAhead_8 ?_
    refine J_ic_ge 58 dX11_taxAhead_9 rfl ?_ ?_
    · refine J_lld4 dX11_taxAhead_58 ?_
      refine J_ild2 dX11_taxAhead_60 ?_
      refine J_i2l dX11_taxAhead_61 ?_
      refine J_lmul dX11_taxAhead_62 ?_
      refine J_ldc2 dX11_taxAhead_63 wd_79 ?_
      refine J_ldivK dX11_taxAhead_66 (by decide) ?_
      refine J_l2i dX11_taxAhead_67 ?_
      exact J_iret dX11_taxAhead_68 rfl ⟨rfl, rfl, rfl⟩
    · refine J_ald0 dX11_taxAhead_12 ?_
      refine J_ild6 dX11_taxAhead_13 ?_
      refine J_iconst (v := 1) dX11_taxAhead_15 rfl ?_
      refine J_cVP (jX11_entryOf l cx n v6 (1 : Int32) M) ck_RX11_219 dX11_taxAhead_16 rfl kk_207 ⟨rfl, rfl, by decide, by decide⟩ ⟨Nat.zero_le _, Nat.zero_le _, Nat.le_of_ble_eq_true rfl⟩ (fun r1 => ?_)
      refine J_ild1 dX11_taxAhead_19 ?_
      refine J_ic_ne 52 dX11_taxAhead_20 rfl ?_ ?_
      · refine J_iinc6 (w := (v6 + (1 : Int32))) dX11_taxAhead_52 (by decide) rfl rfl ?_
        refine J_goto 6 dX11_taxAhead_55 rfl ?_
        exact J_wk (wk_s (wk_s (wk_s (wk_s (wk_s (wk_n (wk_s wk_0))))))) (ih)
      · refine J_ald0 dX11_taxAhead_23 ?_
        refine J_ald0 dX11_taxAhead_24 ?_
        refine J_ild6 dX11_taxAhead_25 ?_
        refine J_iconst (v := 2) dX11_taxAhead_27 rfl ?_
        refine J_cVP (jX11_entryOf l cx n v6 (2 : Int32) M) ck_RX11_219 dX11_taxAhead_28 rfl kk_207 ⟨rfl, rfl, by decide, by decide⟩ ⟨Nat.zero_le _, Nat.zero_le _, Nat.le_of_ble_eq_true rfl⟩ (fun r2 => ?_)
        refine J_cVP (jX11_rateOn l cx n r2 M) ck_RX11_425 dX11_taxAhead_31 rfl kk_207 ⟨rfl, rfl, by decide, by decide⟩ ⟨Nat.zero_le _, Nat.zero_le _, Nat.le_of_ble_eq_true rfl⟩ (fun r3 => ?_)
        refine J_ild2 dX11_taxAhead_34 ?_
        refine J_ic_ne 52 dX11_taxAhead_35 rfl ?_ ?_
        · refine J_iinc6 (w := (v6 + (1 : Int32))) dX11_taxAhead_52 (by decide) rfl rfl ?_
          refine J_goto 6 dX11_taxAhead_55 rfl ?_
          exact J_wk (wk_s (wk_s (wk_s (wk_s (wk_s (wk_n (wk_s wk_0))))))) (ih)
        · refine J_lld4 dX11_taxAhead_38 ?_
          refine J_ald0 dX11_taxAhead_40 ?_
          refine J_ild6 dX11_taxAhead_41 ?_
          refine J_bipush (v := 7) dX11_taxAhead_43 rfl ?_
          refine J_cVP (jX11_entryOf l cx n v6 (7 : Int32) M) ck_RX11_219 dX11_taxAhead_45 rfl kk_207 ⟨rfl, rfl, by decide, by decide⟩ ⟨Nat.zero_le _, Nat.zero_le _, Nat.le_of_ble_eq_true rfl⟩ (fun r4 => ?_)
          refine J_i2l dX11_taxAhead_48 ?_
          refine J_ladd dX11_taxAhead_49 ?_
          refine J_lst4 dX11_taxAhead_50 (by decide) rfl ?_
          refine J_iinc6 (w := (v6 + (1 : Int32))) dX11_taxAhead_52 (by decide) rfl rfl ?_
          refine J_goto 6 dX11_taxAhead_55 rfl ?_
          exact J_wk (wk_s (wk_s (wk_s (wk_s (wk_s (wk_n (wk_s wk_0))))))) (ih)
set_option maxRecDepth 100000 in
theorem jX11_taxAhead (l : Launch) (cx : CX) (n : Nat) (a : Int32) (b : Int32) (c : Int32) (M : Mem) : Con l cx ({ frames := 1, cells := 0, slots := 0, locals := 23 } : Room) yX11_taxAhead cX11_taxAhead 7 (some .int) 0 0 false 207 218 (EP M) GS [.ref 207, .int a, .int b, .int c] M (mX11_taxAhead n a b c M) := by
  unfold mX11_taxAhead
  refine Con.of (ls := [some (.ref 207), some (.int a), some (.int b), some (.int c), none, none, none]) (by decide) rfl (Nat.le_of_ble_eq_true rfl) ?_
  refine J_lconst (v := 0) dX11_taxAhead_0 rfl ?_
  refine J_lst4 dX11_taxAhead_1 (by decide) rfl ?_
  refine J_iconst (v := 0) dX11_taxAhead_3 rfl ?_
  refine J_ist6 dX11_taxAhead_4 (by decide) rfl ?_
  exact J_wk (wk_s (wk_s (wk_s (wk_s (wk_s (wk_n (wk_s wk_0))))))) (jX11_taxAhead_c6 (n := n) n)
set_option maxRecDepth 100000 in
theorem jX11_tax (l : Launch) (cx : CX) (n : Nat) (a : Int32) (M : Mem) : Con l cx ({ frames := 2, cells := 0, slots := 0, locals := 49 } : Room) yX11_tax cX11_tax 4 (some .int) 0 0 false 207 218 (EP M) GS [.ref 207, .int a] M (mX11_tax n a M) := by
  unfold mX11_tax
  refine Con.of (ls := [some (.ref 207), some (.int a), none, none]) (by decide) rfl (Nat.le_of_ble_eq_true rfl) ?_
  refine J_ald0 dX11_tax_0 ?_
  refine J_ild1 dX11_tax_1 ?_
  refine J_cVB (jX11_isEntry l cx n a M) ck_RX11_268 dX11_tax_2 rfl kk_207 ⟨rfl, rfl, by decide, by decide⟩ ⟨Nat.zero_le _, Nat.zero_le _, Nat.le_of_ble_eq_true rfl⟩ (fun r1 z2 => ?_)
  refine J_if_ne 11 dX11_tax_5 rfl ?_ ?_
  · refine J_ald0 dX11_tax_11 ?_
    refine J_ild1 dX11_tax_12 ?_
    refine J_iconst (v := 1) dX11_tax_13 rfl ?_
    refine J_cVP (jX11_entryOf l cx n a (1 : Int32) M) ck_RX11_219 dX11_tax_14 rfl kk_207 ⟨rfl, rfl, by decide, by decide⟩ ⟨Nat.zero_le _, Nat.zero_le _, Nat.le_of_ble_eq_true rfl⟩ (fun r3 => ?_)
    refine J_ist2 dX11_tax_17 (by decide) rfl ?_
    refine J_ald0 dX11_tax_18 ?_
    refine J_ald0 dX11_tax_19 ?_
    refine J_ild1 dX11_tax_20 ?_
    refine J_iconst (v := 2) dX11_tax_21 rfl ?_
    refine J_cVP (jX11_entryOf l cx n a (2 : Int32) M) ck_RX11_219 dX11_tax_22 rfl kk_207 ⟨rfl, rfl, by decide, by decide⟩ ⟨Nat.zero_le _, Nat.zero_le _, Nat.le_of_ble_eq_true rfl⟩ (fun r4 => ?_)
    refine J_cVP (jX11_rateOn l cx n r4 M) ck_RX11_425 dX11_tax_25 rfl kk_207 ⟨rfl, rfl, by decide, by decide⟩ ⟨Nat.zero_le _, Nat.zero_le _, Nat.le_of_ble_eq_true rfl⟩ (fun r5 => ?_)
    refine J_ist3 dX11_tax_28 (by decide) rfl ?_
    refine J_ald0 dX11_tax_29 ?_
    refine J_ild2 dX11_tax_30 ?_
    refine J_ild3 dX11_tax_31 ?_
    refine J_ild1 dX11_tax_32 ?_
    refine J_iconst (v := 1) dX11_tax_33 rfl ?_
    refine J_iadd dX11_tax_34 ?_
    refine J_cVP (jX11_taxAhead l cx n r3 r5 (a + (1 : Int32)) M) ck_RX11_428 dX11_tax_35 rfl kk_207 ⟨rfl, rfl, by decide, by decide⟩ ⟨Nat.zero_le _, Nat.zero_le _, Nat.le_of_ble_eq_true rfl⟩ (fun r6 => ?_)
    refine J_ald0 dX11_tax_38 ?_
    refine J_ild2 dX11_tax_39 ?_
    refine J_ild3 dX11_tax_40 ?_
    refine J_ild1 dX11_tax_41 ?_
    refine J_cVP (jX11_taxAhead l cx n r3 r5 a M) ck_RX11_428 dX11_tax_42 rfl kk_207 ⟨rfl, rfl, by decide, by decide⟩ ⟨Nat.zero_le _, Nat.zero_le _, Nat.le_of_ble_eq_true rfl⟩ (fun r7 => ?_)
    refine J_isub dX11_tax_45 ?_
    exact J_iret dX11_tax_46 rfl ⟨rfl, rfl, rfl⟩
  · refine J_ldc dX11_tax_8 wd_63 ?_
    exact J_iret dX11_tax_10 rfl ⟨rfl, rfl, rfl⟩
set_option maxRecDepth 100000 in
theorem jX11_taxes (l : Launch) (cx : CX) (n : Nat) (a : Int32) (b : Int32) (M : Mem) : Con l cx ({ frames := 3, cells := 0, slots := 0, locals := 63 } : Room) yX11_taxes cX11_taxes 3 (some .int) 0 0 false 207 218 (EP M) GS [.ref 207, .int a, .int b] M (mX11_taxes n a b M) := by
  unfold mX11_taxes
  refine Con.of (ls := [some (.ref 207), some (.int a), some (.int b)]) (by decide) rfl (Nat.le_of_ble_eq_true rfl) ?_
  refine J_ald0 dX11_taxes_0 ?_
  refine J_ild1 dX11_taxes_1 ?_
  refine J_cVB (jX11_isBegun l cx n a M) ck_RX11_216 dX11_taxes_2 rfl kk_207 ⟨rfl, rfl, by decide, by decide⟩ ⟨Nat.zero_le _, Nat.zero_le _, Nat.le_of_ble_eq_true rfl⟩ (fun r1 z2 => ?_)
  refine J_if_eq 33 dX11_taxes_5 rfl ?_ ?_
  · refine J_ldc dX11_taxes_33 wd_63 ?_
    exact J_iret dX11_taxes_35 rfl ⟨rfl, rfl, rfl⟩
  · refine J_ild2 dX11_taxes_8 ?_
    refine J_iconst (v := 0) dX11_taxes_9 rfl ?_
    refine J_bipush (v := 100) dX11_taxes_10 rfl ?_
    refine J_cSB (jX11_in l cx n b (0 : Int32) (100 : Int32) M) ck_RX11_56 dX11_taxes_12 rfl ⟨rfl, rfl, by decide, by decide⟩ ⟨Nat.zero_le _, Nat.zero_le _, Nat.le_of_ble_eq_true rfl⟩ (fun r3 z4 => ?_)
    refine J_if_eq 33 dX11_taxes_15 rfl ?_ ?_
    · refine J_ldc dX11_taxes_33 wd_63 ?_
      exact J_iret dX11_taxes_35 rfl ⟨rfl, rfl, rfl⟩
    · refine J_ald0 dX11_taxes_18 ?_
      refine J_ild1 dX11_taxes_19 ?_
      refine J_ild2 dX11_taxes_20 ?_
      refine J_ald0 dX11_taxes_21 ?_
      refine J_getr (q := 209) fl_RX11_13 dX11_taxes_22 kk_207 rfl (rf_11_1 kk_207) ?_
      refine J_iconst (v := 1) dX11_taxes_25 rfl ?_
      refine J_iald dX11_taxes_26 kk_209 rfl ?_
      refine J_cVP (jX11_taxAhead l cx n a b (M 209 (Int32.toNatClampNeg (1 : Int32))) M) ck_RX11_428 dX11_taxes_27 rfl kk_207 ⟨rfl, rfl, by decide, by decide⟩ ⟨Nat.zero_le _, Nat.zero_le _, Nat.le_of_ble_eq_true rfl⟩ (fun r5 => ?_)
      refine J_goto 35 dX11_taxes_30 rfl ?_
      exact J_iret dX11_taxes_35 rfl ⟨rfl, rfl, rfl⟩
set_option maxRecDepth 100000 in
theorem jX11_quoteOf (l : Launch) (cx : CX) (n : Nat) (a : Int32) (b : Int32) (c : Int32) (M : Mem) : Con l cx ({ frames := 5, cells := 0, slots := 0, locals := 115 } : Room) yX11_quoteOf cX11_quoteOf 4 (some .int) 0 0 false 207 218 (EP M) GS [.ref 207, .int a, .int b, .int c] M (mX11_quoteOf n a b c M) := by
  unfold mX11_quoteOf
  refine Con.of (ls := [some (.ref 207), some (.int a), some (.int b), some (.int c)]) (by decide) rfl (Nat.le_of_ble_eq_true rfl) ?_
  refine J_ild2 dX11_quoteOf_0 ?_
  refine J_ald0 dX11_quoteOf_1 ?_
  refine J_ild1 dX11_quoteOf_2 ?_
  refine J_iconst (v := 1) dX11_quoteOf_3 rfl ?_
  refine J_cVP (jX11_of l cx n a (1 : Int32) M) ck_RX11_213 dX11_quoteOf_4 rfl kk_207 ⟨rfl, rfl, by decide, by decide⟩ ⟨Nat.zero_le _, Nat.zero_le _, Nat.le_of_ble_eq_true rfl⟩ (fun r1 => ?_)
  refine J_ic_ne 14 dX11_quoteOf_7 rfl ?_ ?_
  · refine J_ald0 dX11_quoteOf_14 ?_
    refine J_ild1 dX11_quoteOf_15 ?_
    refine J_ild2 dX11_quoteOf_16 ?_
    refine J_ild3 dX11_quoteOf_17 ?_
    refine J_cVP (jX11_leftBy l cx n a b c M) ck_RX11_225 dX11_quoteOf_18 rfl kk_207 ⟨rfl, rfl, by decide, by decide⟩ ⟨Nat.zero_le _, Nat.zero_le _, Nat.le_of_ble_eq_true rfl⟩ (fun r2 => ?_)
    refine J_ald0 dX11_quoteOf_21 ?_
    refine J_ild1 dX11_quoteOf_22 ?_
    refine J_ald0 dX11_quoteOf_23 ?_
    refine J_ild1 dX11_quoteOf_24 ?_
    refine J_iconst (v := 1) dX11_quoteOf_25 rfl ?_
    refine J_cVP (jX11_of l cx n a (1 : Int32) M) ck_RX11_213 dX11_quoteOf_26 rfl kk_207 ⟨rfl, rfl, by decide, by decide⟩ ⟨Nat.zero_le _, Nat.zero_le _, Nat.le_of_ble_eq_true rfl⟩ (fun r3 => ?_)
    refine J_ild3 dX11_quoteOf_29 ?_
    refine J_cVP (jX11_leftBy l cx n a r3 c M) ck_RX11_225 dX11_quoteOf_30 rfl kk_207 ⟨rfl, rfl, by decide, by decide⟩ ⟨Nat.zero_le _, Nat.zero_le _, Nat.le_of_ble_eq_true rfl⟩ (fun r4 => ?_)
    refine J_isub dX11_quoteOf_33 ?_
    exact J_iret dX11_quoteOf_34 rfl ⟨rfl, rfl, rfl⟩
  · refine J_iconst (v := 0) dX11_quoteOf_10 rfl ?_
    refine J_goto 34 dX11_quoteOf_11 rfl ?_
    exact J_iret dX11_quoteOf_34 rfl ⟨rfl, rfl, rfl⟩
set_option maxRecDepth 100000 in
theorem jX11_quote (l : Launch) (cx : CX) (n : Nat) (a : Int32) (b : Int32) (c : Int32) (M : Mem) : Con l cx ({ frames := 6, cells := 0, slots := 0, locals := 138 } : Room) yX11_quote cX11_quote 4 (some .int) 0 0 false 207 218 (EP M) GS [.ref 207, .int a, .int b, .int c] M (mX11_quote n a b c M) := by
  unfold mX11_quote
  refine Con.of (ls := [some (.ref 207), some (.int a), some (.int b), some (.int c)]) (by decide) rfl (Nat.le_of_ble_eq_true rfl) ?_
  refine J_ald0 dX11_quote_0 ?_
  refine J_ild1 dX11_quote_1 ?_
  refine J_cVB (jX11_isOn l cx n a M) ck_RX11_244 dX11_quote_2 rfl kk_207 ⟨rfl, rfl, by decide, by decide⟩ ⟨Nat.zero_le _, Nat.zero_le _, Nat.le_of_ble_eq_true rfl⟩ (fun r1 z2 => ?_)
  refine J_if_eq 36 dX11_quote_5 rfl ?_ ?_
  · refine J_ldc dX11_quote_36 wd_63 ?_
    exact J_iret dX11_quote_38 rfl ⟨rfl, rfl, rfl⟩
  · refine J_ild2 dX11_quote_8 ?_
    refine J_cSB (jX11_isPlan l cx n b M) ck_RX11_197 dX11_quote_9 rfl ⟨rfl, rfl, by decide, by decide⟩ ⟨Nat.zero_le _, Nat.zero_le _, Nat.le_of_ble_eq_true rfl⟩ (fun r3 z4 => ?_)
    refine J_if_eq 36 dX11_quote_12 rfl ?_ ?_
    · refine J_ldc dX11_quote_36 wd_63 ?_
      exact J_iret dX11_quote_38 rfl ⟨rfl, rfl, rfl⟩
    · refine J_ild3 dX11_quote_15 ?_
      refine J_ald0 dX11_quote_16 ?_
      refine J_getr (q := 209) fl_RX11_13 dX11_quote_17 kk_207 rfl (rf_11_1 kk_207) ?_
      refine J_iconst (v := 0) dX11_quote_20 rfl ?_
      refine J_iald dX11_quote_21 kk_209 rfl ?_
      refine J_ald0 dX11_quote_22 ?_
      refine J_ild1 dX11_quote_23 ?_
      refine J_iconst (v := 5) dX11_quote_24 rfl ?_
      refine J_cVP (jX11_of l cx n a (5 : Int32) M) ck_RX11_213 dX11_quote_25 rfl kk_207 ⟨rfl, rfl, by decide, by decide⟩ ⟨Nat.zero_le _, Nat.zero_le _, Nat.le_of_ble_eq_true rfl⟩ (fun r5 => ?_)
      refine J_iconst (v := 1) dX11_quote_28 rfl ?_
      refine J_isub dX11_quote_29 ?_
      refine J_cSB (jX11_in l cx n c (M 209 (Int32.toNatClampNeg (0 : Int32))) (r5 - (1 : Int32)) M) ck_RX11_56 dX11_quote_30 rfl ⟨rfl, rfl, by decide, by decide⟩ ⟨Nat.zero_le _, Nat.zero_le _, Nat.le_of_ble_eq_true rfl⟩ (fun r6 z7 => ?_)
      refine J_if_ne 39 dX11_quote_33 rfl ?_ ?_
      · refine J_ald0 dX11_quote_39 ?_
        refine J_ild1 dX11_quote_40 ?_
        refine J_ild2 dX11_quote_41 ?_
        refine J_ild3 dX11_quote_42 ?_
        refine J_cVP (jX11_quoteOf l cx n a b c M) ck_RX11_431 dX11_quote_43 rfl kk_207 ⟨rfl, rfl, by decide, by decide⟩ ⟨Nat.zero_le _, Nat.zero_le _, Nat.le_of_ble_eq_true rfl⟩ (fun r8 => ?_)
        exact J_iret dX11_quote_46 rfl ⟨rfl, rfl, rfl⟩
      · refine J_ldc dX11_quote_36 wd_63 ?_
        exact J_iret dX11_quote_38 rfl ⟨rfl, rfl, rfl⟩
set_option maxRecDepth 100000 in
theorem jX11_best_c87 {l : Launch} {cx : CX} {n : Nat} {M : Mem} : ∀ (f : Nat) {v1 : Int32} {v2 : Int32} {v3 : Int32} {v4 : Int32} {v5 : Int32} {v6 : Int32}, JO l cx ({ frames := 6, cells := 0, slots := 0, locals := 138 } : Room) yX11_best cX11_best 7 (some .int) 0 0 false 207 218 (EP M) GS 0 0 87 [some (.ref 207), some (.int v1), some (.int v2), some (.int v3), some (.int v4), some (.int v5), some (.int v6)] [] M (mX11_best_c87 n f v1 v2 v3 v4 v5 v6 M) := by
  intro f
  induction f with
  | zero =>
    intros
    exact J_none
  | succ f ih =>
    intro v1 v2 v3 v4 v5 v6
    unfold mX11_best_c87
    refine J_ild6 dX11_best_87 ?_
    refine J_bipush (v := 6) dX11_best_89 rfl ?_
    refine J_ic_ge 133 dX11_best_91 rfl ?_ ?_
    · refine J_ild3 dX11_best_133 ?_
      refine J_if_ne 142 dX11_best_134 rfl ?_ ?_
      · refine J_ild3 dX11_best_142 ?_
        refine J_iconst (v := 1) dX11_best_143 rfl ?_
        refine J_ic_ne 158 dX11_best_144 rfl ?_ ?_
        · refine J_ild5 dX11_best_158 ?_
          exact J_iret dX11_best_160 rfl ⟨rfl, rfl, rfl⟩
        · refine J_ald0 dX11_best_147 ?_
          refine J_ild1 dX11_best_148 ?_
          refine J_ild2 dX11_best_149 ?_
          refine J_ild4 dX11_best_150 ?_
          refine J_cVP (jX11_quoteOf l cx n v1 v2 v4 M) ck_RX11_431 dX11_best_152 rfl kk_207 ⟨rfl, rfl, by decide, by decide⟩ ⟨Nat.zero_le _, Nat.zero_le _, Nat.le_of_ble_eq_true rfl⟩ (fun r1 => ?_)
          refine J_goto 160 dX11_best_155 rfl ?_
          exact J_iret dX11_best_160 rfl ⟨rfl, rfl, rfl⟩
      · refine J_ild4 dX11_best_137 ?_
        refine J_goto 160 dX11_best_139 rfl ?_
        exact J_iret dX11_best_160 rfl ⟨rfl, rfl, rfl⟩
    · refine J_ald0 dX11_best_94 ?_
      refine J_ild1 dX11_best_95 ?_
      refine J_ild6 dX11_best_96 ?_
      refine J_ald0 dX11_best_98 ?_
      refine J_getr (q := 209) fl_RX11_13 dX11_best_99 kk_207 rfl (rf_11_1 kk_207) ?_
      refine J_iconst (v := 0) dX11_best_102 rfl ?_
      refine J_iald dX11_best_103 kk_209 rfl ?_
      refine J_cVP (jX11_quoteOf l cx n v1 v6 (M 209 (Int32.toNatClampNeg (0 : Int32))) M) ck_RX11_431 dX11_best_104 rfl kk_207 ⟨rfl, rfl, by decide, by decide⟩ ⟨Nat.zero_le _, Nat.zero_le _, Nat.le_of_ble_eq_true rfl⟩ (fun r2 => ?_)
      refine J_ald0 dX11_best_107 ?_
      refine J_ild1 dX11_best_108 ?_
      refine J_ild5 dX11_best_109 ?_
      refine J_ald0 dX11_best_111 ?_
      refine J_getr (q := 209) fl_RX11_13 dX11_best_112 kk_207 rfl (rf_11_1 kk_207) ?_
      refine J_iconst (v := 0) dX11_best_115 rfl ?_
      refine J_iald dX11_best_116 kk_209 rfl ?_
      refine J_cVP (jX11_quoteOf l cx n v1 v5 (M 209 (Int32.toNatClampNeg (0 : Int32))) M) ck_RX11_431 dX11_best_117 rfl kk_207 ⟨rfl, rfl, by decide, by decide⟩ ⟨Nat.zero_le _, Nat.zero_le _, Nat.le_of_ble_eq_true rfl⟩ (fun r3 => ?_)
      refine J_ic_ge 127 dX11_best_120 rfl ?_ ?_
      · refine J_iinc6 (w := (v6 + (1 : Int32))) dX11_best_127 (by decide) rfl rfl ?_
        refine J_goto 87 dX11_best_130 rfl ?_
        exact J_wk (wk_s (wk_s (wk_s (wk_s (wk_s (wk_s (wk_s wk_0))))))) (ih)
      · refine J_ild6 dX11_best_123 ?_
        refine J_ist5 dX11_best_125 (by decide) rfl ?_
        refine J_iinc6 (w := (v6 + (1 : Int32))) dX11_best_127 (by decide) rfl rfl ?_
        refine J_goto 87 dX11_best_130 rfl ?_
        exact J_wk (wk_s (wk_s (wk_s (wk_s (wk_s (wk_s (wk_s wk_0))))))) (ih)
set_option maxRecDepth 100000 in
theorem jX11_best_c41 {l : Launch} {cx : CX} {n : Nat} {M : Mem} : ∀ (f : Nat) {v1 : Int32} {v2 : Int32} {v3 : Int32} {v4 : Int32} {v5 : Int32}, JO l cx ({ frames := 6, cells := 0, slots := 0, locals := 138 } : Room) yX11_best cX11_best 7 (some .int) 0 0 false 207 218 (EP M) GS 0 0 41 [some (.ref 207), some (.int v1), some (.int v2), some (.int v3), some (.int v4), some (.int v5), none] [] M (mX11_best_c41 n f v1 v2 v3 v4 v5 M) := by
  intro f
  induction f with
  | zero =>
    intros
    exact J_none
  | succ f ih =>
    intro v1 v2 v3 v4 v5
    unfold mX11_best_c41
    refine J_ild5 dX11_best_41 ?_
    refine J_ald0 dX11_best_43 ?_
    refine J_ild1 dX11_best_44 ?_
    refine J_iconst (v := 5) dX11_best_45 rfl ?_
    refine J_cVP (jX11_of l cx n v1 (5 : Int32) M) ck_RX11_213 dX11_best_46 rfl kk_207 ⟨rfl, rfl, by decide, by decide⟩ ⟨Nat.zero_le _, Nat.zero_le _, Nat.le_of_ble_eq_true rfl⟩ (fun r4 => ?_)
    refine J_ic_ge 81 dX11_best_49 rfl ?_ ?_
    · refine J_iconst (v := 0) dX11_best_81 rfl ?_
      refine J_ist5 dX11_best_82 (by decide) rfl ?_
      refine J_iconst (v := 1) dX11_best_84 rfl ?_
      refine J_ist6 dX11_best_85 (by decide) rfl ?_
      exact J_wk (wk_s (wk_s (wk_s (wk_s (wk_s (wk_s (wk_s wk_0))))))) (jX11_best_c87 (n := n) n)
    · refine J_ald0 dX11_best_52 ?_
      refine J_ild1 dX11_best_53 ?_
      refine J_ild2 dX11_best_54 ?_
      refine J_ild5 dX11_best_55 ?_
      refine J_cVP (jX11_quoteOf l cx n v1 v2 v5 M) ck_RX11_431 dX11_best_57 rfl kk_207 ⟨rfl, rfl, by decide, by decide⟩ ⟨Nat.zero_le _, Nat.zero_le _, Nat.le_of_ble_eq_true rfl⟩ (fun r5 => ?_)
      refine J_ald0 dX11_best_60 ?_
      refine J_ild1 dX11_best_61 ?_
      refine J_ild2 dX11_best_62 ?_
      refine J_ild4 dX11_best_63 ?_
      refine J_cVP (jX11_quoteOf l cx n v1 v2 v4 M) ck_RX11_431 dX11_best_65 rfl kk_207 ⟨rfl, rfl, by decide, by decide⟩ ⟨Nat.zero_le _, Nat.zero_le _, Nat.le_of_ble_eq_true rfl⟩ (fun r6 => ?_)
      refine J_ic_ge 75 dX11_best_68 rfl ?_ ?_
      · refine J_iinc5 (w := (v5 + (1 : Int32))) dX11_best_75 (by decide) rfl rfl ?_
        refine J_goto 41 dX11_best_78 rfl ?_
        exact J_wk (wk_s (wk_s (wk_s (wk_s (wk_s (wk_s (wk_n wk_0))))))) (ih)
      · refine J_ild5 dX11_best_71 ?_
        refine J_ist4 dX11_best_73 (by decide) rfl ?_
        refine J_iinc5 (w := (v5 + (1 : Int32))) dX11_best_75 (by decide) rfl rfl ?_
        refine J_goto 41 dX11_best_78 rfl ?_
        exact J_wk (wk_s (wk_s (wk_s (wk_s (wk_s (wk_s (wk_n wk_0))))))) (ih)
set_option maxRecDepth 100000 in
theorem jX11_best (l : Launch) (cx : CX) (n : Nat) (a : Int32) (b : Int32) (c : Int32) (M : Mem) : Con l cx ({ frames := 6, cells := 0, slots := 0, locals := 138 } : Room) yX11_best cX11_best 7 (some .int) 0 0 false 207 218 (EP M) GS [.ref 207, .int a, .int b, .int c] M (mX11_best n a b c M) := by
  unfold mX11_best
  refine Con.of (ls := [some (.ref 207), some (.int a), some (.int b), some (.int c), none, none, none]) (by decide) rfl (Nat.le_of_ble_eq_true rfl) ?_
  refine J_ald0 dX11_best_0 ?_
  refine J_ild1 dX11_best_1 ?_
  refine J_cVB (jX11_isOn l cx n a M) ck_RX11_244 dX11_best_2 rfl kk_207 ⟨rfl, rfl, by decide, by decide⟩ ⟨Nat.zero_le _, Nat.zero_le _, Nat.le_of_ble_eq_true rfl⟩ (fun r7 z8 => ?_)
  refine J_if_eq 24 dX11_best_5 rfl ?_ ?_
  · refine J_ldc dX11_best_24 wd_63 ?_
    exact J_iret dX11_best_26 rfl ⟨rfl, rfl, rfl⟩
  · refine J_ild2 dX11_best_8 ?_
    refine J_cSB (jX11_isPlan l cx n b M) ck_RX11_197 dX11_best_9 rfl ⟨rfl, rfl, by decide, by decide⟩ ⟨Nat.zero_le _, Nat.zero_le _, Nat.le_of_ble_eq_true rfl⟩ (fun r9 z10 => ?_)
    refine J_if_eq 24 dX11_best_12 rfl ?_ ?_
    · refine J_ldc dX11_best_24 wd_63 ?_
      exact J_iret dX11_best_26 rfl ⟨rfl, rfl, rfl⟩
    · refine J_ild3 dX11_best_15 ?_
      refine J_iconst (v := 0) dX11_best_16 rfl ?_
      refine J_iconst (v := 2) dX11_best_17 rfl ?_
      refine J_cSB (jX11_in l cx n c (0 : Int32) (2 : Int32) M) ck_RX11_56 dX11_best_18 rfl ⟨rfl, rfl, by decide, by decide⟩ ⟨Nat.zero_le _, Nat.zero_le _, Nat.le_of_ble_eq_true rfl⟩ (fun r11 z12 => ?_)
      refine J_if_ne 27 dX11_best_21 rfl ?_ ?_
      · refine J_ald0 dX11_best_27 ?_
        refine J_getr (q := 209) fl_RX11_13 dX11_best_28 kk_207 rfl (rf_11_1 kk_207) ?_
        refine J_iconst (v := 0) dX11_best_31 rfl ?_
        refine J_iald dX11_best_32 kk_209 rfl ?_
        refine J_ist4 dX11_best_33 (by decide) rfl ?_
        refine J_ild4 dX11_best_35 ?_
        refine J_iconst (v := 1) dX11_best_37 rfl ?_
        refine J_iadd dX11_best_38 ?_
        refine J_ist5 dX11_best_39 (by decide) rfl ?_
        exact J_wk (wk_s (wk_s (wk_s (wk_s (wk_s (wk_s (wk_n wk_0))))))) (jX11_best_c41 (n := n) n)
      · refine J_ldc dX11_best_24 wd_63 ?_
        exact J_iret dX11_best_26 rfl ⟨rfl, rfl, rfl⟩
set_option maxRecDepth 100000 in
theorem jX11_ahead (l : Launch) (cx : CX) (n : Nat) (a : Int32) (b : Int32) (M : Mem) : Con l cx ({ frames := 7, cells := 0, slots := 0, locals := 159 } : Room) yX11_ahead cX11_ahead 4 (some .int) 0 0 false 207 218 EI GS [.ref 207, .int a, .int b] M (mX11_ahead n a b M) := by
  unfold mX11_ahead
  refine Con.of (ls := [some (.ref 207), some (.int a), some (.int b), none]) (by decide) rfl (Nat.le_of_ble_eq_true rfl) ?_
  refine J_ald0 dX11_ahead_0 ?_
  refine J_ild1 dX11_ahead_1 ?_
  refine J_cVB (jX11_isBegun l cx n a M) ck_RX11_216 dX11_ahead_2 rfl kk_207 ⟨rfl, rfl, by decide, by decide⟩ ⟨Nat.zero_le _, Nat.zero_le _, Nat.le_of_ble_eq_true rfl⟩ (fun r1 z2 => ?_)
  refine J_if_eq 19 dX11_ahead_5 rfl ?_ ?_
  · refine J_ldc dX11_ahead_19 wd_63 ?_
    exact J_iret dX11_ahead_21 rfl ⟨rfl, rfl, rfl⟩
  · refine J_ild2 dX11_ahead_8 ?_
    refine J_iconst (v := 0) dX11_ahead_9 rfl ?_
    refine J_sipush (v := 400) dX11_ahead_10 rfl ?_
    refine J_cSB (jX11_in l cx n b (0 : Int32) (400 : Int32) M) ck_RX11_56 dX11_ahead_13 rfl ⟨rfl, rfl, by decide, by decide⟩ ⟨Nat.zero_le _, Nat.zero_le _, Nat.le_of_ble_eq_true rfl⟩ (fun r3 z4 => ?_)
    refine J_if_ne 22 dX11_ahead_16 rfl ?_ ?_
    · refine J_ald0 dX11_ahead_22 ?_
      refine J_iconst (v := 0) dX11_ahead_23 rfl ?_
      refine J_iconst (v := 2) dX11_ahead_24 rfl ?_
      refine J_cVV (jX11_copies l cx n (0 : Int32) (2 : Int32) M) ck_RX11_361 dX11_ahead_25 rfl kk_207 ⟨rfl, rfl, by decide, by decide⟩ ⟨Nat.zero_le _, Nat.zero_le _, Nat.le_of_ble_eq_true rfl⟩ (fun M6 => ?_)
      refine J_ald0 dX11_ahead_28 ?_
      refine J_ild2 dX11_ahead_29 ?_
      refine J_cVI (jX11_pass l cx n b M6) ck_RX11_262 dX11_ahead_30 rfl kk_207 ⟨rfl, rfl, by decide, by decide⟩ ⟨Nat.zero_le _, Nat.zero_le _, Nat.le_of_ble_eq_true rfl⟩ (fun r7 M8 => ?_)
      refine J_pop_i dX11_ahead_33 ?_
      refine J_ald0 dX11_ahead_34 ?_
      refine J_ild1 dX11_ahead_35 ?_
      refine J_cVP (jX11_allOf l cx n a M8) ck_RX11_265 dX11_ahead_36 rfl kk_207 ⟨rfl, rfl, by decide, by decide⟩ ⟨Nat.zero_le _, Nat.zero_le _, Nat.le_of_ble_eq_true rfl⟩ (fun r9 => ?_)
      refine J_ist3 dX11_ahead_39 (by decide) rfl ?_
      refine J_ald0 dX11_ahead_40 ?_
      refine J_iconst (v := 2) dX11_ahead_41 rfl ?_
      refine J_iconst (v := 0) dX11_ahead_42 rfl ?_
      refine J_cVV (jX11_copies l cx n (2 : Int32) (0 : Int32) M8) ck_RX11_361 dX11_ahead_43 rfl kk_207 ⟨rfl, rfl, by decide, by decide⟩ ⟨Nat.zero_le _, Nat.zero_le _, Nat.le_of_ble_eq_true rfl⟩ (fun M11 => ?_)
      refine J_ild3 dX11_ahead_46 ?_
      exact J_iret dX11_ahead_47 rfl ⟨rfl, rfl, rfl⟩
    · refine J_ldc dX11_ahead_19 wd_63 ?_
      exact J_iret dX11_ahead_21 rfl ⟨rfl, rfl, rfl⟩
set_option maxRecDepth 100000 in
theorem jX11_when_c70 {l : Launch} {cx : CX} {n : Nat} {v1 : Int32} {v2 : Int32} {v3 : Int32} {M : Mem} : JO l cx ({ frames := 7, cells := 0, slots := 0, locals := 159 } : Room) yX11_when cX11_when 6 (some .int) 0 0 false 207 218 EI GS 0 0 70 [some (.ref 207), some (.int v1), some (.int v2), some (.int v3), none, none] [] M (mX11_when_c70 n v1 v2 v3 M) := by
  unfold mX11_when_c70
  refine J_ald0 dX11_when_70 ?_
  refine J_ild1 dX11_when_71 ?_
  refine J_cVP (jX11_allOf l cx n v1 M) ck_RX11_265 dX11_when_72 rfl kk_207 ⟨rfl, rfl, by decide, by decide⟩ ⟨Nat.zero_le _, Nat.zero_le _, Nat.le_of_ble_eq_true rfl⟩ (fun r1 => ?_)
  refine J_ild2 dX11_when_75 ?_
  refine J_ic_lt 83 dX11_when_76 rfl ?_ ?_
  · refine J_bipush (v := -2) dX11_when_83 rfl ?_
    refine J_ist5 dX11_when_85 (by decide) rfl ?_
    refine J_ald0 dX11_when_87 ?_
    refine J_iconst (v := 2) dX11_when_88 rfl ?_
    refine J_iconst (v := 0) dX11_when_89 rfl ?_
    refine J_cVV (jX11_copies l cx n (2 : Int32) (0 : Int32) M) ck_RX11_361 dX11_when_90 rfl kk_207 ⟨rfl, rfl, by decide, by decide⟩ ⟨Nat.zero_le _, Nat.zero_le _, Nat.le_of_ble_eq_true rfl⟩ (fun M3 => ?_)
    refine J_ild5 dX11_when_93 ?_
    exact J_iret dX11_when_95 rfl ⟨rfl, rfl, rfl⟩
  · refine J_ild3 dX11_when_79 ?_
    refine J_goto 85 dX11_when_80 rfl ?_
    refine J_ist5 dX11_when_85 (by decide) rfl ?_
    refine J_ald0 dX11_when_87 ?_
    refine J_iconst (v := 2) dX11_when_88 rfl ?_
    refine J_iconst (v := 0) dX11_when_89 rfl ?_
    refine J_cVV (jX11_copies l cx n (2 : Int32) (0 : Int32) M) ck_RX11_361 dX11_when_90 rfl kk_207 ⟨rfl, rfl, by decide, by decide⟩ ⟨Nat.zero_le _, Nat.zero_le _, Nat.le_of_ble_eq_true rfl⟩ (fun M5 => ?_)
    refine J_ild5 dX11_when_93 ?_
    exact J_iret dX11_when_95 rfl ⟨rfl, rfl, rfl⟩
set_option maxRecDepth 100000 in
theorem jX11_when_c21 {l : Launch} {cx : CX} {n : Nat} : ∀ (f : Nat) {v1 : Int32} {v2 : Int32} {v3 : Int32} {v4 : Int32} {M : Mem}, JO l cx ({ frames := 7, cells := 0, slots := 0, locals := 159 } : Room) yX11_when cX11_when 6 (some .int) 0 0 false 207 218 EI GS 0 0 21 [some (.ref 207), some (.int v1), some (.int v2), some (.int v3), some (.int v4), none] [] M (mX11_when_c21 n f v1 v2 v3 v4 M) := by
  intro f
  induction f with
  | zero =>
    intros
    exact J_none
  | succ f ih =>
    intro v1 v2 v3 v4 M
    unfold mX11_when_c21
    refine J_ild4 dX11_when_21 ?_
    refine J_if_eq 70 dX11_when_23 rfl ?_ ?_
    · exact J_wk (wk_s (wk_s (wk_s (wk_s (wk_n (wk_n wk_0)))))) (jX11_when_c70 (n := n))
    · refine J_ild3 dX11_when_26 ?_
      refine J_sipush (v := 400) dX11_when_27 rfl ?_
      refine J_ic_ge 70 dX11_when_30 rfl ?_ ?_
      · exact J_wk (wk_s (wk_s (wk_s (wk_s (wk_n (wk_n wk_0)))))) (jX11_when_c70 (n := n))
      · refine J_ald0 dX11_when_33 ?_
        refine J_ild1 dX11_when_34 ?_
        refine J_cVP (jX11_allOf l cx n v1 M) ck_RX11_265 dX11_when_35 rfl kk_207 ⟨rfl, rfl, by decide, by decide⟩ ⟨Nat.zero_le _, Nat.zero_le _, Nat.le_of_ble_eq_true rfl⟩ (fun r6 => ?_)
        refine J_ild2 dX11_when_38 ?_
        refine J_ic_ge 70 dX11_when_39 rfl ?_ ?_
        · exact J_wk (wk_s (wk_s (wk_s (wk_s (wk_n (wk_n wk_0)))))) (jX11_when_c70 (n := n))
        · refine J_ald0 dX11_when_42 ?_
          refine J_iconst (v := 1) dX11_when_43 rfl ?_
          refine J_cVI (jX11_pass l cx n (1 : Int32) M) ck_RX11_262 dX11_when_44 rfl kk_207 ⟨rfl, rfl, by decide, by decide⟩ ⟨Nat.zero_le _, Nat.zero_le _, Nat.le_of_ble_eq_true rfl⟩ (fun r7 M8 => ?_)
          refine J_iconst (v := 1) dX11_when_47 rfl ?_
          refine J_ic_ne 55 dX11_when_48 rfl ?_ ?_
          · refine J_iconst (v := 0) dX11_when_55 rfl ?_
            refine J_ist4 dX11_when_56 (by decide) rfl ?_
            refine J_ild4 dX11_when_58 ?_
            refine J_if_eq 21 dX11_when_60 rfl ?_ ?_
            · exact J_wk (wk_s (wk_s (wk_s (wk_s (wk_s (wk_n wk_0)))))) (ih)
            · refine J_ild3 dX11_when_63 ?_
              refine J_iconst (v := 1) dX11_when_64 rfl ?_
              refine J_iadd dX11_when_65 ?_
              refine J_ist3 dX11_when_66 (by decide) rfl ?_
              refine J_goto 21 dX11_when_67 rfl ?_
              exact J_wk (wk_s (wk_s (wk_s (wk_s (wk_s (wk_n wk_0)))))) (ih)
          · refine J_iconst (v := 1) dX11_when_51 rfl ?_
            refine J_goto 56 dX11_when_52 rfl ?_
            refine J_ist4 dX11_when_56 (by decide) rfl ?_
            refine J_ild4 dX11_when_58 ?_
            refine J_if_eq 21 dX11_when_60 rfl ?_ ?_
            · exact J_wk (wk_s (wk_s (wk_s (wk_s (wk_s (wk_n wk_0)))))) (ih)
            · refine J_ild3 dX11_when_63 ?_
              refine J_iconst (v := 1) dX11_when_64 rfl ?_
              refine J_iadd dX11_when_65 ?_
              refine J_ist3 dX11_when_66 (by decide) rfl ?_
              refine J_goto 21 dX11_when_67 rfl ?_
              exact J_wk (wk_s (wk_s (wk_s (wk_s (wk_s (wk_n wk_0)))))) (ih)
set_option maxRecDepth 100000 in
theorem jX11_when (l : Launch) (cx : CX) (n : Nat) (a : Int32) (b : Int32) (M : Mem) : Con l cx ({ frames := 7, cells := 0, slots := 0, locals := 159 } : Room) yX11_when cX11_when 6 (some .int) 0 0 false 207 218 EI GS [.ref 207, .int a, .int b] M (mX11_when n a b M) := by
  unfold mX11_when
  refine Con.of (ls := [some (.ref 207), some (.int a), some (.int b), none, none, none]) (by decide) rfl (Nat.le_of_ble_eq_true rfl) ?_
  refine J_ald0 dX11_when_0 ?_
  refine J_ild1 dX11_when_1 ?_
  refine J_cVB (jX11_isBegun l cx n a M) ck_RX11_216 dX11_when_2 rfl kk_207 ⟨rfl, rfl, by decide, by decide⟩ ⟨Nat.zero_le _, Nat.zero_le _, Nat.le_of_ble_eq_true rfl⟩ (fun r9 z10 => ?_)
  refine J_if_ne 10 dX11_when_5 rfl ?_ ?_
  · refine J_ald0 dX11_when_10 ?_
    refine J_iconst (v := 0) dX11_when_11 rfl ?_
    refine J_iconst (v := 2) dX11_when_12 rfl ?_
    refine J_cVV (jX11_copies l cx n (0 : Int32) (2 : Int32) M) ck_RX11_361 dX11_when_13 rfl kk_207 ⟨rfl, rfl, by decide, by decide⟩ ⟨Nat.zero_le _, Nat.zero_le _, Nat.le_of_ble_eq_true rfl⟩ (fun M12 => ?_)
    refine J_iconst (v := 0) dX11_when_16 rfl ?_
    refine J_ist3 dX11_when_17 (by decide) rfl ?_
    refine J_iconst (v := 1) dX11_when_18 rfl ?_
    refine J_ist4 dX11_when_19 (by decide) rfl ?_
    exact J_wk (wk_s (wk_s (wk_s (wk_s (wk_s (wk_n wk_0)))))) (jX11_when_c21 (n := n) n)
  · refine J_iconst (v := -1) dX11_when_8 rfl ?_
    exact J_iret dX11_when_9 rfl ⟨rfl, rfl, rfl⟩
set_option maxRecDepth 100000 in
theorem jX11_keep (l : Launch) (cx : CX) (n : Nat) (M : Mem) : Con l cx ({ frames := 1, cells := 0, slots := 0, locals := 23 } : Room) yX11_keep cX11_keep 1 (some .int) 0 0 false 207 218 EI GS [.ref 207] M (mX11_keep n M) := by
  unfold mX11_keep
  refine Con.of (ls := [some (.ref 207)]) (by decide) rfl (Nat.le_of_ble_eq_true rfl) ?_
  refine J_ald0 dX11_keep_0 ?_
  refine J_iconst (v := 1) dX11_keep_1 rfl ?_
  refine J_putzK fl_RX11_434 dX11_keep_2 kk_207 rfl (by decide) (Or.inr rfl) ?_
  refine J_ald0 dX11_keep_5 ?_
  refine J_iconst (v := 0) dX11_keep_6 rfl ?_
  refine J_iconst (v := 1) dX11_keep_7 rfl ?_
  refine J_cVV (jX11_copies l cx n (0 : Int32) (1 : Int32) (upd2 M 207 2 (1 : Int32))) ck_RX11_361 dX11_keep_8 rfl kk_207 ⟨rfl, rfl, by decide, by decide⟩ ⟨Nat.zero_le _, Nat.zero_le _, Nat.le_of_ble_eq_true rfl⟩ (fun M2 => ?_)
  refine J_ald0 dX11_keep_11 ?_
  refine J_getr (q := 209) fl_RX11_13 dX11_keep_12 kk_207 rfl (rf_11_1 kk_207) ?_
  refine J_iconst (v := 1) dX11_keep_15 rfl ?_
  refine J_iald dX11_keep_16 kk_209 rfl ?_
  exact J_iret dX11_keep_17 rfl ⟨rfl, rfl, rfl⟩
set_option maxRecDepth 100000 in
theorem jX11_undo (l : Launch) (cx : CX) (n : Nat) (M : Mem) : Con l cx ({ frames := 1, cells := 0, slots := 0, locals := 23 } : Room) yX11_undo cX11_undo 1 (some .boolean) 0 0 false 207 218 EZ GS [.ref 207] M (mX11_undo n M) := by
  unfold mX11_undo
  refine Con.of (ls := [some (.ref 207)]) (by decide) rfl (Nat.le_of_ble_eq_true rfl) ?_
  refine J_ald0 dX11_undo_0 ?_
  refine J_geti fl_RX11_434 dX11_undo_1 kk_207 rfl ?_
  refine J_if_ne 9 dX11_undo_4 rfl ?_ ?_
  · refine J_ald0 dX11_undo_9 ?_
    refine J_iconst (v := 1) dX11_undo_10 rfl ?_
    refine J_iconst (v := 0) dX11_undo_11 rfl ?_
    refine J_cVV (jX11_copies l cx n (1 : Int32) (0 : Int32) M) ck_RX11_361 dX11_undo_12 rfl kk_207 ⟨rfl, rfl, by decide, by decide⟩ ⟨Nat.zero_le _, Nat.zero_le _, Nat.le_of_ble_eq_true rfl⟩ (fun M2 => ?_)
    refine J_iconst (v := 1) dX11_undo_15 rfl ?_
    exact J_zret dX11_undo_16 rfl (Or.inr rfl) ⟨rfl, rfl, rfl, (Or.inr rfl)⟩
  · refine J_iconst (v := 0) dX11_undo_7 rfl ?_
    exact J_zret dX11_undo_8 rfl (Or.inl rfl) ⟨rfl, rfl, rfl, (Or.inl rfl)⟩
set_option maxRecDepth 100000 in
theorem jX11_check_c28 {l : Launch} {cx : CX} {n : Nat} : ∀ (f : Nat) {v2 : Int32} {v3 : Int32} {M : Mem}, JO l cx ({ frames := 1, cells := 0, slots := 0, locals := 22 } : Room) yX11_check cX11_check 4 (some .int) 0 0 false 207 218 EI GS 0 0 28 [some (.ref 207), none, some (.int v2), some (.int v3)] [] M (mX11_check_c28 n f v2 v3 M) := by
  intro f
  induction f with
  | zero =>
    intros
    exact J_none
  | succ f ih =>
    intro v2 v3 M
    unfold mX11_check_c28
    refine J_ild3 dX11_check_28 ?_
    refine J_if_lt 74 dX11_check_29 rfl ?_ ?_
    · refine J_ald0 dX11_check_74 ?_
      refine J_iconst (v := 0) dX11_check_75 rfl ?_
      refine J_puti fl_RX11_84 dX11_check_76 kk_207 rfl (by decide) ?_
      refine J_ild2 dX11_check_79 ?_
      exact J_iret dX11_check_80 rfl ⟨rfl, rfl, rfl⟩
    · refine J_ild3 dX11_check_32 ?_
      refine J_ald0 dX11_check_33 ?_
      refine J_getr (q := 209) fl_RX11_13 dX11_check_34 kk_207 rfl (rf_11_1 kk_207) ?_
      refine J_iconst (v := 1) dX11_check_37 rfl ?_
      refine J_iald dX11_check_38 kk_209 rfl ?_
      refine J_ic_ge 66 dX11_check_39 rfl ?_ ?_
      · refine J_ild3 dX11_check_66 ?_
        refine J_ist2 dX11_check_67 (by decide) rfl ?_
        refine J_iinc3 (w := (v3 + (-1 : Int32))) dX11_check_68 (by decide) rfl rfl ?_
        refine J_goto 28 dX11_check_71 rfl ?_
        exact J_wk (wk_s (wk_n (wk_s (wk_s wk_0)))) (ih)
      · refine J_ald0 dX11_check_42 ?_
        refine J_getr (q := 210) fl_RX11_16 dX11_check_43 kk_207 rfl (rf_11_3 kk_207) ?_
        refine J_ild3 dX11_check_46 ?_
        refine J_bald dX11_check_47 kk_210 rfl ?_
        refine J_sipush (v := 255) dX11_check_48 rfl ?_
        refine J_iand dX11_check_51 ?_
        refine J_ald0 dX11_check_52 ?_
        refine J_ild3 dX11_check_53 ?_
        refine J_bipush (v := 7) dX11_check_54 rfl ?_
        refine J_cVP (jX11_entryOf l cx n v3 (7 : Int32) M) ck_RX11_219 dX11_check_56 rfl kk_207 ⟨rfl, rfl, by decide, by decide⟩ ⟨Nat.zero_le _, Nat.zero_le _, Nat.le_of_ble_eq_true rfl⟩ (fun r1 => ?_)
        refine J_sipush (v := 255) dX11_check_59 rfl ?_
        refine J_iand dX11_check_62 ?_
        refine J_ic_eq 68 dX11_check_63 rfl ?_ ?_
        · refine J_iinc3 (w := (v3 + (-1 : Int32))) dX11_check_68 (by decide) rfl rfl ?_
          refine J_goto 28 dX11_check_71 rfl ?_
          exact J_wk (wk_s (wk_n (wk_s (wk_s wk_0)))) (ih)
        · refine J_ild3 dX11_check_66 ?_
          refine J_ist2 dX11_check_67 (by decide) rfl ?_
          refine J_iinc3 (w := (v3 + (-1 : Int32))) dX11_check_68 (by decide) rfl rfl ?_
          refine J_goto 28 dX11_check_71 rfl ?_
          exact J_wk (wk_s (wk_n (wk_s (wk_s wk_0)))) (ih)
set_option maxRecDepth 100000 in
theorem jX11_check (l : Launch) (cx : CX) (n : Nat) (a : Int32) (M : Mem) : Con l cx ({ frames := 1, cells := 0, slots := 0, locals := 22 } : Room) yX11_check cX11_check 4 (some .int) 0 0 false 207 218 EI GS [.ref 207, .int a] M (mX11_check n a M) := by
  unfold mX11_check
  refine Con.of (ls := [some (.ref 207), some (.int a), none, none]) (by decide) rfl (Nat.le_of_ble_eq_true rfl) ?_
  refine J_ild1 dX11_check_0 ?_
  refine J_iconst (v := 0) dX11_check_1 rfl ?_
  refine J_sipush (v := 400) dX11_check_2 rfl ?_
  refine J_cSB (jX11_in l cx n a (0 : Int32) (400 : Int32) M) ck_RX11_56 dX11_check_5 rfl ⟨rfl, rfl, by decide, by decide⟩ ⟨Nat.zero_le _, Nat.zero_le _, Nat.le_of_ble_eq_true rfl⟩ (fun r2 z3 => ?_)
  refine J_if_eq 19 dX11_check_8 rfl ?_ ?_
  · refine J_bipush (v := -2) dX11_check_19 rfl ?_
    exact J_iret dX11_check_21 rfl ⟨rfl, rfl, rfl⟩
  · refine J_ild1 dX11_check_11 ?_
    refine J_ald0 dX11_check_12 ?_
    refine J_geti fl_RX11_84 dX11_check_13 kk_207 rfl ?_
    refine J_ic_le 22 dX11_check_16 rfl ?_ ?_
    · refine J_iconst (v := -1) dX11_check_22 rfl ?_
      refine J_ist2 dX11_check_23 (by decide) rfl ?_
      refine J_ild1 dX11_check_24 ?_
      refine J_iconst (v := 1) dX11_check_25 rfl ?_
      refine J_isub dX11_check_26 ?_
      refine J_ist3 dX11_check_27 (by decide) rfl ?_
      exact J_wk (wk_s (wk_n (wk_s (wk_s wk_0)))) (jX11_check_c28 (n := n) n)
    · refine J_bipush (v := -2) dX11_check_19 rfl ?_
      exact J_iret dX11_check_21 rfl ⟨rfl, rfl, rfl⟩
set_option maxRecDepth 100000 in
theorem jX11_count (l : Launch) (cx : CX) (n : Nat) (a : Int32) (M : Mem) : Con l cx ({ frames := 0, cells := 0, slots := 0, locals := 0 } : Room) yX11_count cX11_count 2 (some .int) 0 0 false 207 218 (EP M) GS [.ref 207, .int a] M (mX11_count a M) := by
  unfold mX11_count
  refine Con.of (ls := [some (.ref 207), some (.int a)]) (by decide) rfl (Nat.le_of_ble_eq_true rfl) ?_
  refine J_ild1 dX11_count_0 ?_
  refine J_if_ne 13 dX11_count_1 rfl ?_ ?_
  · refine J_ild1 dX11_count_13 ?_
    refine J_iconst (v := 1) dX11_count_14 rfl ?_
    refine J_ic_ne 27 dX11_count_15 rfl ?_ ?_
    · refine J_ild1 dX11_count_27 ?_
      refine J_iconst (v := 2) dX11_count_28 rfl ?_
      refine J_ic_ne 39 dX11_count_29 rfl ?_ ?_
      · refine J_ild1 dX11_count_39 ?_
        refine J_iconst (v := 3) dX11_count_40 rfl ?_
        refine J_ic_ne 53 dX11_count_41 rfl ?_ ?_
        · refine J_iconst (v := -1) dX11_count_53 rfl ?_
          exact J_iret dX11_count_54 rfl ⟨rfl, rfl, rfl⟩
        · refine J_ald0 dX11_count_44 ?_
          refine J_getr (q := 209) fl_RX11_13 dX11_count_45 kk_207 rfl (rf_11_1 kk_207) ?_
          refine J_iconst (v := 4) dX11_count_48 rfl ?_
          refine J_iald dX11_count_49 kk_209 rfl ?_
          refine J_goto 54 dX11_count_50 rfl ?_
          exact J_iret dX11_count_54 rfl ⟨rfl, rfl, rfl⟩
      · refine J_ald0 dX11_count_32 ?_
        refine J_geti fl_RX11_84 dX11_count_33 kk_207 rfl ?_
        refine J_goto 54 dX11_count_36 rfl ?_
        exact J_iret dX11_count_54 rfl ⟨rfl, rfl, rfl⟩
    · refine J_ald0 dX11_count_18 ?_
      refine J_getr (q := 209) fl_RX11_13 dX11_count_19 kk_207 rfl (rf_11_1 kk_207) ?_
      refine J_iconst (v := 0) dX11_count_22 rfl ?_
      refine J_iald dX11_count_23 kk_209 rfl ?_
      refine J_goto 54 dX11_count_24 rfl ?_
      exact J_iret dX11_count_54 rfl ⟨rfl, rfl, rfl⟩
  · refine J_ald0 dX11_count_4 ?_
    refine J_getr (q := 209) fl_RX11_13 dX11_count_5 kk_207 rfl (rf_11_1 kk_207) ?_
    refine J_iconst (v := 1) dX11_count_8 rfl ?_
    refine J_iald dX11_count_9 kk_209 rfl ?_
    refine J_goto 54 dX11_count_10 rfl ?_
    exact J_iret dX11_count_54 rfl ⟨rfl, rfl, rfl⟩
