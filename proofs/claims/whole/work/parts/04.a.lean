set_option maxRecDepth 100000 in
theorem jX11_in (l : Launch) (cx : CX) (n : Nat) (a : Int32) (b : Int32) (c : Int32) (M : Mem) : Con l cx ({ frames := 0, cells := 0, slots := 0, locals := 0 } : Room) yX11_in cX11_in 3 (some .boolean) 0 0 false 207 218 (EB M) GS [.int a, .int b, .int c] M (mX11_in a b c) := by
  unfold mX11_in
  refine Con.of (ls := [some (.int a), some (.int b), some (.int c)]) (by decide) rfl (Nat.le_of_ble_eq_true rfl) ?_
  refine J_ild0 dX11_in_0 ?_
  refine J_ild1 dX11_in_1 ?_
  refine J_ic_lt 14 dX11_in_2 rfl ?_ ?_
  · refine J_iconst (v := 0) dX11_in_14 rfl ?_
    exact J_zret dX11_in_15 rfl (Or.inl rfl) ⟨rfl, rfl, rfl, (Or.inl rfl)⟩
  · refine J_ild0 dX11_in_5 ?_
    refine J_ild2 dX11_in_6 ?_
    refine J_ic_gt 14 dX11_in_7 rfl ?_ ?_
    · refine J_iconst (v := 0) dX11_in_14 rfl ?_
      exact J_zret dX11_in_15 rfl (Or.inl rfl) ⟨rfl, rfl, rfl, (Or.inl rfl)⟩
    · refine J_iconst (v := 1) dX11_in_10 rfl ?_
      refine J_goto 15 dX11_in_11 rfl ?_
      exact J_zret dX11_in_15 rfl (Or.inr rfl) ⟨rfl, rfl, rfl, (Or.inr rfl)⟩
set_option maxRecDepth 100000 in
theorem jX11_min (l : Launch) (cx : CX) (n : Nat) (a : Int32) (b : Int32) (M : Mem) : Con l cx ({ frames := 0, cells := 0, slots := 0, locals := 0 } : Room) yX11_min cX11_min 2 (some .int) 0 0 false 207 218 (EP M) GS [.int a, .int b] M (mX11_min a b) := by
  unfold mX11_min
  refine Con.of (ls := [some (.int a), some (.int b)]) (by decide) rfl (Nat.le_of_ble_eq_true rfl) ?_
  refine J_ild0 dX11_min_0 ?_
  refine J_ild1 dX11_min_1 ?_
  refine J_ic_ge 9 dX11_min_2 rfl ?_ ?_
  · refine J_ild1 dX11_min_9 ?_
    exact J_iret dX11_min_10 rfl ⟨rfl, rfl, rfl⟩
  · refine J_ild0 dX11_min_5 ?_
    refine J_goto 10 dX11_min_6 rfl ?_
    exact J_iret dX11_min_10 rfl ⟨rfl, rfl, rfl⟩
set_option maxRecDepth 100000 in
theorem jX11_max (l : Launch) (cx : CX) (n : Nat) (a : Int32) (b : Int32) (M : Mem) : Con l cx ({ frames := 0, cells := 0, slots := 0, locals := 0 } : Room) yX11_max cX11_max 2 (some .int) 0 0 false 207 218 (EP M) GS [.int a, .int b] M (mX11_max a b) := by
  unfold mX11_max
  refine Con.of (ls := [some (.int a), some (.int b)]) (by decide) rfl (Nat.le_of_ble_eq_true rfl) ?_
  refine J_ild0 dX11_max_0 ?_
  refine J_ild1 dX11_max_1 ?_
  refine J_ic_le 9 dX11_max_2 rfl ?_ ?_
  · refine J_ild1 dX11_max_9 ?_
    exact J_iret dX11_max_10 rfl ⟨rfl, rfl, rfl⟩
  · refine J_ild0 dX11_max_5 ?_
    refine J_goto 10 dX11_max_6 rfl ?_
    exact J_iret dX11_max_10 rfl ⟨rfl, rfl, rfl⟩
set_option maxRecDepth 100000 in
theorem jX11_copies_c2 {l : Launch} {cx : CX} {n : Nat} : ∀ (f : Nat) {v1 : Int32} {v2 : Int32} {v3 : Int32} {M : Mem}, JO l cx ({ frames := 0, cells := 0, slots := 0, locals := 0 } : Room) yX11_copies cX11_copies 4 none 0 0 false 207 218 EV GS 0 0 2 [some (.ref 207), some (.int v1), some (.int v2), some (.int v3)] [] M (mX11_copies_c2 n f v1 v2 v3 M) := by
  intro f
  induction f with
  | zero =>
    intros
    exact J_none
  | succ f ih =>
    intro v1 v2 v3 M
    unfold mX11_copies_c2
    refine J_ild3 dX11_copies_2 ?_
    refine J_sipush (v := 4250) dX11_copies_3 rfl ?_
    refine J_ic_ge 39 dX11_copies_6 rfl ?_ ?_
    · exact J_vret dX11_copies_39 rfl ⟨rfl, rfl, rfl⟩
    · refine J_ald0 dX11_copies_9 ?_
      refine J_getr (q := 209) fl_RX11_13 dX11_copies_10 kk_207 rfl (rf_11_1 kk_207) ?_
      refine J_sipush (v := 4250) dX11_copies_13 rfl ?_
      refine J_ild2 dX11_copies_16 ?_
      refine J_imul dX11_copies_17 ?_
      refine J_ild3 dX11_copies_18 ?_
      refine J_iadd dX11_copies_19 ?_
      refine J_ald0 dX11_copies_20 ?_
      refine J_getr (q := 209) fl_RX11_13 dX11_copies_21 kk_207 rfl (rf_11_1 kk_207) ?_
      refine J_sipush (v := 4250) dX11_copies_24 rfl ?_
      refine J_ild1 dX11_copies_27 ?_
      refine J_imul dX11_copies_28 ?_
      refine J_ild3 dX11_copies_29 ?_
      refine J_iadd dX11_copies_30 ?_
      refine J_iald dX11_copies_31 kk_209 rfl ?_
      refine J_iast dX11_copies_32 kk_209 rfl ?_
      refine J_lt (fun M1 => ?_)
      refine J_iinc3 (w := (v3 + (1 : Int32))) dX11_copies_33 (by decide) rfl rfl ?_
      refine J_goto 2 dX11_copies_36 rfl ?_
      exact J_wk (wk_s (wk_s (wk_s (wk_s wk_0)))) (ih)
set_option maxRecDepth 100000 in
theorem jX11_copies (l : Launch) (cx : CX) (n : Nat) (a : Int32) (b : Int32) (M : Mem) : Con l cx ({ frames := 0, cells := 0, slots := 0, locals := 0 } : Room) yX11_copies cX11_copies 4 none 0 0 false 207 218 EV GS [.ref 207, .int a, .int b] M (mX11_copies n a b M) := by
  unfold mX11_copies
  refine Con.of (ls := [some (.ref 207), some (.int a), some (.int b), none]) (by decide) rfl (Nat.le_of_ble_eq_true rfl) ?_
  refine J_iconst (v := 0) dX11_copies_0 rfl ?_
  refine J_ist3 dX11_copies_1 (by decide) rfl ?_
  exact J_wk (wk_s (wk_s (wk_s (wk_s wk_0)))) (jX11_copies_c2 (n := n) n)
set_option maxRecDepth 100000 in
theorem jX11_lengthOf (l : Launch) (cx : CX) (n : Nat) (a : Int32) (M : Mem) : Con l cx ({ frames := 0, cells := 0, slots := 0, locals := 0 } : Room) yX11_lengthOf cX11_lengthOf 2 (some .int) 0 0 false 207 218 (EP M) GS [.int a] M (mX11_lengthOf a) := by
  unfold mX11_lengthOf
  refine Con.of (ls := [some (.int a), none]) (by decide) rfl (Nat.le_of_ble_eq_true rfl) ?_
  refine J_ild0 dX11_lengthOf_0 ?_
  refine J_bipush (v := 11) dX11_lengthOf_1 rfl ?_
  refine J_iadd dX11_lengthOf_3 ?_
  refine J_bipush (v := 12) dX11_lengthOf_4 rfl ?_
  refine J_iremK dX11_lengthOf_6 (by decide) ?_
  refine J_iconst (v := 1) dX11_lengthOf_7 rfl ?_
  refine J_iadd dX11_lengthOf_8 ?_
  refine J_ist1 dX11_lengthOf_9 (by decide) rfl ?_
  refine J_ild1 dX11_lengthOf_10 ?_
  refine J_iconst (v := 2) dX11_lengthOf_11 rfl ?_
  refine J_ic_ne 36 dX11_lengthOf_12 rfl ?_ ?_
  · refine J_ild1 dX11_lengthOf_36 ?_
    refine J_iconst (v := 4) dX11_lengthOf_37 rfl ?_
    refine J_ic_eq 59 dX11_lengthOf_38 rfl ?_ ?_
    · refine J_bipush (v := 30) dX11_lengthOf_59 rfl ?_
      refine J_goto 66 dX11_lengthOf_61 rfl ?_
      exact J_iret dX11_lengthOf_66 rfl ⟨rfl, rfl, rfl⟩
    · refine J_ild1 dX11_lengthOf_41 ?_
      refine J_bipush (v := 6) dX11_lengthOf_42 rfl ?_
      refine J_ic_eq 59 dX11_lengthOf_44 rfl ?_ ?_
      · refine J_bipush (v := 30) dX11_lengthOf_59 rfl ?_
        refine J_goto 66 dX11_lengthOf_61 rfl ?_
        exact J_iret dX11_lengthOf_66 rfl ⟨rfl, rfl, rfl⟩
      · refine J_ild1 dX11_lengthOf_47 ?_
        refine J_bipush (v := 9) dX11_lengthOf_48 rfl ?_
        refine J_ic_eq 59 dX11_lengthOf_50 rfl ?_ ?_
        · refine J_bipush (v := 30) dX11_lengthOf_59 rfl ?_
          refine J_goto 66 dX11_lengthOf_61 rfl ?_
          exact J_iret dX11_lengthOf_66 rfl ⟨rfl, rfl, rfl⟩
        · refine J_ild1 dX11_lengthOf_53 ?_
          refine J_bipush (v := 11) dX11_lengthOf_54 rfl ?_
          refine J_ic_ne 64 dX11_lengthOf_56 rfl ?_ ?_
          · refine J_bipush (v := 31) dX11_lengthOf_64 rfl ?_
            exact J_iret dX11_lengthOf_66 rfl ⟨rfl, rfl, rfl⟩
          · refine J_bipush (v := 30) dX11_lengthOf_59 rfl ?_
            refine J_goto 66 dX11_lengthOf_61 rfl ?_
            exact J_iret dX11_lengthOf_66 rfl ⟨rfl, rfl, rfl⟩
  · refine J_ild0 dX11_lengthOf_15 ?_
    refine J_bipush (v := 11) dX11_lengthOf_16 rfl ?_
    refine J_iadd dX11_lengthOf_18 ?_
    refine J_bipush (v := 12) dX11_lengthOf_19 rfl ?_
    refine J_idivK dX11_lengthOf_21 (by decide) ?_
    refine J_iconst (v := 4) dX11_lengthOf_22 rfl ?_
    refine J_iremK dX11_lengthOf_23 (by decide) ?_
    refine J_iconst (v := 1) dX11_lengthOf_24 rfl ?_
    refine J_ic_ne 33 dX11_lengthOf_25 rfl ?_ ?_
    · refine J_bipush (v := 28) dX11_lengthOf_33 rfl ?_
      exact J_iret dX11_lengthOf_35 rfl ⟨rfl, rfl, rfl⟩
    · refine J_bipush (v := 29) dX11_lengthOf_28 rfl ?_
      refine J_goto 35 dX11_lengthOf_30 rfl ?_
      exact J_iret dX11_lengthOf_35 rfl ⟨rfl, rfl, rfl⟩
set_option maxRecDepth 100000 in
theorem jX11_monthOf_c2 {l : Launch} {cx : CX} {n : Nat} {M : Mem} : ∀ (f : Nat) {v1 : Int32} {v2 : Int32}, JO l cx ({ frames := 0, cells := 0, slots := 0, locals := 0 } : Room) yX11_monthOf cX11_monthOf 3 (some .int) 0 0 false 207 218 (EP M) GS 0 0 2 [some (.ref 207), some (.int v1), some (.int v2)] [] M (mX11_monthOf_c2 n f v1 v2 M) := by
  intro f
  induction f with
  | zero =>
    intros
    exact J_none
  | succ f ih =>
    intro v1 v2
    unfold mX11_monthOf_c2
    refine J_ald0 dX11_monthOf_2 ?_
    refine J_getr (q := 208) fl_RX11_7 dX11_monthOf_3 kk_207 rfl (rf_11_0 kk_207) ?_
    refine J_ild2 dX11_monthOf_6 ?_
    refine J_iconst (v := 1) dX11_monthOf_7 rfl ?_
    refine J_iadd dX11_monthOf_8 ?_
    refine J_iald dX11_monthOf_9 kk_208 rfl ?_
    refine J_ild1 dX11_monthOf_10 ?_
    refine J_ic_gt 21 dX11_monthOf_11 rfl ?_ ?_
    · refine J_ild2 dX11_monthOf_21 ?_
      exact J_iret dX11_monthOf_22 rfl ⟨rfl, rfl, rfl⟩
    · refine J_ild2 dX11_monthOf_14 ?_
      refine J_iconst (v := 1) dX11_monthOf_15 rfl ?_
      refine J_iadd dX11_monthOf_16 ?_
      refine J_ist2 dX11_monthOf_17 (by decide) rfl ?_
      refine J_goto 2 dX11_monthOf_18 rfl ?_
      exact J_wk (wk_s (wk_s (wk_s wk_0))) (ih)
set_option maxRecDepth 100000 in
theorem jX11_monthOf (l : Launch) (cx : CX) (n : Nat) (a : Int32) (M : Mem) : Con l cx ({ frames := 0, cells := 0, slots := 0, locals := 0 } : Room) yX11_monthOf cX11_monthOf 3 (some .int) 0 0 false 207 218 (EP M) GS [.ref 207, .int a] M (mX11_monthOf n a M) := by
  unfold mX11_monthOf
  refine Con.of (ls := [some (.ref 207), some (.int a), none]) (by decide) rfl (Nat.le_of_ble_eq_true rfl) ?_
  refine J_iconst (v := 0) dX11_monthOf_0 rfl ?_
  refine J_ist2 dX11_monthOf_1 (by decide) rfl ?_
  exact J_wk (wk_s (wk_s (wk_s wk_0))) (jX11_monthOf_c2 (n := n) n)
set_option maxRecDepth 100000 in
theorem jX11_turnIn (l : Launch) (cx : CX) (n : Nat) (a : Int32) (b : Int32) (M : Mem) : Con l cx ({ frames := 1, cells := 0, slots := 0, locals := 21 } : Room) yX11_turnIn cX11_turnIn 3 (some .int) 0 0 false 207 218 (EP M) GS [.ref 207, .int a, .int b] M (mX11_turnIn a b M) := by
  unfold mX11_turnIn
  refine Con.of (ls := [some (.ref 207), some (.int a), some (.int b)]) (by decide) rfl (Nat.le_of_ble_eq_true rfl) ?_
  refine J_ald0 dX11_turnIn_0 ?_
  refine J_getr (q := 208) fl_RX11_7 dX11_turnIn_1 kk_207 rfl (rf_11_0 kk_207) ?_
  refine J_ild1 dX11_turnIn_4 ?_
  refine J_iald dX11_turnIn_5 kk_208 rfl ?_
  refine J_ild2 dX11_turnIn_6 ?_
  refine J_ald0 dX11_turnIn_7 ?_
  refine J_getr (q := 208) fl_RX11_7 dX11_turnIn_8 kk_207 rfl (rf_11_0 kk_207) ?_
  refine J_ild1 dX11_turnIn_11 ?_
  refine J_iconst (v := 1) dX11_turnIn_12 rfl ?_
  refine J_iadd dX11_turnIn_13 ?_
  refine J_iald dX11_turnIn_14 kk_208 rfl ?_
  refine J_ald0 dX11_turnIn_15 ?_
  refine J_getr (q := 208) fl_RX11_7 dX11_turnIn_16 kk_207 rfl (rf_11_0 kk_207) ?_
  refine J_ild1 dX11_turnIn_19 ?_
  refine J_iald dX11_turnIn_20 kk_208 rfl ?_
  refine J_isub dX11_turnIn_21 ?_
  refine J_cSP (jX11_min l cx n b ((M 208 (Int32.toNatClampNeg (a + (1 : Int32)))) - (M 208 (Int32.toNatClampNeg a))) M) ck_RX11_46 dX11_turnIn_22 rfl ⟨rfl, rfl, by decide, by decide⟩ ⟨Nat.zero_le _, Nat.zero_le _, Nat.le_of_ble_eq_true rfl⟩ (fun r1 => ?_)
  refine J_iadd dX11_turnIn_25 ?_
  refine J_iconst (v := 1) dX11_turnIn_26 rfl ?_
  refine J_isub dX11_turnIn_27 ?_
  exact J_iret dX11_turnIn_28 rfl ⟨rfl, rfl, rfl⟩
set_option maxRecDepth 100000 in
theorem jX11_lastTurn (l : Launch) (cx : CX) (n : Nat) (a : Int32) (b : Int32) (M : Mem) : Con l cx ({ frames := 2, cells := 0, slots := 0, locals := 43 } : Room) yX11_lastTurn cX11_lastTurn 4 (some .int) 0 0 false 207 218 (EP M) GS [.ref 207, .int a, .int b] M (mX11_lastTurn n a b M) := by
  unfold mX11_lastTurn
  refine Con.of (ls := [some (.ref 207), some (.int a), some (.int b), none]) (by decide) rfl (Nat.le_of_ble_eq_true rfl) ?_
  refine J_ald0 dX11_lastTurn_0 ?_
  refine J_ild2 dX11_lastTurn_1 ?_
  refine J_cVP (jX11_monthOf l cx n b M) ck_RX11_50 dX11_lastTurn_2 rfl kk_207 ⟨rfl, rfl, by decide, by decide⟩ ⟨Nat.zero_le _, Nat.zero_le _, Nat.le_of_ble_eq_true rfl⟩ (fun r1 => ?_)
  refine J_ist3 dX11_lastTurn_5 (by decide) rfl ?_
  refine J_ald0 dX11_lastTurn_6 ?_
  refine J_ild3 dX11_lastTurn_7 ?_
  refine J_ild1 dX11_lastTurn_8 ?_
  refine J_cVP (jX11_turnIn l cx n r1 a M) ck_RX11_53 dX11_lastTurn_9 rfl kk_207 ⟨rfl, rfl, by decide, by decide⟩ ⟨Nat.zero_le _, Nat.zero_le _, Nat.le_of_ble_eq_true rfl⟩ (fun r2 => ?_)
  refine J_ild2 dX11_lastTurn_12 ?_
  refine J_ic_gt 25 dX11_lastTurn_13 rfl ?_ ?_
  · refine J_ald0 dX11_lastTurn_25 ?_
    refine J_ild3 dX11_lastTurn_26 ?_
    refine J_iconst (v := 1) dX11_lastTurn_27 rfl ?_
    refine J_isub dX11_lastTurn_28 ?_
    refine J_ild1 dX11_lastTurn_29 ?_
    refine J_cVP (jX11_turnIn l cx n (r1 - (1 : Int32)) a M) ck_RX11_53 dX11_lastTurn_30 rfl kk_207 ⟨rfl, rfl, by decide, by decide⟩ ⟨Nat.zero_le _, Nat.zero_le _, Nat.le_of_ble_eq_true rfl⟩ (fun r3 => ?_)
    exact J_iret dX11_lastTurn_33 rfl ⟨rfl, rfl, rfl⟩
  · refine J_ald0 dX11_lastTurn_16 ?_
    refine J_ild3 dX11_lastTurn_17 ?_
    refine J_ild1 dX11_lastTurn_18 ?_
    refine J_cVP (jX11_turnIn l cx n r1 a M) ck_RX11_53 dX11_lastTurn_19 rfl kk_207 ⟨rfl, rfl, by decide, by decide⟩ ⟨Nat.zero_le _, Nat.zero_le _, Nat.le_of_ble_eq_true rfl⟩ (fun r4 => ?_)
    refine J_goto 33 dX11_lastTurn_22 rfl ?_
    exact J_iret dX11_lastTurn_33 rfl ⟨rfl, rfl, rfl⟩
set_option maxRecDepth 100000 in
theorem jX11_nextTurn (l : Launch) (cx : CX) (n : Nat) (a : Int32) (b : Int32) (M : Mem) : Con l cx ({ frames := 2, cells := 0, slots := 0, locals := 43 } : Room) yX11_nextTurn cX11_nextTurn 4 (some .int) 0 0 false 207 218 (EP M) GS [.ref 207, .int a, .int b] M (mX11_nextTurn n a b M) := by
  unfold mX11_nextTurn
  refine Con.of (ls := [some (.ref 207), some (.int a), some (.int b), none]) (by decide) rfl (Nat.le_of_ble_eq_true rfl) ?_
  refine J_ald0 dX11_nextTurn_0 ?_
  refine J_ild2 dX11_nextTurn_1 ?_
  refine J_cVP (jX11_monthOf l cx n b M) ck_RX11_50 dX11_nextTurn_2 rfl kk_207 ⟨rfl, rfl, by decide, by decide⟩ ⟨Nat.zero_le _, Nat.zero_le _, Nat.le_of_ble_eq_true rfl⟩ (fun r1 => ?_)
  refine J_ist3 dX11_nextTurn_5 (by decide) rfl ?_
  refine J_ald0 dX11_nextTurn_6 ?_
  refine J_ild3 dX11_nextTurn_7 ?_
  refine J_ild1 dX11_nextTurn_8 ?_
  refine J_cVP (jX11_turnIn l cx n r1 a M) ck_RX11_53 dX11_nextTurn_9 rfl kk_207 ⟨rfl, rfl, by decide, by decide⟩ ⟨Nat.zero_le _, Nat.zero_le _, Nat.le_of_ble_eq_true rfl⟩ (fun r2 => ?_)
  refine J_ild2 dX11_nextTurn_12 ?_
  refine J_ic_le 25 dX11_nextTurn_13 rfl ?_ ?_
  · refine J_ald0 dX11_nextTurn_25 ?_
    refine J_ild3 dX11_nextTurn_26 ?_
    refine J_iconst (v := 1) dX11_nextTurn_27 rfl ?_
    refine J_iadd dX11_nextTurn_28 ?_
    refine J_ild1 dX11_nextTurn_29 ?_
    refine J_cVP (jX11_turnIn l cx n (r1 + (1 : Int32)) a M) ck_RX11_53 dX11_nextTurn_30 rfl kk_207 ⟨rfl, rfl, by decide, by decide⟩ ⟨Nat.zero_le _, Nat.zero_le _, Nat.le_of_ble_eq_true rfl⟩ (fun r3 => ?_)
    exact J_iret dX11_nextTurn_33 rfl ⟨rfl, rfl, rfl⟩
  · refine J_ald0 dX11_nextTurn_16 ?_
    refine J_ild3 dX11_nextTurn_17 ?_
    refine J_ild1 dX11_nextTurn_18 ?_
    refine J_cVP (jX11_turnIn l cx n r1 a M) ck_RX11_53 dX11_nextTurn_19 rfl kk_207 ⟨rfl, rfl, by decide, by decide⟩ ⟨Nat.zero_le _, Nat.zero_le _, Nat.le_of_ble_eq_true rfl⟩ (fun r4 => ?_)
    refine J_goto 33 dX11_nextTurn_22 rfl ?_
    exact J_iret dX11_nextTurn_33 rfl ⟨rfl, rfl, rfl⟩
set_option maxRecDepth 100000 in
theorem jX11_isDay (l : Launch) (cx : CX) (n : Nat) (a : Int32) (M : Mem) : Con l cx ({ frames := 1, cells := 0, slots := 0, locals := 22 } : Room) yX11_isDay cX11_isDay 1 (some .boolean) 0 0 false 207 218 (EB M) GS [.int a] M (mX11_isDay a) := by
  unfold mX11_isDay
  refine Con.of (ls := [some (.int a)]) (by decide) rfl (Nat.le_of_ble_eq_true rfl) ?_
  refine J_ild0 dX11_isDay_0 ?_
  refine J_iconst (v := 0) dX11_isDay_1 rfl ?_
  refine J_sipush (v := 3652) dX11_isDay_2 rfl ?_
  refine J_cSB (jX11_in l cx n a (0 : Int32) (3652 : Int32) M) ck_RX11_56 dX11_isDay_5 rfl ⟨rfl, rfl, by decide, by decide⟩ ⟨Nat.zero_le _, Nat.zero_le _, Nat.le_of_ble_eq_true rfl⟩ (fun r1 z2 => ?_)
  exact J_zret dX11_isDay_8 rfl z2 ⟨rfl, rfl, rfl, z2⟩
set_option maxRecDepth 100000 in
theorem jX11_isAnchor (l : Launch) (cx : CX) (n : Nat) (a : Int32) (M : Mem) : Con l cx ({ frames := 1, cells := 0, slots := 0, locals := 22 } : Room) yX11_isAnchor cX11_isAnchor 1 (some .boolean) 0 0 false 207 218 (EB M) GS [.int a] M (mX11_isAnchor a) := by
  unfold mX11_isAnchor
  refine Con.of (ls := [some (.int a)]) (by decide) rfl (Nat.le_of_ble_eq_true rfl) ?_
  refine J_ild0 dX11_isAnchor_0 ?_
  refine J_iconst (v := 1) dX11_isAnchor_1 rfl ?_
  refine J_bipush (v := 31) dX11_isAnchor_2 rfl ?_
  refine J_cSB (jX11_in l cx n a (1 : Int32) (31 : Int32) M) ck_RX11_56 dX11_isAnchor_4 rfl ⟨rfl, rfl, by decide, by decide⟩ ⟨Nat.zero_le _, Nat.zero_le _, Nat.le_of_ble_eq_true rfl⟩ (fun r1 z2 => ?_)
  exact J_zret dX11_isAnchor_7 rfl z2 ⟨rfl, rfl, rfl, z2⟩
set_option maxRecDepth 100000 in
theorem jX11_span (l : Launch) (cx : CX) (n : Nat) (a : Int32) (b : Int32) (c : Int32) (M : Mem) : Con l cx ({ frames := 3, cells := 0, slots := 0, locals := 66 } : Room) yX11_span cX11_span 6 (some .int) 0 0 false 207 218 (EP M) GS [.ref 207, .int a, .int b, .int c] M (mX11_span n a b c M) := by
  unfold mX11_span
  refine Con.of (ls := [some (.ref 207), some (.int a), some (.int b), some (.int c), none, none]) (by decide) rfl (Nat.le_of_ble_eq_true rfl) ?_
  refine J_ild1 dX11_span_0 ?_
  refine J_cSB (jX11_isAnchor l cx n a M) ck_RX11_60 dX11_span_1 rfl ⟨rfl, rfl, by decide, by decide⟩ ⟨Nat.zero_le _, Nat.zero_le _, Nat.le_of_ble_eq_true rfl⟩ (fun r1 z2 => ?_)
  refine J_if_eq 23 dX11_span_4 rfl ?_ ?_
  · refine J_iconst (v := -1) dX11_span_23 rfl ?_
    exact J_iret dX11_span_24 rfl ⟨rfl, rfl, rfl⟩
  · refine J_ild2 dX11_span_7 ?_
    refine J_cSB (jX11_isDay l cx n b M) ck_RX11_64 dX11_span_8 rfl ⟨rfl, rfl, by decide, by decide⟩ ⟨Nat.zero_le _, Nat.zero_le _, Nat.le_of_ble_eq_true rfl⟩ (fun r3 z4 => ?_)
    refine J_if_eq 23 dX11_span_11 rfl ?_ ?_
    · refine J_iconst (v := -1) dX11_span_23 rfl ?_
      exact J_iret dX11_span_24 rfl ⟨rfl, rfl, rfl⟩
    · refine J_ild3 dX11_span_14 ?_
      refine J_iconst (v := 0) dX11_span_15 rfl ?_
      refine J_iconst (v := 2) dX11_span_16 rfl ?_
      refine J_cSB (jX11_in l cx n c (0 : Int32) (2 : Int32) M) ck_RX11_56 dX11_span_17 rfl ⟨rfl, rfl, by decide, by decide⟩ ⟨Nat.zero_le _, Nat.zero_le _, Nat.le_of_ble_eq_true rfl⟩ (fun r5 z6 => ?_)
      refine J_if_ne 25 dX11_span_20 rfl ?_ ?_
      · refine J_ald0 dX11_span_25 ?_
        refine J_ild1 dX11_span_26 ?_
        refine J_ild2 dX11_span_27 ?_
        refine J_cVP (jX11_lastTurn l cx n a b M) ck_RX11_67 dX11_span_28 rfl kk_207 ⟨rfl, rfl, by decide, by decide⟩ ⟨Nat.zero_le _, Nat.zero_le _, Nat.le_of_ble_eq_true rfl⟩ (fun r7 => ?_)
        refine J_ist4 dX11_span_31 (by decide) rfl ?_
        refine J_ald0 dX11_span_33 ?_
        refine J_ild1 dX11_span_34 ?_
        refine J_ild2 dX11_span_35 ?_
        refine J_cVP (jX11_nextTurn l cx n a b M) ck_RX11_70 dX11_span_36 rfl kk_207 ⟨rfl, rfl, by decide, by decide⟩ ⟨Nat.zero_le _, Nat.zero_le _, Nat.le_of_ble_eq_true rfl⟩ (fun r8 => ?_)
        refine J_ist5 dX11_span_39 (by decide) rfl ?_
        refine J_ild3 dX11_span_41 ?_
        refine J_if_ne 60 dX11_span_42 rfl ?_ ?_
        · refine J_ild3 dX11_span_60 ?_
          refine J_iconst (v := 1) dX11_span_61 rfl ?_
          refine J_ic_ne 70 dX11_span_62 rfl ?_ ?_
          · refine J_ild5 dX11_span_70 ?_
            refine J_ild4 dX11_span_72 ?_
            refine J_isub dX11_span_74 ?_
            exact J_iret dX11_span_75 rfl ⟨rfl, rfl, rfl⟩
          · refine J_ild5 dX11_span_65 ?_
            refine J_goto 75 dX11_span_67 rfl ?_
            exact J_iret dX11_span_75 rfl ⟨rfl, rfl, rfl⟩
        · refine J_ild4 dX11_span_45 ?_
          refine J_if_ge 55 dX11_span_47 rfl ?_ ?_
          · refine J_ild4 dX11_span_55 ?_
            refine J_goto 75 dX11_span_57 rfl ?_
            exact J_iret dX11_span_75 rfl ⟨rfl, rfl, rfl⟩
          · refine J_bipush (v := -2) dX11_span_50 rfl ?_
            refine J_goto 75 dX11_span_52 rfl ?_
            exact J_iret dX11_span_75 rfl ⟨rfl, rfl, rfl⟩
      · refine J_iconst (v := -1) dX11_span_23 rfl ?_
        exact J_iret dX11_span_24 rfl ⟨rfl, rfl, rfl⟩
set_option maxRecDepth 100000 in
theorem jX11_yearOf (l : Launch) (cx : CX) (n : Nat) (a : Int32) (M : Mem) : Con l cx ({ frames := 0, cells := 0, slots := 0, locals := 0 } : Room) yX11_yearOf cX11_yearOf 2 (some .int) 0 0 false 207 218 (EP M) GS [.ref 207, .int a] M (mX11_yearOf a) := by
  unfold mX11_yearOf
  refine Con.of (ls := [some (.ref 207), some (.int a)]) (by decide) rfl (Nat.le_of_ble_eq_true rfl) ?_
  refine J_sipush (v := 2023) dX11_yearOf_0 rfl ?_
  refine J_ild1 dX11_yearOf_3 ?_
  refine J_bipush (v := 11) dX11_yearOf_4 rfl ?_
  refine J_iadd dX11_yearOf_6 ?_
  refine J_bipush (v := 12) dX11_yearOf_7 rfl ?_
  refine J_idivK dX11_yearOf_9 (by decide) ?_
  refine J_iadd dX11_yearOf_10 ?_
  exact J_iret dX11_yearOf_11 rfl ⟨rfl, rfl, rfl⟩
set_option maxRecDepth 100000 in
theorem jX11_dateOf (l : Launch) (cx : CX) (n : Nat) (a : Int32) (b : Int32) (M : Mem) : Con l cx ({ frames := 1, cells := 0, slots := 0, locals := 22 } : Room) yX11_dateOf cX11_dateOf 4 (some .int) 0 0 false 207 218 (EP M) GS [.ref 207, .int a, .int b] M (mX11_dateOf n a b M) := by
  unfold mX11_dateOf
  refine Con.of (ls := [some (.ref 207), some (.int a), some (.int b), none]) (by decide) rfl (Nat.le_of_ble_eq_true rfl) ?_
  refine J_ald0 dX11_dateOf_0 ?_
  refine J_ild1 dX11_dateOf_1 ?_
  refine J_cVP (jX11_monthOf l cx n a M) ck_RX11_50 dX11_dateOf_2 rfl kk_207 ⟨rfl, rfl, by decide, by decide⟩ ⟨Nat.zero_le _, Nat.zero_le _, Nat.le_of_ble_eq_true rfl⟩ (fun r1 => ?_)
  refine J_ist3 dX11_dateOf_5 (by decide) rfl ?_
  refine J_ild2 dX11_dateOf_6 ?_
  refine J_if_ne 18 dX11_dateOf_7 rfl ?_ ?_
  · refine J_ild2 dX11_dateOf_18 ?_
    refine J_iconst (v := 1) dX11_dateOf_19 rfl ?_
    refine J_ic_ne 35 dX11_dateOf_20 rfl ?_ ?_
    · refine J_ild1 dX11_dateOf_35 ?_
      refine J_ald0 dX11_dateOf_36 ?_
      refine J_getr (q := 208) fl_RX11_7 dX11_dateOf_37 kk_207 rfl (rf_11_0 kk_207) ?_
      refine J_ild3 dX11_dateOf_40 ?_
      refine J_iald dX11_dateOf_41 kk_208 rfl ?_
      refine J_isub dX11_dateOf_42 ?_
      refine J_iconst (v := 1) dX11_dateOf_43 rfl ?_
      refine J_iadd dX11_dateOf_44 ?_
      exact J_iret dX11_dateOf_45 rfl ⟨rfl, rfl, rfl⟩
    · refine J_ild3 dX11_dateOf_23 ?_
      refine J_bipush (v := 11) dX11_dateOf_24 rfl ?_
      refine J_iadd dX11_dateOf_26 ?_
      refine J_bipush (v := 12) dX11_dateOf_27 rfl ?_
      refine J_iremK dX11_dateOf_29 (by decide) ?_
      refine J_iconst (v := 1) dX11_dateOf_30 rfl ?_
      refine J_iadd dX11_dateOf_31 ?_
      refine J_goto 45 dX11_dateOf_32 rfl ?_
      exact J_iret dX11_dateOf_45 rfl ⟨rfl, rfl, rfl⟩
  · refine J_ald0 dX11_dateOf_10 ?_
    refine J_ild3 dX11_dateOf_11 ?_
    refine J_cVP (jX11_yearOf l cx n r1 M) ck_RX11_73 dX11_dateOf_12 rfl kk_207 ⟨rfl, rfl, by decide, by decide⟩ ⟨Nat.zero_le _, Nat.zero_le _, Nat.le_of_ble_eq_true rfl⟩ (fun r2 => ?_)
    refine J_goto 45 dX11_dateOf_15 rfl ?_
    exact J_iret dX11_dateOf_45 rfl ⟨rfl, rfl, rfl⟩
set_option maxRecDepth 100000 in
theorem jX11_date (l : Launch) (cx : CX) (n : Nat) (a : Int32) (b : Int32) (M : Mem) : Con l cx ({ frames := 2, cells := 0, slots := 0, locals := 45 } : Room) yX11_date cX11_date 3 (some .int) 0 0 false 207 218 (EP M) GS [.ref 207, .int a, .int b] M (mX11_date n a b M) := by
  unfold mX11_date
  refine Con.of (ls := [some (.ref 207), some (.int a), some (.int b)]) (by decide) rfl (Nat.le_of_ble_eq_true rfl) ?_
  refine J_ild1 dX11_date_0 ?_
  refine J_cSB (jX11_isDay l cx n a M) ck_RX11_64 dX11_date_1 rfl ⟨rfl, rfl, by decide, by decide⟩ ⟨Nat.zero_le _, Nat.zero_le _, Nat.le_of_ble_eq_true rfl⟩ (fun r1 z2 => ?_)
  refine J_if_eq 25 dX11_date_4 rfl ?_ ?_
  · refine J_iconst (v := -1) dX11_date_25 rfl ?_
    exact J_iret dX11_date_26 rfl ⟨rfl, rfl, rfl⟩
  · refine J_ild2 dX11_date_7 ?_
    refine J_iconst (v := 0) dX11_date_8 rfl ?_
    refine J_iconst (v := 2) dX11_date_9 rfl ?_
    refine J_cSB (jX11_in l cx n b (0 : Int32) (2 : Int32) M) ck_RX11_56 dX11_date_10 rfl ⟨rfl, rfl, by decide, by decide⟩ ⟨Nat.zero_le _, Nat.zero_le _, Nat.le_of_ble_eq_true rfl⟩ (fun r3 z4 => ?_)
    refine J_if_eq 25 dX11_date_13 rfl ?_ ?_
    · refine J_iconst (v := -1) dX11_date_25 rfl ?_
      exact J_iret dX11_date_26 rfl ⟨rfl, rfl, rfl⟩
    · refine J_ald0 dX11_date_16 ?_
      refine J_ild1 dX11_date_17 ?_
      refine J_ild2 dX11_date_18 ?_
      refine J_cVP (jX11_dateOf l cx n a b M) ck_RX11_76 dX11_date_19 rfl kk_207 ⟨rfl, rfl, by decide, by decide⟩ ⟨Nat.zero_le _, Nat.zero_le _, Nat.le_of_ble_eq_true rfl⟩ (fun r5 => ?_)
      refine J_goto 26 dX11_date_22 rfl ?_
      exact J_iret dX11_date_26 rfl ⟨rfl, rfl, rfl⟩
set_option maxRecDepth 100000 in
theorem jX11_day (l : Launch) (cx : CX) (n : Nat) (a : Int32) (b : Int32) (c : Int32) (M : Mem) : Con l cx ({ frames := 1, cells := 0, slots := 0, locals := 22 } : Room) yX11_day cX11_day 5 (some .int) 0 0 false 207 218 (EP M) GS [.ref 207, .int a, .int b, .int c] M (mX11_day a b c M) := by
  unfold mX11_day
  refine Con.of (ls := [some (.ref 207), some (.int a), some (.int b), some (.int c), none]) (by decide) rfl (Nat.le_of_ble_eq_true rfl) ?_
  refine J_ild1 dX11_day_0 ?_
  refine J_sipush (v := 2024) dX11_day_1 rfl ?_
  refine J_sipush (v := 2033) dX11_day_4 rfl ?_
  refine J_cSB (jX11_in l cx n a (2024 : Int32) (2033 : Int32) M) ck_RX11_56 dX11_day_7 rfl ⟨rfl, rfl, by decide, by decide⟩ ⟨Nat.zero_le _, Nat.zero_le _, Nat.le_of_ble_eq_true rfl⟩ (fun r1 z2 => ?_)
  refine J_if_eq 23 dX11_day_10 rfl ?_ ?_
  · refine J_iconst (v := -1) dX11_day_23 rfl ?_
    exact J_iret dX11_day_24 rfl ⟨rfl, rfl, rfl⟩
  · refine J_ild2 dX11_day_13 ?_
    refine J_iconst (v := 1) dX11_day_14 rfl ?_
    refine J_bipush (v := 12) dX11_day_15 rfl ?_
    refine J_cSB (jX11_in l cx n b (1 : Int32) (12 : Int32) M) ck_RX11_56 dX11_day_17 rfl ⟨rfl, rfl, by decide, by decide⟩ ⟨Nat.zero_le _, Nat.zero_le _, Nat.le_of_ble_eq_true rfl⟩ (fun r3 z4 => ?_)
    refine J_if_ne 25 dX11_day_20 rfl ?_ ?_
    · refine J_bipush (v := 12) dX11_day_25 rfl ?_
      refine J_ild1 dX11_day_27 ?_
      refine J_sipush (v := 2024) dX11_day_28 rfl ?_
      refine J_isub dX11_day_31 ?_
      refine J_imul dX11_day_32 ?_
      refine J_ild2 dX11_day_33 ?_
      refine J_iadd dX11_day_34 ?_
      refine J_ist4 dX11_day_35 (by decide) rfl ?_
      refine J_ild3 dX11_day_37 ?_
      refine J_iconst (v := 1) dX11_day_38 rfl ?_
      refine J_ild4 dX11_day_39 ?_
      refine J_cSP (jX11_lengthOf l cx n (((12 : Int32) * (a - (2024 : Int32))) + b) M) ck_RX11_42 dX11_day_41 rfl ⟨rfl, rfl, by decide, by decide⟩ ⟨Nat.zero_le _, Nat.zero_le _, Nat.le_of_ble_eq_true rfl⟩ (fun r5 => ?_)
      refine J_cSB (jX11_in l cx n c (1 : Int32) r5 M) ck_RX11_56 dX11_day_44 rfl ⟨rfl, rfl, by decide, by decide⟩ ⟨Nat.zero_le _, Nat.zero_le _, Nat.le_of_ble_eq_true rfl⟩ (fun r6 z7 => ?_)
      refine J_if_eq 64 dX11_day_47 rfl ?_ ?_
      · refine J_iconst (v := -1) dX11_day_64 rfl ?_
        exact J_iret dX11_day_65 rfl ⟨rfl, rfl, rfl⟩
      · refine J_ald0 dX11_day_50 ?_
        refine J_getr (q := 208) fl_RX11_7 dX11_day_51 kk_207 rfl (rf_11_0 kk_207) ?_
        refine J_ild4 dX11_day_54 ?_
        refine J_iald dX11_day_56 kk_208 rfl ?_
        refine J_ild3 dX11_day_57 ?_
        refine J_iadd dX11_day_58 ?_
        refine J_iconst (v := 1) dX11_day_59 rfl ?_
        refine J_isub dX11_day_60 ?_
        refine J_goto 65 dX11_day_61 rfl ?_
        exact J_iret dX11_day_65 rfl ⟨rfl, rfl, rfl⟩
    · refine J_iconst (v := -1) dX11_day_23 rfl ?_
      exact J_iret dX11_day_24 rfl ⟨rfl, rfl, rfl⟩
set_option maxRecDepth 100000 in
theorem jX11_slice (l : Launch) (cx : CX) (n : Nat) (a : Int32) (b : Int32) (c : Int32) (d : Int32) (M : Mem) : Con l cx ({ frames := 3, cells := 0, slots := 0, locals := 66 } : Room) yX11_slice cX11_slice 7 (some .int) 0 0 false 207 218 (EP M) GS [.ref 207, .int a, .int b, .int c, .int d] M (mX11_slice n a b c d M) := by
  unfold mX11_slice
  refine Con.of (ls := [some (.ref 207), some (.int a), some (.int b), some (.int c), some (.int d), none, none]) (by decide) rfl (Nat.le_of_ble_eq_true rfl) ?_
  refine J_ald0 dX11_slice_0 ?_
  refine J_ild2 dX11_slice_1 ?_
  refine J_ild3 dX11_slice_2 ?_
  refine J_cVP (jX11_lastTurn l cx n b c M) ck_RX11_67 dX11_slice_3 rfl kk_207 ⟨rfl, rfl, by decide, by decide⟩ ⟨Nat.zero_le _, Nat.zero_le _, Nat.le_of_ble_eq_true rfl⟩ (fun r1 => ?_)
  refine J_ist5 dX11_slice_6 (by decide) rfl ?_
  refine J_ald0 dX11_slice_8 ?_
  refine J_ild2 dX11_slice_9 ?_
  refine J_ild3 dX11_slice_10 ?_
  refine J_cVP (jX11_nextTurn l cx n b c M) ck_RX11_70 dX11_slice_11 rfl kk_207 ⟨rfl, rfl, by decide, by decide⟩ ⟨Nat.zero_le _, Nat.zero_le _, Nat.le_of_ble_eq_true rfl⟩ (fun r2 => ?_)
  refine J_ild5 dX11_slice_14 ?_
  refine J_isub dX11_slice_16 ?_
  refine J_ist6 dX11_slice_17 (by decide) rfl ?_
  refine J_ild1 dX11_slice_19 ?_
  refine J_ild4 dX11_slice_20 ?_
  refine J_ild5 dX11_slice_22 ?_
  refine J_isub dX11_slice_24 ?_
  refine J_imul dX11_slice_25 ?_
  refine J_ild6 dX11_slice_26 ?_
  refine J_idiv dX11_slice_28 ?_
  refine J_ild1 dX11_slice_29 ?_
  refine J_ild3 dX11_slice_30 ?_
  refine J_ild5 dX11_slice_31 ?_
  refine J_isub dX11_slice_33 ?_
  refine J_imul dX11_slice_34 ?_
  refine J_ild6 dX11_slice_35 ?_
  refine J_idiv dX11_slice_37 ?_
  refine J_isub dX11_slice_38 ?_
  exact J_iret dX11_slice_39 rfl ⟨rfl, rfl, rfl⟩
set_option maxRecDepth 100000 in
theorem jX11_part (l : Launch) (cx : CX) (n : Nat) (a : Int32) (b : Int32) (c : Int32) (d : Int32) (M : Mem) : Con l cx ({ frames := 4, cells := 0, slots := 0, locals := 92 } : Room) yX11_part cX11_part 5 (some .int) 0 0 false 207 218 (EP M) GS [.ref 207, .int a, .int b, .int c, .int d] M (mX11_part n a b c d M) := by
  unfold mX11_part
  refine Con.of (ls := [some (.ref 207), some (.int a), some (.int b), some (.int c), some (.int d)]) (by decide) rfl (Nat.le_of_ble_eq_true rfl) ?_
  refine J_ild1 dX11_part_0 ?_
  refine J_iconst (v := 0) dX11_part_1 rfl ?_
  refine J_ldc dX11_part_2 wd_45 ?_
  refine J_cSB (jX11_in l cx n a (0 : Int32) (999999 : Int32) M) ck_RX11_56 dX11_part_4 rfl ⟨rfl, rfl, by decide, by decide⟩ ⟨Nat.zero_le _, Nat.zero_le _, Nat.le_of_ble_eq_true rfl⟩ (fun r1 z2 => ?_)
  refine J_if_eq 49 dX11_part_7 rfl ?_ ?_
  · refine J_iconst (v := -1) dX11_part_49 rfl ?_
    exact J_iret dX11_part_50 rfl ⟨rfl, rfl, rfl⟩
  · refine J_ild2 dX11_part_10 ?_
    refine J_cSB (jX11_isAnchor l cx n b M) ck_RX11_60 dX11_part_11 rfl ⟨rfl, rfl, by decide, by decide⟩ ⟨Nat.zero_le _, Nat.zero_le _, Nat.le_of_ble_eq_true rfl⟩ (fun r3 z4 => ?_)
    refine J_if_eq 49 dX11_part_14 rfl ?_ ?_
    · refine J_iconst (v := -1) dX11_part_49 rfl ?_
      exact J_iret dX11_part_50 rfl ⟨rfl, rfl, rfl⟩
    · refine J_ild3 dX11_part_17 ?_
      refine J_cSB (jX11_isDay l cx n c M) ck_RX11_64 dX11_part_18 rfl ⟨rfl, rfl, by decide, by decide⟩ ⟨Nat.zero_le _, Nat.zero_le _, Nat.le_of_ble_eq_true rfl⟩ (fun r5 z6 => ?_)
      refine J_if_eq 49 dX11_part_21 rfl ?_ ?_
      · refine J_iconst (v := -1) dX11_part_49 rfl ?_
        exact J_iret dX11_part_50 rfl ⟨rfl, rfl, rfl⟩
      · refine J_ild4 dX11_part_24 ?_
        refine J_cSB (jX11_isDay l cx n d M) ck_RX11_64 dX11_part_26 rfl ⟨rfl, rfl, by decide, by decide⟩ ⟨Nat.zero_le _, Nat.zero_le _, Nat.le_of_ble_eq_true rfl⟩ (fun r7 z8 => ?_)
        refine J_if_eq 49 dX11_part_29 rfl ?_ ?_
        · refine J_iconst (v := -1) dX11_part_49 rfl ?_
          exact J_iret dX11_part_50 rfl ⟨rfl, rfl, rfl⟩
        · refine J_ild4 dX11_part_32 ?_
          refine J_ild3 dX11_part_34 ?_
          refine J_ic_lt 49 dX11_part_35 rfl ?_ ?_
          · refine J_iconst (v := -1) dX11_part_49 rfl ?_
            exact J_iret dX11_part_50 rfl ⟨rfl, rfl, rfl⟩
          · refine J_ild4 dX11_part_38 ?_
            refine J_ald0 dX11_part_40 ?_
            refine J_ild2 dX11_part_41 ?_
            refine J_ild3 dX11_part_42 ?_
            refine J_cVP (jX11_nextTurn l cx n b c M) ck_RX11_70 dX11_part_43 rfl kk_207 ⟨rfl, rfl, by decide, by decide⟩ ⟨Nat.zero_le _, Nat.zero_le _, Nat.le_of_ble_eq_true rfl⟩ (fun r9 => ?_)
            refine J_ic_le 51 dX11_part_46 rfl ?_ ?_
            · refine J_ald0 dX11_part_51 ?_
              refine J_ild1 dX11_part_52 ?_
              refine J_ild2 dX11_part_53 ?_
              refine J_ild3 dX11_part_54 ?_
              refine J_ild4 dX11_part_55 ?_
              refine J_cVP (jX11_slice l cx n a b c d M) ck_RX11_80 dX11_part_57 rfl kk_207 ⟨rfl, rfl, by decide, by decide⟩ ⟨Nat.zero_le _, Nat.zero_le _, Nat.le_of_ble_eq_true rfl⟩ (fun r10 => ?_)
              exact J_iret dX11_part_60 rfl ⟨rfl, rfl, rfl⟩
            · refine J_iconst (v := -1) dX11_part_49 rfl ?_
              exact J_iret dX11_part_50 rfl ⟨rfl, rfl, rfl⟩
set_option maxRecDepth 100000 in
theorem jX11_types_c2 {l : Launch} {cx : CX} {n : Nat} : ∀ (f : Nat) {v1 : Int32} {v2 : Int32} {M : Mem}, JO l cx ({ frames := 0, cells := 0, slots := 0, locals := 0 } : Room) yX11_types cX11_types 3 none 0 0 false 207 218 EV GS 0 0 2 [some (.ref 207), some (.int v1), some (.int v2)] [] M (mX11_types_c2 n f v1 v2 M) := by
  intro f
  induction f with
  | zero =>
    intros
    exact J_none
  | succ f ih =>
    intro v1 v2 M
    unfold mX11_types_c2
    refine J_ild2 dX11_types_2 ?_
    refine J_if_lt 38 dX11_types_3 rfl ?_ ?_
    · exact J_vret dX11_types_38 rfl ⟨rfl, rfl, rfl⟩
    · refine J_ald0 dX11_types_6 ?_
      refine J_getr (q := 210) fl_RX11_16 dX11_types_7 kk_207 rfl (rf_11_3 kk_207) ?_
      refine J_ald0 dX11_types_10 ?_
      refine J_geti fl_RX11_84 dX11_types_11 kk_207 rfl ?_
      refine J_ild1 dX11_types_14 ?_
      refine J_bipush (v := 8) dX11_types_15 rfl ?_
      refine J_ild2 dX11_types_17 ?_
      refine J_imul dX11_types_18 ?_
      refine J_ishr dX11_types_19 ?_
      refine J_i2b dX11_types_20 ?_
      refine J_bast dX11_types_21 kk_210 rfl ?_
      refine J_lt (fun M1 => ?_)
      refine J_ald0 dX11_types_22 ?_
      refine J_ald0 dX11_types_23 ?_
      refine J_geti fl_RX11_84 dX11_types_24 kk_207 rfl ?_
      refine J_iconst (v := 1) dX11_types_27 rfl ?_
      refine J_iadd dX11_types_28 ?_
      refine J_puti fl_RX11_84 dX11_types_29 kk_207 rfl (by decide) ?_
      refine J_iinc2 (w := (v2 + (-1 : Int32))) dX11_types_32 (by decide) rfl rfl ?_
      refine J_goto 2 dX11_types_35 rfl ?_
      exact J_wk (wk_s (wk_s (wk_s wk_0))) (ih)
set_option maxRecDepth 100000 in
theorem jX11_types (l : Launch) (cx : CX) (n : Nat) (a : Int32) (M : Mem) : Con l cx ({ frames := 0, cells := 0, slots := 0, locals := 0 } : Room) yX11_types cX11_types 3 none 0 0 false 207 218 EV GS [.ref 207, .int a] M (mX11_types n a M) := by
  unfold mX11_types
  refine Con.of (ls := [some (.ref 207), some (.int a), none]) (by decide) rfl (Nat.le_of_ble_eq_true rfl) ?_
  refine J_iconst (v := 3) dX11_types_0 rfl ?_
  refine J_ist2 dX11_types_1 (by decide) rfl ?_
  exact J_wk (wk_s (wk_s (wk_s wk_0))) (jX11_types_c2 (n := n) n)
set_option maxRecDepth 100000 in
theorem jX11_feed (l : Launch) (cx : CX) (n : Nat) (a : Int32) (b : Int32) (c : Int32) (d : Int32) (e0 : Int32) (M : Mem) : Con l cx ({ frames := 1, cells := 0, slots := 0, locals := 22 } : Room) yX11_feed cX11_feed 6 (some .int) 0 0 false 207 218 EI GS [.ref 207, .int a, .int b, .int c, .int d, .int e0] M (mX11_feed n a b c d e0 M) := by
  unfold mX11_feed
  refine Con.of (ls := [some (.ref 207), some (.int a), some (.int b), some (.int c), some (.int d), some (.int e0)]) (by decide) rfl (Nat.le_of_ble_eq_true rfl) ?_
  refine J_ald0 dX11_feed_0 ?_
  refine J_geti fl_RX11_84 dX11_feed_1 kk_207 rfl ?_
  refine J_bipush (v := 20) dX11_feed_4 rfl ?_
  refine J_iadd dX11_feed_6 ?_
  refine J_sipush (v := 400) dX11_feed_7 rfl ?_
  refine J_ic_le 15 dX11_feed_10 rfl ?_ ?_
  · refine J_ald0 dX11_feed_15 ?_
    refine J_ild1 dX11_feed_16 ?_
    refine J_cVV (jX11_types l cx n a M) ck_RX11_88 dX11_feed_17 rfl kk_207 ⟨rfl, rfl, by decide, by decide⟩ ⟨Nat.zero_le _, Nat.zero_le _, Nat.le_of_ble_eq_true rfl⟩ (fun M2 => ?_)
    refine J_ald0 dX11_feed_20 ?_
    refine J_ild2 dX11_feed_21 ?_
    refine J_cVV (jX11_types l cx n b M2) ck_RX11_88 dX11_feed_22 rfl kk_207 ⟨rfl, rfl, by decide, by decide⟩ ⟨Nat.zero_le _, Nat.zero_le _, Nat.le_of_ble_eq_true rfl⟩ (fun M4 => ?_)
    refine J_ald0 dX11_feed_25 ?_
    refine J_ild3 dX11_feed_26 ?_
    refine J_cVV (jX11_types l cx n c M4) ck_RX11_88 dX11_feed_27 rfl kk_207 ⟨rfl, rfl, by decide, by decide⟩ ⟨Nat.zero_le _, Nat.zero_le _, Nat.le_of_ble_eq_true rfl⟩ (fun M6 => ?_)
    refine J_ald0 dX11_feed_30 ?_
    refine J_ild4 dX11_feed_31 ?_
    refine J_cVV (jX11_types l cx n d M6) ck_RX11_88 dX11_feed_33 rfl kk_207 ⟨rfl, rfl, by decide, by decide⟩ ⟨Nat.zero_le _, Nat.zero_le _, Nat.le_of_ble_eq_true rfl⟩ (fun M8 => ?_)
    refine J_ald0 dX11_feed_36 ?_
    refine J_ild5 dX11_feed_37 ?_
    refine J_cVV (jX11_types l cx n e0 M8) ck_RX11_88 dX11_feed_39 rfl kk_207 ⟨rfl, rfl, by decide, by decide⟩ ⟨Nat.zero_le _, Nat.zero_le _, Nat.le_of_ble_eq_true rfl⟩ (fun M10 => ?_)
    refine J_ald0 dX11_feed_42 ?_
    refine J_geti fl_RX11_84 dX11_feed_43 kk_207 rfl ?_
    exact J_iret dX11_feed_46 rfl ⟨rfl, rfl, rfl⟩
  · refine J_iconst (v := -1) dX11_feed_13 rfl ?_
    exact J_iret dX11_feed_14 rfl ⟨rfl, rfl, rfl⟩
set_option maxRecDepth 100000 in
theorem jX11_here (l : Launch) (cx : CX) (n : Nat) (M : Mem) : Con l cx ({ frames := 0, cells := 0, slots := 0, locals := 0 } : Room) yX11_here cX11_here 1 (some .int) 0 0 false 207 218 (EP M) GS [.ref 207] M (mX11_here M) := by
  unfold mX11_here
  refine Con.of (ls := [some (.ref 207)]) (by decide) rfl (Nat.le_of_ble_eq_true rfl) ?_
  refine J_ald0 dX11_here_0 ?_
  refine J_geti fl_RX11_92 dX11_here_1 kk_207 rfl ?_
  refine J_ald0 dX11_here_4 ?_
  refine J_geti fl_RX11_95 dX11_here_5 kk_207 rfl ?_
  refine J_ic_ge 27 dX11_here_8 rfl ?_ ?_
  · refine J_iconst (v := -1) dX11_here_27 rfl ?_
    exact J_iret dX11_here_28 rfl ⟨rfl, rfl, rfl⟩
  · refine J_ald0 dX11_here_11 ?_
    refine J_getr (q := 210) fl_RX11_16 dX11_here_12 kk_207 rfl (rf_11_3 kk_207) ?_
    refine J_ald0 dX11_here_15 ?_
    refine J_geti fl_RX11_92 dX11_here_16 kk_207 rfl ?_
    refine J_bald dX11_here_19 kk_210 rfl ?_
    refine J_sipush (v := 255) dX11_here_20 rfl ?_
    refine J_iand dX11_here_23 ?_
    refine J_goto 28 dX11_here_24 rfl ?_
    exact J_iret dX11_here_28 rfl ⟨rfl, rfl, rfl⟩
set_option maxRecDepth 100000 in
theorem jX11_wrongAt (l : Launch) (cx : CX) (n : Nat) (a : Int32) (b : Int32) (M : Mem) : Con l cx ({ frames := 0, cells := 0, slots := 0, locals := 0 } : Room) yX11_wrongAt cX11_wrongAt 3 (some .boolean) 0 0 false 207 218 EZ GS [.ref 207, .int a, .int b] M (mX11_wrongAt a b M) := by
  unfold mX11_wrongAt
  refine Con.of (ls := [some (.ref 207), some (.int a), some (.int b)]) (by decide) rfl (Nat.le_of_ble_eq_true rfl) ?_
  refine J_ald0 dX11_wrongAt_0 ?_
  refine J_sipush (v := -1000) dX11_wrongAt_1 rfl ?_
  refine J_ild1 dX11_wrongAt_4 ?_
  refine J_imul dX11_wrongAt_5 ?_
  refine J_ild2 dX11_wrongAt_6 ?_
  refine J_isub dX11_wrongAt_7 ?_
  refine J_puti fl_RX11_98 dX11_wrongAt_8 kk_207 rfl (by decide) ?_
  refine J_iconst (v := 0) dX11_wrongAt_11 rfl ?_
  exact J_zret dX11_wrongAt_12 rfl (Or.inl rfl) ⟨rfl, rfl, rfl, (Or.inl rfl)⟩
set_option maxRecDepth 100000 in
theorem jX11_takesSign (l : Launch) (cx : CX) (n : Nat) (a : Int32) (M : Mem) : Con l cx ({ frames := 1, cells := 0, slots := 0, locals := 22 } : Room) yX11_takesSign cX11_takesSign 2 (some .boolean) 0 0 false 207 218 EZ GS [.ref 207, .int a] M (mX11_takesSign a M) := by
  unfold mX11_takesSign
  refine Con.of (ls := [some (.ref 207), some (.int a)]) (by decide) rfl (Nat.le_of_ble_eq_true rfl) ?_
  refine J_ald0 dX11_takesSign_0 ?_
  refine J_cVP (jX11_here l cx n  M) ck_RX11_101 dX11_takesSign_1 rfl kk_207 ⟨rfl, rfl, by decide, by decide⟩ ⟨Nat.zero_le _, Nat.zero_le _, Nat.le_of_ble_eq_true rfl⟩ (fun r1 => ?_)
  refine J_ild1 dX11_takesSign_4 ?_
  refine J_ic_eq 18 dX11_takesSign_5 rfl ?_ ?_
  · refine J_ald0 dX11_takesSign_18 ?_
    refine J_ald0 dX11_takesSign_19 ?_
    refine J_geti fl_RX11_92 dX11_takesSign_20 kk_207 rfl ?_
    refine J_iconst (v := 1) dX11_takesSign_23 rfl ?_
    refine J_iadd dX11_takesSign_24 ?_
    refine J_puti fl_RX11_92 dX11_takesSign_25 kk_207 rfl (by decide) ?_
    refine J_iconst (v := 1) dX11_takesSign_28 rfl ?_
    exact J_zret dX11_takesSign_29 rfl (Or.inr rfl) ⟨rfl, rfl, rfl, (Or.inr rfl)⟩
  · refine J_ald0 dX11_takesSign_8 ?_
    refine J_iconst (v := 1) dX11_takesSign_9 rfl ?_
    refine J_ald0 dX11_takesSign_10 ?_
    refine J_geti fl_RX11_92 dX11_takesSign_11 kk_207 rfl ?_
    refine J_cVZ (jX11_wrongAt l cx n (1 : Int32) (M 207 5) M) ck_RX11_105 dX11_takesSign_14 rfl kk_207 ⟨rfl, rfl, by decide, by decide⟩ ⟨Nat.zero_le _, Nat.zero_le _, Nat.le_of_ble_eq_true rfl⟩ (fun r2 M3 z4 => ?_)
    exact J_zret dX11_takesSign_17 rfl z4 ⟨rfl, rfl, rfl, z4⟩
set_option maxRecDepth 100000 in
theorem jX11_isDigit (l : Launch) (cx : CX) (n : Nat) (a : Int32) (M : Mem) : Con l cx ({ frames := 1, cells := 0, slots := 0, locals := 22 } : Room) yX11_isDigit cX11_isDigit 1 (some .boolean) 0 0 false 207 218 (EB M) GS [.int a] M (mX11_isDigit a) := by
  unfold mX11_isDigit
  refine Con.of (ls := [some (.int a)]) (by decide) rfl (Nat.le_of_ble_eq_true rfl) ?_
  refine J_ild0 dX11_isDigit_0 ?_
  refine J_bipush (v := 48) dX11_isDigit_1 rfl ?_
  refine J_bipush (v := 57) dX11_isDigit_3 rfl ?_
  refine J_cSB (jX11_in l cx n a (48 : Int32) (57 : Int32) M) ck_RX11_56 dX11_isDigit_5 rfl ⟨rfl, rfl, by decide, by decide⟩ ⟨Nat.zero_le _, Nat.zero_le _, Nat.le_of_ble_eq_true rfl⟩ (fun r1 z2 => ?_)
  exact J_zret dX11_isDigit_8 rfl z2 ⟨rfl, rfl, rfl, z2⟩
set_option maxRecDepth 100000 in
theorem jX11_readsWord_c13 {l : Launch} {cx : CX} {n : Nat} : ∀ (f : Nat) {M : Mem}, JO l cx ({ frames := 1, cells := 0, slots := 0, locals := 22 } : Room) yX11_readsWord cX11_readsWord 1 none 0 0 false 207 218 EV GS 0 0 13 [some (.ref 207)] [] M (mX11_readsWord_c13 n f M) := by
  intro f
  induction f with
  | zero =>
    intros
    exact J_none
  | succ f ih =>
    intro M
    unfold mX11_readsWord_c13
    refine J_ald0 dX11_readsWord_13 ?_
    refine J_cVP (jX11_here l cx n  M) ck_RX11_101 dX11_readsWord_14 rfl kk_207 ⟨rfl, rfl, by decide, by decide⟩ ⟨Nat.zero_le _, Nat.zero_le _, Nat.le_of_ble_eq_true rfl⟩ (fun r1 => ?_)
    refine J_bipush (v := 97) dX11_readsWord_17 rfl ?_
    refine J_bipush (v := 122) dX11_readsWord_19 rfl ?_
    refine J_cSB (jX11_in l cx n r1 (97 : Int32) (122 : Int32) M) ck_RX11_56 dX11_readsWord_21 rfl ⟨rfl, rfl, by decide, by decide⟩ ⟨Nat.zero_le _, Nat.zero_le _, Nat.le_of_ble_eq_true rfl⟩ (fun r2 z3 => ?_)
    refine J_if_eq 78 dX11_readsWord_24 rfl ?_ ?_
    · refine J_ald0 dX11_readsWord_78 ?_
      refine J_geti fl_RX11_92 dX11_readsWord_79 kk_207 rfl ?_
      refine J_ald0 dX11_readsWord_82 ?_
      refine J_geti fl_RX11_109 dX11_readsWord_83 kk_207 rfl ?_
      refine J_isub dX11_readsWord_86 ?_
      refine J_bipush (v := 8) dX11_readsWord_87 rfl ?_
      refine J_ic_le 99 dX11_readsWord_89 rfl ?_ ?_
      · exact J_vret dX11_readsWord_99 rfl ⟨rfl, rfl, rfl⟩
      · refine J_ald0 dX11_readsWord_92 ?_
        refine J_ldc2 dX11_readsWord_93 wd_46 ?_
        refine J_putl fl_RX11_112 dX11_readsWord_96 kk_207 rfl (by decide) ?_
        exact J_vret dX11_readsWord_99 rfl ⟨rfl, rfl, rfl⟩
    · refine J_ald0 dX11_readsWord_27 ?_
      refine J_geti fl_RX11_92 dX11_readsWord_28 kk_207 rfl ?_
      refine J_ald0 dX11_readsWord_31 ?_
      refine J_geti fl_RX11_109 dX11_readsWord_32 kk_207 rfl ?_
      refine J_isub dX11_readsWord_35 ?_
      refine J_bipush (v := 8) dX11_readsWord_36 rfl ?_
      refine J_ic_ge 65 dX11_readsWord_38 rfl ?_ ?_
      · refine J_ald0 dX11_readsWord_65 ?_
        refine J_ald0 dX11_readsWord_66 ?_
        refine J_geti fl_RX11_92 dX11_readsWord_67 kk_207 rfl ?_
        refine J_iconst (v := 1) dX11_readsWord_70 rfl ?_
        refine J_iadd dX11_readsWord_71 ?_
        refine J_puti fl_RX11_92 dX11_readsWord_72 kk_207 rfl (by decide) ?_
        refine J_goto 13 dX11_readsWord_75 rfl ?_
        exact J_wk (wk_s wk_0) (ih)
      · refine J_ald0 dX11_readsWord_41 ?_
        refine J_ldc2 dX11_readsWord_42 wd_47 ?_
        refine J_ald0 dX11_readsWord_45 ?_
        refine J_getl fl_RX11_112 dX11_readsWord_46 kk_207 rfl ?_
        refine J_lmul dX11_readsWord_49 ?_
        refine J_ald0 dX11_readsWord_50 ?_
        refine J_cVP (jX11_here l cx n  M) ck_RX11_101 dX11_readsWord_51 rfl kk_207 ⟨rfl, rfl, by decide, by decide⟩ ⟨Nat.zero_le _, Nat.zero_le _, Nat.le_of_ble_eq_true rfl⟩ (fun r4 => ?_)
        refine J_i2l dX11_readsWord_54 ?_
        refine J_ladd dX11_readsWord_55 ?_
        refine J_ldc2 dX11_readsWord_56 wd_48 ?_
        refine J_lsub dX11_readsWord_59 ?_
        refine J_lconst (v := 1) dX11_readsWord_60 rfl ?_
        refine J_ladd dX11_readsWord_61 ?_
        refine J_putl fl_RX11_112 dX11_readsWord_62 kk_207 rfl (by decide) ?_
        refine J_lt (fun M5 => ?_)
        refine J_ald0 dX11_readsWord_65 ?_
        refine J_ald0 dX11_readsWord_66 ?_
        refine J_geti fl_RX11_92 dX11_readsWord_67 kk_207 rfl ?_
        refine J_iconst (v := 1) dX11_readsWord_70 rfl ?_
        refine J_iadd dX11_readsWord_71 ?_
        refine J_puti fl_RX11_92 dX11_readsWord_72 kk_207 rfl (by decide) ?_
        refine J_goto 13 dX11_readsWord_75 rfl ?_
        exact J_wk (wk_s wk_0) (ih)
set_option maxRecDepth 100000 in
theorem jX11_readsWord (l : Launch) (cx : CX) (n : Nat) (M : Mem) : Con l cx ({ frames := 1, cells := 0, slots := 0, locals := 22 } : Room) yX11_readsWord cX11_readsWord 1 none 0 0 false 207 218 EV GS [.ref 207] M (mX11_readsWord n M) := by
  unfold mX11_readsWord
  refine Con.of (ls := [some (.ref 207)]) (by decide) rfl (Nat.le_of_ble_eq_true rfl) ?_
  refine J_ald0 dX11_readsWord_0 ?_
  refine J_ald0 dX11_readsWord_1 ?_
  refine J_geti fl_RX11_92 dX11_readsWord_2 kk_207 rfl ?_
  refine J_puti fl_RX11_109 dX11_readsWord_5 kk_207 rfl (by decide) ?_
  refine J_ald0 dX11_readsWord_8 ?_
  refine J_lconst (v := 0) dX11_readsWord_9 rfl ?_
  refine J_putl fl_RX11_112 dX11_readsWord_10 kk_207 rfl (by decide) ?_
  refine J_lt (fun M6 => ?_)
  exact J_wk (wk_s wk_0) (jX11_readsWord_c13 (n := n) n)
set_option maxRecDepth 100000 in
theorem jX11_readsNumber_c41 {l : Launch} {cx : CX} {n : Nat} : ∀ (f : Nat) {v1 : Int32} {v2 : Int32} {v3 : Int32} {M : Mem}, JO l cx ({ frames := 2, cells := 0, slots := 0, locals := 43 } : Room) yX11_readsNumber cX11_readsNumber 4 (some .boolean) 0 0 false 207 218 EZ GS 0 0 41 [some (.ref 207), some (.int v1), some (.int v2), some (.int v3)] [] M (mX11_readsNumber_c41 n f v1 v2 v3 M) := by
  intro f
  induction f with
  | zero =>
    intros
    exact J_none
  | succ f ih =>
    intro v1 v2 v3 M
    unfold mX11_readsNumber_c41
    refine J_ald0 dX11_readsNumber_41 ?_
    refine J_cVP (jX11_here l cx n  M) ck_RX11_101 dX11_readsNumber_42 rfl kk_207 ⟨rfl, rfl, by decide, by decide⟩ ⟨Nat.zero_le _, Nat.zero_le _, Nat.le_of_ble_eq_true rfl⟩ (fun r1 => ?_)
    refine J_cSB (jX11_isDigit l cx n r1 M) ck_RX11_125 dX11_readsNumber_45 rfl ⟨rfl, rfl, by decide, by decide⟩ ⟨Nat.zero_le _, Nat.zero_le _, Nat.le_of_ble_eq_true rfl⟩ (fun r2 z3 => ?_)
    refine J_if_eq 103 dX11_readsNumber_48 rfl ?_ ?_
    · refine J_ald0 dX11_readsNumber_103 ?_
      refine J_geti fl_RX11_128 dX11_readsNumber_104 kk_207 rfl ?_
      refine J_ild1 dX11_readsNumber_107 ?_
      refine J_ild2 dX11_readsNumber_108 ?_
      refine J_cSB (jX11_in l cx n (M 207 8) v1 v2 M) ck_RX11_56 dX11_readsNumber_109 rfl ⟨rfl, rfl, by decide, by decide⟩ ⟨Nat.zero_le _, Nat.zero_le _, Nat.le_of_ble_eq_true rfl⟩ (fun r4 z5 => ?_)
      refine J_if_ne 124 dX11_readsNumber_112 rfl ?_ ?_
      · refine J_iconst (v := 1) dX11_readsNumber_124 rfl ?_
        refine J_goto 129 dX11_readsNumber_125 rfl ?_
        exact J_zret dX11_readsNumber_129 rfl (Or.inr rfl) ⟨rfl, rfl, rfl, (Or.inr rfl)⟩
      · refine J_ald0 dX11_readsNumber_115 ?_
        refine J_iconst (v := 3) dX11_readsNumber_116 rfl ?_
        refine J_ild3 dX11_readsNumber_117 ?_
        refine J_cVZ (jX11_wrongAt l cx n (3 : Int32) v3 M) ck_RX11_105 dX11_readsNumber_118 rfl kk_207 ⟨rfl, rfl, by decide, by decide⟩ ⟨Nat.zero_le _, Nat.zero_le _, Nat.le_of_ble_eq_true rfl⟩ (fun r6 M7 z8 => ?_)
        refine J_if_eq 128 dX11_readsNumber_121 rfl ?_ ?_
        · refine J_iconst (v := 0) dX11_readsNumber_128 rfl ?_
          exact J_zret dX11_readsNumber_129 rfl (Or.inl rfl) ⟨rfl, rfl, rfl, (Or.inl rfl)⟩
        · refine J_iconst (v := 1) dX11_readsNumber_124 rfl ?_
          refine J_goto 129 dX11_readsNumber_125 rfl ?_
          exact J_zret dX11_readsNumber_129 rfl (Or.inr rfl) ⟨rfl, rfl, rfl, (Or.inr rfl)⟩
    · refine J_ald0 dX11_readsNumber_51 ?_
      refine J_geti fl_RX11_92 dX11_readsNumber_52 kk_207 rfl ?_
      refine J_ild3 dX11_readsNumber_55 ?_
      refine J_iconst (v := 5) dX11_readsNumber_56 rfl ?_
      refine J_iadd dX11_readsNumber_57 ?_
      refine J_ic_ne 71 dX11_readsNumber_58 rfl ?_ ?_
      · refine J_ald0 dX11_readsNumber_71 ?_
        refine J_bipush (v := 10) dX11_readsNumber_72 rfl ?_
        refine J_ald0 dX11_readsNumber_74 ?_
        refine J_geti fl_RX11_128 dX11_readsNumber_75 kk_207 rfl ?_
        refine J_imul dX11_readsNumber_78 ?_
        refine J_ald0 dX11_readsNumber_79 ?_
        refine J_cVP (jX11_here l cx n  M) ck_RX11_101 dX11_readsNumber_80 rfl kk_207 ⟨rfl, rfl, by decide, by decide⟩ ⟨Nat.zero_le _, Nat.zero_le _, Nat.le_of_ble_eq_true rfl⟩ (fun r9 => ?_)
        refine J_iadd dX11_readsNumber_83 ?_
        refine J_bipush (v := 48) dX11_readsNumber_84 rfl ?_
        refine J_isub dX11_readsNumber_86 ?_
        refine J_puti fl_RX11_128 dX11_readsNumber_87 kk_207 rfl (by decide) ?_
        refine J_ald0 dX11_readsNumber_90 ?_
        refine J_ald0 dX11_readsNumber_91 ?_
        refine J_geti fl_RX11_92 dX11_readsNumber_92 kk_207 rfl ?_
        refine J_iconst (v := 1) dX11_readsNumber_95 rfl ?_
        refine J_iadd dX11_readsNumber_96 ?_
        refine J_puti fl_RX11_92 dX11_readsNumber_97 kk_207 rfl (by decide) ?_
        refine J_lt (fun M10 => ?_)
        refine J_goto 41 dX11_readsNumber_100 rfl ?_
        exact J_wk (wk_s (wk_s (wk_s (wk_s wk_0)))) (ih)
      · refine J_ald0 dX11_readsNumber_61 ?_
        refine J_iconst (v := 2) dX11_readsNumber_62 rfl ?_
        refine J_ald0 dX11_readsNumber_63 ?_
        refine J_geti fl_RX11_92 dX11_readsNumber_64 kk_207 rfl ?_
        refine J_cVZ (jX11_wrongAt l cx n (2 : Int32) (M 207 5) M) ck_RX11_105 dX11_readsNumber_67 rfl kk_207 ⟨rfl, rfl, by decide, by decide⟩ ⟨Nat.zero_le _, Nat.zero_le _, Nat.le_of_ble_eq_true rfl⟩ (fun r11 M12 z13 => ?_)
        exact J_zret dX11_readsNumber_70 rfl z13 ⟨rfl, rfl, rfl, z13⟩
set_option maxRecDepth 100000 in
theorem jX11_readsNumber (l : Launch) (cx : CX) (n : Nat) (a : Int32) (b : Int32) (M : Mem) : Con l cx ({ frames := 2, cells := 0, slots := 0, locals := 43 } : Room) yX11_readsNumber cX11_readsNumber 4 (some .boolean) 0 0 false 207 218 EZ GS [.ref 207, .int a, .int b] M (mX11_readsNumber n a b M) := by
  unfold mX11_readsNumber
  refine Con.of (ls := [some (.ref 207), some (.int a), some (.int b), none]) (by decide) rfl (Nat.le_of_ble_eq_true rfl) ?_
  refine J_ald0 dX11_readsNumber_0 ?_
  refine J_bipush (v := 32) dX11_readsNumber_1 rfl ?_
  refine J_cVZ (jX11_takesSign l cx n (32 : Int32) M) ck_RX11_122 dX11_readsNumber_3 rfl kk_207 ⟨rfl, rfl, by decide, by decide⟩ ⟨Nat.zero_le _, Nat.zero_le _, Nat.le_of_ble_eq_true rfl⟩ (fun r14 M15 z16 => ?_)
  refine J_if_ne 11 dX11_readsNumber_6 rfl ?_ ?_
  · refine J_ald0 dX11_readsNumber_11 ?_
    refine J_geti fl_RX11_92 dX11_readsNumber_12 kk_207 rfl ?_
    refine J_ist3 dX11_readsNumber_15 (by decide) rfl ?_
    refine J_ald0 dX11_readsNumber_16 ?_
    refine J_cVP (jX11_here l cx n  M15) ck_RX11_101 dX11_readsNumber_17 rfl kk_207 ⟨rfl, rfl, by decide, by decide⟩ ⟨Nat.zero_le _, Nat.zero_le _, Nat.le_of_ble_eq_true rfl⟩ (fun r17 => ?_)
    refine J_cSB (jX11_isDigit l cx n r17 M15) ck_RX11_125 dX11_readsNumber_20 rfl ⟨rfl, rfl, by decide, by decide⟩ ⟨Nat.zero_le _, Nat.zero_le _, Nat.le_of_ble_eq_true rfl⟩ (fun r18 z19 => ?_)
    refine J_if_ne 36 dX11_readsNumber_23 rfl ?_ ?_
    · refine J_ald0 dX11_readsNumber_36 ?_
      refine J_iconst (v := 0) dX11_readsNumber_37 rfl ?_
      refine J_puti fl_RX11_128 dX11_readsNumber_38 kk_207 rfl (by decide) ?_
      exact J_wk (wk_s (wk_s (wk_s (wk_s wk_0)))) (jX11_readsNumber_c41 (n := n) n)
    · refine J_ald0 dX11_readsNumber_26 ?_
      refine J_iconst (v := 1) dX11_readsNumber_27 rfl ?_
      refine J_ald0 dX11_readsNumber_28 ?_
      refine J_geti fl_RX11_92 dX11_readsNumber_29 kk_207 rfl ?_
      refine J_cVZ (jX11_wrongAt l cx n (1 : Int32) (M15 207 5) M15) ck_RX11_105 dX11_readsNumber_32 rfl kk_207 ⟨rfl, rfl, by decide, by decide⟩ ⟨Nat.zero_le _, Nat.zero_le _, Nat.le_of_ble_eq_true rfl⟩ (fun r20 M21 z22 => ?_)
      exact J_zret dX11_readsNumber_35 rfl z22 ⟨rfl, rfl, rfl, z22⟩
  · refine J_iconst (v := 0) dX11_readsNumber_9 rfl ?_
    exact J_zret dX11_readsNumber_10 rfl (Or.inl rfl) ⟨rfl, rfl, rfl, (Or.inl rfl)⟩
set_option maxRecDepth 100000 in
theorem jX11_readsPlan (l : Launch) (cx : CX) (n : Nat) (M : Mem) : Con l cx ({ frames := 2, cells := 0, slots := 0, locals := 43 } : Room) yX11_readsPlan cX11_readsPlan 1 (some .boolean) 0 0 false 207 218 EZ GS [.ref 207] M (mX11_readsPlan M) := by
  unfold mX11_readsPlan
  refine Con.of (ls := [some (.ref 207)]) (by decide) rfl (Nat.le_of_ble_eq_true rfl) ?_
  refine J_ald0 dX11_readsPlan_0 ?_
  refine J_bipush (v := 32) dX11_readsPlan_1 rfl ?_
  refine J_cVZ (jX11_takesSign l cx n (32 : Int32) M) ck_RX11_122 dX11_readsPlan_3 rfl kk_207 ⟨rfl, rfl, by decide, by decide⟩ ⟨Nat.zero_le _, Nat.zero_le _, Nat.le_of_ble_eq_true rfl⟩ (fun r1 M2 z3 => ?_)
  refine J_if_ne 11 dX11_readsPlan_6 rfl ?_ ?_
  · refine J_ald0 dX11_readsPlan_11 ?_
    refine J_cVP (jX11_here l cx n  M2) ck_RX11_101 dX11_readsPlan_12 rfl kk_207 ⟨rfl, rfl, by decide, by decide⟩ ⟨Nat.zero_le _, Nat.zero_le _, Nat.le_of_ble_eq_true rfl⟩ (fun r4 => ?_)
    refine J_bipush (v := 65) dX11_readsPlan_15 rfl ?_
    refine J_bipush (v := 70) dX11_readsPlan_17 rfl ?_
    refine J_cSB (jX11_in l cx n r4 (65 : Int32) (70 : Int32) M2) ck_RX11_56 dX11_readsPlan_19 rfl ⟨rfl, rfl, by decide, by decide⟩ ⟨Nat.zero_le _, Nat.zero_le _, Nat.le_of_ble_eq_true rfl⟩ (fun r5 z6 => ?_)
    refine J_if_ne 35 dX11_readsPlan_22 rfl ?_ ?_
    · refine J_ald0 dX11_readsPlan_35 ?_
      refine J_ald0 dX11_readsPlan_36 ?_
      refine J_cVP (jX11_here l cx n  M2) ck_RX11_101 dX11_readsPlan_37 rfl kk_207 ⟨rfl, rfl, by decide, by decide⟩ ⟨Nat.zero_le _, Nat.zero_le _, Nat.le_of_ble_eq_true rfl⟩ (fun r7 => ?_)
      refine J_bipush (v := 65) dX11_readsPlan_40 rfl ?_
      refine J_isub dX11_readsPlan_42 ?_
      refine J_puti fl_RX11_128 dX11_readsPlan_43 kk_207 rfl (by decide) ?_
      refine J_ald0 dX11_readsPlan_46 ?_
      refine J_ald0 dX11_readsPlan_47 ?_
      refine J_geti fl_RX11_92 dX11_readsPlan_48 kk_207 rfl ?_
      refine J_iconst (v := 1) dX11_readsPlan_51 rfl ?_
      refine J_iadd dX11_readsPlan_52 ?_
      refine J_puti fl_RX11_92 dX11_readsPlan_53 kk_207 rfl (by decide) ?_
      refine J_lt (fun M8 => ?_)
      refine J_iconst (v := 1) dX11_readsPlan_56 rfl ?_
      exact J_zret dX11_readsPlan_57 rfl (Or.inr rfl) ⟨rfl, rfl, rfl, (Or.inr rfl)⟩
    · refine J_ald0 dX11_readsPlan_25 ?_
      refine J_iconst (v := 1) dX11_readsPlan_26 rfl ?_
      refine J_ald0 dX11_readsPlan_27 ?_
      refine J_geti fl_RX11_92 dX11_readsPlan_28 kk_207 rfl ?_
      refine J_cVZ (jX11_wrongAt l cx n (1 : Int32) (M2 207 5) M2) ck_RX11_105 dX11_readsPlan_31 rfl kk_207 ⟨rfl, rfl, by decide, by decide⟩ ⟨Nat.zero_le _, Nat.zero_le _, Nat.le_of_ble_eq_true rfl⟩ (fun r9 M10 z11 => ?_)
      exact J_zret dX11_readsPlan_34 rfl z11 ⟨rfl, rfl, rfl, z11⟩
  · refine J_iconst (v := 0) dX11_readsPlan_9 rfl ?_
    exact J_zret dX11_readsPlan_10 rfl (Or.inl rfl) ⟨rfl, rfl, rfl, (Or.inl rfl)⟩
set_option maxRecDepth 100000 in
theorem jX11_keepsNumber (l : Launch) (cx : CX) (n : Nat) (a : Int32) (M : Mem) : Con l cx ({ frames := 0, cells := 0, slots := 0, locals := 0 } : Room) yX11_keepsNumber cX11_keepsNumber 2 (some .boolean) 0 0 false 207 218 EZ GS [.ref 207, .int a] M (mX11_keepsNumber a M) := by
  unfold mX11_keepsNumber
  refine Con.of (ls := [some (.ref 207), some (.int a)]) (by decide) rfl (Nat.le_of_ble_eq_true rfl) ?_
  refine J_ald0 dX11_keepsNumber_0 ?_
  refine J_getr (q := 211) fl_RX11_20 dX11_keepsNumber_1 kk_207 rfl (rf_11_11 kk_207) ?_
  refine J_ild1 dX11_keepsNumber_4 ?_
  refine J_ald0 dX11_keepsNumber_5 ?_
  refine J_geti fl_RX11_128 dX11_keepsNumber_6 kk_207 rfl ?_
  refine J_iast dX11_keepsNumber_9 kk_211 rfl ?_
  refine J_iconst (v := 1) dX11_keepsNumber_10 rfl ?_
  exact J_zret dX11_keepsNumber_11 rfl (Or.inr rfl) ⟨rfl, rfl, rfl, (Or.inr rfl)⟩
set_option maxRecDepth 100000 in
theorem jX11_readsTier_c79 {l : Launch} {cx : CX} {n : Nat} {v1 : Int32} {v2 : Int32} {M : Mem} : JO l cx ({ frames := 3, cells := 0, slots := 0, locals := 66 } : Room) yX11_readsTier cX11_readsTier 4 (some .boolean) 0 0 false 207 218 EZ GS 0 0 79 [some (.ref 207), some (.int v1), some (.int v2), none] [] M (mX11_readsTier_c79 n v1 v2 M) := by
  unfold mX11_readsTier_c79
  refine J_ald0 dX11_readsTier_79 ?_
  refine J_getr (q := 211) fl_RX11_20 dX11_readsTier_80 kk_207 rfl (rf_11_11 kk_207) ?_
  refine J_ild1 dX11_readsTier_83 ?_
  refine J_bipush (v := 6) dX11_readsTier_84 rfl ?_
  refine J_iadd dX11_readsTier_86 ?_
  refine J_ild2 dX11_readsTier_87 ?_
  refine J_iadd dX11_readsTier_88 ?_
  refine J_ald0 dX11_readsTier_89 ?_
  refine J_geti fl_RX11_128 dX11_readsTier_90 kk_207 rfl ?_
  refine J_iast dX11_readsTier_93 kk_211 rfl ?_
  refine J_ald0 dX11_readsTier_94 ?_
  refine J_iconst (v := 0) dX11_readsTier_95 rfl ?_
  refine J_bipush (v := 99) dX11_readsTier_96 rfl ?_
  refine J_cVZ (jX11_readsNumber l cx n (0 : Int32) (99 : Int32) (upd2 M 211 (Int32.toNatClampNeg ((v1 + (6 : Int32)) + v2)) (M 207 8))) ck_RX11_131 dX11_readsTier_98 rfl kk_207 ⟨rfl, rfl, by decide, by decide⟩ ⟨Nat.zero_le _, Nat.zero_le _, Nat.le_of_ble_eq_true rfl⟩ (fun r1 M2 z3 => ?_)
  refine J_if_ne 106 dX11_readsTier_101 rfl ?_ ?_
  · refine J_ald0 dX11_readsTier_106 ?_
    refine J_getr (q := 211) fl_RX11_20 dX11_readsTier_107 kk_207 rfl (rf_11_11 kk_207) ?_
    refine J_ild1 dX11_readsTier_110 ?_
    refine J_bipush (v := 10) dX11_readsTier_111 rfl ?_
    refine J_iadd dX11_readsTier_113 ?_
    refine J_ild2 dX11_readsTier_114 ?_
    refine J_iadd dX11_readsTier_115 ?_
    refine J_ald0 dX11_readsTier_116 ?_
    refine J_geti fl_RX11_128 dX11_readsTier_117 kk_207 rfl ?_
    refine J_iast dX11_readsTier_120 kk_211 rfl ?_
    refine J_ald0 dX11_readsTier_121 ?_
    refine J_getr (q := 211) fl_RX11_20 dX11_readsTier_122 kk_207 rfl (rf_11_11 kk_207) ?_
    refine J_ild1 dX11_readsTier_125 ?_
    refine J_iconst (v := 2) dX11_readsTier_126 rfl ?_
    refine J_iadd dX11_readsTier_127 ?_
    refine J_ild2 dX11_readsTier_128 ?_
    refine J_iconst (v := 1) dX11_readsTier_129 rfl ?_
    refine J_iadd dX11_readsTier_130 ?_
    refine J_iast dX11_readsTier_131 kk_211 rfl ?_
    refine J_lt (fun M4 => ?_)
    refine J_iconst (v := 1) dX11_readsTier_132 rfl ?_
    exact J_zret dX11_readsTier_133 rfl (Or.inr rfl) ⟨rfl, rfl, rfl, (Or.inr rfl)⟩
  · refine J_iconst (v := 0) dX11_readsTier_104 rfl ?_
    exact J_zret dX11_readsTier_105 rfl (Or.inl rfl) ⟨rfl, rfl, rfl, (Or.inl rfl)⟩
set_option maxRecDepth 100000 in
theorem jX11_readsTier (l : Launch) (cx : CX) (n : Nat) (a : Int32) (M : Mem) : Con l cx ({ frames := 3, cells := 0, slots := 0, locals := 66 } : Room) yX11_readsTier cX11_readsTier 4 (some .boolean) 0 0 false 207 218 EZ GS [.ref 207, .int a] M (mX11_readsTier n a M) := by
  unfold mX11_readsTier
  refine Con.of (ls := [some (.ref 207), some (.int a), none, none]) (by decide) rfl (Nat.le_of_ble_eq_true rfl) ?_
  refine J_ald0 dX11_readsTier_0 ?_
  refine J_getr (q := 211) fl_RX11_20 dX11_readsTier_1 kk_207 rfl (rf_11_11 kk_207) ?_
  refine J_ild1 dX11_readsTier_4 ?_
  refine J_iconst (v := 2) dX11_readsTier_5 rfl ?_
  refine J_iadd dX11_readsTier_6 ?_
  refine J_iald dX11_readsTier_7 kk_211 rfl ?_
  refine J_ist2 dX11_readsTier_8 (by decide) rfl ?_
  refine J_ild2 dX11_readsTier_9 ?_
  refine J_iconst (v := 4) dX11_readsTier_10 rfl ?_
  refine J_ic_ne 27 dX11_readsTier_11 rfl ?_ ?_
  · refine J_ald0 dX11_readsTier_27 ?_
    refine J_geti fl_RX11_92 dX11_readsTier_28 kk_207 rfl ?_
    refine J_iconst (v := 1) dX11_readsTier_31 rfl ?_
    refine J_iadd dX11_readsTier_32 ?_
    refine J_ist3 dX11_readsTier_33 (by decide) rfl ?_
    refine J_ald0 dX11_readsTier_34 ?_
    refine J_iconst (v := 1) dX11_readsTier_35 rfl ?_
    refine J_sipush (v := 9999) dX11_readsTier_36 rfl ?_
    refine J_cVZ (jX11_readsNumber l cx n (1 : Int32) (9999 : Int32) M) ck_RX11_131 dX11_readsTier_39 rfl kk_207 ⟨rfl, rfl, by decide, by decide⟩ ⟨Nat.zero_le _, Nat.zero_le _, Nat.le_of_ble_eq_true rfl⟩ (fun r5 M6 z7 => ?_)
    refine J_if_ne 47 dX11_readsTier_42 rfl ?_ ?_
    · refine J_ild2 dX11_readsTier_47 ?_
      refine J_if_le 79 dX11_readsTier_48 rfl ?_ ?_
      · exact J_wk (wk_s (wk_s (wk_s (wk_n wk_0)))) (jX11_readsTier_c79 (n := n))
      · refine J_ald0 dX11_readsTier_51 ?_
        refine J_geti fl_RX11_128 dX11_readsTier_52 kk_207 rfl ?_
        refine J_ald0 dX11_readsTier_55 ?_
        refine J_getr (q := 211) fl_RX11_20 dX11_readsTier_56 kk_207 rfl (rf_11_11 kk_207) ?_
        refine J_ild1 dX11_readsTier_59 ?_
        refine J_bipush (v := 6) dX11_readsTier_60 rfl ?_
        refine J_iadd dX11_readsTier_62 ?_
        refine J_ild2 dX11_readsTier_63 ?_
        refine J_iadd dX11_readsTier_64 ?_
        refine J_iconst (v := 1) dX11_readsTier_65 rfl ?_
        refine J_isub dX11_readsTier_66 ?_
        refine J_iald dX11_readsTier_67 kk_211 rfl ?_
        refine J_ic_gt 79 dX11_readsTier_68 rfl ?_ ?_
        · exact J_wk (wk_s (wk_s (wk_s (wk_n wk_0)))) (jX11_readsTier_c79 (n := n))
        · refine J_ald0 dX11_readsTier_71 ?_
          refine J_bipush (v := 6) dX11_readsTier_72 rfl ?_
          refine J_ild3 dX11_readsTier_74 ?_
          refine J_cVZ (jX11_wrongAt l cx n (6 : Int32) ((M 207 5) + (1 : Int32)) M6) ck_RX11_105 dX11_readsTier_75 rfl kk_207 ⟨rfl, rfl, by decide, by decide⟩ ⟨Nat.zero_le _, Nat.zero_le _, Nat.le_of_ble_eq_true rfl⟩ (fun r8 M9 z10 => ?_)
          exact J_zret dX11_readsTier_78 rfl z10 ⟨rfl, rfl, rfl, z10⟩
    · refine J_iconst (v := 0) dX11_readsTier_45 rfl ?_
      exact J_zret dX11_readsTier_46 rfl (Or.inl rfl) ⟨rfl, rfl, rfl, (Or.inl rfl)⟩
  · refine J_ald0 dX11_readsTier_14 ?_
    refine J_bipush (v := 6) dX11_readsTier_15 rfl ?_
    refine J_ald0 dX11_readsTier_17 ?_
    refine J_geti fl_RX11_92 dX11_readsTier_18 kk_207 rfl ?_
    refine J_iconst (v := 1) dX11_readsTier_21 rfl ?_
    refine J_isub dX11_readsTier_22 ?_
    refine J_cVZ (jX11_wrongAt l cx n (6 : Int32) ((M 207 5) - (1 : Int32)) M) ck_RX11_105 dX11_readsTier_23 rfl kk_207 ⟨rfl, rfl, by decide, by decide⟩ ⟨Nat.zero_le _, Nat.zero_le _, Nat.le_of_ble_eq_true rfl⟩ (fun r11 M12 z13 => ?_)
    exact J_zret dX11_readsTier_26 rfl z13 ⟨rfl, rfl, rfl, z13⟩
set_option maxRecDepth 100000 in
theorem jX11_readsMode_c47 {l : Launch} {cx : CX} {n : Nat} {v1 : Int32} {M : Mem} : JO l cx ({ frames := 2, cells := 0, slots := 0, locals := 43 } : Room) yX11_readsMode cX11_readsMode 2 (some .boolean) 0 0 false 207 218 EZ GS 0 0 47 [some (.ref 207), some (.int v1)] [] M (mX11_readsMode_c47 n v1 M) := by
  unfold mX11_readsMode_c47
  refine J_ald0 dX11_readsMode_47 ?_
  refine J_getr (q := 211) fl_RX11_20 dX11_readsMode_48 kk_207 rfl (rf_11_11 kk_207) ?_
  refine J_ild1 dX11_readsMode_51 ?_
  refine J_iconst (v := 4) dX11_readsMode_52 rfl ?_
  refine J_iadd dX11_readsMode_53 ?_
  refine J_ald0 dX11_readsMode_54 ?_
  refine J_getl fl_RX11_112 dX11_readsMode_55 kk_207 rfl ?_
  refine J_ldc2 dX11_readsMode_58 wd_49 ?_
  refine J_lcmp dX11_readsMode_61 ?_
  refine J_if_ne 69 dX11_readsMode_62 rfl ?_ ?_
  · refine J_iconst (v := 0) dX11_readsMode_69 rfl ?_
    refine J_iast dX11_readsMode_70 kk_211 rfl ?_
    refine J_iconst (v := 1) dX11_readsMode_71 rfl ?_
    exact J_zret dX11_readsMode_72 rfl (Or.inr rfl) ⟨rfl, rfl, rfl, (Or.inr rfl)⟩
  · refine J_iconst (v := 1) dX11_readsMode_65 rfl ?_
    refine J_goto 70 dX11_readsMode_66 rfl ?_
    refine J_iast dX11_readsMode_70 kk_211 rfl ?_
    refine J_iconst (v := 1) dX11_readsMode_71 rfl ?_
    exact J_zret dX11_readsMode_72 rfl (Or.inr rfl) ⟨rfl, rfl, rfl, (Or.inr rfl)⟩
set_option maxRecDepth 100000 in
theorem jX11_readsMode (l : Launch) (cx : CX) (n : Nat) (a : Int32) (M : Mem) : Con l cx ({ frames := 2, cells := 0, slots := 0, locals := 43 } : Room) yX11_readsMode cX11_readsMode 2 (some .boolean) 0 0 false 207 218 EZ GS [.ref 207, .int a] M (mX11_readsMode n a M) := by
  unfold mX11_readsMode
  refine Con.of (ls := [some (.ref 207), some (.int a)]) (by decide) rfl (Nat.le_of_ble_eq_true rfl) ?_
  refine J_ald0 dX11_readsMode_0 ?_
  refine J_bipush (v := 32) dX11_readsMode_1 rfl ?_
  refine J_cVZ (jX11_takesSign l cx n (32 : Int32) M) ck_RX11_122 dX11_readsMode_3 rfl kk_207 ⟨rfl, rfl, by decide, by decide⟩ ⟨Nat.zero_le _, Nat.zero_le _, Nat.le_of_ble_eq_true rfl⟩ (fun r1 M2 z3 => ?_)
  refine J_if_ne 11 dX11_readsMode_6 rfl ?_ ?_
  · refine J_ald0 dX11_readsMode_11 ?_
    refine J_cVV (jX11_readsWord l cx n  M2) ck_RX11_134 dX11_readsMode_12 rfl kk_207 ⟨rfl, rfl, by decide, by decide⟩ ⟨Nat.zero_le _, Nat.zero_le _, Nat.le_of_ble_eq_true rfl⟩ (fun M5 => ?_)
    refine J_ald0 dX11_readsMode_15 ?_
    refine J_getl fl_RX11_112 dX11_readsMode_16 kk_207 rfl ?_
    refine J_ldc2 dX11_readsMode_19 wd_50 ?_
    refine J_lcmp dX11_readsMode_22 ?_
    refine J_if_eq 47 dX11_readsMode_23 rfl ?_ ?_
    · exact J_wk (wk_s (wk_s wk_0)) (jX11_readsMode_c47 (n := n))
    · refine J_ald0 dX11_readsMode_26 ?_
      refine J_getl fl_RX11_112 dX11_readsMode_27 kk_207 rfl ?_
      refine J_ldc2 dX11_readsMode_30 wd_49 ?_
      refine J_lcmp dX11_readsMode_33 ?_
      refine J_if_eq 47 dX11_readsMode_34 rfl ?_ ?_
      · exact J_wk (wk_s (wk_s wk_0)) (jX11_readsMode_c47 (n := n))
      · refine J_ald0 dX11_readsMode_37 ?_
        refine J_iconst (v := 1) dX11_readsMode_38 rfl ?_
        refine J_ald0 dX11_readsMode_39 ?_
        refine J_geti fl_RX11_109 dX11_readsMode_40 kk_207 rfl ?_
        refine J_cVZ (jX11_wrongAt l cx n (1 : Int32) (M5 207 9) M5) ck_RX11_105 dX11_readsMode_43 rfl kk_207 ⟨rfl, rfl, by decide, by decide⟩ ⟨Nat.zero_le _, Nat.zero_le _, Nat.le_of_ble_eq_true rfl⟩ (fun r6 M7 z8 => ?_)
        exact J_zret dX11_readsMode_46 rfl z8 ⟨rfl, rfl, rfl, z8⟩
  · refine J_iconst (v := 0) dX11_readsMode_9 rfl ?_
    exact J_zret dX11_readsMode_10 rfl (Or.inl rfl) ⟨rfl, rfl, rfl, (Or.inl rfl)⟩
set_option maxRecDepth 100000 in
theorem jX11_readsLess (l : Launch) (cx : CX) (n : Nat) (M : Mem) : Con l cx ({ frames := 3, cells := 0, slots := 0, locals := 66 } : Room) yX11_readsLess cX11_readsLess 1 (some .boolean) 0 0 false 207 218 EZ GS [.ref 207] M (mX11_readsLess n M) := by
  unfold mX11_readsLess
  refine Con.of (ls := [some (.ref 207)]) (by decide) rfl (Nat.le_of_ble_eq_true rfl) ?_
  refine J_ald0 dX11_readsLess_0 ?_
  refine J_iconst (v := 0) dX11_readsLess_1 rfl ?_
  refine J_bipush (v := 100) dX11_readsLess_2 rfl ?_
  refine J_cVZ (jX11_readsNumber l cx n (0 : Int32) (100 : Int32) M) ck_RX11_131 dX11_readsLess_4 rfl kk_207 ⟨rfl, rfl, by decide, by decide⟩ ⟨Nat.zero_le _, Nat.zero_le _, Nat.le_of_ble_eq_true rfl⟩ (fun r1 M2 z3 => ?_)
  refine J_if_eq 40 dX11_readsLess_7 rfl ?_ ?_
  · refine J_iconst (v := 0) dX11_readsLess_40 rfl ?_
    exact J_zret dX11_readsLess_41 rfl (Or.inl rfl) ⟨rfl, rfl, rfl, (Or.inl rfl)⟩
  · refine J_ald0 dX11_readsLess_10 ?_
    refine J_iconst (v := 2) dX11_readsLess_11 rfl ?_
    refine J_cVZ (jX11_keepsNumber l cx n (2 : Int32) M2) ck_RX11_141 dX11_readsLess_12 rfl kk_207 ⟨rfl, rfl, by decide, by decide⟩ ⟨Nat.zero_le _, Nat.zero_le _, Nat.le_of_ble_eq_true rfl⟩ (fun r4 M5 z6 => ?_)
    refine J_if_eq 40 dX11_readsLess_15 rfl ?_ ?_
    · refine J_iconst (v := 0) dX11_readsLess_40 rfl ?_
      exact J_zret dX11_readsLess_41 rfl (Or.inl rfl) ⟨rfl, rfl, rfl, (Or.inl rfl)⟩
    · refine J_ald0 dX11_readsLess_18 ?_
      refine J_iconst (v := 0) dX11_readsLess_19 rfl ?_
      refine J_bipush (v := 99) dX11_readsLess_20 rfl ?_
      refine J_cVZ (jX11_readsNumber l cx n (0 : Int32) (99 : Int32) M5) ck_RX11_131 dX11_readsLess_22 rfl kk_207 ⟨rfl, rfl, by decide, by decide⟩ ⟨Nat.zero_le _, Nat.zero_le _, Nat.le_of_ble_eq_true rfl⟩ (fun r7 M8 z9 => ?_)
      refine J_if_eq 40 dX11_readsLess_25 rfl ?_ ?_
      · refine J_iconst (v := 0) dX11_readsLess_40 rfl ?_
        exact J_zret dX11_readsLess_41 rfl (Or.inl rfl) ⟨rfl, rfl, rfl, (Or.inl rfl)⟩
      · refine J_ald0 dX11_readsLess_28 ?_
        refine J_iconst (v := 3) dX11_readsLess_29 rfl ?_
        refine J_cVZ (jX11_keepsNumber l cx n (3 : Int32) M8) ck_RX11_141 dX11_readsLess_30 rfl kk_207 ⟨rfl, rfl, by decide, by decide⟩ ⟨Nat.zero_le _, Nat.zero_le _, Nat.le_of_ble_eq_true rfl⟩ (fun r10 M11 z12 => ?_)
        refine J_if_eq 40 dX11_readsLess_33 rfl ?_ ?_
        · refine J_iconst (v := 0) dX11_readsLess_40 rfl ?_
          exact J_zret dX11_readsLess_41 rfl (Or.inl rfl) ⟨rfl, rfl, rfl, (Or.inl rfl)⟩
        · refine J_iconst (v := 1) dX11_readsLess_36 rfl ?_
          refine J_goto 41 dX11_readsLess_37 rfl ?_
          exact J_zret dX11_readsLess_41 rfl (Or.inr rfl) ⟨rfl, rfl, rfl, (Or.inr rfl)⟩
set_option maxRecDepth 100000 in
theorem jX11_readsBulk_c79 {l : Launch} {cx : CX} {n : Nat} {v1 : Int32} {v2 : Int32} {M : Mem} : JO l cx ({ frames := 3, cells := 0, slots := 0, locals := 66 } : Room) yX11_readsBulk cX11_readsBulk 4 (some .boolean) 0 0 false 207 218 EZ GS 0 0 79 [some (.ref 207), some (.int v1), some (.int v2), none] [] M (mX11_readsBulk_c79 n v1 v2 M) := by
  unfold mX11_readsBulk_c79
  refine J_ald0 dX11_readsBulk_79 ?_
  refine J_getr (q := 211) fl_RX11_20 dX11_readsBulk_80 kk_207 rfl (rf_11_11 kk_207) ?_
  refine J_ild1 dX11_readsBulk_83 ?_
  refine J_bipush (v := 15) dX11_readsBulk_84 rfl ?_
  refine J_iadd dX11_readsBulk_86 ?_
  refine J_ild2 dX11_readsBulk_87 ?_
  refine J_iadd dX11_readsBulk_88 ?_
  refine J_ald0 dX11_readsBulk_89 ?_
  refine J_geti fl_RX11_128 dX11_readsBulk_90 kk_207 rfl ?_
  refine J_iast dX11_readsBulk_93 kk_211 rfl ?_
  refine J_ald0 dX11_readsBulk_94 ?_
  refine J_iconst (v := 0) dX11_readsBulk_95 rfl ?_
  refine J_bipush (v := 100) dX11_readsBulk_96 rfl ?_
  refine J_cVZ (jX11_readsNumber l cx n (0 : Int32) (100 : Int32) (upd2 M 211 (Int32.toNatClampNeg ((v1 + (15 : Int32)) + v2)) (M 207 8))) ck_RX11_131 dX11_readsBulk_98 rfl kk_207 ⟨rfl, rfl, by decide, by decide⟩ ⟨Nat.zero_le _, Nat.zero_le _, Nat.le_of_ble_eq_true rfl⟩ (fun r1 M2 z3 => ?_)
  refine J_if_ne 106 dX11_readsBulk_101 rfl ?_ ?_
  · refine J_ald0 dX11_readsBulk_106 ?_
    refine J_getr (q := 211) fl_RX11_20 dX11_readsBulk_107 kk_207 rfl (rf_11_11 kk_207) ?_
    refine J_ild1 dX11_readsBulk_110 ?_
    refine J_bipush (v := 18) dX11_readsBulk_111 rfl ?_
    refine J_iadd dX11_readsBulk_113 ?_
    refine J_ild2 dX11_readsBulk_114 ?_
    refine J_iadd dX11_readsBulk_115 ?_
    refine J_ald0 dX11_readsBulk_116 ?_
    refine J_geti fl_RX11_128 dX11_readsBulk_117 kk_207 rfl ?_
    refine J_iast dX11_readsBulk_120 kk_211 rfl ?_
    refine J_ald0 dX11_readsBulk_121 ?_
    refine J_getr (q := 211) fl_RX11_20 dX11_readsBulk_122 kk_207 rfl (rf_11_11 kk_207) ?_
    refine J_ild1 dX11_readsBulk_125 ?_
    refine J_bipush (v := 14) dX11_readsBulk_126 rfl ?_
    refine J_iadd dX11_readsBulk_128 ?_
    refine J_ild2 dX11_readsBulk_129 ?_
    refine J_iconst (v := 1) dX11_readsBulk_130 rfl ?_
    refine J_iadd dX11_readsBulk_131 ?_
    refine J_iast dX11_readsBulk_132 kk_211 rfl ?_
    refine J_lt (fun M4 => ?_)
    refine J_iconst (v := 1) dX11_readsBulk_133 rfl ?_
    exact J_zret dX11_readsBulk_134 rfl (Or.inr rfl) ⟨rfl, rfl, rfl, (Or.inr rfl)⟩
  · refine J_iconst (v := 0) dX11_readsBulk_104 rfl ?_
    exact J_zret dX11_readsBulk_105 rfl (Or.inl rfl) ⟨rfl, rfl, rfl, (Or.inl rfl)⟩
set_option maxRecDepth 100000 in
theorem jX11_readsBulk (l : Launch) (cx : CX) (n : Nat) (a : Int32) (M : Mem) : Con l cx ({ frames := 3, cells := 0, slots := 0, locals := 66 } : Room) yX11_readsBulk cX11_readsBulk 4 (some .boolean) 0 0 false 207 218 EZ GS [.ref 207, .int a] M (mX11_readsBulk n a M) := by
  unfold mX11_readsBulk
  refine Con.of (ls := [some (.ref 207), some (.int a), none, none]) (by decide) rfl (Nat.le_of_ble_eq_true rfl) ?_
  refine J_ald0 dX11_readsBulk_0 ?_
  refine J_getr (q := 211) fl_RX11_20 dX11_readsBulk_1 kk_207 rfl (rf_11_11 kk_207) ?_
  refine J_ild1 dX11_readsBulk_4 ?_
  refine J_bipush (v := 14) dX11_readsBulk_5 rfl ?_
  refine J_iadd dX11_readsBulk_7 ?_
  refine J_iald dX11_readsBulk_8 kk_211 rfl ?_
  refine J_ist2 dX11_readsBulk_9 (by decide) rfl ?_
  refine J_ild2 dX11_readsBulk_10 ?_
  refine J_iconst (v := 3) dX11_readsBulk_11 rfl ?_
  refine J_ic_ne 28 dX11_readsBulk_12 rfl ?_ ?_
  · refine J_ald0 dX11_readsBulk_28 ?_
    refine J_geti fl_RX11_92 dX11_readsBulk_29 kk_207 rfl ?_
    refine J_iconst (v := 1) dX11_readsBulk_32 rfl ?_
    refine J_iadd dX11_readsBulk_33 ?_
    refine J_ist3 dX11_readsBulk_34 (by decide) rfl ?_
    refine J_ald0 dX11_readsBulk_35 ?_
    refine J_iconst (v := 2) dX11_readsBulk_36 rfl ?_
    refine J_bipush (v := 9) dX11_readsBulk_37 rfl ?_
    refine J_cVZ (jX11_readsNumber l cx n (2 : Int32) (9 : Int32) M) ck_RX11_131 dX11_readsBulk_39 rfl kk_207 ⟨rfl, rfl, by decide, by decide⟩ ⟨Nat.zero_le _, Nat.zero_le _, Nat.le_of_ble_eq_true rfl⟩ (fun r5 M6 z7 => ?_)
    refine J_if_ne 47 dX11_readsBulk_42 rfl ?_ ?_
    · refine J_ild2 dX11_readsBulk_47 ?_
      refine J_if_le 79 dX11_readsBulk_48 rfl ?_ ?_
      · exact J_wk (wk_s (wk_s (wk_s (wk_n wk_0)))) (jX11_readsBulk_c79 (n := n))
      · refine J_ald0 dX11_readsBulk_51 ?_
        refine J_geti fl_RX11_128 dX11_readsBulk_52 kk_207 rfl ?_
        refine J_ald0 dX11_readsBulk_55 ?_
        refine J_getr (q := 211) fl_RX11_20 dX11_readsBulk_56 kk_207 rfl (rf_11_11 kk_207) ?_
        refine J_ild1 dX11_readsBulk_59 ?_
        refine J_bipush (v := 15) dX11_readsBulk_60 rfl ?_
        refine J_iadd dX11_readsBulk_62 ?_
        refine J_ild2 dX11_readsBulk_63 ?_
        refine J_iadd dX11_readsBulk_64 ?_
        refine J_iconst (v := 1) dX11_readsBulk_65 rfl ?_
        refine J_isub dX11_readsBulk_66 ?_
        refine J_iald dX11_readsBulk_67 kk_211 rfl ?_
        refine J_ic_gt 79 dX11_readsBulk_68 rfl ?_ ?_
        · exact J_wk (wk_s (wk_s (wk_s (wk_n wk_0)))) (jX11_readsBulk_c79 (n := n))
        · refine J_ald0 dX11_readsBulk_71 ?_
          refine J_bipush (v := 6) dX11_readsBulk_72 rfl ?_
          refine J_ild3 dX11_readsBulk_74 ?_
          refine J_cVZ (jX11_wrongAt l cx n (6 : Int32) ((M 207 5) + (1 : Int32)) M6) ck_RX11_105 dX11_readsBulk_75 rfl kk_207 ⟨rfl, rfl, by decide, by decide⟩ ⟨Nat.zero_le _, Nat.zero_le _, Nat.le_of_ble_eq_true rfl⟩ (fun r8 M9 z10 => ?_)
          exact J_zret dX11_readsBulk_78 rfl z10 ⟨rfl, rfl, rfl, z10⟩
    · refine J_iconst (v := 0) dX11_readsBulk_45 rfl ?_
      exact J_zret dX11_readsBulk_46 rfl (Or.inl rfl) ⟨rfl, rfl, rfl, (Or.inl rfl)⟩
  · refine J_ald0 dX11_readsBulk_15 ?_
    refine J_bipush (v := 6) dX11_readsBulk_16 rfl ?_
    refine J_ald0 dX11_readsBulk_18 ?_
    refine J_geti fl_RX11_92 dX11_readsBulk_19 kk_207 rfl ?_
    refine J_iconst (v := 1) dX11_readsBulk_22 rfl ?_
    refine J_isub dX11_readsBulk_23 ?_
    refine J_cVZ (jX11_wrongAt l cx n (6 : Int32) ((M 207 5) - (1 : Int32)) M) ck_RX11_105 dX11_readsBulk_24 rfl kk_207 ⟨rfl, rfl, by decide, by decide⟩ ⟨Nat.zero_le _, Nat.zero_le _, Nat.le_of_ble_eq_true rfl⟩ (fun r11 M12 z13 => ?_)
    exact J_zret dX11_readsBulk_27 rfl z13 ⟨rfl, rfl, rfl, z13⟩
set_option maxRecDepth 100000 in
theorem jX11_readsTax_c74 {l : Launch} {cx : CX} {n : Nat} {v1 : Int32} {M : Mem} : JO l cx ({ frames := 3, cells := 0, slots := 0, locals := 66 } : Room) yX11_readsTax cX11_readsTax 3 (some .boolean) 0 0 false 207 218 EZ GS 0 0 74 [some (.ref 207), some (.int v1), none] [] M (mX11_readsTax_c74 n v1 M) := by
  unfold mX11_readsTax_c74
  refine J_ald0 dX11_readsTax_74 ?_
  refine J_getr (q := 211) fl_RX11_20 dX11_readsTax_75 kk_207 rfl (rf_11_11 kk_207) ?_
  refine J_bipush (v := 7) dX11_readsTax_78 rfl ?_
  refine J_ild1 dX11_readsTax_80 ?_
  refine J_iadd dX11_readsTax_81 ?_
  refine J_ald0 dX11_readsTax_82 ?_
  refine J_geti fl_RX11_128 dX11_readsTax_83 kk_207 rfl ?_
  refine J_iast dX11_readsTax_86 kk_211 rfl ?_
  refine J_ald0 dX11_readsTax_87 ?_
  refine J_iconst (v := 0) dX11_readsTax_88 rfl ?_
  refine J_bipush (v := 100) dX11_readsTax_89 rfl ?_
  refine J_cVZ (jX11_readsNumber l cx n (0 : Int32) (100 : Int32) (upd2 M 211 (Int32.toNatClampNeg ((7 : Int32) + v1)) (M 207 8))) ck_RX11_131 dX11_readsTax_91 rfl kk_207 ⟨rfl, rfl, by decide, by decide⟩ ⟨Nat.zero_le _, Nat.zero_le _, Nat.le_of_ble_eq_true rfl⟩ (fun r1 M2 z3 => ?_)
  refine J_if_ne 99 dX11_readsTax_94 rfl ?_ ?_
  · refine J_ald0 dX11_readsTax_99 ?_
    refine J_getr (q := 211) fl_RX11_20 dX11_readsTax_100 kk_207 rfl (rf_11_11 kk_207) ?_
    refine J_bipush (v := 11) dX11_readsTax_103 rfl ?_
    refine J_ild1 dX11_readsTax_105 ?_
    refine J_iadd dX11_readsTax_106 ?_
    refine J_ald0 dX11_readsTax_107 ?_
    refine J_geti fl_RX11_128 dX11_readsTax_108 kk_207 rfl ?_
    refine J_iast dX11_readsTax_111 kk_211 rfl ?_
    refine J_ald0 dX11_readsTax_112 ?_
    refine J_getr (q := 211) fl_RX11_20 dX11_readsTax_113 kk_207 rfl (rf_11_11 kk_207) ?_
    refine J_bipush (v := 6) dX11_readsTax_116 rfl ?_
    refine J_ild1 dX11_readsTax_118 ?_
    refine J_iconst (v := 1) dX11_readsTax_119 rfl ?_
    refine J_iadd dX11_readsTax_120 ?_
    refine J_iast dX11_readsTax_121 kk_211 rfl ?_
    refine J_lt (fun M4 => ?_)
    refine J_iconst (v := 1) dX11_readsTax_122 rfl ?_
    exact J_zret dX11_readsTax_123 rfl (Or.inr rfl) ⟨rfl, rfl, rfl, (Or.inr rfl)⟩
  · refine J_iconst (v := 0) dX11_readsTax_97 rfl ?_
    exact J_zret dX11_readsTax_98 rfl (Or.inl rfl) ⟨rfl, rfl, rfl, (Or.inl rfl)⟩
set_option maxRecDepth 100000 in
theorem jX11_readsTax (l : Launch) (cx : CX) (n : Nat) (M : Mem) : Con l cx ({ frames := 3, cells := 0, slots := 0, locals := 66 } : Room) yX11_readsTax cX11_readsTax 3 (some .boolean) 0 0 false 207 218 EZ GS [.ref 207] M (mX11_readsTax n M) := by
  unfold mX11_readsTax
  refine Con.of (ls := [some (.ref 207), none, none]) (by decide) rfl (Nat.le_of_ble_eq_true rfl) ?_
  refine J_ald0 dX11_readsTax_0 ?_
  refine J_getr (q := 211) fl_RX11_20 dX11_readsTax_1 kk_207 rfl (rf_11_11 kk_207) ?_
  refine J_bipush (v := 6) dX11_readsTax_4 rfl ?_
  refine J_iald dX11_readsTax_6 kk_211 rfl ?_
  refine J_ist1 dX11_readsTax_7 (by decide) rfl ?_
  refine J_ild1 dX11_readsTax_8 ?_
  refine J_iconst (v := 4) dX11_readsTax_9 rfl ?_
  refine J_ic_ne 24 dX11_readsTax_10 rfl ?_ ?_
  · refine J_ald0 dX11_readsTax_24 ?_
    refine J_geti fl_RX11_92 dX11_readsTax_25 kk_207 rfl ?_
    refine J_iconst (v := 1) dX11_readsTax_28 rfl ?_
    refine J_iadd dX11_readsTax_29 ?_
    refine J_ist2 dX11_readsTax_30 (by decide) rfl ?_
    refine J_ald0 dX11_readsTax_31 ?_
    refine J_iconst (v := 0) dX11_readsTax_32 rfl ?_
    refine J_sipush (v := 3652) dX11_readsTax_33 rfl ?_
    refine J_cVZ (jX11_readsNumber l cx n (0 : Int32) (3652 : Int32) M) ck_RX11_131 dX11_readsTax_36 rfl kk_207 ⟨rfl, rfl, by decide, by decide⟩ ⟨Nat.zero_le _, Nat.zero_le _, Nat.le_of_ble_eq_true rfl⟩ (fun r5 M6 z7 => ?_)
    refine J_if_ne 44 dX11_readsTax_39 rfl ?_ ?_
    · refine J_ild1 dX11_readsTax_44 ?_
      refine J_if_le 74 dX11_readsTax_45 rfl ?_ ?_
      · exact J_wk (wk_s (wk_s (wk_n wk_0))) (jX11_readsTax_c74 (n := n))
      · refine J_ald0 dX11_readsTax_48 ?_
        refine J_geti fl_RX11_128 dX11_readsTax_49 kk_207 rfl ?_
        refine J_ald0 dX11_readsTax_52 ?_
        refine J_getr (q := 211) fl_RX11_20 dX11_readsTax_53 kk_207 rfl (rf_11_11 kk_207) ?_
        refine J_bipush (v := 7) dX11_readsTax_56 rfl ?_
        refine J_ild1 dX11_readsTax_58 ?_
        refine J_iadd dX11_readsTax_59 ?_
        refine J_iconst (v := 1) dX11_readsTax_60 rfl ?_
        refine J_isub dX11_readsTax_61 ?_
        refine J_iald dX11_readsTax_62 kk_211 rfl ?_
        refine J_ic_gt 74 dX11_readsTax_63 rfl ?_ ?_
        · exact J_wk (wk_s (wk_s (wk_n wk_0))) (jX11_readsTax_c74 (n := n))
        · refine J_ald0 dX11_readsTax_66 ?_
          refine J_bipush (v := 6) dX11_readsTax_67 rfl ?_
          refine J_ild2 dX11_readsTax_69 ?_
          refine J_cVZ (jX11_wrongAt l cx n (6 : Int32) ((M 207 5) + (1 : Int32)) M6) ck_RX11_105 dX11_readsTax_70 rfl kk_207 ⟨rfl, rfl, by decide, by decide⟩ ⟨Nat.zero_le _, Nat.zero_le _, Nat.le_of_ble_eq_true rfl⟩ (fun r8 M9 z10 => ?_)
          exact J_zret dX11_readsTax_73 rfl z10 ⟨rfl, rfl, rfl, z10⟩
    · refine J_iconst (v := 0) dX11_readsTax_42 rfl ?_
      exact J_zret dX11_readsTax_43 rfl (Or.inl rfl) ⟨rfl, rfl, rfl, (Or.inl rfl)⟩
  · refine J_ald0 dX11_readsTax_13 ?_
    refine J_bipush (v := 6) dX11_readsTax_14 rfl ?_
    refine J_ald0 dX11_readsTax_16 ?_
    refine J_geti fl_RX11_109 dX11_readsTax_17 kk_207 rfl ?_
    refine J_cVZ (jX11_wrongAt l cx n (6 : Int32) (M 207 9) M) ck_RX11_105 dX11_readsTax_20 rfl kk_207 ⟨rfl, rfl, by decide, by decide⟩ ⟨Nat.zero_le _, Nat.zero_le _, Nat.le_of_ble_eq_true rfl⟩ (fun r11 M12 z13 => ?_)
    exact J_zret dX11_readsTax_23 rfl z13 ⟨rfl, rfl, rfl, z13⟩
set_option maxRecDepth 100000 in
theorem jX11_readsOfAll (l : Launch) (cx : CX) (n : Nat) (a : Int64) (M : Mem) : Con l cx ({ frames := 4, cells := 0, slots := 0, locals := 88 } : Room) yX11_readsOfAll cX11_readsOfAll 3 (some .boolean) 0 0 false 207 218 EZ GS [.ref 207, .long a] M (mX11_readsOfAll n a M) := by
  unfold mX11_readsOfAll
  refine Con.of (ls := [some (.ref 207), some (.long a), none]) (by decide) rfl (Nat.le_of_ble_eq_true rfl) ?_
  refine J_lld1 dX11_readsOfAll_0 ?_
  refine J_ldc2 dX11_readsOfAll_1 wd_51 ?_
  refine J_lcmp dX11_readsOfAll_4 ?_
  refine J_if_ne 15 dX11_readsOfAll_5 rfl ?_ ?_
  · refine J_lld1 dX11_readsOfAll_15 ?_
    refine J_ldc2 dX11_readsOfAll_16 wd_52 ?_
    refine J_lcmp dX11_readsOfAll_19 ?_
    refine J_if_ne 30 dX11_readsOfAll_20 rfl ?_ ?_
    · refine J_ald0 dX11_readsOfAll_30 ?_
      refine J_iconst (v := 0) dX11_readsOfAll_31 rfl ?_
      refine J_bipush (v := 20) dX11_readsOfAll_32 rfl ?_
      refine J_cVZ (jX11_readsNumber l cx n (0 : Int32) (20 : Int32) M) ck_RX11_131 dX11_readsOfAll_34 rfl kk_207 ⟨rfl, rfl, by decide, by decide⟩ ⟨Nat.zero_le _, Nat.zero_le _, Nat.le_of_ble_eq_true rfl⟩ (fun r1 M2 z3 => ?_)
      refine J_if_eq 52 dX11_readsOfAll_37 rfl ?_ ?_
      · refine J_iconst (v := 0) dX11_readsOfAll_52 rfl ?_
        exact J_zret dX11_readsOfAll_53 rfl (Or.inl rfl) ⟨rfl, rfl, rfl, (Or.inl rfl)⟩
      · refine J_ald0 dX11_readsOfAll_40 ?_
        refine J_iconst (v := 5) dX11_readsOfAll_41 rfl ?_
        refine J_cVZ (jX11_keepsNumber l cx n (5 : Int32) M2) ck_RX11_141 dX11_readsOfAll_42 rfl kk_207 ⟨rfl, rfl, by decide, by decide⟩ ⟨Nat.zero_le _, Nat.zero_le _, Nat.le_of_ble_eq_true rfl⟩ (fun r4 M5 z6 => ?_)
        refine J_if_eq 52 dX11_readsOfAll_45 rfl ?_ ?_
        · refine J_iconst (v := 0) dX11_readsOfAll_52 rfl ?_
          exact J_zret dX11_readsOfAll_53 rfl (Or.inl rfl) ⟨rfl, rfl, rfl, (Or.inl rfl)⟩
        · refine J_iconst (v := 1) dX11_readsOfAll_48 rfl ?_
          refine J_goto 53 dX11_readsOfAll_49 rfl ?_
          exact J_zret dX11_readsOfAll_53 rfl (Or.inr rfl) ⟨rfl, rfl, rfl, (Or.inr rfl)⟩
    · refine J_ald0 dX11_readsOfAll_23 ?_
      refine J_cVZ (jX11_readsTax l cx n  M) ck_RX11_152 dX11_readsOfAll_24 rfl kk_207 ⟨rfl, rfl, by decide, by decide⟩ ⟨Nat.zero_le _, Nat.zero_le _, Nat.le_of_ble_eq_true rfl⟩ (fun r7 M8 z9 => ?_)
      refine J_goto 53 dX11_readsOfAll_27 rfl ?_
      exact J_zret dX11_readsOfAll_53 rfl z9 ⟨rfl, rfl, rfl, z9⟩
  · refine J_ald0 dX11_readsOfAll_8 ?_
    refine J_cVZ (jX11_readsLess l cx n  M) ck_RX11_146 dX11_readsOfAll_9 rfl kk_207 ⟨rfl, rfl, by decide, by decide⟩ ⟨Nat.zero_le _, Nat.zero_le _, Nat.le_of_ble_eq_true rfl⟩ (fun r10 M11 z12 => ?_)
    refine J_goto 53 dX11_readsOfAll_12 rfl ?_
    exact J_zret dX11_readsOfAll_53 rfl z12 ⟨rfl, rfl, rfl, z12⟩
set_option maxRecDepth 100000 in
theorem jX11_isClauseWord (l : Launch) (cx : CX) (n : Nat) (a : Int64) (M : Mem) : Con l cx ({ frames := 0, cells := 0, slots := 0, locals := 0 } : Room) yX11_isClauseWord cX11_isClauseWord 2 (some .boolean) 0 0 false 207 218 (EB M) GS [.long a] M (mX11_isClauseWord a) := by
  unfold mX11_isClauseWord
  refine Con.of (ls := [some (.long a), none]) (by decide) rfl (Nat.le_of_ble_eq_true rfl) ?_
  refine J_lld0 dX11_isClauseWord_0 ?_
  refine J_ldc2 dX11_isClauseWord_1 wd_53 ?_
  refine J_lcmp dX11_isClauseWord_4 ?_
  refine J_if_eq 80 dX11_isClauseWord_5 rfl ?_ ?_
  · refine J_iconst (v := 1) dX11_isClauseWord_80 rfl ?_
    refine J_goto 85 dX11_isClauseWord_81 rfl ?_
    exact J_zret dX11_isClauseWord_85 rfl (Or.inr rfl) ⟨rfl, rfl, rfl, (Or.inr rfl)⟩
  · refine J_lld0 dX11_isClauseWord_8 ?_
    refine J_ldc2 dX11_isClauseWord_9 wd_54 ?_
    refine J_lcmp dX11_isClauseWord_12 ?_
    refine J_if_eq 80 dX11_isClauseWord_13 rfl ?_ ?_
    · refine J_iconst (v := 1) dX11_isClauseWord_80 rfl ?_
      refine J_goto 85 dX11_isClauseWord_81 rfl ?_
      exact J_zret dX11_isClauseWord_85 rfl (Or.inr rfl) ⟨rfl, rfl, rfl, (Or.inr rfl)⟩
    · refine J_lld0 dX11_isClauseWord_16 ?_
      refine J_ldc2 dX11_isClauseWord_17 wd_55 ?_
      refine J_lcmp dX11_isClauseWord_20 ?_
      refine J_if_eq 80 dX11_isClauseWord_21 rfl ?_ ?_
      · refine J_iconst (v := 1) dX11_isClauseWord_80 rfl ?_
        refine J_goto 85 dX11_isClauseWord_81 rfl ?_
        exact J_zret dX11_isClauseWord_85 rfl (Or.inr rfl) ⟨rfl, rfl, rfl, (Or.inr rfl)⟩
      · refine J_lld0 dX11_isClauseWord_24 ?_
        refine J_ldc2 dX11_isClauseWord_25 wd_56 ?_
        refine J_lcmp dX11_isClauseWord_28 ?_
        refine J_if_eq 80 dX11_isClauseWord_29 rfl ?_ ?_
        · refine J_iconst (v := 1) dX11_isClauseWord_80 rfl ?_
          refine J_goto 85 dX11_isClauseWord_81 rfl ?_
          exact J_zret dX11_isClauseWord_85 rfl (Or.inr rfl) ⟨rfl, rfl, rfl, (Or.inr rfl)⟩
        · refine J_lld0 dX11_isClauseWord_32 ?_
          refine J_ldc2 dX11_isClauseWord_33 wd_57 ?_
          refine J_lcmp dX11_isClauseWord_36 ?_
          refine J_if_eq 80 dX11_isClauseWord_37 rfl ?_ ?_
          · refine J_iconst (v := 1) dX11_isClauseWord_80 rfl ?_
            refine J_goto 85 dX11_isClauseWord_81 rfl ?_
            exact J_zret dX11_isClauseWord_85 rfl (Or.inr rfl) ⟨rfl, rfl, rfl, (Or.inr rfl)⟩
          · refine J_lld0 dX11_isClauseWord_40 ?_
            refine J_ldc2 dX11_isClauseWord_41 wd_58 ?_
            refine J_lcmp dX11_isClauseWord_44 ?_
            refine J_if_eq 80 dX11_isClauseWord_45 rfl ?_ ?_
            · refine J_iconst (v := 1) dX11_isClauseWord_80 rfl ?_
              refine J_goto 85 dX11_isClauseWord_81 rfl ?_
              exact J_zret dX11_isClauseWord_85 rfl (Or.inr rfl) ⟨rfl, rfl, rfl, (Or.inr rfl)⟩
            · refine J_lld0 dX11_isClauseWord_48 ?_
              refine J_ldc2 dX11_isClauseWord_49 wd_51 ?_
              refine J_lcmp dX11_isClauseWord_52 ?_
              refine J_if_eq 80 dX11_isClauseWord_53 rfl ?_ ?_
              · refine J_iconst (v := 1) dX11_isClauseWord_80 rfl ?_
                refine J_goto 85 dX11_isClauseWord_81 rfl ?_
                exact J_zret dX11_isClauseWord_85 rfl (Or.inr rfl) ⟨rfl, rfl, rfl, (Or.inr rfl)⟩
              · refine J_lld0 dX11_isClauseWord_56 ?_
                refine J_ldc2 dX11_isClauseWord_57 wd_59 ?_
                refine J_lcmp dX11_isClauseWord_60 ?_
                refine J_if_eq 80 dX11_isClauseWord_61 rfl ?_ ?_
                · refine J_iconst (v := 1) dX11_isClauseWord_80 rfl ?_
                  refine J_goto 85 dX11_isClauseWord_81 rfl ?_
                  exact J_zret dX11_isClauseWord_85 rfl (Or.inr rfl) ⟨rfl, rfl, rfl, (Or.inr rfl)⟩
                · refine J_lld0 dX11_isClauseWord_64 ?_
                  refine J_ldc2 dX11_isClauseWord_65 wd_60 ?_
                  refine J_lcmp dX11_isClauseWord_68 ?_
                  refine J_if_eq 80 dX11_isClauseWord_69 rfl ?_ ?_
                  · refine J_iconst (v := 1) dX11_isClauseWord_80 rfl ?_
                    refine J_goto 85 dX11_isClauseWord_81 rfl ?_
                    exact J_zret dX11_isClauseWord_85 rfl (Or.inr rfl) ⟨rfl, rfl, rfl, (Or.inr rfl)⟩
                  · refine J_lld0 dX11_isClauseWord_72 ?_
                    refine J_ldc2 dX11_isClauseWord_73 wd_52 ?_
                    refine J_lcmp dX11_isClauseWord_76 ?_
                    refine J_if_ne 84 dX11_isClauseWord_77 rfl ?_ ?_
                    · refine J_iconst (v := 0) dX11_isClauseWord_84 rfl ?_
                      exact J_zret dX11_isClauseWord_85 rfl (Or.inl rfl) ⟨rfl, rfl, rfl, (Or.inl rfl)⟩
                    · refine J_iconst (v := 1) dX11_isClauseWord_80 rfl ?_
                      refine J_goto 85 dX11_isClauseWord_81 rfl ?_
                      exact J_zret dX11_isClauseWord_85 rfl (Or.inr rfl) ⟨rfl, rfl, rfl, (Or.inr rfl)⟩
set_option maxRecDepth 100000 in
theorem jX11_readsClause (l : Launch) (cx : CX) (n : Nat) (M : Mem) : Con l cx ({ frames := 5, cells := 0, slots := 0, locals := 110 } : Room) yX11_readsClause cX11_readsClause 4 (some .boolean) 0 0 false 207 218 EZ GS [.ref 207] M (mX11_readsClause n M) := by
  unfold mX11_readsClause
  refine Con.of (ls := [some (.ref 207), none, none, none]) (by decide) rfl (Nat.le_of_ble_eq_true rfl) ?_
  refine J_ald0 dX11_readsClause_0 ?_
  refine J_geti fl_RX11_171 dX11_readsClause_1 kk_207 rfl ?_
  refine J_bipush (v := 20) dX11_readsClause_4 rfl ?_
  refine J_ic_ne 19 dX11_readsClause_6 rfl ?_ ?_
  · refine J_ald0 dX11_readsClause_19 ?_
    refine J_cVV (jX11_readsWord l cx n  M) ck_RX11_134 dX11_readsClause_20 rfl kk_207 ⟨rfl, rfl, by decide, by decide⟩ ⟨Nat.zero_le _, Nat.zero_le _, Nat.le_of_ble_eq_true rfl⟩ (fun M2 => ?_)
    refine J_ald0 dX11_readsClause_23 ?_
    refine J_getl fl_RX11_112 dX11_readsClause_24 kk_207 rfl ?_
    refine J_lst1 dX11_readsClause_27 (by decide) rfl ?_
    refine J_lld1 dX11_readsClause_28 ?_
    refine J_cSB (jX11_isClauseWord l cx n (lcb (M2 207 10) (M2 207 (10 + HI))) M2) ck_RX11_174 dX11_readsClause_29 rfl ⟨rfl, rfl, by decide, by decide⟩ ⟨Nat.zero_le _, Nat.zero_le _, Nat.le_of_ble_eq_true rfl⟩ (fun r3 z4 => ?_)
    refine J_if_ne 45 dX11_readsClause_32 rfl ?_ ?_
    · refine J_ald0 dX11_readsClause_45 ?_
      refine J_ald0 dX11_readsClause_46 ?_
      refine J_geti fl_RX11_171 dX11_readsClause_47 kk_207 rfl ?_
      refine J_iconst (v := 1) dX11_readsClause_50 rfl ?_
      refine J_iadd dX11_readsClause_51 ?_
      refine J_puti fl_RX11_171 dX11_readsClause_52 kk_207 rfl (by decide) ?_
      refine J_lld1 dX11_readsClause_55 ?_
      refine J_ldc2 dX11_readsClause_56 wd_51 ?_
      refine J_lcmp dX11_readsClause_59 ?_
      refine J_if_eq 79 dX11_readsClause_60 rfl ?_ ?_
      · refine J_ald0 dX11_readsClause_79 ?_
        refine J_lld1 dX11_readsClause_80 ?_
        refine J_cVZ (jX11_readsOfAll l cx n (lcb (M2 207 10) (M2 207 (10 + HI))) (upd2 M2 207 12 ((M2 207 12) + (1 : Int32)))) ck_RX11_178 dX11_readsClause_81 rfl kk_207 ⟨rfl, rfl, by decide, by decide⟩ ⟨Nat.zero_le _, Nat.zero_le _, Nat.le_of_ble_eq_true rfl⟩ (fun r5 M6 z7 => ?_)
        exact J_zret dX11_readsClause_84 rfl z7 ⟨rfl, rfl, rfl, z7⟩
      · refine J_lld1 dX11_readsClause_63 ?_
        refine J_ldc2 dX11_readsClause_64 wd_59 ?_
        refine J_lcmp dX11_readsClause_67 ?_
        refine J_if_eq 79 dX11_readsClause_68 rfl ?_ ?_
        · refine J_ald0 dX11_readsClause_79 ?_
          refine J_lld1 dX11_readsClause_80 ?_
          refine J_cVZ (jX11_readsOfAll l cx n (lcb (M2 207 10) (M2 207 (10 + HI))) (upd2 M2 207 12 ((M2 207 12) + (1 : Int32)))) ck_RX11_178 dX11_readsClause_81 rfl kk_207 ⟨rfl, rfl, by decide, by decide⟩ ⟨Nat.zero_le _, Nat.zero_le _, Nat.le_of_ble_eq_true rfl⟩ (fun r8 M9 z10 => ?_)
          exact J_zret dX11_readsClause_84 rfl z10 ⟨rfl, rfl, rfl, z10⟩
        · refine J_lld1 dX11_readsClause_71 ?_
          refine J_ldc2 dX11_readsClause_72 wd_52 ?_
          refine J_lcmp dX11_readsClause_75 ?_
          refine J_if_ne 85 dX11_readsClause_76 rfl ?_ ?_
          · refine J_ald0 dX11_readsClause_85 ?_
            refine J_cVZ (jX11_readsPlan l cx n  (upd2 M2 207 12 ((M2 207 12) + (1 : Int32)))) ck_RX11_181 dX11_readsClause_86 rfl kk_207 ⟨rfl, rfl, by decide, by decide⟩ ⟨Nat.zero_le _, Nat.zero_le _, Nat.le_of_ble_eq_true rfl⟩ (fun r11 M12 z13 => ?_)
            refine J_if_ne 94 dX11_readsClause_89 rfl ?_ ?_
            · refine J_bipush (v := 20) dX11_readsClause_94 rfl ?_
              refine J_bipush (v := 24) dX11_readsClause_96 rfl ?_
              refine J_ald0 dX11_readsClause_98 ?_
              refine J_geti fl_RX11_128 dX11_readsClause_99 kk_207 rfl ?_
              refine J_imul dX11_readsClause_102 ?_
              refine J_iadd dX11_readsClause_103 ?_
              refine J_ist3 dX11_readsClause_104 (by decide) rfl ?_
              refine J_lld1 dX11_readsClause_105 ?_
              refine J_ldc2 dX11_readsClause_106 wd_55 ?_
              refine J_lcmp dX11_readsClause_109 ?_
              refine J_if_ne 119 dX11_readsClause_110 rfl ?_ ?_
              · refine J_lld1 dX11_readsClause_119 ?_
                refine J_ldc2 dX11_readsClause_120 wd_60 ?_
                refine J_lcmp dX11_readsClause_123 ?_
                refine J_if_ne 133 dX11_readsClause_124 rfl ?_ ?_
                · refine J_lld1 dX11_readsClause_133 ?_
                  refine J_ldc2 dX11_readsClause_134 wd_57 ?_
                  refine J_lcmp dX11_readsClause_137 ?_
                  refine J_if_ne 147 dX11_readsClause_138 rfl ?_ ?_
                  · refine J_lld1 dX11_readsClause_147 ?_
                    refine J_ldc2 dX11_readsClause_148 wd_53 ?_
                    refine J_lcmp dX11_readsClause_151 ?_
                    refine J_if_ne 181 dX11_readsClause_152 rfl ?_ ?_
                    · refine J_lld1 dX11_readsClause_181 ?_
                      refine J_ldc2 dX11_readsClause_182 wd_54 ?_
                      refine J_lcmp dX11_readsClause_185 ?_
                      refine J_if_ne 216 dX11_readsClause_186 rfl ?_ ?_
                      · refine J_lld1 dX11_readsClause_216 ?_
                        refine J_ldc2 dX11_readsClause_217 wd_56 ?_
                        refine J_lcmp dX11_readsClause_220 ?_
                        refine J_if_ne 252 dX11_readsClause_221 rfl ?_ ?_
                        · refine J_ald0 dX11_readsClause_252 ?_
                          refine J_iconst (v := 0) dX11_readsClause_253 rfl ?_
                          refine J_bipush (v := 100) dX11_readsClause_254 rfl ?_
                          refine J_cVZ (jX11_readsNumber l cx n (0 : Int32) (100 : Int32) M12) ck_RX11_131 dX11_readsClause_256 rfl kk_207 ⟨rfl, rfl, by decide, by decide⟩ ⟨Nat.zero_le _, Nat.zero_le _, Nat.le_of_ble_eq_true rfl⟩ (fun r14 M15 z16 => ?_)
                          refine J_if_eq 276 dX11_readsClause_259 rfl ?_ ?_
                          · refine J_iconst (v := 0) dX11_readsClause_276 rfl ?_
                            exact J_zret dX11_readsClause_277 rfl (Or.inl rfl) ⟨rfl, rfl, rfl, (Or.inl rfl)⟩
                          · refine J_ald0 dX11_readsClause_262 ?_
                            refine J_ild3 dX11_readsClause_263 ?_
                            refine J_iconst (v := 5) dX11_readsClause_264 rfl ?_
                            refine J_iadd dX11_readsClause_265 ?_
                            refine J_cVZ (jX11_keepsNumber l cx n (((20 : Int32) + ((24 : Int32) * (M12 207 8))) + (5 : Int32)) M15) ck_RX11_141 dX11_readsClause_266 rfl kk_207 ⟨rfl, rfl, by decide, by decide⟩ ⟨Nat.zero_le _, Nat.zero_le _, Nat.le_of_ble_eq_true rfl⟩ (fun r17 M18 z19 => ?_)
                            refine J_if_eq 276 dX11_readsClause_269 rfl ?_ ?_
                            · refine J_iconst (v := 0) dX11_readsClause_276 rfl ?_
                              exact J_zret dX11_readsClause_277 rfl (Or.inl rfl) ⟨rfl, rfl, rfl, (Or.inl rfl)⟩
                            · refine J_iconst (v := 1) dX11_readsClause_272 rfl ?_
                              refine J_goto 277 dX11_readsClause_273 rfl ?_
                              exact J_zret dX11_readsClause_277 rfl (Or.inr rfl) ⟨rfl, rfl, rfl, (Or.inr rfl)⟩
                        · refine J_ald0 dX11_readsClause_224 ?_
                          refine J_iconst (v := 0) dX11_readsClause_225 rfl ?_
                          refine J_bipush (v := 99) dX11_readsClause_226 rfl ?_
                          refine J_cVZ (jX11_readsNumber l cx n (0 : Int32) (99 : Int32) M12) ck_RX11_131 dX11_readsClause_228 rfl kk_207 ⟨rfl, rfl, by decide, by decide⟩ ⟨Nat.zero_le _, Nat.zero_le _, Nat.le_of_ble_eq_true rfl⟩ (fun r20 M21 z22 => ?_)
                          refine J_if_eq 248 dX11_readsClause_231 rfl ?_ ?_
                          · refine J_iconst (v := 0) dX11_readsClause_248 rfl ?_
                            refine J_goto 277 dX11_readsClause_249 rfl ?_
                            exact J_zret dX11_readsClause_277 rfl (Or.inl rfl) ⟨rfl, rfl, rfl, (Or.inl rfl)⟩
                          · refine J_ald0 dX11_readsClause_234 ?_
                            refine J_ild3 dX11_readsClause_235 ?_
                            refine J_iconst (v := 3) dX11_readsClause_236 rfl ?_
                            refine J_iadd dX11_readsClause_237 ?_
                            refine J_cVZ (jX11_keepsNumber l cx n (((20 : Int32) + ((24 : Int32) * (M12 207 8))) + (3 : Int32)) M21) ck_RX11_141 dX11_readsClause_238 rfl kk_207 ⟨rfl, rfl, by decide, by decide⟩ ⟨Nat.zero_le _, Nat.zero_le _, Nat.le_of_ble_eq_true rfl⟩ (fun r23 M24 z25 => ?_)
                            refine J_if_eq 248 dX11_readsClause_241 rfl ?_ ?_
                            · refine J_iconst (v := 0) dX11_readsClause_248 rfl ?_
                              refine J_goto 277 dX11_readsClause_249 rfl ?_
                              exact J_zret dX11_readsClause_277 rfl (Or.inl rfl) ⟨rfl, rfl, rfl, (Or.inl rfl)⟩
                            · refine J_iconst (v := 1) dX11_readsClause_244 rfl ?_
                              refine J_goto 277 dX11_readsClause_245 rfl ?_
                              exact J_zret dX11_readsClause_277 rfl (Or.inr rfl) ⟨rfl, rfl, rfl, (Or.inr rfl)⟩
                      · refine J_ald0 dX11_readsClause_189 ?_
                        refine J_iconst (v := 0) dX11_readsClause_190 rfl ?_
                        refine J_sipush (v := 9999) dX11_readsClause_191 rfl ?_
                        refine J_cVZ (jX11_readsNumber l cx n (0 : Int32) (9999 : Int32) M12) ck_RX11_131 dX11_readsClause_194 rfl kk_207 ⟨rfl, rfl, by decide, by decide⟩ ⟨Nat.zero_le _, Nat.zero_le _, Nat.le_of_ble_eq_true rfl⟩ (fun r26 M27 z28 => ?_)
                        refine J_if_eq 214 dX11_readsClause_197 rfl ?_ ?_
                        · refine J_iconst (v := 0) dX11_readsClause_214 rfl ?_
                          exact J_zret dX11_readsClause_215 rfl (Or.inl rfl) ⟨rfl, rfl, rfl, (Or.inl rfl)⟩
                        · refine J_ald0 dX11_readsClause_200 ?_
                          refine J_ild3 dX11_readsClause_201 ?_
                          refine J_iconst (v := 1) dX11_readsClause_202 rfl ?_
                          refine J_iadd dX11_readsClause_203 ?_
                          refine J_cVZ (jX11_keepsNumber l cx n (((20 : Int32) + ((24 : Int32) * (M12 207 8))) + (1 : Int32)) M27) ck_RX11_141 dX11_readsClause_204 rfl kk_207 ⟨rfl, rfl, by decide, by decide⟩ ⟨Nat.zero_le _, Nat.zero_le _, Nat.le_of_ble_eq_true rfl⟩ (fun r29 M30 z31 => ?_)
                          refine J_if_eq 214 dX11_readsClause_207 rfl ?_ ?_
                          · refine J_iconst (v := 0) dX11_readsClause_214 rfl ?_
                            exact J_zret dX11_readsClause_215 rfl (Or.inl rfl) ⟨rfl, rfl, rfl, (Or.inl rfl)⟩
                          · refine J_iconst (v := 1) dX11_readsClause_210 rfl ?_
                            refine J_goto 215 dX11_readsClause_211 rfl ?_
                            exact J_zret dX11_readsClause_215 rfl (Or.inr rfl) ⟨rfl, rfl, rfl, (Or.inr rfl)⟩
                    · refine J_ald0 dX11_readsClause_155 ?_
                      refine J_iconst (v := 0) dX11_readsClause_156 rfl ?_
                      refine J_ldc dX11_readsClause_157 wd_61 ?_
                      refine J_cVZ (jX11_readsNumber l cx n (0 : Int32) (99999 : Int32) M12) ck_RX11_131 dX11_readsClause_159 rfl kk_207 ⟨rfl, rfl, by decide, by decide⟩ ⟨Nat.zero_le _, Nat.zero_le _, Nat.le_of_ble_eq_true rfl⟩ (fun r32 M33 z34 => ?_)
                      refine J_if_eq 179 dX11_readsClause_162 rfl ?_ ?_
                      · refine J_iconst (v := 0) dX11_readsClause_179 rfl ?_
                        exact J_zret dX11_readsClause_180 rfl (Or.inl rfl) ⟨rfl, rfl, rfl, (Or.inl rfl)⟩
                      · refine J_ald0 dX11_readsClause_165 ?_
                        refine J_ild3 dX11_readsClause_166 ?_
                        refine J_iconst (v := 0) dX11_readsClause_167 rfl ?_
                        refine J_iadd dX11_readsClause_168 ?_
                        refine J_cVZ (jX11_keepsNumber l cx n (((20 : Int32) + ((24 : Int32) * (M12 207 8))) + (0 : Int32)) M33) ck_RX11_141 dX11_readsClause_169 rfl kk_207 ⟨rfl, rfl, by decide, by decide⟩ ⟨Nat.zero_le _, Nat.zero_le _, Nat.le_of_ble_eq_true rfl⟩ (fun r35 M36 z37 => ?_)
                        refine J_if_eq 179 dX11_readsClause_172 rfl ?_ ?_
                        · refine J_iconst (v := 0) dX11_readsClause_179 rfl ?_
                          exact J_zret dX11_readsClause_180 rfl (Or.inl rfl) ⟨rfl, rfl, rfl, (Or.inl rfl)⟩
                        · refine J_iconst (v := 1) dX11_readsClause_175 rfl ?_
                          refine J_goto 180 dX11_readsClause_176 rfl ?_
                          exact J_zret dX11_readsClause_180 rfl (Or.inr rfl) ⟨rfl, rfl, rfl, (Or.inr rfl)⟩
                  · refine J_ald0 dX11_readsClause_141 ?_
                    refine J_ild3 dX11_readsClause_142 ?_
                    refine J_cVZ (jX11_readsMode l cx n ((20 : Int32) + ((24 : Int32) * (M12 207 8))) M12) ck_RX11_190 dX11_readsClause_143 rfl kk_207 ⟨rfl, rfl, by decide, by decide⟩ ⟨Nat.zero_le _, Nat.zero_le _, Nat.le_of_ble_eq_true rfl⟩ (fun r38 M39 z40 => ?_)
                    exact J_zret dX11_readsClause_146 rfl z40 ⟨rfl, rfl, rfl, z40⟩
                · refine J_ald0 dX11_readsClause_127 ?_
                  refine J_ild3 dX11_readsClause_128 ?_
                  refine J_cVZ (jX11_readsBulk l cx n ((20 : Int32) + ((24 : Int32) * (M12 207 8))) M12) ck_RX11_187 dX11_readsClause_129 rfl kk_207 ⟨rfl, rfl, by decide, by decide⟩ ⟨Nat.zero_le _, Nat.zero_le _, Nat.le_of_ble_eq_true rfl⟩ (fun r41 M42 z43 => ?_)
                  exact J_zret dX11_readsClause_132 rfl z43 ⟨rfl, rfl, rfl, z43⟩
              · refine J_ald0 dX11_readsClause_113 ?_
                refine J_ild3 dX11_readsClause_114 ?_
                refine J_cVZ (jX11_readsTier l cx n ((20 : Int32) + ((24 : Int32) * (M12 207 8))) M12) ck_RX11_184 dX11_readsClause_115 rfl kk_207 ⟨rfl, rfl, by decide, by decide⟩ ⟨Nat.zero_le _, Nat.zero_le _, Nat.le_of_ble_eq_true rfl⟩ (fun r44 M45 z46 => ?_)
                exact J_zret dX11_readsClause_118 rfl z46 ⟨rfl, rfl, rfl, z46⟩
            · refine J_iconst (v := 0) dX11_readsClause_92 rfl ?_
              exact J_zret dX11_readsClause_93 rfl (Or.inl rfl) ⟨rfl, rfl, rfl, (Or.inl rfl)⟩
          · refine J_ald0 dX11_readsClause_79 ?_
            refine J_lld1 dX11_readsClause_80 ?_
            refine J_cVZ (jX11_readsOfAll l cx n (lcb (M2 207 10) (M2 207 (10 + HI))) (upd2 M2 207 12 ((M2 207 12) + (1 : Int32)))) ck_RX11_178 dX11_readsClause_81 rfl kk_207 ⟨rfl, rfl, by decide, by decide⟩ ⟨Nat.zero_le _, Nat.zero_le _, Nat.le_of_ble_eq_true rfl⟩ (fun r47 M48 z49 => ?_)
            exact J_zret dX11_readsClause_84 rfl z49 ⟨rfl, rfl, rfl, z49⟩
    · refine J_ald0 dX11_readsClause_35 ?_
      refine J_iconst (v := 1) dX11_readsClause_36 rfl ?_
      refine J_ald0 dX11_readsClause_37 ?_
      refine J_geti fl_RX11_109 dX11_readsClause_38 kk_207 rfl ?_
      refine J_cVZ (jX11_wrongAt l cx n (1 : Int32) (M2 207 9) M2) ck_RX11_105 dX11_readsClause_41 rfl kk_207 ⟨rfl, rfl, by decide, by decide⟩ ⟨Nat.zero_le _, Nat.zero_le _, Nat.le_of_ble_eq_true rfl⟩ (fun r50 M51 z52 => ?_)
      exact J_zret dX11_readsClause_44 rfl z52 ⟨rfl, rfl, rfl, z52⟩
  · refine J_ald0 dX11_readsClause_9 ?_
    refine J_iconst (v := 4) dX11_readsClause_10 rfl ?_
    refine J_ald0 dX11_readsClause_11 ?_
    refine J_geti fl_RX11_92 dX11_readsClause_12 kk_207 rfl ?_
    refine J_cVZ (jX11_wrongAt l cx n (4 : Int32) (M 207 5) M) ck_RX11_105 dX11_readsClause_15 rfl kk_207 ⟨rfl, rfl, by decide, by decide⟩ ⟨Nat.zero_le _, Nat.zero_le _, Nat.le_of_ble_eq_true rfl⟩ (fun r53 M54 z55 => ?_)
    exact J_zret dX11_readsClause_18 rfl z55 ⟨rfl, rfl, rfl, z55⟩
set_option maxRecDepth 100000 in
theorem jX11_book_c133 {l : Launch} {cx : CX} {n : Nat} : ∀ (f : Nat) {v3 : Int32} {M : Mem}, JO l cx ({ frames := 6, cells := 0, slots := 0, locals := 133 } : Room) yX11_book cX11_book 4 (some .int) 0 0 false 207 218 EI GS 0 0 133 [some (.ref 207), none, none, some (.int v3)] [] M (mX11_book_c133 n f v3 M) := by
  intro f
  induction f with
  | zero =>
    intros
    exact J_none
  | succ f ih =>
    intro v3 M
    unfold mX11_book_c133
    refine J_ild3 dX11_book_133 ?_
    refine J_ald0 dX11_book_134 ?_
    refine J_getr (q := 211) fl_RX11_20 dX11_book_135 kk_207 rfl (rf_11_11 kk_207) ?_
    refine J_alen (v := (164 : Int32)) dX11_book_138 kk_211 (Or.inl rfl) rfl rfl ?_
    refine J_ic_ge 160 dX11_book_139 rfl ?_ ?_
    · refine J_ald0 dX11_book_160 ?_
      refine J_getr (q := 209) fl_RX11_13 dX11_book_161 kk_207 rfl (rf_11_1 kk_207) ?_
      refine J_iconst (v := 4) dX11_book_164 rfl ?_
      refine J_ald0 dX11_book_165 ?_
      refine J_geti fl_RX11_171 dX11_book_166 kk_207 rfl ?_
      refine J_iast dX11_book_169 kk_209 rfl ?_
      refine J_ald0 dX11_book_170 ?_
      refine J_geti fl_RX11_171 dX11_book_171 kk_207 rfl ?_
      exact J_iret dX11_book_174 rfl ⟨rfl, rfl, rfl⟩
    · refine J_ald0 dX11_book_142 ?_
      refine J_getr (q := 209) fl_RX11_13 dX11_book_143 kk_207 rfl (rf_11_1 kk_207) ?_
      refine J_ild3 dX11_book_146 ?_
      refine J_ald0 dX11_book_147 ?_
      refine J_getr (q := 211) fl_RX11_20 dX11_book_148 kk_207 rfl (rf_11_11 kk_207) ?_
      refine J_ild3 dX11_book_151 ?_
      refine J_iald dX11_book_152 kk_211 rfl ?_
      refine J_iast dX11_book_153 kk_209 rfl ?_
      refine J_iinc3 (w := (v3 + (1 : Int32))) dX11_book_154 (by decide) rfl rfl ?_
      refine J_goto 133 dX11_book_157 rfl ?_
      exact J_wk (wk_s (wk_n (wk_n (wk_s wk_0)))) (ih)
set_option maxRecDepth 100000 in
theorem jX11_book_c82 {l : Launch} {cx : CX} {n : Nat} : ∀ (f : Nat) {v2 : Int32} {M : Mem}, JO l cx ({ frames := 6, cells := 0, slots := 0, locals := 133 } : Room) yX11_book cX11_book 4 (some .int) 0 0 false 207 218 EI GS 0 0 82 [some (.ref 207), none, some (.int v2), none] [] M (mX11_book_c82 n f v2 M) := by
  intro f
  induction f with
  | zero =>
    intros
    exact J_none
  | succ f ih =>
    intro v2 M
    unfold mX11_book_c82
    refine J_ild2 dX11_book_82 ?_
    refine J_if_eq 122 dX11_book_83 rfl ?_ ?_
    · refine J_ild2 dX11_book_122 ?_
      refine J_if_ne 131 dX11_book_123 rfl ?_ ?_
      · refine J_iconst (v := 2) dX11_book_131 rfl ?_
        refine J_ist3 dX11_book_132 (by decide) rfl ?_
        exact J_wk (wk_s (wk_n (wk_n (wk_s wk_0)))) (jX11_book_c133 (n := n) n)
      · refine J_ald0 dX11_book_126 ?_
        refine J_geti fl_RX11_98 dX11_book_127 kk_207 rfl ?_
        exact J_iret dX11_book_130 rfl ⟨rfl, rfl, rfl⟩
    · refine J_ald0 dX11_book_86 ?_
      refine J_geti fl_RX11_92 dX11_book_87 kk_207 rfl ?_
      refine J_ald0 dX11_book_90 ?_
      refine J_geti fl_RX11_95 dX11_book_91 kk_207 rfl ?_
      refine J_ic_ge 122 dX11_book_94 rfl ?_ ?_
      · refine J_ild2 dX11_book_122 ?_
        refine J_if_ne 131 dX11_book_123 rfl ?_ ?_
        · refine J_iconst (v := 2) dX11_book_131 rfl ?_
          refine J_ist3 dX11_book_132 (by decide) rfl ?_
          exact J_wk (wk_s (wk_n (wk_n (wk_s wk_0)))) (jX11_book_c133 (n := n) n)
        · refine J_ald0 dX11_book_126 ?_
          refine J_geti fl_RX11_98 dX11_book_127 kk_207 rfl ?_
          exact J_iret dX11_book_130 rfl ⟨rfl, rfl, rfl⟩
      · refine J_ald0 dX11_book_97 ?_
        refine J_bipush (v := 59) dX11_book_98 rfl ?_
        refine J_cVZ (jX11_takesSign l cx n (59 : Int32) M) ck_RX11_122 dX11_book_100 rfl kk_207 ⟨rfl, rfl, by decide, by decide⟩ ⟨Nat.zero_le _, Nat.zero_le _, Nat.le_of_ble_eq_true rfl⟩ (fun r1 M2 z3 => ?_)
        refine J_if_eq 117 dX11_book_103 rfl ?_ ?_
        · refine J_iconst (v := 0) dX11_book_117 rfl ?_
          refine J_ist2 dX11_book_118 (by decide) rfl ?_
          refine J_goto 82 dX11_book_119 rfl ?_
          exact J_wk (wk_s (wk_n (wk_s (wk_n wk_0)))) (ih)
        · refine J_ald0 dX11_book_106 ?_
          refine J_cVZ (jX11_readsClause l cx n  M2) ck_RX11_194 dX11_book_107 rfl kk_207 ⟨rfl, rfl, by decide, by decide⟩ ⟨Nat.zero_le _, Nat.zero_le _, Nat.le_of_ble_eq_true rfl⟩ (fun r4 M5 z6 => ?_)
          refine J_if_eq 117 dX11_book_110 rfl ?_ ?_
          · refine J_iconst (v := 0) dX11_book_117 rfl ?_
            refine J_ist2 dX11_book_118 (by decide) rfl ?_
            refine J_goto 82 dX11_book_119 rfl ?_
            exact J_wk (wk_s (wk_n (wk_s (wk_n wk_0)))) (ih)
          · refine J_iconst (v := 1) dX11_book_113 rfl ?_
            refine J_goto 118 dX11_book_114 rfl ?_
            refine J_ist2 dX11_book_118 (by decide) rfl ?_
            refine J_goto 82 dX11_book_119 rfl ?_
            exact J_wk (wk_s (wk_n (wk_s (wk_n wk_0)))) (ih)
set_option maxRecDepth 100000 in
theorem jX11_book_c50 {l : Launch} {cx : CX} {n : Nat} : ∀ (f : Nat) {v2 : Int32} {M : Mem}, JO l cx ({ frames := 6, cells := 0, slots := 0, locals := 133 } : Room) yX11_book cX11_book 4 (some .int) 0 0 false 207 218 EI GS 0 0 50 [some (.ref 207), none, some (.int v2), none] [] M (mX11_book_c50 n f v2 M) := by
  intro f
  induction f with
  | zero =>
    intros
    exact J_none
  | succ f ih =>
    intro v2 M
    unfold mX11_book_c50
    refine J_ild2 dX11_book_50 ?_
    refine J_ald0 dX11_book_51 ?_
    refine J_getr (q := 211) fl_RX11_20 dX11_book_52 kk_207 rfl (rf_11_11 kk_207) ?_
    refine J_alen (v := (164 : Int32)) dX11_book_55 kk_211 (Or.inl rfl) rfl rfl ?_
    refine J_ic_ge 72 dX11_book_56 rfl ?_ ?_
    · refine J_ald0 dX11_book_72 ?_
      refine J_iconst (v := 0) dX11_book_73 rfl ?_
      refine J_puti fl_RX11_171 dX11_book_74 kk_207 rfl (by decide) ?_
      refine J_ald0 dX11_book_77 ?_
      refine J_cVZ (jX11_readsClause l cx n  (upd2 M 207 12 (0 : Int32))) ck_RX11_194 dX11_book_78 rfl kk_207 ⟨rfl, rfl, by decide, by decide⟩ ⟨Nat.zero_le _, Nat.zero_le _, Nat.le_of_ble_eq_true rfl⟩ (fun r7 M8 z9 => ?_)
      refine J_ist2 dX11_book_81 (by decide) rfl ?_
      exact J_wk (wk_s (wk_n (wk_s (wk_n wk_0)))) (jX11_book_c82 (n := n) n)
    · refine J_ald0 dX11_book_59 ?_
      refine J_getr (q := 211) fl_RX11_20 dX11_book_60 kk_207 rfl (rf_11_11 kk_207) ?_
      refine J_ild2 dX11_book_63 ?_
      refine J_iconst (v := 0) dX11_book_64 rfl ?_
      refine J_iast dX11_book_65 kk_211 rfl ?_
      refine J_iinc2 (w := (v2 + (1 : Int32))) dX11_book_66 (by decide) rfl rfl ?_
      refine J_goto 50 dX11_book_69 rfl ?_
      exact J_wk (wk_s (wk_n (wk_s (wk_n wk_0)))) (ih)
set_option maxRecDepth 100000 in
theorem jX11_book (l : Launch) (cx : CX) (n : Nat) (a : Int32) (M : Mem) : Con l cx ({ frames := 6, cells := 0, slots := 0, locals := 133 } : Room) yX11_book cX11_book 4 (some .int) 0 0 false 207 218 EI GS [.ref 207, .int a] M (mX11_book n a M) := by
  unfold mX11_book
  refine Con.of (ls := [some (.ref 207), some (.int a), none, none]) (by decide) rfl (Nat.le_of_ble_eq_true rfl) ?_
  refine J_ild1 dX11_book_0 ?_
  refine J_iconst (v := 1) dX11_book_1 rfl ?_
  refine J_sipush (v := 200) dX11_book_2 rfl ?_
  refine J_cSB (jX11_in l cx n a (1 : Int32) (200 : Int32) M) ck_RX11_56 dX11_book_5 rfl ⟨rfl, rfl, by decide, by decide⟩ ⟨Nat.zero_le _, Nat.zero_le _, Nat.le_of_ble_eq_true rfl⟩ (fun r10 z11 => ?_)
  refine J_if_eq 19 dX11_book_8 rfl ?_ ?_
  · refine J_iconst (v := -1) dX11_book_19 rfl ?_
    exact J_iret dX11_book_20 rfl ⟨rfl, rfl, rfl⟩
  · refine J_ild1 dX11_book_11 ?_
    refine J_ald0 dX11_book_12 ?_
    refine J_geti fl_RX11_84 dX11_book_13 kk_207 rfl ?_
    refine J_ic_le 21 dX11_book_16 rfl ?_ ?_
    · refine J_ald0 dX11_book_21 ?_
      refine J_iconst (v := 0) dX11_book_22 rfl ?_
      refine J_puti fl_RX11_92 dX11_book_23 kk_207 rfl (by decide) ?_
      refine J_ald0 dX11_book_26 ?_
      refine J_ild1 dX11_book_27 ?_
      refine J_puti fl_RX11_95 dX11_book_28 kk_207 rfl (by decide) ?_
      refine J_ald0 dX11_book_31 ?_
      refine J_iconst (v := 0) dX11_book_32 rfl ?_
      refine J_puti fl_RX11_84 dX11_book_33 kk_207 rfl (by decide) ?_
      refine J_ald0 dX11_book_36 ?_
      refine J_getr (q := 209) fl_RX11_13 dX11_book_37 kk_207 rfl (rf_11_1 kk_207) ?_
      refine J_iconst (v := 1) dX11_book_40 rfl ?_
      refine J_iald dX11_book_41 kk_209 rfl ?_
      refine J_if_le 48 dX11_book_42 rfl ?_ ?_
      · refine J_iconst (v := 0) dX11_book_48 rfl ?_
        refine J_ist2 dX11_book_49 (by decide) rfl ?_
        exact J_wk (wk_s (wk_n (wk_s (wk_n wk_0)))) (jX11_book_c50 (n := n) n)
      · refine J_bipush (v := -3) dX11_book_45 rfl ?_
        exact J_iret dX11_book_47 rfl ⟨rfl, rfl, rfl⟩
    · refine J_iconst (v := -1) dX11_book_19 rfl ?_
      exact J_iret dX11_book_20 rfl ⟨rfl, rfl, rfl⟩
