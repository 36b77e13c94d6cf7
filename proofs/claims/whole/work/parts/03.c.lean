set_option maxRecDepth 100000 in
theorem jX9_isAboveTaxes (l : Launch) (cx : CX) (n : Nat) (o : Nat) (ho : IsK GS 0 207 o 9) (a : Int32) (M : Mem) : Con l cx ({ frames := 0, cells := 0, slots := 0, locals := 0 } : Room) yX9_isAboveTaxes cX9_isAboveTaxes 2 (some .boolean) 0 0 false 0 207 (EB M) GS [.ref o, .int a] M (mX9_isAboveTaxes o a M) := by
  unfold mX9_isAboveTaxes
  refine Con.of (ls := [some (.ref o), some (.int a)]) (by decide) rfl (Nat.le_of_ble_eq_true rfl) ?_
  refine J_ald0 dX9_isAboveTaxes_0 ?_
  refine J_geti fl_RX9_38 dX9_isAboveTaxes_1 ho rfl ?_
  refine J_iconst (v := 1) dX9_isAboveTaxes_4 rfl ?_
  refine J_ic_lt 31 dX9_isAboveTaxes_5 rfl ?_ ?_
  · refine J_iconst (v := 1) dX9_isAboveTaxes_31 rfl ?_
    refine J_goto 36 dX9_isAboveTaxes_32 rfl ?_
    exact J_zret dX9_isAboveTaxes_36 rfl (Or.inr rfl) ⟨rfl, rfl, rfl, (Or.inr rfl)⟩
  · refine J_ald0 dX9_isAboveTaxes_8 ?_
    refine J_geti fl_RX9_38 dX9_isAboveTaxes_9 ho rfl ?_
    refine J_iconst (v := 4) dX9_isAboveTaxes_12 rfl ?_
    refine J_ic_gt 31 dX9_isAboveTaxes_13 rfl ?_ ?_
    · refine J_iconst (v := 1) dX9_isAboveTaxes_31 rfl ?_
      refine J_goto 36 dX9_isAboveTaxes_32 rfl ?_
      exact J_zret dX9_isAboveTaxes_36 rfl (Or.inr rfl) ⟨rfl, rfl, rfl, (Or.inr rfl)⟩
    · refine J_ild1 dX9_isAboveTaxes_16 ?_
      refine J_ald0 dX9_isAboveTaxes_17 ?_
      refine J_getr (q := (o + 2)) fl_RX9_17 dX9_isAboveTaxes_18 ho rfl (rf_9_5 ho) ?_
      refine J_ald0 dX9_isAboveTaxes_21 ?_
      refine J_geti fl_RX9_38 dX9_isAboveTaxes_22 ho rfl ?_
      refine J_iconst (v := 1) dX9_isAboveTaxes_25 rfl ?_
      refine J_isub dX9_isAboveTaxes_26 ?_
      refine J_iald dX9_isAboveTaxes_27 (kf_9_5 ho) (ln_9_5 ho) ?_
      refine J_ic_le 35 dX9_isAboveTaxes_28 rfl ?_ ?_
      · refine J_iconst (v := 0) dX9_isAboveTaxes_35 rfl ?_
        exact J_zret dX9_isAboveTaxes_36 rfl (Or.inl rfl) ⟨rfl, rfl, rfl, (Or.inl rfl)⟩
      · refine J_iconst (v := 1) dX9_isAboveTaxes_31 rfl ?_
        refine J_goto 36 dX9_isAboveTaxes_32 rfl ?_
        exact J_zret dX9_isAboveTaxes_36 rfl (Or.inr rfl) ⟨rfl, rfl, rfl, (Or.inr rfl)⟩
set_option maxRecDepth 100000 in
theorem jX9_addTax (l : Launch) (cx : CX) (n : Nat) (o : Nat) (ho : IsK GS 0 207 o 9) (a : Int32) (b : Int32) (M : Mem) : Con l cx ({ frames := 0, cells := 0, slots := 0, locals := 0 } : Room) yX9_addTax cX9_addTax 3 none 0 0 false 0 207 EV GS [.ref o, .int a, .int b] M (mX9_addTax o a b M) := by
  unfold mX9_addTax
  refine Con.of (ls := [some (.ref o), some (.int a), some (.int b)]) (by decide) rfl (Nat.le_of_ble_eq_true rfl) ?_
  refine J_ald0 dX9_addTax_0 ?_
  refine J_geti fl_RX9_38 dX9_addTax_1 ho rfl ?_
  refine J_if_lt 45 dX9_addTax_4 rfl ?_ ?_
  · exact J_vret dX9_addTax_45 rfl ⟨rfl, rfl, rfl⟩
  · refine J_ald0 dX9_addTax_7 ?_
    refine J_geti fl_RX9_38 dX9_addTax_8 ho rfl ?_
    refine J_iconst (v := 4) dX9_addTax_11 rfl ?_
    refine J_ic_ge 45 dX9_addTax_12 rfl ?_ ?_
    · exact J_vret dX9_addTax_45 rfl ⟨rfl, rfl, rfl⟩
    · refine J_ald0 dX9_addTax_15 ?_
      refine J_getr (q := (o + 2)) fl_RX9_17 dX9_addTax_16 ho rfl (rf_9_5 ho) ?_
      refine J_ald0 dX9_addTax_19 ?_
      refine J_geti fl_RX9_38 dX9_addTax_20 ho rfl ?_
      refine J_ild1 dX9_addTax_23 ?_
      refine J_iast dX9_addTax_24 (kf_9_5 ho) (ln_9_5 ho) ?_
      refine J_ald0 dX9_addTax_25 ?_
      refine J_getr (q := (o + 3)) fl_RX9_21 dX9_addTax_26 ho rfl (rf_9_6 ho) ?_
      refine J_ald0 dX9_addTax_29 ?_
      refine J_geti fl_RX9_38 dX9_addTax_30 ho rfl ?_
      refine J_ild2 dX9_addTax_33 ?_
      refine J_iast dX9_addTax_34 (kf_9_6 ho) (ln_9_6 ho) ?_
      refine J_lt (fun M1 => ?_)
      refine J_ald0 dX9_addTax_35 ?_
      refine J_dup_r dX9_addTax_36 ?_
      refine J_geti fl_RX9_38 dX9_addTax_37 ho rfl ?_
      refine J_iconst (v := 1) dX9_addTax_40 rfl ?_
      refine J_iadd dX9_addTax_41 ?_
      refine J_puti fl_RX9_38 dX9_addTax_42 ho rfl (by decide) ?_
      exact J_vret dX9_addTax_45 rfl ⟨rfl, rfl, rfl⟩
set_option maxRecDepth 100000 in
theorem jX2_readTax (l : Launch) (cx : CX) (n : Nat) (M : Mem) : Con l cx ({ frames := 2, cells := 0, slots := 0, locals := 47 } : Room) yX2_readTax cX2_readTax 3 none 0 0 false 0 207 EV GS [.ref 163] M (mX2_readTax n M) := by
  unfold mX2_readTax
  refine Con.of (ls := [some (.ref 163), none, none]) (by decide) rfl (Nat.le_of_ble_eq_true rfl) ?_
  refine J_ald0 dX2_readTax_0 ?_
  refine J_getr (q := 198) fl_RX2_23 dX2_readTax_1 kk_163 rfl (rf_2_0 kk_163) ?_
  refine J_geti fl_RX2_34 dX2_readTax_4 kk_198 rfl ?_
  refine J_ist1 dX2_readTax_7 (by decide) rfl ?_
  refine J_ald0 dX2_readTax_8 ?_
  refine J_getr (q := 198) fl_RX2_23 dX2_readTax_9 kk_163 rfl (rf_2_0 kk_163) ?_
  refine J_iconst (v := 0) dX2_readTax_12 rfl ?_
  refine J_sipush (v := 3652) dX2_readTax_13 rfl ?_
  refine J_cVI (jX8_number l cx n 198 kk_198 (0 : Int32) (3652 : Int32) M) ck_RX2_71 dX2_readTax_16 rfl kk_198 ⟨rfl, rfl, by decide, by decide⟩ ⟨Nat.zero_le _, Nat.zero_le _, Nat.le_of_ble_eq_true rfl⟩ (fun r1 M2 => ?_)
  refine J_ist2 dX2_readTax_19 (by decide) rfl ?_
  refine J_ald0 dX2_readTax_20 ?_
  refine J_getr (q := 164) fl_RX2_12 dX2_readTax_21 kk_163 rfl (rf_2_1 kk_163) ?_
  refine J_ild2 dX2_readTax_24 ?_
  refine J_cVB (jX9_isAboveTaxes l cx n 164 kk_164 r1 M2) ck_RX2_90 dX2_readTax_25 rfl kk_164 ⟨rfl, rfl, by decide, by decide⟩ ⟨Nat.zero_le _, Nat.zero_le _, Nat.le_of_ble_eq_true rfl⟩ (fun r3 z4 => ?_)
  refine J_if_ne 41 dX2_readTax_28 rfl ?_ ?_
  · refine J_ald0 dX2_readTax_41 ?_
    refine J_getr (q := 198) fl_RX2_23 dX2_readTax_42 kk_163 rfl (rf_2_0 kk_163) ?_
    refine J_cVV (jX8_blank l cx n 198 kk_198 M2) ck_RX2_65 dX2_readTax_45 rfl kk_198 ⟨rfl, rfl, by decide, by decide⟩ ⟨Nat.zero_le _, Nat.zero_le _, Nat.le_of_ble_eq_true rfl⟩ (fun M6 => ?_)
    refine J_ald0 dX2_readTax_48 ?_
    refine J_getr (q := 164) fl_RX2_12 dX2_readTax_49 kk_163 rfl (rf_2_1 kk_163) ?_
    refine J_ild2 dX2_readTax_52 ?_
    refine J_ald0 dX2_readTax_53 ?_
    refine J_getr (q := 198) fl_RX2_23 dX2_readTax_54 kk_163 rfl (rf_2_0 kk_163) ?_
    refine J_iconst (v := 0) dX2_readTax_57 rfl ?_
    refine J_bipush (v := 100) dX2_readTax_58 rfl ?_
    refine J_cVI (jX8_number l cx n 198 kk_198 (0 : Int32) (100 : Int32) M6) ck_RX2_71 dX2_readTax_60 rfl kk_198 ⟨rfl, rfl, by decide, by decide⟩ ⟨Nat.zero_le _, Nat.zero_le _, Nat.le_of_ble_eq_true rfl⟩ (fun r7 M8 => ?_)
    refine J_cVV (jX9_addTax l cx n 164 kk_164 r1 r7 M8) ck_RX2_94 dX2_readTax_63 rfl kk_164 ⟨rfl, rfl, by decide, by decide⟩ ⟨Nat.zero_le _, Nat.zero_le _, Nat.le_of_ble_eq_true rfl⟩ (fun M10 => ?_)
    exact J_vret dX2_readTax_66 rfl ⟨rfl, rfl, rfl⟩
  · refine J_ald0 dX2_readTax_31 ?_
    refine J_getr (q := 198) fl_RX2_23 dX2_readTax_32 kk_163 rfl (rf_2_0 kk_163) ?_
    refine J_bipush (v := 6) dX2_readTax_35 rfl ?_
    refine J_ild1 dX2_readTax_37 ?_
    refine J_cVV (jX8_mark l cx n 198 kk_198 (6 : Int32) (M 198 2) M2) ck_RX2_38 dX2_readTax_38 rfl kk_198 ⟨rfl, rfl, by decide, by decide⟩ ⟨Nat.zero_le _, Nat.zero_le _, Nat.le_of_ble_eq_true rfl⟩ (fun M12 => ?_)
    refine J_ald0 dX2_readTax_41 ?_
    refine J_getr (q := 198) fl_RX2_23 dX2_readTax_42 kk_163 rfl (rf_2_0 kk_163) ?_
    refine J_cVV (jX8_blank l cx n 198 kk_198 M12) ck_RX2_65 dX2_readTax_45 rfl kk_198 ⟨rfl, rfl, by decide, by decide⟩ ⟨Nat.zero_le _, Nat.zero_le _, Nat.le_of_ble_eq_true rfl⟩ (fun M14 => ?_)
    refine J_ald0 dX2_readTax_48 ?_
    refine J_getr (q := 164) fl_RX2_12 dX2_readTax_49 kk_163 rfl (rf_2_1 kk_163) ?_
    refine J_ild2 dX2_readTax_52 ?_
    refine J_ald0 dX2_readTax_53 ?_
    refine J_getr (q := 198) fl_RX2_23 dX2_readTax_54 kk_163 rfl (rf_2_0 kk_163) ?_
    refine J_iconst (v := 0) dX2_readTax_57 rfl ?_
    refine J_bipush (v := 100) dX2_readTax_58 rfl ?_
    refine J_cVI (jX8_number l cx n 198 kk_198 (0 : Int32) (100 : Int32) M14) ck_RX2_71 dX2_readTax_60 rfl kk_198 ⟨rfl, rfl, by decide, by decide⟩ ⟨Nat.zero_le _, Nat.zero_le _, Nat.le_of_ble_eq_true rfl⟩ (fun r15 M16 => ?_)
    refine J_cVV (jX9_addTax l cx n 164 kk_164 r1 r15 M16) ck_RX2_94 dX2_readTax_63 rfl kk_164 ⟨rfl, rfl, by decide, by decide⟩ ⟨Nat.zero_le _, Nat.zero_le _, Nat.le_of_ble_eq_true rfl⟩ (fun M18 => ?_)
    exact J_vret dX2_readTax_66 rfl ⟨rfl, rfl, rfl⟩
set_option maxRecDepth 100000 in
theorem jX8_planLetter (l : Launch) (cx : CX) (n : Nat) (o : Nat) (ho : IsK GS 0 207 o 8) (M : Mem) : Con l cx ({ frames := 1, cells := 0, slots := 0, locals := 22 } : Room) yX8_planLetter cX8_planLetter 2 (some .int) 0 0 false 0 207 EI GS [.ref o] M (mX8_planLetter o M) := by
  unfold mX8_planLetter
  refine Con.of (ls := [some (.ref o), none]) (by decide) rfl (Nat.le_of_ble_eq_true rfl) ?_
  refine J_ald0 dX8_planLetter_0 ?_
  refine J_ald0 dX8_planLetter_1 ?_
  refine J_geti fl_RX8_28 dX8_planLetter_2 ho rfl ?_
  refine J_cVP (jX8_byteAt l cx n o ho (M o 2) M) ck_RX8_37 dX8_planLetter_5 rfl ho ⟨rfl, rfl, by decide, by decide⟩ ⟨Nat.zero_le _, Nat.zero_le _, Nat.le_of_ble_eq_true rfl⟩ (fun r1 => ?_)
  refine J_ist1 dX8_planLetter_8 (by decide) rfl ?_
  refine J_ald0 dX8_planLetter_9 ?_
  refine J_geti fl_RX8_31 dX8_planLetter_10 ho rfl ?_
  refine J_if_eq 18 dX8_planLetter_13 rfl ?_ ?_
  · refine J_ild1 dX8_planLetter_18 ?_
    refine J_bipush (v := 65) dX8_planLetter_19 rfl ?_
    refine J_ic_lt 30 dX8_planLetter_21 rfl ?_ ?_
    · refine J_ald0 dX8_planLetter_30 ?_
      refine J_iconst (v := 1) dX8_planLetter_31 rfl ?_
      refine J_ald0 dX8_planLetter_32 ?_
      refine J_geti fl_RX8_28 dX8_planLetter_33 ho rfl ?_
      refine J_cVV (jX8_mark l cx n o ho (1 : Int32) (M o 2) M) ck_RX8_41 dX8_planLetter_36 rfl ho ⟨rfl, rfl, by decide, by decide⟩ ⟨Nat.zero_le _, Nat.zero_le _, Nat.le_of_ble_eq_true rfl⟩ (fun M3 => ?_)
      refine J_iconst (v := 0) dX8_planLetter_39 rfl ?_
      exact J_iret dX8_planLetter_40 rfl ⟨rfl, rfl, rfl⟩
    · refine J_ild1 dX8_planLetter_24 ?_
      refine J_bipush (v := 70) dX8_planLetter_25 rfl ?_
      refine J_ic_le 41 dX8_planLetter_27 rfl ?_ ?_
      · refine J_ald0 dX8_planLetter_41 ?_
        refine J_dup_r dX8_planLetter_42 ?_
        refine J_geti fl_RX8_28 dX8_planLetter_43 ho rfl ?_
        refine J_iconst (v := 1) dX8_planLetter_46 rfl ?_
        refine J_iadd dX8_planLetter_47 ?_
        refine J_puti fl_RX8_28 dX8_planLetter_48 ho rfl (by decide) ?_
        refine J_ild1 dX8_planLetter_51 ?_
        refine J_bipush (v := 65) dX8_planLetter_52 rfl ?_
        refine J_isub dX8_planLetter_54 ?_
        exact J_iret dX8_planLetter_55 rfl ⟨rfl, rfl, rfl⟩
      · refine J_ald0 dX8_planLetter_30 ?_
        refine J_iconst (v := 1) dX8_planLetter_31 rfl ?_
        refine J_ald0 dX8_planLetter_32 ?_
        refine J_geti fl_RX8_28 dX8_planLetter_33 ho rfl ?_
        refine J_cVV (jX8_mark l cx n o ho (1 : Int32) (M o 2) M) ck_RX8_41 dX8_planLetter_36 rfl ho ⟨rfl, rfl, by decide, by decide⟩ ⟨Nat.zero_le _, Nat.zero_le _, Nat.le_of_ble_eq_true rfl⟩ (fun M5 => ?_)
        refine J_iconst (v := 0) dX8_planLetter_39 rfl ?_
        exact J_iret dX8_planLetter_40 rfl ⟨rfl, rfl, rfl⟩
  · refine J_iconst (v := 0) dX8_planLetter_16 rfl ?_
    exact J_iret dX8_planLetter_17 rfl ⟨rfl, rfl, rfl⟩
set_option maxRecDepth 100000 in
theorem jX7_isAboveBounds (l : Launch) (cx : CX) (n : Nat) (o : Nat) (ho : IsK GS 0 207 o 7) (a : Int32) (M : Mem) : Con l cx ({ frames := 0, cells := 0, slots := 0, locals := 0 } : Room) yX7_isAboveBounds cX7_isAboveBounds 2 (some .boolean) 0 0 false 0 207 (EB M) GS [.ref o, .int a] M (mX7_isAboveBounds o a M) := by
  unfold mX7_isAboveBounds
  refine Con.of (ls := [some (.ref o), some (.int a)]) (by decide) rfl (Nat.le_of_ble_eq_true rfl) ?_
  refine J_ald0 dX7_isAboveBounds_0 ?_
  refine J_geti fl_RX7_31 dX7_isAboveBounds_1 ho rfl ?_
  refine J_iconst (v := 1) dX7_isAboveBounds_4 rfl ?_
  refine J_ic_lt 31 dX7_isAboveBounds_5 rfl ?_ ?_
  · refine J_iconst (v := 1) dX7_isAboveBounds_31 rfl ?_
    refine J_goto 36 dX7_isAboveBounds_32 rfl ?_
    exact J_zret dX7_isAboveBounds_36 rfl (Or.inr rfl) ⟨rfl, rfl, rfl, (Or.inr rfl)⟩
  · refine J_ald0 dX7_isAboveBounds_8 ?_
    refine J_geti fl_RX7_31 dX7_isAboveBounds_9 ho rfl ?_
    refine J_iconst (v := 4) dX7_isAboveBounds_12 rfl ?_
    refine J_ic_gt 31 dX7_isAboveBounds_13 rfl ?_ ?_
    · refine J_iconst (v := 1) dX7_isAboveBounds_31 rfl ?_
      refine J_goto 36 dX7_isAboveBounds_32 rfl ?_
      exact J_zret dX7_isAboveBounds_36 rfl (Or.inr rfl) ⟨rfl, rfl, rfl, (Or.inr rfl)⟩
    · refine J_ild1 dX7_isAboveBounds_16 ?_
      refine J_ald0 dX7_isAboveBounds_17 ?_
      refine J_getr (q := (o + 1)) fl_RX7_11 dX7_isAboveBounds_18 ho rfl (rf_7_3 ho) ?_
      refine J_ald0 dX7_isAboveBounds_21 ?_
      refine J_geti fl_RX7_31 dX7_isAboveBounds_22 ho rfl ?_
      refine J_iconst (v := 1) dX7_isAboveBounds_25 rfl ?_
      refine J_isub dX7_isAboveBounds_26 ?_
      refine J_iald dX7_isAboveBounds_27 (kf_7_3 ho) (ln_7_3 ho) ?_
      refine J_ic_le 35 dX7_isAboveBounds_28 rfl ?_ ?_
      · refine J_iconst (v := 0) dX7_isAboveBounds_35 rfl ?_
        exact J_zret dX7_isAboveBounds_36 rfl (Or.inl rfl) ⟨rfl, rfl, rfl, (Or.inl rfl)⟩
      · refine J_iconst (v := 1) dX7_isAboveBounds_31 rfl ?_
        refine J_goto 36 dX7_isAboveBounds_32 rfl ?_
        exact J_zret dX7_isAboveBounds_36 rfl (Or.inr rfl) ⟨rfl, rfl, rfl, (Or.inr rfl)⟩
set_option maxRecDepth 100000 in
theorem jX7_addTier (l : Launch) (cx : CX) (n : Nat) (o : Nat) (ho : IsK GS 0 207 o 7) (a : Int32) (b : Int32) (M : Mem) : Con l cx ({ frames := 0, cells := 0, slots := 0, locals := 0 } : Room) yX7_addTier cX7_addTier 3 none 0 0 false 0 207 EV GS [.ref o, .int a, .int b] M (mX7_addTier o a b M) := by
  unfold mX7_addTier
  refine Con.of (ls := [some (.ref o), some (.int a), some (.int b)]) (by decide) rfl (Nat.le_of_ble_eq_true rfl) ?_
  refine J_ald0 dX7_addTier_0 ?_
  refine J_geti fl_RX7_31 dX7_addTier_1 ho rfl ?_
  refine J_if_lt 45 dX7_addTier_4 rfl ?_ ?_
  · exact J_vret dX7_addTier_45 rfl ⟨rfl, rfl, rfl⟩
  · refine J_ald0 dX7_addTier_7 ?_
    refine J_geti fl_RX7_31 dX7_addTier_8 ho rfl ?_
    refine J_iconst (v := 4) dX7_addTier_11 rfl ?_
    refine J_ic_ge 45 dX7_addTier_12 rfl ?_ ?_
    · exact J_vret dX7_addTier_45 rfl ⟨rfl, rfl, rfl⟩
    · refine J_ald0 dX7_addTier_15 ?_
      refine J_getr (q := (o + 1)) fl_RX7_11 dX7_addTier_16 ho rfl (rf_7_3 ho) ?_
      refine J_ald0 dX7_addTier_19 ?_
      refine J_geti fl_RX7_31 dX7_addTier_20 ho rfl ?_
      refine J_ild1 dX7_addTier_23 ?_
      refine J_iast dX7_addTier_24 (kf_7_3 ho) (ln_7_3 ho) ?_
      refine J_ald0 dX7_addTier_25 ?_
      refine J_getr (q := (o + 2)) fl_RX7_15 dX7_addTier_26 ho rfl (rf_7_4 ho) ?_
      refine J_ald0 dX7_addTier_29 ?_
      refine J_geti fl_RX7_31 dX7_addTier_30 ho rfl ?_
      refine J_ild2 dX7_addTier_33 ?_
      refine J_iast dX7_addTier_34 (kf_7_4 ho) (ln_7_4 ho) ?_
      refine J_lt (fun M1 => ?_)
      refine J_ald0 dX7_addTier_35 ?_
      refine J_dup_r dX7_addTier_36 ?_
      refine J_geti fl_RX7_31 dX7_addTier_37 ho rfl ?_
      refine J_iconst (v := 1) dX7_addTier_40 rfl ?_
      refine J_iadd dX7_addTier_41 ?_
      refine J_puti fl_RX7_31 dX7_addTier_42 ho rfl (by decide) ?_
      exact J_vret dX7_addTier_45 rfl ⟨rfl, rfl, rfl⟩
set_option maxRecDepth 100000 in
theorem jX2_readTier (l : Launch) (cx : CX) (n : Nat) (a : Nat) (ha : IsK GS 0 207 a 7) (M : Mem) : Con l cx ({ frames := 2, cells := 0, slots := 0, locals := 47 } : Room) yX2_readTier cX2_readTier 4 none 0 0 false 0 207 EV GS [.ref 163, .ref a] M (mX2_readTier n a M) := by
  unfold mX2_readTier
  refine Con.of (ls := [some (.ref 163), some (.ref a), none, none]) (by decide) rfl (Nat.le_of_ble_eq_true rfl) ?_
  refine J_ald0 dX2_readTier_0 ?_
  refine J_getr (q := 198) fl_RX2_23 dX2_readTier_1 kk_163 rfl (rf_2_0 kk_163) ?_
  refine J_geti fl_RX2_34 dX2_readTier_4 kk_198 rfl ?_
  refine J_ist2 dX2_readTier_7 (by decide) rfl ?_
  refine J_ald0 dX2_readTier_8 ?_
  refine J_getr (q := 198) fl_RX2_23 dX2_readTier_9 kk_163 rfl (rf_2_0 kk_163) ?_
  refine J_iconst (v := 1) dX2_readTier_12 rfl ?_
  refine J_sipush (v := 9999) dX2_readTier_13 rfl ?_
  refine J_cVI (jX8_number l cx n 198 kk_198 (1 : Int32) (9999 : Int32) M) ck_RX2_71 dX2_readTier_16 rfl kk_198 ⟨rfl, rfl, by decide, by decide⟩ ⟨Nat.zero_le _, Nat.zero_le _, Nat.le_of_ble_eq_true rfl⟩ (fun r1 M2 => ?_)
  refine J_ist3 dX2_readTier_19 (by decide) rfl ?_
  refine J_ald1 dX2_readTier_20 ?_
  refine J_ild3 dX2_readTier_21 ?_
  refine J_cVB (jX7_isAboveBounds l cx n a ha r1 M2) ck_RX2_138 dX2_readTier_22 rfl ha ⟨rfl, rfl, by decide, by decide⟩ ⟨Nat.zero_le _, Nat.zero_le _, Nat.le_of_ble_eq_true rfl⟩ (fun r3 z4 => ?_)
  refine J_if_ne 38 dX2_readTier_25 rfl ?_ ?_
  · refine J_ald0 dX2_readTier_38 ?_
    refine J_getr (q := 198) fl_RX2_23 dX2_readTier_39 kk_163 rfl (rf_2_0 kk_163) ?_
    refine J_cVV (jX8_blank l cx n 198 kk_198 M2) ck_RX2_65 dX2_readTier_42 rfl kk_198 ⟨rfl, rfl, by decide, by decide⟩ ⟨Nat.zero_le _, Nat.zero_le _, Nat.le_of_ble_eq_true rfl⟩ (fun M6 => ?_)
    refine J_ald1 dX2_readTier_45 ?_
    refine J_ild3 dX2_readTier_46 ?_
    refine J_ald0 dX2_readTier_47 ?_
    refine J_getr (q := 198) fl_RX2_23 dX2_readTier_48 kk_163 rfl (rf_2_0 kk_163) ?_
    refine J_iconst (v := 0) dX2_readTier_51 rfl ?_
    refine J_bipush (v := 99) dX2_readTier_52 rfl ?_
    refine J_cVI (jX8_number l cx n 198 kk_198 (0 : Int32) (99 : Int32) M6) ck_RX2_71 dX2_readTier_54 rfl kk_198 ⟨rfl, rfl, by decide, by decide⟩ ⟨Nat.zero_le _, Nat.zero_le _, Nat.le_of_ble_eq_true rfl⟩ (fun r7 M8 => ?_)
    refine J_cVV (jX7_addTier l cx n a ha r1 r7 M8) ck_RX2_141 dX2_readTier_57 rfl ha ⟨rfl, rfl, by decide, by decide⟩ ⟨Nat.zero_le _, Nat.zero_le _, Nat.le_of_ble_eq_true rfl⟩ (fun M10 => ?_)
    exact J_vret dX2_readTier_60 rfl ⟨rfl, rfl, rfl⟩
  · refine J_ald0 dX2_readTier_28 ?_
    refine J_getr (q := 198) fl_RX2_23 dX2_readTier_29 kk_163 rfl (rf_2_0 kk_163) ?_
    refine J_bipush (v := 6) dX2_readTier_32 rfl ?_
    refine J_ild2 dX2_readTier_34 ?_
    refine J_cVV (jX8_mark l cx n 198 kk_198 (6 : Int32) (M 198 2) M2) ck_RX2_38 dX2_readTier_35 rfl kk_198 ⟨rfl, rfl, by decide, by decide⟩ ⟨Nat.zero_le _, Nat.zero_le _, Nat.le_of_ble_eq_true rfl⟩ (fun M12 => ?_)
    refine J_ald0 dX2_readTier_38 ?_
    refine J_getr (q := 198) fl_RX2_23 dX2_readTier_39 kk_163 rfl (rf_2_0 kk_163) ?_
    refine J_cVV (jX8_blank l cx n 198 kk_198 M12) ck_RX2_65 dX2_readTier_42 rfl kk_198 ⟨rfl, rfl, by decide, by decide⟩ ⟨Nat.zero_le _, Nat.zero_le _, Nat.le_of_ble_eq_true rfl⟩ (fun M14 => ?_)
    refine J_ald1 dX2_readTier_45 ?_
    refine J_ild3 dX2_readTier_46 ?_
    refine J_ald0 dX2_readTier_47 ?_
    refine J_getr (q := 198) fl_RX2_23 dX2_readTier_48 kk_163 rfl (rf_2_0 kk_163) ?_
    refine J_iconst (v := 0) dX2_readTier_51 rfl ?_
    refine J_bipush (v := 99) dX2_readTier_52 rfl ?_
    refine J_cVI (jX8_number l cx n 198 kk_198 (0 : Int32) (99 : Int32) M14) ck_RX2_71 dX2_readTier_54 rfl kk_198 ⟨rfl, rfl, by decide, by decide⟩ ⟨Nat.zero_le _, Nat.zero_le _, Nat.le_of_ble_eq_true rfl⟩ (fun r15 M16 => ?_)
    refine J_cVV (jX7_addTier l cx n a ha r1 r15 M16) ck_RX2_141 dX2_readTier_57 rfl ha ⟨rfl, rfl, by decide, by decide⟩ ⟨Nat.zero_le _, Nat.zero_le _, Nat.le_of_ble_eq_true rfl⟩ (fun M18 => ?_)
    exact J_vret dX2_readTier_60 rfl ⟨rfl, rfl, rfl⟩
set_option maxRecDepth 100000 in
theorem jX7_isAboveBulks (l : Launch) (cx : CX) (n : Nat) (o : Nat) (ho : IsK GS 0 207 o 7) (a : Int32) (M : Mem) : Con l cx ({ frames := 0, cells := 0, slots := 0, locals := 0 } : Room) yX7_isAboveBulks cX7_isAboveBulks 2 (some .boolean) 0 0 false 0 207 (EB M) GS [.ref o, .int a] M (mX7_isAboveBulks o a M) := by
  unfold mX7_isAboveBulks
  refine Con.of (ls := [some (.ref o), some (.int a)]) (by decide) rfl (Nat.le_of_ble_eq_true rfl) ?_
  refine J_ald0 dX7_isAboveBulks_0 ?_
  refine J_geti fl_RX7_44 dX7_isAboveBulks_1 ho rfl ?_
  refine J_iconst (v := 1) dX7_isAboveBulks_4 rfl ?_
  refine J_ic_lt 31 dX7_isAboveBulks_5 rfl ?_ ?_
  · refine J_iconst (v := 1) dX7_isAboveBulks_31 rfl ?_
    refine J_goto 36 dX7_isAboveBulks_32 rfl ?_
    exact J_zret dX7_isAboveBulks_36 rfl (Or.inr rfl) ⟨rfl, rfl, rfl, (Or.inr rfl)⟩
  · refine J_ald0 dX7_isAboveBulks_8 ?_
    refine J_geti fl_RX7_44 dX7_isAboveBulks_9 ho rfl ?_
    refine J_iconst (v := 3) dX7_isAboveBulks_12 rfl ?_
    refine J_ic_gt 31 dX7_isAboveBulks_13 rfl ?_ ?_
    · refine J_iconst (v := 1) dX7_isAboveBulks_31 rfl ?_
      refine J_goto 36 dX7_isAboveBulks_32 rfl ?_
      exact J_zret dX7_isAboveBulks_36 rfl (Or.inr rfl) ⟨rfl, rfl, rfl, (Or.inr rfl)⟩
    · refine J_ild1 dX7_isAboveBulks_16 ?_
      refine J_ald0 dX7_isAboveBulks_17 ?_
      refine J_getr (q := (o + 3)) fl_RX7_18 dX7_isAboveBulks_18 ho rfl (rf_7_9 ho) ?_
      refine J_ald0 dX7_isAboveBulks_21 ?_
      refine J_geti fl_RX7_44 dX7_isAboveBulks_22 ho rfl ?_
      refine J_iconst (v := 1) dX7_isAboveBulks_25 rfl ?_
      refine J_isub dX7_isAboveBulks_26 ?_
      refine J_iald dX7_isAboveBulks_27 (kf_7_9 ho) (ln_7_9 ho) ?_
      refine J_ic_le 35 dX7_isAboveBulks_28 rfl ?_ ?_
      · refine J_iconst (v := 0) dX7_isAboveBulks_35 rfl ?_
        exact J_zret dX7_isAboveBulks_36 rfl (Or.inl rfl) ⟨rfl, rfl, rfl, (Or.inl rfl)⟩
      · refine J_iconst (v := 1) dX7_isAboveBulks_31 rfl ?_
        refine J_goto 36 dX7_isAboveBulks_32 rfl ?_
        exact J_zret dX7_isAboveBulks_36 rfl (Or.inr rfl) ⟨rfl, rfl, rfl, (Or.inr rfl)⟩
set_option maxRecDepth 100000 in
theorem jX7_addBulk (l : Launch) (cx : CX) (n : Nat) (o : Nat) (ho : IsK GS 0 207 o 7) (a : Int32) (b : Int32) (M : Mem) : Con l cx ({ frames := 0, cells := 0, slots := 0, locals := 0 } : Room) yX7_addBulk cX7_addBulk 3 none 0 0 false 0 207 EV GS [.ref o, .int a, .int b] M (mX7_addBulk o a b M) := by
  unfold mX7_addBulk
  refine Con.of (ls := [some (.ref o), some (.int a), some (.int b)]) (by decide) rfl (Nat.le_of_ble_eq_true rfl) ?_
  refine J_ald0 dX7_addBulk_0 ?_
  refine J_geti fl_RX7_44 dX7_addBulk_1 ho rfl ?_
  refine J_if_lt 45 dX7_addBulk_4 rfl ?_ ?_
  · exact J_vret dX7_addBulk_45 rfl ⟨rfl, rfl, rfl⟩
  · refine J_ald0 dX7_addBulk_7 ?_
    refine J_geti fl_RX7_44 dX7_addBulk_8 ho rfl ?_
    refine J_iconst (v := 3) dX7_addBulk_11 rfl ?_
    refine J_ic_ge 45 dX7_addBulk_12 rfl ?_ ?_
    · exact J_vret dX7_addBulk_45 rfl ⟨rfl, rfl, rfl⟩
    · refine J_ald0 dX7_addBulk_15 ?_
      refine J_getr (q := (o + 3)) fl_RX7_18 dX7_addBulk_16 ho rfl (rf_7_9 ho) ?_
      refine J_ald0 dX7_addBulk_19 ?_
      refine J_geti fl_RX7_44 dX7_addBulk_20 ho rfl ?_
      refine J_ild1 dX7_addBulk_23 ?_
      refine J_iast dX7_addBulk_24 (kf_7_9 ho) (ln_7_9 ho) ?_
      refine J_ald0 dX7_addBulk_25 ?_
      refine J_getr (q := (o + 4)) fl_RX7_21 dX7_addBulk_26 ho rfl (rf_7_10 ho) ?_
      refine J_ald0 dX7_addBulk_29 ?_
      refine J_geti fl_RX7_44 dX7_addBulk_30 ho rfl ?_
      refine J_ild2 dX7_addBulk_33 ?_
      refine J_iast dX7_addBulk_34 (kf_7_10 ho) (ln_7_10 ho) ?_
      refine J_lt (fun M1 => ?_)
      refine J_ald0 dX7_addBulk_35 ?_
      refine J_dup_r dX7_addBulk_36 ?_
      refine J_geti fl_RX7_44 dX7_addBulk_37 ho rfl ?_
      refine J_iconst (v := 1) dX7_addBulk_40 rfl ?_
      refine J_iadd dX7_addBulk_41 ?_
      refine J_puti fl_RX7_44 dX7_addBulk_42 ho rfl (by decide) ?_
      exact J_vret dX7_addBulk_45 rfl ⟨rfl, rfl, rfl⟩
set_option maxRecDepth 100000 in
theorem jX2_readBulk (l : Launch) (cx : CX) (n : Nat) (a : Nat) (ha : IsK GS 0 207 a 7) (M : Mem) : Con l cx ({ frames := 2, cells := 0, slots := 0, locals := 47 } : Room) yX2_readBulk cX2_readBulk 4 none 0 0 false 0 207 EV GS [.ref 163, .ref a] M (mX2_readBulk n a M) := by
  unfold mX2_readBulk
  refine Con.of (ls := [some (.ref 163), some (.ref a), none, none]) (by decide) rfl (Nat.le_of_ble_eq_true rfl) ?_
  refine J_ald0 dX2_readBulk_0 ?_
  refine J_getr (q := 198) fl_RX2_23 dX2_readBulk_1 kk_163 rfl (rf_2_0 kk_163) ?_
  refine J_geti fl_RX2_34 dX2_readBulk_4 kk_198 rfl ?_
  refine J_ist2 dX2_readBulk_7 (by decide) rfl ?_
  refine J_ald0 dX2_readBulk_8 ?_
  refine J_getr (q := 198) fl_RX2_23 dX2_readBulk_9 kk_163 rfl (rf_2_0 kk_163) ?_
  refine J_iconst (v := 2) dX2_readBulk_12 rfl ?_
  refine J_bipush (v := 9) dX2_readBulk_13 rfl ?_
  refine J_cVI (jX8_number l cx n 198 kk_198 (2 : Int32) (9 : Int32) M) ck_RX2_71 dX2_readBulk_15 rfl kk_198 ⟨rfl, rfl, by decide, by decide⟩ ⟨Nat.zero_le _, Nat.zero_le _, Nat.le_of_ble_eq_true rfl⟩ (fun r1 M2 => ?_)
  refine J_ist3 dX2_readBulk_18 (by decide) rfl ?_
  refine J_ald1 dX2_readBulk_19 ?_
  refine J_ild3 dX2_readBulk_20 ?_
  refine J_cVB (jX7_isAboveBulks l cx n a ha r1 M2) ck_RX2_144 dX2_readBulk_21 rfl ha ⟨rfl, rfl, by decide, by decide⟩ ⟨Nat.zero_le _, Nat.zero_le _, Nat.le_of_ble_eq_true rfl⟩ (fun r3 z4 => ?_)
  refine J_if_ne 37 dX2_readBulk_24 rfl ?_ ?_
  · refine J_ald0 dX2_readBulk_37 ?_
    refine J_getr (q := 198) fl_RX2_23 dX2_readBulk_38 kk_163 rfl (rf_2_0 kk_163) ?_
    refine J_cVV (jX8_blank l cx n 198 kk_198 M2) ck_RX2_65 dX2_readBulk_41 rfl kk_198 ⟨rfl, rfl, by decide, by decide⟩ ⟨Nat.zero_le _, Nat.zero_le _, Nat.le_of_ble_eq_true rfl⟩ (fun M6 => ?_)
    refine J_ald1 dX2_readBulk_44 ?_
    refine J_ild3 dX2_readBulk_45 ?_
    refine J_ald0 dX2_readBulk_46 ?_
    refine J_getr (q := 198) fl_RX2_23 dX2_readBulk_47 kk_163 rfl (rf_2_0 kk_163) ?_
    refine J_iconst (v := 0) dX2_readBulk_50 rfl ?_
    refine J_bipush (v := 100) dX2_readBulk_51 rfl ?_
    refine J_cVI (jX8_number l cx n 198 kk_198 (0 : Int32) (100 : Int32) M6) ck_RX2_71 dX2_readBulk_53 rfl kk_198 ⟨rfl, rfl, by decide, by decide⟩ ⟨Nat.zero_le _, Nat.zero_le _, Nat.le_of_ble_eq_true rfl⟩ (fun r7 M8 => ?_)
    refine J_cVV (jX7_addBulk l cx n a ha r1 r7 M8) ck_RX2_147 dX2_readBulk_56 rfl ha ⟨rfl, rfl, by decide, by decide⟩ ⟨Nat.zero_le _, Nat.zero_le _, Nat.le_of_ble_eq_true rfl⟩ (fun M10 => ?_)
    exact J_vret dX2_readBulk_59 rfl ⟨rfl, rfl, rfl⟩
  · refine J_ald0 dX2_readBulk_27 ?_
    refine J_getr (q := 198) fl_RX2_23 dX2_readBulk_28 kk_163 rfl (rf_2_0 kk_163) ?_
    refine J_bipush (v := 6) dX2_readBulk_31 rfl ?_
    refine J_ild2 dX2_readBulk_33 ?_
    refine J_cVV (jX8_mark l cx n 198 kk_198 (6 : Int32) (M 198 2) M2) ck_RX2_38 dX2_readBulk_34 rfl kk_198 ⟨rfl, rfl, by decide, by decide⟩ ⟨Nat.zero_le _, Nat.zero_le _, Nat.le_of_ble_eq_true rfl⟩ (fun M12 => ?_)
    refine J_ald0 dX2_readBulk_37 ?_
    refine J_getr (q := 198) fl_RX2_23 dX2_readBulk_38 kk_163 rfl (rf_2_0 kk_163) ?_
    refine J_cVV (jX8_blank l cx n 198 kk_198 M12) ck_RX2_65 dX2_readBulk_41 rfl kk_198 ⟨rfl, rfl, by decide, by decide⟩ ⟨Nat.zero_le _, Nat.zero_le _, Nat.le_of_ble_eq_true rfl⟩ (fun M14 => ?_)
    refine J_ald1 dX2_readBulk_44 ?_
    refine J_ild3 dX2_readBulk_45 ?_
    refine J_ald0 dX2_readBulk_46 ?_
    refine J_getr (q := 198) fl_RX2_23 dX2_readBulk_47 kk_163 rfl (rf_2_0 kk_163) ?_
    refine J_iconst (v := 0) dX2_readBulk_50 rfl ?_
    refine J_bipush (v := 100) dX2_readBulk_51 rfl ?_
    refine J_cVI (jX8_number l cx n 198 kk_198 (0 : Int32) (100 : Int32) M14) ck_RX2_71 dX2_readBulk_53 rfl kk_198 ⟨rfl, rfl, by decide, by decide⟩ ⟨Nat.zero_le _, Nat.zero_le _, Nat.le_of_ble_eq_true rfl⟩ (fun r15 M16 => ?_)
    refine J_cVV (jX7_addBulk l cx n a ha r1 r15 M16) ck_RX2_147 dX2_readBulk_56 rfl ha ⟨rfl, rfl, by decide, by decide⟩ ⟨Nat.zero_le _, Nat.zero_le _, Nat.le_of_ble_eq_true rfl⟩ (fun M18 => ?_)
    exact J_vret dX2_readBulk_59 rfl ⟨rfl, rfl, rfl⟩
set_option maxRecDepth 100000 in
theorem jX2_readOfPlan_c60 {l : Launch} {cx : CX} {n : Nat} {v1 : Int32} {v3 : Nat} {M : Mem} (h3 : IsK GS 0 207 v3 7) : JO l cx ({ frames := 7, cells := 0, slots := 0, locals := 229 } : Room) yX2_readOfPlan cX2_readOfPlan 4 none 0 0 false 0 207 EV GS 0 0 60 [some (.ref 163), some (.int v1), none, some (.ref v3)] [] M (mX2_readOfPlan_c60 n v1 v3 M) := by
  unfold mX2_readOfPlan_c60
  refine J_ald0 dX2_readOfPlan_60 ?_
  refine J_getr (q := 198) fl_RX2_23 dX2_readOfPlan_61 kk_163 rfl (rf_2_0 kk_163) ?_
  refine J_cVV (jX8_blank l cx n 198 kk_198 M) ck_RX2_65 dX2_readOfPlan_64 rfl kk_198 ⟨rfl, rfl, by decide, by decide⟩ ⟨Nat.zero_le _, Nat.zero_le _, Nat.le_of_ble_eq_true rfl⟩ (fun M2 => ?_)
  refine J_ald0 dX2_readOfPlan_67 ?_
  refine J_getr (q := 198) fl_RX2_23 dX2_readOfPlan_68 kk_163 rfl (rf_2_0 kk_163) ?_
  refine J_cVB (jX8_isSound l cx n 198 kk_198 M2) ck_RX2_68 dX2_readOfPlan_71 rfl kk_198 ⟨rfl, rfl, by decide, by decide⟩ ⟨Nat.zero_le _, Nat.zero_le _, Nat.le_of_ble_eq_true rfl⟩ (fun r3 z4 => ?_)
  refine J_if_ne 78 dX2_readOfPlan_74 rfl ?_ ?_
  · refine J_ild1 dX2_readOfPlan_78 ?_
    refine J_swIn (v := 0) 116 dX2_readOfPlan_79 (by decide) (by decide) rfl rfl ?_ (fun w7 => ?_)
    · refine J_ald3 dX2_readOfPlan_116 ?_
      refine J_ald0 dX2_readOfPlan_117 ?_
      refine J_getr (q := 198) fl_RX2_23 dX2_readOfPlan_118 kk_163 rfl (rf_2_0 kk_163) ?_
      refine J_iconst (v := 0) dX2_readOfPlan_121 rfl ?_
      refine J_ldc dX2_readOfPlan_122 wd_32 ?_
      refine J_cVI (jX8_number l cx n 198 kk_198 (0 : Int32) (99999 : Int32) M2) ck_RX2_71 dX2_readOfPlan_124 rfl kk_198 ⟨rfl, rfl, by decide, by decide⟩ ⟨Nat.zero_le _, Nat.zero_le _, Nat.le_of_ble_eq_true rfl⟩ (fun r5 M6 => ?_)
      refine J_puti fl_RX2_113 dX2_readOfPlan_127 h3 rfl (by decide) ?_
      refine J_goto 223 dX2_readOfPlan_130 rfl ?_
      exact J_vret dX2_readOfPlan_223 rfl ⟨rfl, rfl, rfl⟩
    refine J_swIn (v := 1) 133 dX2_readOfPlan_79 (by decide) (by decide) rfl rfl ?_ (fun w10 => ?_)
    · refine J_ald3 dX2_readOfPlan_133 ?_
      refine J_ald0 dX2_readOfPlan_134 ?_
      refine J_getr (q := 198) fl_RX2_23 dX2_readOfPlan_135 kk_163 rfl (rf_2_0 kk_163) ?_
      refine J_iconst (v := 0) dX2_readOfPlan_138 rfl ?_
      refine J_sipush (v := 9999) dX2_readOfPlan_139 rfl ?_
      refine J_cVI (jX8_number l cx n 198 kk_198 (0 : Int32) (9999 : Int32) M2) ck_RX2_71 dX2_readOfPlan_142 rfl kk_198 ⟨rfl, rfl, by decide, by decide⟩ ⟨Nat.zero_le _, Nat.zero_le _, Nat.le_of_ble_eq_true rfl⟩ (fun r8 M9 => ?_)
      refine J_puti fl_RX2_116 dX2_readOfPlan_145 h3 rfl (by decide) ?_
      refine J_goto 223 dX2_readOfPlan_148 rfl ?_
      exact J_vret dX2_readOfPlan_223 rfl ⟨rfl, rfl, rfl⟩
    refine J_swIn (v := 2) 151 dX2_readOfPlan_79 (by decide) (by decide) rfl rfl ?_ (fun w13 => ?_)
    · refine J_ald0 dX2_readOfPlan_151 ?_
      refine J_ald3 dX2_readOfPlan_152 ?_
      refine J_cVV (jX2_readTier l cx n v3 h3 M2) ck_RX2_119 dX2_readOfPlan_153 rfl kk_163 ⟨rfl, rfl, by decide, by decide⟩ ⟨Nat.zero_le _, Nat.zero_le _, Nat.le_of_ble_eq_true rfl⟩ (fun M12 => ?_)
      refine J_goto 223 dX2_readOfPlan_156 rfl ?_
      exact J_vret dX2_readOfPlan_223 rfl ⟨rfl, rfl, rfl⟩
    refine J_swIn (v := 3) 159 dX2_readOfPlan_79 (by decide) (by decide) rfl rfl ?_ (fun w16 => ?_)
    · refine J_ald3 dX2_readOfPlan_159 ?_
      refine J_ald0 dX2_readOfPlan_160 ?_
      refine J_getr (q := 198) fl_RX2_23 dX2_readOfPlan_161 kk_163 rfl (rf_2_0 kk_163) ?_
      refine J_iconst (v := 0) dX2_readOfPlan_164 rfl ?_
      refine J_bipush (v := 99) dX2_readOfPlan_165 rfl ?_
      refine J_cVI (jX8_number l cx n 198 kk_198 (0 : Int32) (99 : Int32) M2) ck_RX2_71 dX2_readOfPlan_167 rfl kk_198 ⟨rfl, rfl, by decide, by decide⟩ ⟨Nat.zero_le _, Nat.zero_le _, Nat.le_of_ble_eq_true rfl⟩ (fun r14 M15 => ?_)
      refine J_puti fl_RX2_123 dX2_readOfPlan_170 h3 rfl (by decide) ?_
      refine J_goto 223 dX2_readOfPlan_173 rfl ?_
      exact J_vret dX2_readOfPlan_223 rfl ⟨rfl, rfl, rfl⟩
    refine J_swIn (v := 4) 176 dX2_readOfPlan_79 (by decide) (by decide) rfl rfl ?_ (fun w19 => ?_)
    · refine J_ald3 dX2_readOfPlan_176 ?_
      refine J_ald0 dX2_readOfPlan_177 ?_
      refine J_getr (q := 198) fl_RX2_23 dX2_readOfPlan_178 kk_163 rfl (rf_2_0 kk_163) ?_
      refine J_ldcS (i := 1) dX2_readOfPlan_181 (by decide) rfl rfl ?_
      refine J_cVI (jX8_word l cx n 198 kk_198 1 (by decide) M2) ck_RX2_58 dX2_readOfPlan_183 rfl kk_198 ⟨rfl, rfl, by decide, by decide⟩ ⟨Nat.zero_le _, Nat.zero_le _, Nat.le_of_ble_eq_true rfl⟩ (fun r17 M18 => ?_)
      refine J_iconst (v := 1) dX2_readOfPlan_186 rfl ?_
      refine J_ic_ne 194 dX2_readOfPlan_187 rfl ?_ ?_
      · refine J_iconst (v := 0) dX2_readOfPlan_194 rfl ?_
        refine J_putzK fl_RX2_128 dX2_readOfPlan_195 h3 rfl (by decide) (Or.inl rfl) ?_
        refine J_goto 223 dX2_readOfPlan_198 rfl ?_
        exact J_vret dX2_readOfPlan_223 rfl ⟨rfl, rfl, rfl⟩
      · refine J_iconst (v := 1) dX2_readOfPlan_190 rfl ?_
        refine J_goto 195 dX2_readOfPlan_191 rfl ?_
        refine J_putzK fl_RX2_128 dX2_readOfPlan_195 h3 rfl (by decide) (Or.inr rfl) ?_
        refine J_goto 223 dX2_readOfPlan_198 rfl ?_
        exact J_vret dX2_readOfPlan_223 rfl ⟨rfl, rfl, rfl⟩
    refine J_swIn (v := 5) 201 dX2_readOfPlan_79 (by decide) (by decide) rfl rfl ?_ (fun w22 => ?_)
    · refine J_ald3 dX2_readOfPlan_201 ?_
      refine J_ald0 dX2_readOfPlan_202 ?_
      refine J_getr (q := 198) fl_RX2_23 dX2_readOfPlan_203 kk_163 rfl (rf_2_0 kk_163) ?_
      refine J_iconst (v := 0) dX2_readOfPlan_206 rfl ?_
      refine J_bipush (v := 100) dX2_readOfPlan_207 rfl ?_
      refine J_cVI (jX8_number l cx n 198 kk_198 (0 : Int32) (100 : Int32) M2) ck_RX2_71 dX2_readOfPlan_209 rfl kk_198 ⟨rfl, rfl, by decide, by decide⟩ ⟨Nat.zero_le _, Nat.zero_le _, Nat.le_of_ble_eq_true rfl⟩ (fun r20 M21 => ?_)
      refine J_puti fl_RX2_132 dX2_readOfPlan_212 h3 rfl (by decide) ?_
      refine J_goto 223 dX2_readOfPlan_215 rfl ?_
      exact J_vret dX2_readOfPlan_223 rfl ⟨rfl, rfl, rfl⟩
    refine J_swOut 218 dX2_readOfPlan_79 (sw_out 6 rfl (fun k hk => sw_c6 (P := fun k => ¬ v1 = Int32.ofInt (0 + (k : Int))) hk w7 w10 w13 w16 w19 w22)) rfl ?_
    refine J_ald0 dX2_readOfPlan_218 ?_
    refine J_ald3 dX2_readOfPlan_219 ?_
    refine J_cVV (jX2_readBulk l cx n v3 h3 M2) ck_RX2_135 dX2_readOfPlan_220 rfl kk_163 ⟨rfl, rfl, by decide, by decide⟩ ⟨Nat.zero_le _, Nat.zero_le _, Nat.le_of_ble_eq_true rfl⟩ (fun M24 => ?_)
    exact J_vret dX2_readOfPlan_223 rfl ⟨rfl, rfl, rfl⟩
  · exact J_vret dX2_readOfPlan_77 rfl ⟨rfl, rfl, rfl⟩
set_option maxRecDepth 100000 in
theorem jX2_readOfPlan_c36 {l : Launch} {cx : CX} {n : Nat} {v1 : Int32} {v2 : Int32} {v3 : Nat} {M : Mem} (h3 : IsK GS 0 207 v3 7) : JO l cx ({ frames := 7, cells := 0, slots := 0, locals := 229 } : Room) yX2_readOfPlan cX2_readOfPlan 4 none 0 0 false 0 207 EV GS 0 0 36 [some (.ref 163), some (.int v1), some (.int v2), some (.ref v3)] [] M (mX2_readOfPlan_c36 n v1 v2 v3 M) := by
  unfold mX2_readOfPlan_c36
  refine J_ild1 dX2_readOfPlan_36 ?_
  refine J_bipush (v := 6) dX2_readOfPlan_37 rfl ?_
  refine J_ic_ne 60 dX2_readOfPlan_39 rfl ?_ ?_
  · exact J_wk (wk_s (wk_s (wk_n (wk_s wk_0)))) (jX2_readOfPlan_c60 (n := n) h3)
  · refine J_ald3 dX2_readOfPlan_42 ?_
    refine J_geti fl_RX2_109 dX2_readOfPlan_43 h3 rfl ?_
    refine J_iconst (v := 3) dX2_readOfPlan_46 rfl ?_
    refine J_ic_lt 60 dX2_readOfPlan_47 rfl ?_ ?_
    · exact J_wk (wk_s (wk_s (wk_n (wk_s wk_0)))) (jX2_readOfPlan_c60 (n := n) h3)
    · refine J_ald0 dX2_readOfPlan_50 ?_
      refine J_getr (q := 198) fl_RX2_23 dX2_readOfPlan_51 kk_163 rfl (rf_2_0 kk_163) ?_
      refine J_bipush (v := 6) dX2_readOfPlan_54 rfl ?_
      refine J_ild2 dX2_readOfPlan_56 ?_
      refine J_cVV (jX8_mark l cx n 198 kk_198 (6 : Int32) v2 M) ck_RX2_38 dX2_readOfPlan_57 rfl kk_198 ⟨rfl, rfl, by decide, by decide⟩ ⟨Nat.zero_le _, Nat.zero_le _, Nat.le_of_ble_eq_true rfl⟩ (fun M26 => ?_)
      exact J_wk (wk_s (wk_s (wk_n (wk_s wk_0)))) (jX2_readOfPlan_c60 (n := n) h3)
set_option maxRecDepth 100000 in
theorem jX2_readOfPlan (l : Launch) (cx : CX) (n : Nat) (a : Int32) (M : Mem) : Con l cx ({ frames := 7, cells := 0, slots := 0, locals := 229 } : Room) yX2_readOfPlan cX2_readOfPlan 4 none 0 0 false 0 207 EV GS [.ref 163, .int a] M (mX2_readOfPlan n a M) := by
  unfold mX2_readOfPlan
  refine Con.of (ls := [some (.ref 163), some (.int a), none, none]) (by decide) rfl (Nat.le_of_ble_eq_true rfl) ?_
  refine J_ald0 dX2_readOfPlan_0 ?_
  refine J_getr (q := 198) fl_RX2_23 dX2_readOfPlan_1 kk_163 rfl (rf_2_0 kk_163) ?_
  refine J_geti fl_RX2_34 dX2_readOfPlan_4 kk_198 rfl ?_
  refine J_ist2 dX2_readOfPlan_7 (by decide) rfl ?_
  refine J_ald0 dX2_readOfPlan_8 ?_
  refine J_getr (q := 164) fl_RX2_12 dX2_readOfPlan_9 kk_163 rfl (rf_2_1 kk_163) ?_
  refine J_ald0 dX2_readOfPlan_12 ?_
  refine J_getr (q := 198) fl_RX2_23 dX2_readOfPlan_13 kk_163 rfl (rf_2_0 kk_163) ?_
  refine J_cVI (jX8_planLetter l cx n 198 kk_198 M) ck_RX2_97 dX2_readOfPlan_16 rfl kk_198 ⟨rfl, rfl, by decide, by decide⟩ ⟨Nat.zero_le _, Nat.zero_le _, Nat.le_of_ble_eq_true rfl⟩ (fun r27 M28 => ?_)
  refine J_cVR (jX9_termsOf l cx n 164 kk_164 r27 M28) ck_RX2_100 dX2_readOfPlan_19 rfl kk_164 ⟨rfl, rfl, by decide, by decide⟩ ⟨Nat.zero_le _, Nat.zero_le _, Nat.le_of_ble_eq_true rfl⟩ (fun r29 hr30 => ?_)
  refine J_ast3 dX2_readOfPlan_22 (by decide) rfl ?_
  refine J_ild1 dX2_readOfPlan_23 ?_
  refine J_iconst (v := 2) dX2_readOfPlan_24 rfl ?_
  refine J_ic_ne 36 dX2_readOfPlan_25 rfl ?_ ?_
  · exact J_wk (wk_s (wk_s (wk_s (wk_s wk_0)))) (jX2_readOfPlan_c36 (n := n) hr30)
  · refine J_ald3 dX2_readOfPlan_28 ?_
    refine J_geti fl_RX2_104 dX2_readOfPlan_29 hr30 rfl ?_
    refine J_iconst (v := 4) dX2_readOfPlan_32 rfl ?_
    refine J_ic_ge 50 dX2_readOfPlan_33 rfl ?_ ?_
    · refine J_ald0 dX2_readOfPlan_50 ?_
      refine J_getr (q := 198) fl_RX2_23 dX2_readOfPlan_51 kk_163 rfl (rf_2_0 kk_163) ?_
      refine J_bipush (v := 6) dX2_readOfPlan_54 rfl ?_
      refine J_ild2 dX2_readOfPlan_56 ?_
      refine J_cVV (jX8_mark l cx n 198 kk_198 (6 : Int32) (M 198 2) M28) ck_RX2_38 dX2_readOfPlan_57 rfl kk_198 ⟨rfl, rfl, by decide, by decide⟩ ⟨Nat.zero_le _, Nat.zero_le _, Nat.le_of_ble_eq_true rfl⟩ (fun M32 => ?_)
      exact J_wk (wk_s (wk_s (wk_n (wk_s wk_0)))) (jX2_readOfPlan_c60 (n := n) hr30)
    · exact J_wk (wk_s (wk_s (wk_s (wk_s wk_0)))) (jX2_readOfPlan_c36 (n := n) hr30)
set_option maxRecDepth 100000 in
theorem jX2_readClause_c45 {l : Launch} {cx : CX} {n : Nat} {v2 : Int32} {M : Mem} : JO l cx ({ frames := 8, cells := 0, slots := 0, locals := 252 } : Room) yX2_readClause cX2_readClause 3 none 0 0 false 0 207 EV GS 0 0 45 [some (.ref 163), none, some (.int v2)] [] M (mX2_readClause_c45 n v2 M) := by
  unfold mX2_readClause_c45
  refine J_ald0 dX2_readClause_45 ?_
  refine J_getr (q := 198) fl_RX2_23 dX2_readClause_46 kk_163 rfl (rf_2_0 kk_163) ?_
  refine J_cVV (jX8_blank l cx n 198 kk_198 M) ck_RX2_65 dX2_readClause_49 rfl kk_198 ⟨rfl, rfl, by decide, by decide⟩ ⟨Nat.zero_le _, Nat.zero_le _, Nat.le_of_ble_eq_true rfl⟩ (fun M2 => ?_)
  refine J_ald0 dX2_readClause_52 ?_
  refine J_getr (q := 198) fl_RX2_23 dX2_readClause_53 kk_163 rfl (rf_2_0 kk_163) ?_
  refine J_cVB (jX8_isSound l cx n 198 kk_198 M2) ck_RX2_68 dX2_readClause_56 rfl kk_198 ⟨rfl, rfl, by decide, by decide⟩ ⟨Nat.zero_le _, Nat.zero_le _, Nat.le_of_ble_eq_true rfl⟩ (fun r3 z4 => ?_)
  refine J_if_ne 63 dX2_readClause_59 rfl ?_ ?_
  · refine J_ild2 dX2_readClause_63 ?_
    refine J_swIn (v := 7) 92 dX2_readClause_64 (by decide) (by decide) rfl rfl ?_ (fun w11 => ?_)
    · refine J_ald0 dX2_readClause_92 ?_
      refine J_getr (q := 164) fl_RX2_12 dX2_readClause_93 kk_163 rfl (rf_2_1 kk_163) ?_
      refine J_ald0 dX2_readClause_96 ?_
      refine J_getr (q := 198) fl_RX2_23 dX2_readClause_97 kk_163 rfl (rf_2_0 kk_163) ?_
      refine J_iconst (v := 0) dX2_readClause_100 rfl ?_
      refine J_bipush (v := 100) dX2_readClause_101 rfl ?_
      refine J_cVI (jX8_number l cx n 198 kk_198 (0 : Int32) (100 : Int32) M2) ck_RX2_71 dX2_readClause_103 rfl kk_198 ⟨rfl, rfl, by decide, by decide⟩ ⟨Nat.zero_le _, Nat.zero_le _, Nat.le_of_ble_eq_true rfl⟩ (fun r5 M6 => ?_)
      refine J_puti fl_RX2_75 dX2_readClause_106 kk_164 rfl (by decide) ?_
      refine J_ald0 dX2_readClause_109 ?_
      refine J_getr (q := 198) fl_RX2_23 dX2_readClause_110 kk_163 rfl (rf_2_0 kk_163) ?_
      refine J_cVV (jX8_blank l cx n 198 kk_198 (upd2 M6 164 1 r5)) ck_RX2_65 dX2_readClause_113 rfl kk_198 ⟨rfl, rfl, by decide, by decide⟩ ⟨Nat.zero_le _, Nat.zero_le _, Nat.le_of_ble_eq_true rfl⟩ (fun M8 => ?_)
      refine J_ald0 dX2_readClause_116 ?_
      refine J_getr (q := 164) fl_RX2_12 dX2_readClause_117 kk_163 rfl (rf_2_1 kk_163) ?_
      refine J_ald0 dX2_readClause_120 ?_
      refine J_getr (q := 198) fl_RX2_23 dX2_readClause_121 kk_163 rfl (rf_2_0 kk_163) ?_
      refine J_iconst (v := 0) dX2_readClause_124 rfl ?_
      refine J_bipush (v := 99) dX2_readClause_125 rfl ?_
      refine J_cVI (jX8_number l cx n 198 kk_198 (0 : Int32) (99 : Int32) M8) ck_RX2_71 dX2_readClause_127 rfl kk_198 ⟨rfl, rfl, by decide, by decide⟩ ⟨Nat.zero_le _, Nat.zero_le _, Nat.le_of_ble_eq_true rfl⟩ (fun r9 M10 => ?_)
      refine J_puti fl_RX2_78 dX2_readClause_130 kk_164 rfl (by decide) ?_
      refine J_goto 168 dX2_readClause_133 rfl ?_
      exact J_vret dX2_readClause_168 rfl ⟨rfl, rfl, rfl⟩
    refine J_swIn (v := 8) 136 dX2_readClause_64 (by decide) (by decide) rfl rfl ?_ (fun w14 => ?_)
    · refine J_ald0 dX2_readClause_136 ?_
      refine J_getr (q := 164) fl_RX2_12 dX2_readClause_137 kk_163 rfl (rf_2_1 kk_163) ?_
      refine J_ald0 dX2_readClause_140 ?_
      refine J_getr (q := 198) fl_RX2_23 dX2_readClause_141 kk_163 rfl (rf_2_0 kk_163) ?_
      refine J_iconst (v := 0) dX2_readClause_144 rfl ?_
      refine J_bipush (v := 20) dX2_readClause_145 rfl ?_
      refine J_cVI (jX8_number l cx n 198 kk_198 (0 : Int32) (20 : Int32) M2) ck_RX2_71 dX2_readClause_147 rfl kk_198 ⟨rfl, rfl, by decide, by decide⟩ ⟨Nat.zero_le _, Nat.zero_le _, Nat.le_of_ble_eq_true rfl⟩ (fun r12 M13 => ?_)
      refine J_puti fl_RX2_81 dX2_readClause_150 kk_164 rfl (by decide) ?_
      refine J_goto 168 dX2_readClause_153 rfl ?_
      exact J_vret dX2_readClause_168 rfl ⟨rfl, rfl, rfl⟩
    refine J_swIn (v := 9) 156 dX2_readClause_64 (by decide) (by decide) rfl rfl ?_ (fun w17 => ?_)
    · refine J_ald0 dX2_readClause_156 ?_
      refine J_cVV (jX2_readTax l cx n  M2) ck_RX2_84 dX2_readClause_157 rfl kk_163 ⟨rfl, rfl, by decide, by decide⟩ ⟨Nat.zero_le _, Nat.zero_le _, Nat.le_of_ble_eq_true rfl⟩ (fun M16 => ?_)
      refine J_goto 168 dX2_readClause_160 rfl ?_
      exact J_vret dX2_readClause_168 rfl ⟨rfl, rfl, rfl⟩
    refine J_swOut 163 dX2_readClause_64 (sw_out 3 rfl (fun k hk => sw_c3 (P := fun k => ¬ v2 = Int32.ofInt (7 + (k : Int))) hk w11 w14 w17)) rfl ?_
    refine J_ald0 dX2_readClause_163 ?_
    refine J_ild2 dX2_readClause_164 ?_
    refine J_cVV (jX2_readOfPlan l cx n v2 M2) ck_RX2_87 dX2_readClause_165 rfl kk_163 ⟨rfl, rfl, by decide, by decide⟩ ⟨Nat.zero_le _, Nat.zero_le _, Nat.le_of_ble_eq_true rfl⟩ (fun M19 => ?_)
    exact J_vret dX2_readClause_168 rfl ⟨rfl, rfl, rfl⟩
  · exact J_vret dX2_readClause_62 rfl ⟨rfl, rfl, rfl⟩
set_option maxRecDepth 100000 in
theorem jX2_readClause (l : Launch) (cx : CX) (n : Nat) (M : Mem) : Con l cx ({ frames := 8, cells := 0, slots := 0, locals := 252 } : Room) yX2_readClause cX2_readClause 3 none 0 0 false 0 207 EV GS [.ref 163] M (mX2_readClause n M) := by
  unfold mX2_readClause
  refine Con.of (ls := [some (.ref 163), none, none]) (by decide) rfl (Nat.le_of_ble_eq_true rfl) ?_
  refine J_ald0 dX2_readClause_0 ?_
  refine J_getr (q := 198) fl_RX2_23 dX2_readClause_1 kk_163 rfl (rf_2_0 kk_163) ?_
  refine J_geti fl_RX2_34 dX2_readClause_4 kk_198 rfl ?_
  refine J_ist1 dX2_readClause_7 (by decide) rfl ?_
  refine J_ald0 dX2_readClause_8 ?_
  refine J_getr (q := 198) fl_RX2_23 dX2_readClause_9 kk_163 rfl (rf_2_0 kk_163) ?_
  refine J_ldcS (i := 0) dX2_readClause_12 (by decide) rfl rfl ?_
  refine J_cVI (jX8_word l cx n 198 kk_198 0 (by decide) M) ck_RX2_58 dX2_readClause_14 rfl kk_198 ⟨rfl, rfl, by decide, by decide⟩ ⟨Nat.zero_le _, Nat.zero_le _, Nat.le_of_ble_eq_true rfl⟩ (fun r20 M21 => ?_)
  refine J_ist2 dX2_readClause_17 (by decide) rfl ?_
  refine J_ild2 dX2_readClause_18 ?_
  refine J_bipush (v := 9) dX2_readClause_19 rfl ?_
  refine J_ic_ne 45 dX2_readClause_21 rfl ?_ ?_
  · exact J_wk (wk_s (wk_n (wk_s wk_0))) (jX2_readClause_c45 (n := n))
  · refine J_ald0 dX2_readClause_24 ?_
    refine J_getr (q := 164) fl_RX2_12 dX2_readClause_25 kk_163 rfl (rf_2_1 kk_163) ?_
    refine J_geti fl_RX2_62 dX2_readClause_28 kk_164 rfl ?_
    refine J_iconst (v := 4) dX2_readClause_31 rfl ?_
    refine J_ic_lt 45 dX2_readClause_32 rfl ?_ ?_
    · exact J_wk (wk_s (wk_n (wk_s wk_0))) (jX2_readClause_c45 (n := n))
    · refine J_ald0 dX2_readClause_35 ?_
      refine J_getr (q := 198) fl_RX2_23 dX2_readClause_36 kk_163 rfl (rf_2_0 kk_163) ?_
      refine J_bipush (v := 6) dX2_readClause_39 rfl ?_
      refine J_ild1 dX2_readClause_41 ?_
      refine J_cVV (jX8_mark l cx n 198 kk_198 (6 : Int32) (M 198 2) M21) ck_RX2_38 dX2_readClause_42 rfl kk_198 ⟨rfl, rfl, by decide, by decide⟩ ⟨Nat.zero_le _, Nat.zero_le _, Nat.le_of_ble_eq_true rfl⟩ (fun M23 => ?_)
      exact J_wk (wk_s (wk_n (wk_s wk_0))) (jX2_readClause_c45 (n := n))
set_option maxRecDepth 100000 in
theorem jX8_goesOn (l : Launch) (cx : CX) (n : Nat) (o : Nat) (ho : IsK GS 0 207 o 8) (M : Mem) : Con l cx ({ frames := 1, cells := 0, slots := 0, locals := 22 } : Room) yX8_goesOn cX8_goesOn 1 (some .boolean) 0 0 false 0 207 EZ GS [.ref o] M (mX8_goesOn o M) := by
  unfold mX8_goesOn
  refine Con.of (ls := [some (.ref o)]) (by decide) rfl (Nat.le_of_ble_eq_true rfl) ?_
  refine J_ald0 dX8_goesOn_0 ?_
  refine J_geti fl_RX8_31 dX8_goesOn_1 ho rfl ?_
  refine J_if_ne 18 dX8_goesOn_4 rfl ?_ ?_
  · refine J_iconst (v := 0) dX8_goesOn_18 rfl ?_
    exact J_zret dX8_goesOn_19 rfl (Or.inl rfl) ⟨rfl, rfl, rfl, (Or.inl rfl)⟩
  · refine J_ald0 dX8_goesOn_7 ?_
    refine J_geti fl_RX8_28 dX8_goesOn_8 ho rfl ?_
    refine J_ald0 dX8_goesOn_11 ?_
    refine J_geti fl_RX8_24 dX8_goesOn_12 ho rfl ?_
    refine J_ic_lt 20 dX8_goesOn_15 rfl ?_ ?_
    · refine J_ald0 dX8_goesOn_20 ?_
      refine J_ald0 dX8_goesOn_21 ?_
      refine J_geti fl_RX8_28 dX8_goesOn_22 ho rfl ?_
      refine J_cVP (jX8_byteAt l cx n o ho (M o 2) M) ck_RX8_37 dX8_goesOn_25 rfl ho ⟨rfl, rfl, by decide, by decide⟩ ⟨Nat.zero_le _, Nat.zero_le _, Nat.le_of_ble_eq_true rfl⟩ (fun r1 => ?_)
      refine J_bipush (v := 59) dX8_goesOn_28 rfl ?_
      refine J_ic_ne 45 dX8_goesOn_30 rfl ?_ ?_
      · refine J_ald0 dX8_goesOn_45 ?_
        refine J_iconst (v := 1) dX8_goesOn_46 rfl ?_
        refine J_ald0 dX8_goesOn_47 ?_
        refine J_geti fl_RX8_28 dX8_goesOn_48 ho rfl ?_
        refine J_cVV (jX8_mark l cx n o ho (1 : Int32) (M o 2) M) ck_RX8_41 dX8_goesOn_51 rfl ho ⟨rfl, rfl, by decide, by decide⟩ ⟨Nat.zero_le _, Nat.zero_le _, Nat.le_of_ble_eq_true rfl⟩ (fun M3 => ?_)
        refine J_iconst (v := 0) dX8_goesOn_54 rfl ?_
        exact J_zret dX8_goesOn_55 rfl (Or.inl rfl) ⟨rfl, rfl, rfl, (Or.inl rfl)⟩
      · refine J_ald0 dX8_goesOn_33 ?_
        refine J_dup_r dX8_goesOn_34 ?_
        refine J_geti fl_RX8_28 dX8_goesOn_35 ho rfl ?_
        refine J_iconst (v := 1) dX8_goesOn_38 rfl ?_
        refine J_iadd dX8_goesOn_39 ?_
        refine J_puti fl_RX8_28 dX8_goesOn_40 ho rfl (by decide) ?_
        refine J_iconst (v := 1) dX8_goesOn_43 rfl ?_
        exact J_zret dX8_goesOn_44 rfl (Or.inr rfl) ⟨rfl, rfl, rfl, (Or.inr rfl)⟩
    · refine J_iconst (v := 0) dX8_goesOn_18 rfl ?_
      exact J_zret dX8_goesOn_19 rfl (Or.inl rfl) ⟨rfl, rfl, rfl, (Or.inl rfl)⟩
set_option maxRecDepth 100000 in
theorem jX8_faultAnswer (l : Launch) (cx : CX) (n : Nat) (o : Nat) (ho : IsK GS 0 207 o 8) (M : Mem) : Con l cx ({ frames := 0, cells := 0, slots := 0, locals := 0 } : Room) yX8_faultAnswer cX8_faultAnswer 1 (some .int) 0 0 false 0 207 (EP M) GS [.ref o] M (mX8_faultAnswer o M) := by
  unfold mX8_faultAnswer
  refine Con.of (ls := [some (.ref o)]) (by decide) rfl (Nat.le_of_ble_eq_true rfl) ?_
  refine J_sipush (v := -1000) dX8_faultAnswer_0 rfl ?_
  refine J_ald0 dX8_faultAnswer_3 ?_
  refine J_geti fl_RX8_31 dX8_faultAnswer_4 ho rfl ?_
  refine J_imul dX8_faultAnswer_7 ?_
  refine J_ald0 dX8_faultAnswer_8 ?_
  refine J_geti fl_RX8_34 dX8_faultAnswer_9 ho rfl ?_
  refine J_isub dX8_faultAnswer_12 ?_
  exact J_iret dX8_faultAnswer_13 rfl ⟨rfl, rfl, rfl⟩
set_option maxRecDepth 100000 in
theorem jX2_read_c19 {l : Launch} {cx : CX} {n : Nat} : ∀ (f : Nat) {v2 : Int32} {v3 : Int32} {M : Mem}, JO l cx ({ frames := 9, cells := 0, slots := 0, locals := 274 } : Room) yX2_read cX2_read 4 (some .int) 0 0 false 0 207 EI GS 0 0 19 [some (.ref 163), none, some (.int v2), some (.int v3)] [] M (mX2_read_c19 n f v2 v3 M) := by
  intro f
  induction f with
  | zero =>
    intros
    exact J_none
  | succ f ih =>
    intro v2 v3 M
    unfold mX2_read_c19
    refine J_ild3 dX2_read_19 ?_
    refine J_bipush (v := 20) dX2_read_20 rfl ?_
    refine J_ic_gt 84 dX2_read_22 rfl ?_ ?_
    · refine J_ald0 dX2_read_84 ?_
      refine J_getr (q := 198) fl_RX2_23 dX2_read_85 kk_163 rfl (rf_2_0 kk_163) ?_
      refine J_cVP (jX8_faultAnswer l cx n 198 kk_198 M) ck_RX2_52 dX2_read_88 rfl kk_198 ⟨rfl, rfl, by decide, by decide⟩ ⟨Nat.zero_le _, Nat.zero_le _, Nat.le_of_ble_eq_true rfl⟩ (fun r1 => ?_)
      exact J_iret dX2_read_91 rfl ⟨rfl, rfl, rfl⟩
    · refine J_ild2 dX2_read_25 ?_
      refine J_if_eq 84 dX2_read_26 rfl ?_ ?_
      · refine J_ald0 dX2_read_84 ?_
        refine J_getr (q := 198) fl_RX2_23 dX2_read_85 kk_163 rfl (rf_2_0 kk_163) ?_
        refine J_cVP (jX8_faultAnswer l cx n 198 kk_198 M) ck_RX2_52 dX2_read_88 rfl kk_198 ⟨rfl, rfl, by decide, by decide⟩ ⟨Nat.zero_le _, Nat.zero_le _, Nat.le_of_ble_eq_true rfl⟩ (fun r2 => ?_)
        exact J_iret dX2_read_91 rfl ⟨rfl, rfl, rfl⟩
      · refine J_ild3 dX2_read_29 ?_
        refine J_bipush (v := 20) dX2_read_30 rfl ?_
        refine J_ic_ne 53 dX2_read_32 rfl ?_ ?_
        · refine J_ald0 dX2_read_53 ?_
          refine J_cVV (jX2_readClause l cx n  M) ck_RX2_42 dX2_read_54 rfl kk_163 ⟨rfl, rfl, by decide, by decide⟩ ⟨Nat.zero_le _, Nat.zero_le _, Nat.le_of_ble_eq_true rfl⟩ (fun M4 => ?_)
          refine J_ald0 dX2_read_57 ?_
          refine J_getr (q := 164) fl_RX2_12 dX2_read_58 kk_163 rfl (rf_2_1 kk_163) ?_
          refine J_dup_r dX2_read_61 ?_
          refine J_geti fl_RX2_45 dX2_read_62 kk_164 rfl ?_
          refine J_iconst (v := 1) dX2_read_65 rfl ?_
          refine J_iadd dX2_read_66 ?_
          refine J_puti fl_RX2_45 dX2_read_67 kk_164 rfl (by decide) ?_
          refine J_ald0 dX2_read_70 ?_
          refine J_getr (q := 198) fl_RX2_23 dX2_read_71 kk_163 rfl (rf_2_0 kk_163) ?_
          refine J_cVZ (jX8_goesOn l cx n 198 kk_198 (upd2 M4 164 7 ((M4 164 7) + (1 : Int32)))) ck_RX2_48 dX2_read_74 rfl kk_198 ⟨rfl, rfl, by decide, by decide⟩ ⟨Nat.zero_le _, Nat.zero_le _, Nat.le_of_ble_eq_true rfl⟩ (fun r5 M6 z7 => ?_)
          refine J_ist2 dX2_read_77 (by decide) rfl ?_
          refine J_iinc3 (w := (v3 + (1 : Int32))) dX2_read_78 (by decide) rfl rfl ?_
          refine J_goto 19 dX2_read_81 rfl ?_
          exact J_wk (wk_s (wk_n (wk_s (wk_s wk_0)))) (ih)
        · refine J_ald0 dX2_read_35 ?_
          refine J_getr (q := 198) fl_RX2_23 dX2_read_36 kk_163 rfl (rf_2_0 kk_163) ?_
          refine J_iconst (v := 4) dX2_read_39 rfl ?_
          refine J_ald0 dX2_read_40 ?_
          refine J_getr (q := 198) fl_RX2_23 dX2_read_41 kk_163 rfl (rf_2_0 kk_163) ?_
          refine J_geti fl_RX2_34 dX2_read_44 kk_198 rfl ?_
          refine J_cVV (jX8_mark l cx n 198 kk_198 (4 : Int32) (M 198 2) M) ck_RX2_38 dX2_read_47 rfl kk_198 ⟨rfl, rfl, by decide, by decide⟩ ⟨Nat.zero_le _, Nat.zero_le _, Nat.le_of_ble_eq_true rfl⟩ (fun M9 => ?_)
          refine J_goto 70 dX2_read_50 rfl ?_
          refine J_ald0 dX2_read_70 ?_
          refine J_getr (q := 198) fl_RX2_23 dX2_read_71 kk_163 rfl (rf_2_0 kk_163) ?_
          refine J_cVZ (jX8_goesOn l cx n 198 kk_198 M9) ck_RX2_48 dX2_read_74 rfl kk_198 ⟨rfl, rfl, by decide, by decide⟩ ⟨Nat.zero_le _, Nat.zero_le _, Nat.le_of_ble_eq_true rfl⟩ (fun r10 M11 z12 => ?_)
          refine J_ist2 dX2_read_77 (by decide) rfl ?_
          refine J_iinc3 (w := (v3 + (1 : Int32))) dX2_read_78 (by decide) rfl rfl ?_
          refine J_goto 19 dX2_read_81 rfl ?_
          exact J_wk (wk_s (wk_n (wk_s (wk_s wk_0)))) (ih)
set_option maxRecDepth 100000 in
theorem jX2_read (l : Launch) (cx : CX) (n : Nat) (a : Int32) (M : Mem) : Con l cx ({ frames := 9, cells := 0, slots := 0, locals := 274 } : Room) yX2_read cX2_read 4 (some .int) 0 0 false 0 207 EI GS [.ref 163, .int a] M (mX2_read n a M) := by
  unfold mX2_read
  refine Con.of (ls := [some (.ref 163), some (.int a), none, none]) (by decide) rfl (Nat.le_of_ble_eq_true rfl) ?_
  refine J_ald0 dX2_read_0 ?_
  refine J_getr (q := 198) fl_RX2_23 dX2_read_1 kk_163 rfl (rf_2_0 kk_163) ?_
  refine J_ild1 dX2_read_4 ?_
  refine J_cVV (jX8_start l cx n 198 kk_198 a M) ck_RX2_27 dX2_read_5 rfl kk_198 ⟨rfl, rfl, by decide, by decide⟩ ⟨Nat.zero_le _, Nat.zero_le _, Nat.le_of_ble_eq_true rfl⟩ (fun M14 => ?_)
  refine J_ald0 dX2_read_8 ?_
  refine J_getr (q := 164) fl_RX2_12 dX2_read_9 kk_163 rfl (rf_2_1 kk_163) ?_
  refine J_cVV (jX9_clear l cx n 164 kk_164 M14) ck_RX2_31 dX2_read_12 rfl kk_164 ⟨rfl, rfl, by decide, by decide⟩ ⟨Nat.zero_le _, Nat.zero_le _, Nat.le_of_ble_eq_true rfl⟩ (fun M16 => ?_)
  refine J_iconst (v := 1) dX2_read_15 rfl ?_
  refine J_ist2 dX2_read_16 (by decide) rfl ?_
  refine J_iconst (v := 0) dX2_read_17 rfl ?_
  refine J_ist3 dX2_read_18 (by decide) rfl ?_
  exact J_wk (wk_s (wk_n (wk_s (wk_s wk_0)))) (jX2_read_c19 (n := n) n)
set_option maxRecDepth 100000 in
theorem jX3_lengthOf (l : Launch) (cx : CX) (n : Nat) (a : Int32) (M : Mem) : Con l cx ({ frames := 0, cells := 0, slots := 0, locals := 0 } : Room) yX3_lengthOf cX3_lengthOf 1 (some .int) 0 0 false 0 207 (EP M) GS [.int a] M (mX3_lengthOf a) := by
  unfold mX3_lengthOf
  refine Con.of (ls := [some (.int a)]) (by decide) rfl (Nat.le_of_ble_eq_true rfl) ?_
  refine J_ild0 dX3_lengthOf_0 ?_
  refine J_bipush (v := 11) dX3_lengthOf_1 rfl ?_
  refine J_iadd dX3_lengthOf_3 ?_
  refine J_bipush (v := 12) dX3_lengthOf_4 rfl ?_
  refine J_iremK dX3_lengthOf_6 (by decide) ?_
  refine J_swIn (v := 1) 60 dX3_lengthOf_7 (by decide) (by decide) rfl rfl ?_ (fun w1 => ?_)
  · refine J_ild0 dX3_lengthOf_60 ?_
    refine J_bipush (v := 11) dX3_lengthOf_61 rfl ?_
    refine J_iadd dX3_lengthOf_63 ?_
    refine J_bipush (v := 12) dX3_lengthOf_64 rfl ?_
    refine J_idivK dX3_lengthOf_66 (by decide) ?_
    refine J_iconst (v := 4) dX3_lengthOf_67 rfl ?_
    refine J_iremK dX3_lengthOf_68 (by decide) ?_
    refine J_iconst (v := 1) dX3_lengthOf_69 rfl ?_
    refine J_ic_ne 78 dX3_lengthOf_70 rfl ?_ ?_
    · refine J_bipush (v := 28) dX3_lengthOf_78 rfl ?_
      exact J_iret dX3_lengthOf_80 rfl ⟨rfl, rfl, rfl⟩
    · refine J_bipush (v := 29) dX3_lengthOf_73 rfl ?_
      refine J_goto 80 dX3_lengthOf_75 rfl ?_
      exact J_iret dX3_lengthOf_80 rfl ⟨rfl, rfl, rfl⟩
  refine J_swIn (v := 2) 84 dX3_lengthOf_7 (by decide) (by decide) rfl rfl ?_ (fun w2 => ?_)
  · refine J_bipush (v := 31) dX3_lengthOf_84 rfl ?_
    exact J_iret dX3_lengthOf_86 rfl ⟨rfl, rfl, rfl⟩
  refine J_swIn (v := 3) 81 dX3_lengthOf_7 (by decide) (by decide) rfl rfl ?_ (fun w3 => ?_)
  · refine J_bipush (v := 30) dX3_lengthOf_81 rfl ?_
    exact J_iret dX3_lengthOf_83 rfl ⟨rfl, rfl, rfl⟩
  refine J_swIn (v := 4) 84 dX3_lengthOf_7 (by decide) (by decide) rfl rfl ?_ (fun w4 => ?_)
  · refine J_bipush (v := 31) dX3_lengthOf_84 rfl ?_
    exact J_iret dX3_lengthOf_86 rfl ⟨rfl, rfl, rfl⟩
  refine J_swIn (v := 5) 81 dX3_lengthOf_7 (by decide) (by decide) rfl rfl ?_ (fun w5 => ?_)
  · refine J_bipush (v := 30) dX3_lengthOf_81 rfl ?_
    exact J_iret dX3_lengthOf_83 rfl ⟨rfl, rfl, rfl⟩
  refine J_swIn (v := 6) 84 dX3_lengthOf_7 (by decide) (by decide) rfl rfl ?_ (fun w6 => ?_)
  · refine J_bipush (v := 31) dX3_lengthOf_84 rfl ?_
    exact J_iret dX3_lengthOf_86 rfl ⟨rfl, rfl, rfl⟩
  refine J_swIn (v := 7) 84 dX3_lengthOf_7 (by decide) (by decide) rfl rfl ?_ (fun w7 => ?_)
  · refine J_bipush (v := 31) dX3_lengthOf_84 rfl ?_
    exact J_iret dX3_lengthOf_86 rfl ⟨rfl, rfl, rfl⟩
  refine J_swIn (v := 8) 81 dX3_lengthOf_7 (by decide) (by decide) rfl rfl ?_ (fun w8 => ?_)
  · refine J_bipush (v := 30) dX3_lengthOf_81 rfl ?_
    exact J_iret dX3_lengthOf_83 rfl ⟨rfl, rfl, rfl⟩
  refine J_swIn (v := 9) 84 dX3_lengthOf_7 (by decide) (by decide) rfl rfl ?_ (fun w9 => ?_)
  · refine J_bipush (v := 31) dX3_lengthOf_84 rfl ?_
    exact J_iret dX3_lengthOf_86 rfl ⟨rfl, rfl, rfl⟩
  refine J_swIn (v := 10) 81 dX3_lengthOf_7 (by decide) (by decide) rfl rfl ?_ (fun w10 => ?_)
  · refine J_bipush (v := 30) dX3_lengthOf_81 rfl ?_
    exact J_iret dX3_lengthOf_83 rfl ⟨rfl, rfl, rfl⟩
  refine J_swOut 84 dX3_lengthOf_7 (sw_out 10 rfl (fun k hk => sw_c10 (P := fun k => ¬ ((a + (11 : Int32)) - (a + (11 : Int32)) / (12 : Int32) * (12 : Int32)) = Int32.ofInt (1 + (k : Int))) hk w1 w2 w3 w4 w5 w6 w7 w8 w9 w10)) rfl ?_
  refine J_bipush (v := 31) dX3_lengthOf_84 rfl ?_
  exact J_iret dX3_lengthOf_86 rfl ⟨rfl, rfl, rfl⟩
set_option maxRecDepth 100000 in
theorem jX3_yearOf (l : Launch) (cx : CX) (n : Nat) (a : Int32) (M : Mem) : Con l cx ({ frames := 2, cells := 0, slots := 0, locals := 45 } : Room) yX3_yearOf cX3_yearOf 2 (some .int) 0 0 false 0 207 (EP M) GS [.ref 2, .int a] M (mX3_yearOf n a M) := by
  unfold mX3_yearOf
  refine Con.of (ls := [some (.ref 2), some (.int a)]) (by decide) rfl (Nat.le_of_ble_eq_true rfl) ?_
  refine J_sipush (v := 2023) dX3_yearOf_0 rfl ?_
  refine J_ald0 dX3_yearOf_3 ?_
  refine J_ild1 dX3_yearOf_4 ?_
  refine J_cVP (jX3_monthWith l cx n a M) ck_RX3_28 dX3_yearOf_5 rfl kk_2 ⟨rfl, rfl, by decide, by decide⟩ ⟨Nat.zero_le _, Nat.zero_le _, Nat.le_of_ble_eq_true rfl⟩ (fun r1 => ?_)
  refine J_bipush (v := 11) dX3_yearOf_8 rfl ?_
  refine J_iadd dX3_yearOf_10 ?_
  refine J_bipush (v := 12) dX3_yearOf_11 rfl ?_
  refine J_idivK dX3_yearOf_13 (by decide) ?_
  refine J_iadd dX3_yearOf_14 ?_
  exact J_iret dX3_yearOf_15 rfl ⟨rfl, rfl, rfl⟩
set_option maxRecDepth 100000 in
theorem jX3_monthOf (l : Launch) (cx : CX) (n : Nat) (a : Int32) (M : Mem) : Con l cx ({ frames := 2, cells := 0, slots := 0, locals := 45 } : Room) yX3_monthOf cX3_monthOf 2 (some .int) 0 0 false 0 207 (EP M) GS [.ref 2, .int a] M (mX3_monthOf n a M) := by
  unfold mX3_monthOf
  refine Con.of (ls := [some (.ref 2), some (.int a)]) (by decide) rfl (Nat.le_of_ble_eq_true rfl) ?_
  refine J_ald0 dX3_monthOf_0 ?_
  refine J_ild1 dX3_monthOf_1 ?_
  refine J_cVP (jX3_monthWith l cx n a M) ck_RX3_28 dX3_monthOf_2 rfl kk_2 ⟨rfl, rfl, by decide, by decide⟩ ⟨Nat.zero_le _, Nat.zero_le _, Nat.le_of_ble_eq_true rfl⟩ (fun r1 => ?_)
  refine J_bipush (v := 11) dX3_monthOf_5 rfl ?_
  refine J_iadd dX3_monthOf_7 ?_
  refine J_bipush (v := 12) dX3_monthOf_8 rfl ?_
  refine J_iremK dX3_monthOf_10 (by decide) ?_
  refine J_iconst (v := 1) dX3_monthOf_11 rfl ?_
  refine J_iadd dX3_monthOf_12 ?_
  exact J_iret dX3_monthOf_13 rfl ⟨rfl, rfl, rfl⟩
set_option maxRecDepth 100000 in
theorem jX3_dayOfMonth (l : Launch) (cx : CX) (n : Nat) (a : Int32) (M : Mem) : Con l cx ({ frames := 2, cells := 0, slots := 0, locals := 45 } : Room) yX3_dayOfMonth cX3_dayOfMonth 2 (some .int) 0 0 false 0 207 (EP M) GS [.ref 2, .int a] M (mX3_dayOfMonth n a M) := by
  unfold mX3_dayOfMonth
  refine Con.of (ls := [some (.ref 2), some (.int a)]) (by decide) rfl (Nat.le_of_ble_eq_true rfl) ?_
  refine J_ild1 dX3_dayOfMonth_0 ?_
  refine J_ald0 dX3_dayOfMonth_1 ?_
  refine J_getr (q := 3) fl_RX3_11 dX3_dayOfMonth_2 kk_2 rfl (rf_3_0 kk_2) ?_
  refine J_ald0 dX3_dayOfMonth_5 ?_
  refine J_ild1 dX3_dayOfMonth_6 ?_
  refine J_cVP (jX3_monthWith l cx n a M) ck_RX3_28 dX3_dayOfMonth_7 rfl kk_2 ⟨rfl, rfl, by decide, by decide⟩ ⟨Nat.zero_le _, Nat.zero_le _, Nat.le_of_ble_eq_true rfl⟩ (fun r1 => ?_)
  refine J_iald dX3_dayOfMonth_10 kk_3 rfl ?_
  refine J_isub dX3_dayOfMonth_11 ?_
  refine J_iconst (v := 1) dX3_dayOfMonth_12 rfl ?_
  refine J_iadd dX3_dayOfMonth_13 ?_
  exact J_iret dX3_dayOfMonth_14 rfl ⟨rfl, rfl, rfl⟩
set_option maxRecDepth 100000 in
theorem jX3_dayOf (l : Launch) (cx : CX) (n : Nat) (a : Int32) (b : Int32) (c : Int32) (M : Mem) : Con l cx ({ frames := 0, cells := 0, slots := 0, locals := 0 } : Room) yX3_dayOf cX3_dayOf 5 (some .int) 0 0 false 0 207 (EP M) GS [.ref 2, .int a, .int b, .int c] M (mX3_dayOf a b c M) := by
  unfold mX3_dayOf
  refine Con.of (ls := [some (.ref 2), some (.int a), some (.int b), some (.int c), none]) (by decide) rfl (Nat.le_of_ble_eq_true rfl) ?_
  refine J_ild1 dX3_dayOf_0 ?_
  refine J_sipush (v := 2024) dX3_dayOf_1 rfl ?_
  refine J_ic_lt 30 dX3_dayOf_4 rfl ?_ ?_
  · refine J_iconst (v := -1) dX3_dayOf_30 rfl ?_
    exact J_iret dX3_dayOf_31 rfl ⟨rfl, rfl, rfl⟩
  · refine J_ild1 dX3_dayOf_7 ?_
    refine J_sipush (v := 2033) dX3_dayOf_8 rfl ?_
    refine J_ic_gt 30 dX3_dayOf_11 rfl ?_ ?_
    · refine J_iconst (v := -1) dX3_dayOf_30 rfl ?_
      exact J_iret dX3_dayOf_31 rfl ⟨rfl, rfl, rfl⟩
    · refine J_ild2 dX3_dayOf_14 ?_
      refine J_iconst (v := 1) dX3_dayOf_15 rfl ?_
      refine J_ic_lt 30 dX3_dayOf_16 rfl ?_ ?_
      · refine J_iconst (v := -1) dX3_dayOf_30 rfl ?_
        exact J_iret dX3_dayOf_31 rfl ⟨rfl, rfl, rfl⟩
      · refine J_ild2 dX3_dayOf_19 ?_
        refine J_bipush (v := 12) dX3_dayOf_20 rfl ?_
        refine J_ic_gt 30 dX3_dayOf_22 rfl ?_ ?_
        · refine J_iconst (v := -1) dX3_dayOf_30 rfl ?_
          exact J_iret dX3_dayOf_31 rfl ⟨rfl, rfl, rfl⟩
        · refine J_ild3 dX3_dayOf_25 ?_
          refine J_iconst (v := 1) dX3_dayOf_26 rfl ?_
          refine J_ic_ge 32 dX3_dayOf_27 rfl ?_ ?_
          · refine J_ild1 dX3_dayOf_32 ?_
            refine J_sipush (v := 2024) dX3_dayOf_33 rfl ?_
            refine J_isub dX3_dayOf_36 ?_
            refine J_bipush (v := 12) dX3_dayOf_37 rfl ?_
            refine J_imul dX3_dayOf_39 ?_
            refine J_ild2 dX3_dayOf_40 ?_
            refine J_iadd dX3_dayOf_41 ?_
            refine J_ist4 dX3_dayOf_42 (by decide) rfl ?_
            refine J_ild4 dX3_dayOf_44 ?_
            refine J_iconst (v := 1) dX3_dayOf_46 rfl ?_
            refine J_iadd dX3_dayOf_47 ?_
            refine J_ald0 dX3_dayOf_48 ?_
            refine J_getr (q := 3) fl_RX3_11 dX3_dayOf_49 kk_2 rfl (rf_3_0 kk_2) ?_
            refine J_alen (v := (123 : Int32)) dX3_dayOf_52 kk_3 (Or.inl rfl) rfl rfl ?_
            refine J_ic_ge 77 dX3_dayOf_53 rfl ?_ ?_
            · refine J_iconst (v := -1) dX3_dayOf_77 rfl ?_
              exact J_iret dX3_dayOf_78 rfl ⟨rfl, rfl, rfl⟩
            · refine J_ild3 dX3_dayOf_56 ?_
              refine J_ald0 dX3_dayOf_57 ?_
              refine J_getr (q := 3) fl_RX3_11 dX3_dayOf_58 kk_2 rfl (rf_3_0 kk_2) ?_
              refine J_ild4 dX3_dayOf_61 ?_
              refine J_iconst (v := 1) dX3_dayOf_63 rfl ?_
              refine J_iadd dX3_dayOf_64 ?_
              refine J_iald dX3_dayOf_65 kk_3 rfl ?_
              refine J_ald0 dX3_dayOf_66 ?_
              refine J_getr (q := 3) fl_RX3_11 dX3_dayOf_67 kk_2 rfl (rf_3_0 kk_2) ?_
              refine J_ild4 dX3_dayOf_70 ?_
              refine J_iald dX3_dayOf_72 kk_3 rfl ?_
              refine J_isub dX3_dayOf_73 ?_
              refine J_ic_le 79 dX3_dayOf_74 rfl ?_ ?_
              · refine J_ald0 dX3_dayOf_79 ?_
                refine J_getr (q := 3) fl_RX3_11 dX3_dayOf_80 kk_2 rfl (rf_3_0 kk_2) ?_
                refine J_ild4 dX3_dayOf_83 ?_
                refine J_iald dX3_dayOf_85 kk_3 rfl ?_
                refine J_ild3 dX3_dayOf_86 ?_
                refine J_iadd dX3_dayOf_87 ?_
                refine J_iconst (v := 1) dX3_dayOf_88 rfl ?_
                refine J_isub dX3_dayOf_89 ?_
                exact J_iret dX3_dayOf_90 rfl ⟨rfl, rfl, rfl⟩
              · refine J_iconst (v := -1) dX3_dayOf_77 rfl ?_
                exact J_iret dX3_dayOf_78 rfl ⟨rfl, rfl, rfl⟩
          · refine J_iconst (v := -1) dX3_dayOf_30 rfl ?_
            exact J_iret dX3_dayOf_31 rfl ⟨rfl, rfl, rfl⟩
set_option maxRecDepth 100000 in
theorem jX8_accountDigit (l : Launch) (cx : CX) (n : Nat) (o : Nat) (ho : IsK GS 0 207 o 8) (M : Mem) : Con l cx ({ frames := 1, cells := 0, slots := 0, locals := 22 } : Room) yX8_accountDigit cX8_accountDigit 2 (some .int) 0 0 false 0 207 EI GS [.ref o] M (mX8_accountDigit o M) := by
  unfold mX8_accountDigit
  refine Con.of (ls := [some (.ref o), none]) (by decide) rfl (Nat.le_of_ble_eq_true rfl) ?_
  refine J_ald0 dX8_accountDigit_0 ?_
  refine J_ald0 dX8_accountDigit_1 ?_
  refine J_geti fl_RX8_28 dX8_accountDigit_2 ho rfl ?_
  refine J_cVP (jX8_byteAt l cx n o ho (M o 2) M) ck_RX8_37 dX8_accountDigit_5 rfl ho ⟨rfl, rfl, by decide, by decide⟩ ⟨Nat.zero_le _, Nat.zero_le _, Nat.le_of_ble_eq_true rfl⟩ (fun r1 => ?_)
  refine J_ist1 dX8_accountDigit_8 (by decide) rfl ?_
  refine J_ald0 dX8_accountDigit_9 ?_
  refine J_geti fl_RX8_31 dX8_accountDigit_10 ho rfl ?_
  refine J_if_eq 18 dX8_accountDigit_13 rfl ?_ ?_
  · refine J_ild1 dX8_accountDigit_18 ?_
    refine J_bipush (v := 48) dX8_accountDigit_19 rfl ?_
    refine J_ic_lt 30 dX8_accountDigit_21 rfl ?_ ?_
    · refine J_ald0 dX8_accountDigit_30 ?_
      refine J_iconst (v := 1) dX8_accountDigit_31 rfl ?_
      refine J_ald0 dX8_accountDigit_32 ?_
      refine J_geti fl_RX8_28 dX8_accountDigit_33 ho rfl ?_
      refine J_cVV (jX8_mark l cx n o ho (1 : Int32) (M o 2) M) ck_RX8_41 dX8_accountDigit_36 rfl ho ⟨rfl, rfl, by decide, by decide⟩ ⟨Nat.zero_le _, Nat.zero_le _, Nat.le_of_ble_eq_true rfl⟩ (fun M3 => ?_)
      refine J_iconst (v := 0) dX8_accountDigit_39 rfl ?_
      exact J_iret dX8_accountDigit_40 rfl ⟨rfl, rfl, rfl⟩
    · refine J_ild1 dX8_accountDigit_24 ?_
      refine J_bipush (v := 57) dX8_accountDigit_25 rfl ?_
      refine J_ic_le 41 dX8_accountDigit_27 rfl ?_ ?_
      · refine J_ild1 dX8_accountDigit_41 ?_
        refine J_bipush (v := 48) dX8_accountDigit_42 rfl ?_
        refine J_isub dX8_accountDigit_44 ?_
        refine J_bipush (v := 6) dX8_accountDigit_45 rfl ?_
        refine J_ic_lt 61 dX8_accountDigit_47 rfl ?_ ?_
        · refine J_ald0 dX8_accountDigit_61 ?_
          refine J_dup_r dX8_accountDigit_62 ?_
          refine J_geti fl_RX8_28 dX8_accountDigit_63 ho rfl ?_
          refine J_iconst (v := 1) dX8_accountDigit_66 rfl ?_
          refine J_iadd dX8_accountDigit_67 ?_
          refine J_puti fl_RX8_28 dX8_accountDigit_68 ho rfl (by decide) ?_
          refine J_ild1 dX8_accountDigit_71 ?_
          refine J_bipush (v := 48) dX8_accountDigit_72 rfl ?_
          refine J_isub dX8_accountDigit_74 ?_
          exact J_iret dX8_accountDigit_75 rfl ⟨rfl, rfl, rfl⟩
        · refine J_ald0 dX8_accountDigit_50 ?_
          refine J_iconst (v := 3) dX8_accountDigit_51 rfl ?_
          refine J_ald0 dX8_accountDigit_52 ?_
          refine J_geti fl_RX8_28 dX8_accountDigit_53 ho rfl ?_
          refine J_cVV (jX8_mark l cx n o ho (3 : Int32) (M o 2) M) ck_RX8_41 dX8_accountDigit_56 rfl ho ⟨rfl, rfl, by decide, by decide⟩ ⟨Nat.zero_le _, Nat.zero_le _, Nat.le_of_ble_eq_true rfl⟩ (fun M5 => ?_)
          refine J_iconst (v := 0) dX8_accountDigit_59 rfl ?_
          exact J_iret dX8_accountDigit_60 rfl ⟨rfl, rfl, rfl⟩
      · refine J_ald0 dX8_accountDigit_30 ?_
        refine J_iconst (v := 1) dX8_accountDigit_31 rfl ?_
        refine J_ald0 dX8_accountDigit_32 ?_
        refine J_geti fl_RX8_28 dX8_accountDigit_33 ho rfl ?_
        refine J_cVV (jX8_mark l cx n o ho (1 : Int32) (M o 2) M) ck_RX8_41 dX8_accountDigit_36 rfl ho ⟨rfl, rfl, by decide, by decide⟩ ⟨Nat.zero_le _, Nat.zero_le _, Nat.le_of_ble_eq_true rfl⟩ (fun M7 => ?_)
        refine J_iconst (v := 0) dX8_accountDigit_39 rfl ?_
        exact J_iret dX8_accountDigit_40 rfl ⟨rfl, rfl, rfl⟩
  · refine J_iconst (v := 0) dX8_accountDigit_16 rfl ?_
    exact J_iret dX8_accountDigit_17 rfl ⟨rfl, rfl, rfl⟩
set_option maxRecDepth 100000 in
theorem jX4_readStep_c100 {l : Launch} {cx : CX} {n : Nat} {v1 : Int32} {v2 : Int32} {M : Mem} : JO l cx ({ frames := 7, cells := 0, slots := 0, locals := 229 } : Room) yX4_readStep cX4_readStep 3 none 0 0 false 0 207 EV GS 0 0 100 [some (.ref 199), some (.int v1), some (.int v2)] [] M (mX4_readStep_c100 n v1 v2 M) := by
  unfold mX4_readStep_c100
  refine J_getFOL rfl wd_33 dX4_readStep_100 ?_
  refine J_ild2 dX4_readStep_103 ?_
  refine J_FOLald dX4_readStep_104 ?_
  refine J_iconst (v := 4) dX4_readStep_105 rfl ?_
  refine J_iand dX4_readStep_106 ?_
  refine J_if_eq 133 dX4_readStep_107 rfl ?_ ?_
  · exact J_vret dX4_readStep_133 rfl ⟨rfl, rfl, rfl⟩
  · refine J_ald0 dX4_readStep_110 ?_
    refine J_getr (q := 204) fl_RX4_29 dX4_readStep_111 kk_199 rfl (rf_4_0 kk_199) ?_
    refine J_cVV (jX8_blank l cx n 204 kk_204 M) ck_RX4_68 dX4_readStep_114 rfl kk_204 ⟨rfl, rfl, by decide, by decide⟩ ⟨Nat.zero_le _, Nat.zero_le _, Nat.le_of_ble_eq_true rfl⟩ (fun M2 => ?_)
    refine J_ald0 dX4_readStep_117 ?_
    refine J_getr (q := 203) fl_RX4_21 dX4_readStep_118 kk_199 rfl (rf_4_5 kk_199) ?_
    refine J_ild1 dX4_readStep_121 ?_
    refine J_ald0 dX4_readStep_122 ?_
    refine J_getr (q := 204) fl_RX4_29 dX4_readStep_123 kk_199 rfl (rf_4_0 kk_199) ?_
    refine J_iconst (v := 0) dX4_readStep_126 rfl ?_
    refine J_ldc dX4_readStep_127 wd_34 ?_
    refine J_cVI (jX8_number l cx n 204 kk_204 (0 : Int32) (99999 : Int32) M2) ck_RX4_78 dX4_readStep_129 rfl kk_204 ⟨rfl, rfl, by decide, by decide⟩ ⟨Nat.zero_le _, Nat.zero_le _, Nat.le_of_ble_eq_true rfl⟩ (fun r3 M4 => ?_)
    refine J_iast dX4_readStep_132 kk_203 rfl ?_
    exact J_vret dX4_readStep_133 rfl ⟨rfl, rfl, rfl⟩
set_option maxRecDepth 100000 in
theorem jX4_readStep_c70 {l : Launch} {cx : CX} {n : Nat} {v1 : Int32} {v2 : Int32} {M : Mem} : JO l cx ({ frames := 7, cells := 0, slots := 0, locals := 229 } : Room) yX4_readStep cX4_readStep 3 none 0 0 false 0 207 EV GS 0 0 70 [some (.ref 199), some (.int v1), some (.int v2)] [] M (mX4_readStep_c70 n v1 v2 M) := by
  unfold mX4_readStep_c70
  refine J_getFOL rfl wd_33 dX4_readStep_70 ?_
  refine J_ild2 dX4_readStep_73 ?_
  refine J_FOLald dX4_readStep_74 ?_
  refine J_iconst (v := 2) dX4_readStep_75 rfl ?_
  refine J_iand dX4_readStep_76 ?_
  refine J_if_eq 100 dX4_readStep_77 rfl ?_ ?_
  · exact J_wk (wk_s (wk_s (wk_s wk_0))) (jX4_readStep_c100 (n := n))
  · refine J_ald0 dX4_readStep_80 ?_
    refine J_getr (q := 204) fl_RX4_29 dX4_readStep_81 kk_199 rfl (rf_4_0 kk_199) ?_
    refine J_cVV (jX8_blank l cx n 204 kk_204 M) ck_RX4_68 dX4_readStep_84 rfl kk_204 ⟨rfl, rfl, by decide, by decide⟩ ⟨Nat.zero_le _, Nat.zero_le _, Nat.le_of_ble_eq_true rfl⟩ (fun M6 => ?_)
    refine J_ald0 dX4_readStep_87 ?_
    refine J_getr (q := 202) fl_RX4_18 dX4_readStep_88 kk_199 rfl (rf_4_4 kk_199) ?_
    refine J_ild1 dX4_readStep_91 ?_
    refine J_ald0 dX4_readStep_92 ?_
    refine J_getr (q := 204) fl_RX4_29 dX4_readStep_93 kk_199 rfl (rf_4_0 kk_199) ?_
    refine J_cVI (jX8_planLetter l cx n 204 kk_204 M6) ck_RX4_74 dX4_readStep_96 rfl kk_204 ⟨rfl, rfl, by decide, by decide⟩ ⟨Nat.zero_le _, Nat.zero_le _, Nat.le_of_ble_eq_true rfl⟩ (fun r7 M8 => ?_)
    refine J_iast dX4_readStep_99 kk_202 rfl ?_
    exact J_wk (wk_s (wk_s (wk_s wk_0))) (jX4_readStep_c100 (n := n))
set_option maxRecDepth 100000 in
theorem jX4_readStep (l : Launch) (cx : CX) (n : Nat) (a : Int32) (M : Mem) : Con l cx ({ frames := 7, cells := 0, slots := 0, locals := 229 } : Room) yX4_readStep cX4_readStep 3 none 0 0 false 0 207 EV GS [.ref 199, .int a] M (mX4_readStep n a M) := by
  unfold mX4_readStep
  refine Con.of (ls := [some (.ref 199), some (.int a), none]) (by decide) rfl (Nat.le_of_ble_eq_true rfl) ?_
  refine J_ald0 dX4_readStep_0 ?_
  refine J_getr (q := 204) fl_RX4_29 dX4_readStep_1 kk_199 rfl (rf_4_0 kk_199) ?_
  refine J_ldcS (i := 2) dX4_readStep_4 (by decide) rfl rfl ?_
  refine J_cVI (jX8_word l cx n 204 kk_204 2 (by decide) M) ck_RX4_61 dX4_readStep_6 rfl kk_204 ⟨rfl, rfl, by decide, by decide⟩ ⟨Nat.zero_le _, Nat.zero_le _, Nat.le_of_ble_eq_true rfl⟩ (fun r9 M10 => ?_)
  refine J_ist2 dX4_readStep_9 (by decide) rfl ?_
  refine J_ild2 dX4_readStep_10 ?_
  refine J_if_lt 32 dX4_readStep_11 rfl ?_ ?_
  · exact J_vret dX4_readStep_32 rfl ⟨rfl, rfl, rfl⟩
  · refine J_ild2 dX4_readStep_14 ?_
    refine J_getFOL rfl wd_33 dX4_readStep_15 ?_
    refine J_FOLlen dX4_readStep_18 ?_
    refine J_ic_ge 32 dX4_readStep_19 rfl ?_ ?_
    · exact J_vret dX4_readStep_32 rfl ⟨rfl, rfl, rfl⟩
    · refine J_ild1 dX4_readStep_22 ?_
      refine J_if_lt 32 dX4_readStep_23 rfl ?_ ?_
      · exact J_vret dX4_readStep_32 rfl ⟨rfl, rfl, rfl⟩
      · refine J_ild1 dX4_readStep_26 ?_
        refine J_bipush (v := 24) dX4_readStep_27 rfl ?_
        refine J_ic_lt 33 dX4_readStep_29 rfl ?_ ?_
        · refine J_ald0 dX4_readStep_33 ?_
          refine J_getr (q := 200) fl_RX4_11 dX4_readStep_34 kk_199 rfl (rf_4_2 kk_199) ?_
          refine J_ild1 dX4_readStep_37 ?_
          refine J_ild2 dX4_readStep_38 ?_
          refine J_iast dX4_readStep_39 kk_200 rfl ?_
          refine J_getFOL rfl wd_33 dX4_readStep_40 ?_
          refine J_ild2 dX4_readStep_43 ?_
          refine J_FOLald dX4_readStep_44 ?_
          refine J_iconst (v := 1) dX4_readStep_45 rfl ?_
          refine J_iand dX4_readStep_46 ?_
          refine J_if_eq 70 dX4_readStep_47 rfl ?_ ?_
          · exact J_wk (wk_s (wk_s (wk_s wk_0))) (jX4_readStep_c70 (n := n))
          · refine J_ald0 dX4_readStep_50 ?_
            refine J_getr (q := 204) fl_RX4_29 dX4_readStep_51 kk_199 rfl (rf_4_0 kk_199) ?_
            refine J_cVV (jX8_blank l cx n 204 kk_204 (upd2 M10 200 (Int32.toNatClampNeg a) r9)) ck_RX4_68 dX4_readStep_54 rfl kk_204 ⟨rfl, rfl, by decide, by decide⟩ ⟨Nat.zero_le _, Nat.zero_le _, Nat.le_of_ble_eq_true rfl⟩ (fun M12 => ?_)
            refine J_ald0 dX4_readStep_57 ?_
            refine J_getr (q := 201) fl_RX4_15 dX4_readStep_58 kk_199 rfl (rf_4_3 kk_199) ?_
            refine J_ild1 dX4_readStep_61 ?_
            refine J_ald0 dX4_readStep_62 ?_
            refine J_getr (q := 204) fl_RX4_29 dX4_readStep_63 kk_199 rfl (rf_4_0 kk_199) ?_
            refine J_cVI (jX8_accountDigit l cx n 204 kk_204 M12) ck_RX4_71 dX4_readStep_66 rfl kk_204 ⟨rfl, rfl, by decide, by decide⟩ ⟨Nat.zero_le _, Nat.zero_le _, Nat.le_of_ble_eq_true rfl⟩ (fun r13 M14 => ?_)
            refine J_iast dX4_readStep_69 kk_201 rfl ?_
            exact J_wk (wk_s (wk_s (wk_s wk_0))) (jX4_readStep_c70 (n := n))
        · exact J_vret dX4_readStep_32 rfl ⟨rfl, rfl, rfl⟩
set_option maxRecDepth 100000 in
theorem jX4_read_c17 {l : Launch} {cx : CX} {n : Nat} : ∀ (f : Nat) {v2 : Int32} {v3 : Int32} {M : Mem}, JO l cx ({ frames := 8, cells := 0, slots := 0, locals := 251 } : Room) yX4_read cX4_read 4 (some .int) 0 0 false 0 207 EI GS 0 0 17 [some (.ref 199), none, some (.int v2), some (.int v3)] [] M (mX4_read_c17 n f v2 v3 M) := by
  intro f
  induction f with
  | zero =>
    intros
    exact J_none
  | succ f ih =>
    intro v2 v3 M
    unfold mX4_read_c17
    refine J_ild3 dX4_read_17 ?_
    refine J_bipush (v := 24) dX4_read_18 rfl ?_
    refine J_ic_gt 80 dX4_read_20 rfl ?_ ?_
    · refine J_ald0 dX4_read_80 ?_
      refine J_getr (q := 204) fl_RX4_29 dX4_read_81 kk_199 rfl (rf_4_0 kk_199) ?_
      refine J_cVP (jX8_faultAnswer l cx n 204 kk_204 M) ck_RX4_55 dX4_read_84 rfl kk_204 ⟨rfl, rfl, by decide, by decide⟩ ⟨Nat.zero_le _, Nat.zero_le _, Nat.le_of_ble_eq_true rfl⟩ (fun r1 => ?_)
      exact J_iret dX4_read_87 rfl ⟨rfl, rfl, rfl⟩
    · refine J_ild2 dX4_read_23 ?_
      refine J_if_eq 80 dX4_read_24 rfl ?_ ?_
      · refine J_ald0 dX4_read_80 ?_
        refine J_getr (q := 204) fl_RX4_29 dX4_read_81 kk_199 rfl (rf_4_0 kk_199) ?_
        refine J_cVP (jX8_faultAnswer l cx n 204 kk_204 M) ck_RX4_55 dX4_read_84 rfl kk_204 ⟨rfl, rfl, by decide, by decide⟩ ⟨Nat.zero_le _, Nat.zero_le _, Nat.le_of_ble_eq_true rfl⟩ (fun r2 => ?_)
        exact J_iret dX4_read_87 rfl ⟨rfl, rfl, rfl⟩
      · refine J_ild3 dX4_read_27 ?_
        refine J_bipush (v := 24) dX4_read_28 rfl ?_
        refine J_ic_ne 51 dX4_read_30 rfl ?_ ?_
        · refine J_ald0 dX4_read_51 ?_
          refine J_ild3 dX4_read_52 ?_
          refine J_cVV (jX4_readStep l cx n v3 M) ck_RX4_48 dX4_read_53 rfl kk_199 ⟨rfl, rfl, by decide, by decide⟩ ⟨Nat.zero_le _, Nat.zero_le _, Nat.le_of_ble_eq_true rfl⟩ (fun M4 => ?_)
          refine J_ald0 dX4_read_56 ?_
          refine J_dup_r dX4_read_57 ?_
          refine J_geti fl_RX4_37 dX4_read_58 kk_199 rfl ?_
          refine J_iconst (v := 1) dX4_read_61 rfl ?_
          refine J_iadd dX4_read_62 ?_
          refine J_puti fl_RX4_37 dX4_read_63 kk_199 rfl (by decide) ?_
          refine J_ald0 dX4_read_66 ?_
          refine J_getr (q := 204) fl_RX4_29 dX4_read_67 kk_199 rfl (rf_4_0 kk_199) ?_
          refine J_cVZ (jX8_goesOn l cx n 204 kk_204 (upd2 M4 199 1 ((M4 199 1) + (1 : Int32)))) ck_RX4_51 dX4_read_70 rfl kk_204 ⟨rfl, rfl, by decide, by decide⟩ ⟨Nat.zero_le _, Nat.zero_le _, Nat.le_of_ble_eq_true rfl⟩ (fun r5 M6 z7 => ?_)
          refine J_ist2 dX4_read_73 (by decide) rfl ?_
          refine J_iinc3 (w := (v3 + (1 : Int32))) dX4_read_74 (by decide) rfl rfl ?_
          refine J_goto 17 dX4_read_77 rfl ?_
          exact J_wk (wk_s (wk_n (wk_s (wk_s wk_0)))) (ih)
        · refine J_ald0 dX4_read_33 ?_
          refine J_getr (q := 204) fl_RX4_29 dX4_read_34 kk_199 rfl (rf_4_0 kk_199) ?_
          refine J_iconst (v := 4) dX4_read_37 rfl ?_
          refine J_ald0 dX4_read_38 ?_
          refine J_getr (q := 204) fl_RX4_29 dX4_read_39 kk_199 rfl (rf_4_0 kk_199) ?_
          refine J_geti fl_RX4_41 dX4_read_42 kk_204 rfl ?_
          refine J_cVV (jX8_mark l cx n 204 kk_204 (4 : Int32) (M 204 2) M) ck_RX4_44 dX4_read_45 rfl kk_204 ⟨rfl, rfl, by decide, by decide⟩ ⟨Nat.zero_le _, Nat.zero_le _, Nat.le_of_ble_eq_true rfl⟩ (fun M9 => ?_)
          refine J_goto 66 dX4_read_48 rfl ?_
          refine J_ald0 dX4_read_66 ?_
          refine J_getr (q := 204) fl_RX4_29 dX4_read_67 kk_199 rfl (rf_4_0 kk_199) ?_
          refine J_cVZ (jX8_goesOn l cx n 204 kk_204 M9) ck_RX4_51 dX4_read_70 rfl kk_204 ⟨rfl, rfl, by decide, by decide⟩ ⟨Nat.zero_le _, Nat.zero_le _, Nat.le_of_ble_eq_true rfl⟩ (fun r10 M11 z12 => ?_)
          refine J_ist2 dX4_read_73 (by decide) rfl ?_
          refine J_iinc3 (w := (v3 + (1 : Int32))) dX4_read_74 (by decide) rfl rfl ?_
          refine J_goto 17 dX4_read_77 rfl ?_
          exact J_wk (wk_s (wk_n (wk_s (wk_s wk_0)))) (ih)
set_option maxRecDepth 100000 in
theorem jX4_read (l : Launch) (cx : CX) (n : Nat) (a : Int32) (M : Mem) : Con l cx ({ frames := 8, cells := 0, slots := 0, locals := 251 } : Room) yX4_read cX4_read 4 (some .int) 0 0 false 0 207 EI GS [.ref 199, .int a] M (mX4_read n a M) := by
  unfold mX4_read
  refine Con.of (ls := [some (.ref 199), some (.int a), none, none]) (by decide) rfl (Nat.le_of_ble_eq_true rfl) ?_
  refine J_ald0 dX4_read_0 ?_
  refine J_getr (q := 204) fl_RX4_29 dX4_read_1 kk_199 rfl (rf_4_0 kk_199) ?_
  refine J_ild1 dX4_read_4 ?_
  refine J_cVV (jX8_start l cx n 204 kk_204 a M) ck_RX4_33 dX4_read_5 rfl kk_204 ⟨rfl, rfl, by decide, by decide⟩ ⟨Nat.zero_le _, Nat.zero_le _, Nat.le_of_ble_eq_true rfl⟩ (fun M14 => ?_)
  refine J_ald0 dX4_read_8 ?_
  refine J_iconst (v := 0) dX4_read_9 rfl ?_
  refine J_puti fl_RX4_37 dX4_read_10 kk_199 rfl (by decide) ?_
  refine J_iconst (v := 1) dX4_read_13 rfl ?_
  refine J_ist2 dX4_read_14 (by decide) rfl ?_
  refine J_iconst (v := 0) dX4_read_15 rfl ?_
  refine J_ist3 dX4_read_16 (by decide) rfl ?_
  exact J_wk (wk_s (wk_n (wk_s (wk_s wk_0)))) (jX4_read_c17 (n := n) n)
set_option maxRecDepth 100000 in
theorem jX4_isDone (l : Launch) (cx : CX) (n : Nat) (a : Int32) (b : Nat) (hb : IsK GS 0 207 b 1) (M : Mem) : Con l cx ({ frames := 6, cells := 0, slots := 0, locals := 136 } : Room) yX4_isDone cX4_isDone 5 (some .boolean) 0 0 false 0 207 EZ GS [.ref 199, .int a, .ref b] M (mX4_isDone n a b M) := by
  unfold mX4_isDone
  refine Con.of (ls := [some (.ref 199), some (.int a), some (.ref b), none, none]) (by decide) rfl (Nat.le_of_ble_eq_true rfl) ?_
  refine J_ild1 dX4_isDone_0 ?_
  refine J_if_lt 18 dX4_isDone_1 rfl ?_ ?_
  · refine J_iconst (v := 0) dX4_isDone_18 rfl ?_
    exact J_zret dX4_isDone_19 rfl (Or.inl rfl) ⟨rfl, rfl, rfl, (Or.inl rfl)⟩
  · refine J_ild1 dX4_isDone_4 ?_
    refine J_ald0 dX4_isDone_5 ?_
    refine J_geti fl_RX4_37 dX4_isDone_6 kk_199 rfl ?_
    refine J_ic_ge 18 dX4_isDone_9 rfl ?_ ?_
    · refine J_iconst (v := 0) dX4_isDone_18 rfl ?_
      exact J_zret dX4_isDone_19 rfl (Or.inl rfl) ⟨rfl, rfl, rfl, (Or.inl rfl)⟩
    · refine J_ild1 dX4_isDone_12 ?_
      refine J_bipush (v := 24) dX4_isDone_13 rfl ?_
      refine J_ic_lt 20 dX4_isDone_15 rfl ?_ ?_
      · refine J_ald0 dX4_isDone_20 ?_
        refine J_getr (q := 201) fl_RX4_15 dX4_isDone_21 kk_199 rfl (rf_4_3 kk_199) ?_
        refine J_ild1 dX4_isDone_24 ?_
        refine J_iald dX4_isDone_25 kk_201 rfl ?_
        refine J_ist3 dX4_isDone_26 (by decide) rfl ?_
        refine J_ald0 dX4_isDone_27 ?_
        refine J_getr (q := 203) fl_RX4_21 dX4_isDone_28 kk_199 rfl (rf_4_5 kk_199) ?_
        refine J_ild1 dX4_isDone_31 ?_
        refine J_iald dX4_isDone_32 kk_203 rfl ?_
        refine J_ist4 dX4_isDone_33 (by decide) rfl ?_
        refine J_ald0 dX4_isDone_35 ?_
        refine J_getr (q := 200) fl_RX4_11 dX4_isDone_36 kk_199 rfl (rf_4_2 kk_199) ?_
        refine J_ild1 dX4_isDone_39 ?_
        refine J_iald dX4_isDone_40 kk_200 rfl ?_
        refine J_swIn (v := 0) 104 dX4_isDone_41 (by decide) (by decide) rfl rfl ?_ (fun w3 => ?_)
        · refine J_ald2 dX4_isDone_104 ?_
          refine J_ild3 dX4_isDone_105 ?_
          refine J_ald0 dX4_isDone_106 ?_
          refine J_getr (q := 202) fl_RX4_18 dX4_isDone_107 kk_199 rfl (rf_4_4 kk_199) ?_
          refine J_ild1 dX4_isDone_110 ?_
          refine J_iald dX4_isDone_111 kk_202 rfl ?_
          refine J_ild4 dX4_isDone_112 ?_
          refine J_cVI (jX1_startAccount l cx n b hb (M 201 (Int32.toNatClampNeg a)) (M 202 (Int32.toNatClampNeg a)) (M 203 (Int32.toNatClampNeg a)) M) ck_RX4_82 dX4_isDone_114 rfl hb ⟨rfl, rfl, by decide, by decide⟩ ⟨Nat.zero_le _, Nat.zero_le _, Nat.le_of_ble_eq_true rfl⟩ (fun r1 M2 => ?_)
          refine J_if_lt 124 dX4_isDone_117 rfl ?_ ?_
          · refine J_iconst (v := 0) dX4_isDone_124 rfl ?_
            exact J_zret dX4_isDone_125 rfl (Or.inl rfl) ⟨rfl, rfl, rfl, (Or.inl rfl)⟩
          · refine J_iconst (v := 1) dX4_isDone_120 rfl ?_
            refine J_goto 125 dX4_isDone_121 rfl ?_
            exact J_zret dX4_isDone_125 rfl (Or.inr rfl) ⟨rfl, rfl, rfl, (Or.inr rfl)⟩
        refine J_swIn (v := 1) 126 dX4_isDone_41 (by decide) (by decide) rfl rfl ?_ (fun w6 => ?_)
        · refine J_ald2 dX4_isDone_126 ?_
          refine J_ild3 dX4_isDone_127 ?_
          refine J_ald0 dX4_isDone_128 ?_
          refine J_getr (q := 202) fl_RX4_18 dX4_isDone_129 kk_199 rfl (rf_4_4 kk_199) ?_
          refine J_ild1 dX4_isDone_132 ?_
          refine J_iald dX4_isDone_133 kk_202 rfl ?_
          refine J_cVI (jX1_putPlan l cx n b hb (M 201 (Int32.toNatClampNeg a)) (M 202 (Int32.toNatClampNeg a)) M) ck_RX4_88 dX4_isDone_134 rfl hb ⟨rfl, rfl, by decide, by decide⟩ ⟨Nat.zero_le _, Nat.zero_le _, Nat.le_of_ble_eq_true rfl⟩ (fun r4 M5 => ?_)
          refine J_ldc dX4_isDone_137 wd_35 ?_
          refine J_ic_le 146 dX4_isDone_139 rfl ?_ ?_
          · refine J_iconst (v := 0) dX4_isDone_146 rfl ?_
            exact J_zret dX4_isDone_147 rfl (Or.inl rfl) ⟨rfl, rfl, rfl, (Or.inl rfl)⟩
          · refine J_iconst (v := 1) dX4_isDone_142 rfl ?_
            refine J_goto 147 dX4_isDone_143 rfl ?_
            exact J_zret dX4_isDone_147 rfl (Or.inr rfl) ⟨rfl, rfl, rfl, (Or.inr rfl)⟩
        refine J_swIn (v := 2) 148 dX4_isDone_41 (by decide) (by decide) rfl rfl ?_ (fun w9 => ?_)
        · refine J_ald2 dX4_isDone_148 ?_
          refine J_ild3 dX4_isDone_149 ?_
          refine J_ild4 dX4_isDone_150 ?_
          refine J_cVI (jX1_putSeats l cx n b hb (M 201 (Int32.toNatClampNeg a)) (M 203 (Int32.toNatClampNeg a)) M) ck_RX4_92 dX4_isDone_152 rfl hb ⟨rfl, rfl, by decide, by decide⟩ ⟨Nat.zero_le _, Nat.zero_le _, Nat.le_of_ble_eq_true rfl⟩ (fun r7 M8 => ?_)
          refine J_ldc dX4_isDone_155 wd_35 ?_
          refine J_ic_le 164 dX4_isDone_157 rfl ?_ ?_
          · refine J_iconst (v := 0) dX4_isDone_164 rfl ?_
            exact J_zret dX4_isDone_165 rfl (Or.inl rfl) ⟨rfl, rfl, rfl, (Or.inl rfl)⟩
          · refine J_iconst (v := 1) dX4_isDone_160 rfl ?_
            refine J_goto 165 dX4_isDone_161 rfl ?_
            exact J_zret dX4_isDone_165 rfl (Or.inr rfl) ⟨rfl, rfl, rfl, (Or.inr rfl)⟩
        refine J_swIn (v := 3) 166 dX4_isDone_41 (by decide) (by decide) rfl rfl ?_ (fun w12 => ?_)
        · refine J_ald2 dX4_isDone_166 ?_
          refine J_ild3 dX4_isDone_167 ?_
          refine J_iconst (v := 1) dX4_isDone_168 rfl ?_
          refine J_cVI (jX1_putPaused l cx n b hb (M 201 (Int32.toNatClampNeg a)) (1 : Int32) (Or.inr rfl) M) ck_RX4_95 dX4_isDone_169 rfl hb ⟨rfl, rfl, by decide, by decide⟩ ⟨Nat.zero_le _, Nat.zero_le _, Nat.le_of_ble_eq_true rfl⟩ (fun r10 M11 => ?_)
          refine J_ldc dX4_isDone_172 wd_35 ?_
          refine J_ic_le 181 dX4_isDone_174 rfl ?_ ?_
          · refine J_iconst (v := 0) dX4_isDone_181 rfl ?_
            exact J_zret dX4_isDone_182 rfl (Or.inl rfl) ⟨rfl, rfl, rfl, (Or.inl rfl)⟩
          · refine J_iconst (v := 1) dX4_isDone_177 rfl ?_
            refine J_goto 182 dX4_isDone_178 rfl ?_
            exact J_zret dX4_isDone_182 rfl (Or.inr rfl) ⟨rfl, rfl, rfl, (Or.inr rfl)⟩
        refine J_swIn (v := 4) 183 dX4_isDone_41 (by decide) (by decide) rfl rfl ?_ (fun w15 => ?_)
        · refine J_ald2 dX4_isDone_183 ?_
          refine J_ild3 dX4_isDone_184 ?_
          refine J_iconst (v := 0) dX4_isDone_185 rfl ?_
          refine J_cVI (jX1_putPaused l cx n b hb (M 201 (Int32.toNatClampNeg a)) (0 : Int32) (Or.inl rfl) M) ck_RX4_95 dX4_isDone_186 rfl hb ⟨rfl, rfl, by decide, by decide⟩ ⟨Nat.zero_le _, Nat.zero_le _, Nat.le_of_ble_eq_true rfl⟩ (fun r13 M14 => ?_)
          refine J_ldc dX4_isDone_189 wd_35 ?_
          refine J_ic_le 198 dX4_isDone_191 rfl ?_ ?_
          · refine J_iconst (v := 0) dX4_isDone_198 rfl ?_
            exact J_zret dX4_isDone_199 rfl (Or.inl rfl) ⟨rfl, rfl, rfl, (Or.inl rfl)⟩
          · refine J_iconst (v := 1) dX4_isDone_194 rfl ?_
            refine J_goto 199 dX4_isDone_195 rfl ?_
            exact J_zret dX4_isDone_199 rfl (Or.inr rfl) ⟨rfl, rfl, rfl, (Or.inr rfl)⟩
        refine J_swIn (v := 5) 200 dX4_isDone_41 (by decide) (by decide) rfl rfl ?_ (fun w18 => ?_)
        · refine J_ald2 dX4_isDone_200 ?_
          refine J_ild3 dX4_isDone_201 ?_
          refine J_cVI (jX1_endAccount l cx n b hb (M 201 (Int32.toNatClampNeg a)) M) ck_RX4_99 dX4_isDone_202 rfl hb ⟨rfl, rfl, by decide, by decide⟩ ⟨Nat.zero_le _, Nat.zero_le _, Nat.le_of_ble_eq_true rfl⟩ (fun r16 M17 => ?_)
          refine J_ldc dX4_isDone_205 wd_35 ?_
          refine J_ic_le 214 dX4_isDone_207 rfl ?_ ?_
          · refine J_iconst (v := 0) dX4_isDone_214 rfl ?_
            exact J_zret dX4_isDone_215 rfl (Or.inl rfl) ⟨rfl, rfl, rfl, (Or.inl rfl)⟩
          · refine J_iconst (v := 1) dX4_isDone_210 rfl ?_
            refine J_goto 215 dX4_isDone_211 rfl ?_
            exact J_zret dX4_isDone_215 rfl (Or.inr rfl) ⟨rfl, rfl, rfl, (Or.inr rfl)⟩
        refine J_swIn (v := 6) 216 dX4_isDone_41 (by decide) (by decide) rfl rfl ?_ (fun w21 => ?_)
        · refine J_ald2 dX4_isDone_216 ?_
          refine J_ild3 dX4_isDone_217 ?_
          refine J_ild4 dX4_isDone_218 ?_
          refine J_cVI (jX1_addUnits l cx n b hb (M 201 (Int32.toNatClampNeg a)) (M 203 (Int32.toNatClampNeg a)) M) ck_RX4_103 dX4_isDone_220 rfl hb ⟨rfl, rfl, by decide, by decide⟩ ⟨Nat.zero_le _, Nat.zero_le _, Nat.le_of_ble_eq_true rfl⟩ (fun r19 M20 => ?_)
          refine J_if_lt 230 dX4_isDone_223 rfl ?_ ?_
          · refine J_iconst (v := 0) dX4_isDone_230 rfl ?_
            exact J_zret dX4_isDone_231 rfl (Or.inl rfl) ⟨rfl, rfl, rfl, (Or.inl rfl)⟩
          · refine J_iconst (v := 1) dX4_isDone_226 rfl ?_
            refine J_goto 231 dX4_isDone_227 rfl ?_
            exact J_zret dX4_isDone_231 rfl (Or.inr rfl) ⟨rfl, rfl, rfl, (Or.inr rfl)⟩
        refine J_swIn (v := 7) 232 dX4_isDone_41 (by decide) (by decide) rfl rfl ?_ (fun w24 => ?_)
        · refine J_ald2 dX4_isDone_232 ?_
          refine J_ild4 dX4_isDone_233 ?_
          refine J_cVI (jX1_passDays l cx n b hb (M 203 (Int32.toNatClampNeg a)) M) ck_RX4_106 dX4_isDone_235 rfl hb ⟨rfl, rfl, by decide, by decide⟩ ⟨Nat.zero_le _, Nat.zero_le _, Nat.le_of_ble_eq_true rfl⟩ (fun r22 M23 => ?_)
          refine J_if_lt 245 dX4_isDone_238 rfl ?_ ?_
          · refine J_iconst (v := 0) dX4_isDone_245 rfl ?_
            exact J_zret dX4_isDone_246 rfl (Or.inl rfl) ⟨rfl, rfl, rfl, (Or.inl rfl)⟩
          · refine J_iconst (v := 1) dX4_isDone_241 rfl ?_
            refine J_goto 246 dX4_isDone_242 rfl ?_
            exact J_zret dX4_isDone_246 rfl (Or.inr rfl) ⟨rfl, rfl, rfl, (Or.inr rfl)⟩
        refine J_swIn (v := 8) 247 dX4_isDone_41 (by decide) (by decide) rfl rfl ?_ (fun w27 => ?_)
        · refine J_ald2 dX4_isDone_247 ?_
          refine J_ild3 dX4_isDone_248 ?_
          refine J_ild4 dX4_isDone_249 ?_
          refine J_cVI (jX1_grantFavour l cx n b hb (M 201 (Int32.toNatClampNeg a)) (M 203 (Int32.toNatClampNeg a)) M) ck_RX4_109 dX4_isDone_251 rfl hb ⟨rfl, rfl, by decide, by decide⟩ ⟨Nat.zero_le _, Nat.zero_le _, Nat.le_of_ble_eq_true rfl⟩ (fun r25 M26 => ?_)
          refine J_ldc dX4_isDone_254 wd_35 ?_
          refine J_ic_le 263 dX4_isDone_256 rfl ?_ ?_
          · refine J_iconst (v := 0) dX4_isDone_263 rfl ?_
            exact J_zret dX4_isDone_264 rfl (Or.inl rfl) ⟨rfl, rfl, rfl, (Or.inl rfl)⟩
          · refine J_iconst (v := 1) dX4_isDone_259 rfl ?_
            refine J_goto 264 dX4_isDone_260 rfl ?_
            exact J_zret dX4_isDone_264 rfl (Or.inr rfl) ⟨rfl, rfl, rfl, (Or.inr rfl)⟩
        refine J_swIn (v := 9) 265 dX4_isDone_41 (by decide) (by decide) rfl rfl ?_ (fun w30 => ?_)
        · refine J_ald2 dX4_isDone_265 ?_
          refine J_ild3 dX4_isDone_266 ?_
          refine J_ild4 dX4_isDone_267 ?_
          refine J_cVI (jX1_takePayment l cx n b hb (M 201 (Int32.toNatClampNeg a)) (M 203 (Int32.toNatClampNeg a)) M) ck_RX4_112 dX4_isDone_269 rfl hb ⟨rfl, rfl, by decide, by decide⟩ ⟨Nat.zero_le _, Nat.zero_le _, Nat.le_of_ble_eq_true rfl⟩ (fun r28 M29 => ?_)
          refine J_if_lt 279 dX4_isDone_272 rfl ?_ ?_
          · refine J_iconst (v := 0) dX4_isDone_279 rfl ?_
            exact J_zret dX4_isDone_280 rfl (Or.inl rfl) ⟨rfl, rfl, rfl, (Or.inl rfl)⟩
          · refine J_iconst (v := 1) dX4_isDone_275 rfl ?_
            refine J_goto 280 dX4_isDone_276 rfl ?_
            exact J_zret dX4_isDone_280 rfl (Or.inr rfl) ⟨rfl, rfl, rfl, (Or.inr rfl)⟩
        refine J_swIn (v := 10) 281 dX4_isDone_41 (by decide) (by decide) rfl rfl ?_ (fun w33 => ?_)
        · refine J_ald2 dX4_isDone_281 ?_
          refine J_ild3 dX4_isDone_282 ?_
          refine J_cVI (jX1_writeReminder l cx n b hb (M 201 (Int32.toNatClampNeg a)) M) ck_RX4_115 dX4_isDone_283 rfl hb ⟨rfl, rfl, by decide, by decide⟩ ⟨Nat.zero_le _, Nat.zero_le _, Nat.le_of_ble_eq_true rfl⟩ (fun r31 M32 => ?_)
          refine J_if_lt 293 dX4_isDone_286 rfl ?_ ?_
          · refine J_iconst (v := 0) dX4_isDone_293 rfl ?_
            exact J_zret dX4_isDone_294 rfl (Or.inl rfl) ⟨rfl, rfl, rfl, (Or.inl rfl)⟩
          · refine J_iconst (v := 1) dX4_isDone_289 rfl ?_
            refine J_goto 294 dX4_isDone_290 rfl ?_
            exact J_zret dX4_isDone_294 rfl (Or.inr rfl) ⟨rfl, rfl, rfl, (Or.inr rfl)⟩
        refine J_swIn (v := 11) 295 dX4_isDone_41 (by decide) (by decide) rfl rfl ?_ (fun w36 => ?_)
        · refine J_ald2 dX4_isDone_295 ?_
          refine J_ild3 dX4_isDone_296 ?_
          refine J_ild4 dX4_isDone_297 ?_
          refine J_cVI (jX1_putAnchor l cx n b hb (M 201 (Int32.toNatClampNeg a)) (M 203 (Int32.toNatClampNeg a)) M) ck_RX4_118 dX4_isDone_299 rfl hb ⟨rfl, rfl, by decide, by decide⟩ ⟨Nat.zero_le _, Nat.zero_le _, Nat.le_of_ble_eq_true rfl⟩ (fun r34 M35 => ?_)
          refine J_ldc dX4_isDone_302 wd_35 ?_
          refine J_ic_le 311 dX4_isDone_304 rfl ?_ ?_
          · refine J_iconst (v := 0) dX4_isDone_311 rfl ?_
            exact J_zret dX4_isDone_312 rfl (Or.inl rfl) ⟨rfl, rfl, rfl, (Or.inl rfl)⟩
          · refine J_iconst (v := 1) dX4_isDone_307 rfl ?_
            refine J_goto 312 dX4_isDone_308 rfl ?_
            exact J_zret dX4_isDone_312 rfl (Or.inr rfl) ⟨rfl, rfl, rfl, (Or.inr rfl)⟩
        refine J_swOut 313 dX4_isDone_41 (sw_out 12 rfl (fun k hk => sw_c12 (P := fun k => ¬ (M 200 (Int32.toNatClampNeg a)) = Int32.ofInt (0 + (k : Int))) hk w3 w6 w9 w12 w15 w18 w21 w24 w27 w30 w33 w36)) rfl ?_
        refine J_ald2 dX4_isDone_313 ?_
        refine J_ild4 dX4_isDone_314 ?_
        refine J_cVI (jX1_turnRound l cx n b hb (M 203 (Int32.toNatClampNeg a)) M) ck_RX4_121 dX4_isDone_316 rfl hb ⟨rfl, rfl, by decide, by decide⟩ ⟨Nat.zero_le _, Nat.zero_le _, Nat.le_of_ble_eq_true rfl⟩ (fun r37 M38 => ?_)
        refine J_if_lt 326 dX4_isDone_319 rfl ?_ ?_
        · refine J_iconst (v := 0) dX4_isDone_326 rfl ?_
          exact J_zret dX4_isDone_327 rfl (Or.inl rfl) ⟨rfl, rfl, rfl, (Or.inl rfl)⟩
        · refine J_iconst (v := 1) dX4_isDone_322 rfl ?_
          refine J_goto 327 dX4_isDone_323 rfl ?_
          exact J_zret dX4_isDone_327 rfl (Or.inr rfl) ⟨rfl, rfl, rfl, (Or.inr rfl)⟩
      · refine J_iconst (v := 0) dX4_isDone_18 rfl ?_
        exact J_zret dX4_isDone_19 rfl (Or.inl rfl) ⟨rfl, rfl, rfl, (Or.inl rfl)⟩
set_option maxRecDepth 100000 in
theorem jX5_howManyOf_c4 {l : Launch} {cx : CX} {n : Nat} {M : Mem} : ∀ (f : Nat) {v0 : Nat} {v1 : Int32} {v2 : Int32} {v3 : Int32} (h0 : IsK GS 0 207 v0 5), JO l cx ({ frames := 1, cells := 0, slots := 0, locals := 22 } : Room) yX5_howManyOf cX5_howManyOf 4 (some .int) 0 0 false 0 207 (EP M) GS 0 0 4 [some (.ref v0), some (.int v1), some (.int v2), some (.int v3)] [] M (mX5_howManyOf_c4 n f v0 v1 v2 v3 M) := by
  intro f
  induction f with
  | zero =>
    intros
    exact J_none
  | succ f ih =>
    intro v0 v1 v2 v3 h0
    unfold mX5_howManyOf_c4
    refine J_ild3 dX5_howManyOf_4 ?_
    refine J_ald0 dX5_howManyOf_5 ?_
    refine J_geti fl_RX5_42 dX5_howManyOf_6 h0 rfl ?_
    refine J_ic_ge 30 dX5_howManyOf_9 rfl ?_ ?_
    · refine J_ild2 dX5_howManyOf_30 ?_
      exact J_iret dX5_howManyOf_31 rfl ⟨rfl, rfl, rfl⟩
    · refine J_ald0 dX5_howManyOf_12 ?_
      refine J_ild3 dX5_howManyOf_13 ?_
      refine J_ild1 dX5_howManyOf_14 ?_
      refine J_cVB (jX5_isOf l cx n v0 h0 v3 v1 M) ck_RX5_65 dX5_howManyOf_15 rfl h0 ⟨rfl, rfl, by decide, by decide⟩ ⟨Nat.zero_le _, Nat.zero_le _, Nat.le_of_ble_eq_true rfl⟩ (fun r1 z2 => ?_)
      refine J_if_eq 24 dX5_howManyOf_18 rfl ?_ ?_
      · refine J_iinc3 (w := (v3 + (1 : Int32))) dX5_howManyOf_24 (by decide) rfl rfl ?_
        refine J_goto 4 dX5_howManyOf_27 rfl ?_
        exact J_wk (wk_s (wk_s (wk_s (wk_s wk_0)))) (ih h0)
      · refine J_iinc2 (w := (v2 + (1 : Int32))) dX5_howManyOf_21 (by decide) rfl rfl ?_
        refine J_iinc3 (w := (v3 + (1 : Int32))) dX5_howManyOf_24 (by decide) rfl rfl ?_
        refine J_goto 4 dX5_howManyOf_27 rfl ?_
        exact J_wk (wk_s (wk_s (wk_s (wk_s wk_0)))) (ih h0)
set_option maxRecDepth 100000 in
theorem jX5_howManyOf (l : Launch) (cx : CX) (n : Nat) (o : Nat) (ho : IsK GS 0 207 o 5) (a : Int32) (M : Mem) : Con l cx ({ frames := 1, cells := 0, slots := 0, locals := 22 } : Room) yX5_howManyOf cX5_howManyOf 4 (some .int) 0 0 false 0 207 (EP M) GS [.ref o, .int a] M (mX5_howManyOf n o a M) := by
  unfold mX5_howManyOf
  refine Con.of (ls := [some (.ref o), some (.int a), none, none]) (by decide) rfl (Nat.le_of_ble_eq_true rfl) ?_
  refine J_iconst (v := 0) dX5_howManyOf_0 rfl ?_
  refine J_ist2 dX5_howManyOf_1 (by decide) rfl ?_
  refine J_iconst (v := 0) dX5_howManyOf_2 rfl ?_
  refine J_ist3 dX5_howManyOf_3 (by decide) rfl ?_
  exact J_wk (wk_s (wk_s (wk_s (wk_s wk_0)))) (jX5_howManyOf_c4 (n := n) n ho)
set_option maxRecDepth 100000 in
theorem jX5_sumOfKind_c5 {l : Launch} {cx : CX} {n : Nat} {M : Mem} : ∀ (f : Nat) {v0 : Nat} {v1 : Int32} {v2 : Int32} {v3 : Int32} {v4 : Int32} (h0 : IsK GS 0 207 v0 5), JO l cx ({ frames := 1, cells := 0, slots := 0, locals := 22 } : Room) yX5_sumOfKind cX5_sumOfKind 5 (some .int) 0 0 false 0 207 (EP M) GS 0 0 5 [some (.ref v0), some (.int v1), some (.int v2), some (.int v3), some (.int v4)] [] M (mX5_sumOfKind_c5 n f v0 v1 v2 v3 v4 M) := by
  intro f
  induction f with
  | zero =>
    intros
    exact J_none
  | succ f ih =>
    intro v0 v1 v2 v3 v4 h0
    unfold mX5_sumOfKind_c5
    refine J_ild4 dX5_sumOfKind_5 ?_
    refine J_ald0 dX5_sumOfKind_7 ?_
    refine J_geti fl_RX5_42 dX5_sumOfKind_8 h0 rfl ?_
    refine J_ic_ge 51 dX5_sumOfKind_11 rfl ?_ ?_
    · refine J_ild3 dX5_sumOfKind_51 ?_
      exact J_iret dX5_sumOfKind_52 rfl ⟨rfl, rfl, rfl⟩
    · refine J_ald0 dX5_sumOfKind_14 ?_
      refine J_ild4 dX5_sumOfKind_15 ?_
      refine J_ild1 dX5_sumOfKind_17 ?_
      refine J_cVB (jX5_isOf l cx n v0 h0 v4 v1 M) ck_RX5_65 dX5_sumOfKind_18 rfl h0 ⟨rfl, rfl, by decide, by decide⟩ ⟨Nat.zero_le _, Nat.zero_le _, Nat.le_of_ble_eq_true rfl⟩ (fun r1 z2 => ?_)
      refine J_if_eq 45 dX5_sumOfKind_21 rfl ?_ ?_
      · refine J_iinc4 (w := (v4 + (1 : Int32))) dX5_sumOfKind_45 (by decide) rfl rfl ?_
        refine J_goto 5 dX5_sumOfKind_48 rfl ?_
        exact J_wk (wk_s (wk_s (wk_s (wk_s (wk_s wk_0))))) (ih h0)
      · refine J_ald0 dX5_sumOfKind_24 ?_
        refine J_getr (q := (v0 + 1)) fl_RX5_9 dX5_sumOfKind_25 h0 rfl (rf_5_1 h0) ?_
        refine J_ild4 dX5_sumOfKind_28 ?_
        refine J_iald dX5_sumOfKind_30 (kf_5_1 h0) (ln_5_1 h0) ?_
        refine J_ild2 dX5_sumOfKind_31 ?_
        refine J_ic_ne 45 dX5_sumOfKind_32 rfl ?_ ?_
        · refine J_iinc4 (w := (v4 + (1 : Int32))) dX5_sumOfKind_45 (by decide) rfl rfl ?_
          refine J_goto 5 dX5_sumOfKind_48 rfl ?_
          exact J_wk (wk_s (wk_s (wk_s (wk_s (wk_s wk_0))))) (ih h0)
        · refine J_ild3 dX5_sumOfKind_35 ?_
          refine J_ald0 dX5_sumOfKind_36 ?_
          refine J_getr (q := (v0 + 8)) fl_RX5_33 dX5_sumOfKind_37 h0 rfl (rf_5_8 h0) ?_
          refine J_ild4 dX5_sumOfKind_40 ?_
          refine J_iald dX5_sumOfKind_42 (kf_5_8 h0) (ln_5_8 h0) ?_
          refine J_iadd dX5_sumOfKind_43 ?_
          refine J_ist3 dX5_sumOfKind_44 (by decide) rfl ?_
          refine J_iinc4 (w := (v4 + (1 : Int32))) dX5_sumOfKind_45 (by decide) rfl rfl ?_
          refine J_goto 5 dX5_sumOfKind_48 rfl ?_
          exact J_wk (wk_s (wk_s (wk_s (wk_s (wk_s wk_0))))) (ih h0)
set_option maxRecDepth 100000 in
theorem jX5_sumOfKind (l : Launch) (cx : CX) (n : Nat) (o : Nat) (ho : IsK GS 0 207 o 5) (a : Int32) (b : Int32) (M : Mem) : Con l cx ({ frames := 1, cells := 0, slots := 0, locals := 22 } : Room) yX5_sumOfKind cX5_sumOfKind 5 (some .int) 0 0 false 0 207 (EP M) GS [.ref o, .int a, .int b] M (mX5_sumOfKind n o a b M) := by
  unfold mX5_sumOfKind
  refine Con.of (ls := [some (.ref o), some (.int a), some (.int b), none, none]) (by decide) rfl (Nat.le_of_ble_eq_true rfl) ?_
  refine J_iconst (v := 0) dX5_sumOfKind_0 rfl ?_
  refine J_ist3 dX5_sumOfKind_1 (by decide) rfl ?_
  refine J_iconst (v := 0) dX5_sumOfKind_2 rfl ?_
  refine J_ist4 dX5_sumOfKind_3 (by decide) rfl ?_
  exact J_wk (wk_s (wk_s (wk_s (wk_s (wk_s wk_0))))) (jX5_sumOfKind_c5 (n := n) n ho)
set_option maxRecDepth 100000 in
theorem jX5_sumOfPeriod_c5 {l : Launch} {cx : CX} {n : Nat} {M : Mem} : ∀ (f : Nat) {v0 : Nat} {v1 : Int32} {v2 : Int32} {v3 : Int32} {v4 : Int32} (h0 : IsK GS 0 207 v0 5), JO l cx ({ frames := 1, cells := 0, slots := 0, locals := 22 } : Room) yX5_sumOfPeriod cX5_sumOfPeriod 5 (some .int) 0 0 false 0 207 (EP M) GS 0 0 5 [some (.ref v0), some (.int v1), some (.int v2), some (.int v3), some (.int v4)] [] M (mX5_sumOfPeriod_c5 n f v0 v1 v2 v3 v4 M) := by
  intro f
  induction f with
  | zero =>
    intros
    exact J_none
  | succ f ih =>
    intro v0 v1 v2 v3 v4 h0
    unfold mX5_sumOfPeriod_c5
    refine J_ild4 dX5_sumOfPeriod_5 ?_
    refine J_ald0 dX5_sumOfPeriod_7 ?_
    refine J_geti fl_RX5_42 dX5_sumOfPeriod_8 h0 rfl ?_
    refine J_ic_ge 51 dX5_sumOfPeriod_11 rfl ?_ ?_
    · refine J_ild3 dX5_sumOfPeriod_51 ?_
      exact J_iret dX5_sumOfPeriod_52 rfl ⟨rfl, rfl, rfl⟩
    · refine J_ald0 dX5_sumOfPeriod_14 ?_
      refine J_ild4 dX5_sumOfPeriod_15 ?_
      refine J_ild1 dX5_sumOfPeriod_17 ?_
      refine J_cVB (jX5_isOf l cx n v0 h0 v4 v1 M) ck_RX5_65 dX5_sumOfPeriod_18 rfl h0 ⟨rfl, rfl, by decide, by decide⟩ ⟨Nat.zero_le _, Nat.zero_le _, Nat.le_of_ble_eq_true rfl⟩ (fun r1 z2 => ?_)
      refine J_if_eq 45 dX5_sumOfPeriod_21 rfl ?_ ?_
      · refine J_iinc4 (w := (v4 + (1 : Int32))) dX5_sumOfPeriod_45 (by decide) rfl rfl ?_
        refine J_goto 5 dX5_sumOfPeriod_48 rfl ?_
        exact J_wk (wk_s (wk_s (wk_s (wk_s (wk_s wk_0))))) (ih h0)
      · refine J_ald0 dX5_sumOfPeriod_24 ?_
        refine J_getr (q := (v0 + 4)) fl_RX5_21 dX5_sumOfPeriod_25 h0 rfl (rf_5_4 h0) ?_
        refine J_ild4 dX5_sumOfPeriod_28 ?_
        refine J_iald dX5_sumOfPeriod_30 (kf_5_4 h0) (ln_5_4 h0) ?_
        refine J_ild2 dX5_sumOfPeriod_31 ?_
        refine J_ic_ne 45 dX5_sumOfPeriod_32 rfl ?_ ?_
        · refine J_iinc4 (w := (v4 + (1 : Int32))) dX5_sumOfPeriod_45 (by decide) rfl rfl ?_
          refine J_goto 5 dX5_sumOfPeriod_48 rfl ?_
          exact J_wk (wk_s (wk_s (wk_s (wk_s (wk_s wk_0))))) (ih h0)
        · refine J_ild3 dX5_sumOfPeriod_35 ?_
          refine J_ald0 dX5_sumOfPeriod_36 ?_
          refine J_getr (q := (v0 + 8)) fl_RX5_33 dX5_sumOfPeriod_37 h0 rfl (rf_5_8 h0) ?_
          refine J_ild4 dX5_sumOfPeriod_40 ?_
          refine J_iald dX5_sumOfPeriod_42 (kf_5_8 h0) (ln_5_8 h0) ?_
          refine J_iadd dX5_sumOfPeriod_43 ?_
          refine J_ist3 dX5_sumOfPeriod_44 (by decide) rfl ?_
          refine J_iinc4 (w := (v4 + (1 : Int32))) dX5_sumOfPeriod_45 (by decide) rfl rfl ?_
          refine J_goto 5 dX5_sumOfPeriod_48 rfl ?_
          exact J_wk (wk_s (wk_s (wk_s (wk_s (wk_s wk_0))))) (ih h0)
set_option maxRecDepth 100000 in
theorem jX5_sumOfPeriod (l : Launch) (cx : CX) (n : Nat) (o : Nat) (ho : IsK GS 0 207 o 5) (a : Int32) (b : Int32) (M : Mem) : Con l cx ({ frames := 1, cells := 0, slots := 0, locals := 22 } : Room) yX5_sumOfPeriod cX5_sumOfPeriod 5 (some .int) 0 0 false 0 207 (EP M) GS [.ref o, .int a, .int b] M (mX5_sumOfPeriod n o a b M) := by
  unfold mX5_sumOfPeriod
  refine Con.of (ls := [some (.ref o), some (.int a), some (.int b), none, none]) (by decide) rfl (Nat.le_of_ble_eq_true rfl) ?_
  refine J_iconst (v := 0) dX5_sumOfPeriod_0 rfl ?_
  refine J_ist3 dX5_sumOfPeriod_1 (by decide) rfl ?_
  refine J_iconst (v := 0) dX5_sumOfPeriod_2 rfl ?_
  refine J_ist4 dX5_sumOfPeriod_3 (by decide) rfl ?_
  exact J_wk (wk_s (wk_s (wk_s (wk_s (wk_s wk_0))))) (jX5_sumOfPeriod_c5 (n := n) n ho)
set_option maxRecDepth 100000 in
theorem jX5_sumWritten_c5 {l : Launch} {cx : CX} {n : Nat} {M : Mem} : ∀ (f : Nat) {v0 : Nat} {v1 : Int32} {v2 : Int32} {v3 : Int32} {v4 : Int32} (h0 : IsK GS 0 207 v0 5), JO l cx ({ frames := 0, cells := 0, slots := 0, locals := 0 } : Room) yX5_sumWritten cX5_sumWritten 5 (some .int) 0 0 false 0 207 (EP M) GS 0 0 5 [some (.ref v0), some (.int v1), some (.int v2), some (.int v3), some (.int v4)] [] M (mX5_sumWritten_c5 n f v0 v1 v2 v3 v4 M) := by
  intro f
  induction f with
  | zero =>
    intros
    exact J_none
  | succ f ih =>
    intro v0 v1 v2 v3 v4 h0
    unfold mX5_sumWritten_c5
    refine J_ild4 dX5_sumWritten_5 ?_
    refine J_ald0 dX5_sumWritten_7 ?_
    refine J_geti fl_RX5_42 dX5_sumWritten_8 h0 rfl ?_
    refine J_ic_ge 60 dX5_sumWritten_11 rfl ?_ ?_
    · refine J_ild3 dX5_sumWritten_60 ?_
      exact J_iret dX5_sumWritten_61 rfl ⟨rfl, rfl, rfl⟩
    · refine J_ild4 dX5_sumWritten_14 ?_
      refine J_sipush (v := 400) dX5_sumWritten_16 rfl ?_
      refine J_ic_ge 60 dX5_sumWritten_19 rfl ?_ ?_
      · refine J_ild3 dX5_sumWritten_60 ?_
        exact J_iret dX5_sumWritten_61 rfl ⟨rfl, rfl, rfl⟩
      · refine J_ald0 dX5_sumWritten_22 ?_
        refine J_getr (q := (v0 + 3)) fl_RX5_18 dX5_sumWritten_23 h0 rfl (rf_5_3 h0) ?_
        refine J_ild4 dX5_sumWritten_26 ?_
        refine J_iald dX5_sumWritten_28 (kf_5_3 h0) (ln_5_3 h0) ?_
        refine J_ild1 dX5_sumWritten_29 ?_
        refine J_ic_lt 54 dX5_sumWritten_30 rfl ?_ ?_
        · refine J_iinc4 (w := (v4 + (1 : Int32))) dX5_sumWritten_54 (by decide) rfl rfl ?_
          refine J_goto 5 dX5_sumWritten_57 rfl ?_
          exact J_wk (wk_s (wk_s (wk_s (wk_s (wk_s wk_0))))) (ih h0)
        · refine J_ald0 dX5_sumWritten_33 ?_
          refine J_getr (q := (v0 + 3)) fl_RX5_18 dX5_sumWritten_34 h0 rfl (rf_5_3 h0) ?_
          refine J_ild4 dX5_sumWritten_37 ?_
          refine J_iald dX5_sumWritten_39 (kf_5_3 h0) (ln_5_3 h0) ?_
          refine J_ild2 dX5_sumWritten_40 ?_
          refine J_ic_gt 54 dX5_sumWritten_41 rfl ?_ ?_
          · refine J_iinc4 (w := (v4 + (1 : Int32))) dX5_sumWritten_54 (by decide) rfl rfl ?_
            refine J_goto 5 dX5_sumWritten_57 rfl ?_
            exact J_wk (wk_s (wk_s (wk_s (wk_s (wk_s wk_0))))) (ih h0)
          · refine J_ild3 dX5_sumWritten_44 ?_
            refine J_ald0 dX5_sumWritten_45 ?_
            refine J_getr (q := (v0 + 8)) fl_RX5_33 dX5_sumWritten_46 h0 rfl (rf_5_8 h0) ?_
            refine J_ild4 dX5_sumWritten_49 ?_
            refine J_iald dX5_sumWritten_51 (kf_5_8 h0) (ln_5_8 h0) ?_
            refine J_iadd dX5_sumWritten_52 ?_
            refine J_ist3 dX5_sumWritten_53 (by decide) rfl ?_
            refine J_iinc4 (w := (v4 + (1 : Int32))) dX5_sumWritten_54 (by decide) rfl rfl ?_
            refine J_goto 5 dX5_sumWritten_57 rfl ?_
            exact J_wk (wk_s (wk_s (wk_s (wk_s (wk_s wk_0))))) (ih h0)
set_option maxRecDepth 100000 in
theorem jX5_sumWritten (l : Launch) (cx : CX) (n : Nat) (o : Nat) (ho : IsK GS 0 207 o 5) (a : Int32) (b : Int32) (M : Mem) : Con l cx ({ frames := 0, cells := 0, slots := 0, locals := 0 } : Room) yX5_sumWritten cX5_sumWritten 5 (some .int) 0 0 false 0 207 (EP M) GS [.ref o, .int a, .int b] M (mX5_sumWritten n o a b M) := by
  unfold mX5_sumWritten
  refine Con.of (ls := [some (.ref o), some (.int a), some (.int b), none, none]) (by decide) rfl (Nat.le_of_ble_eq_true rfl) ?_
  refine J_iconst (v := 0) dX5_sumWritten_0 rfl ?_
  refine J_ist3 dX5_sumWritten_1 (by decide) rfl ?_
  refine J_iconst (v := 0) dX5_sumWritten_2 rfl ?_
  refine J_ist4 dX5_sumWritten_3 (by decide) rfl ?_
  exact J_wk (wk_s (wk_s (wk_s (wk_s (wk_s wk_0))))) (jX5_sumWritten_c5 (n := n) n ho)
set_option maxRecDepth 100000 in
theorem jX5_openOf_c34 {l : Launch} {cx : CX} {n : Nat} {M : Mem} : ∀ (f : Nat) {v0 : Nat} {v1 : Int32} {v3 : Int32} {v4 : Int32} (h0 : IsK GS 0 207 v0 5), JO l cx ({ frames := 2, cells := 0, slots := 0, locals := 46 } : Room) yX5_openOf cX5_openOf 5 (some .int) 0 0 false 0 207 (EP M) GS 0 0 34 [some (.ref v0), some (.int v1), none, some (.int v3), some (.int v4)] [] M (mX5_openOf_c34 n f v0 v1 v3 v4 M) := by
  intro f
  induction f with
  | zero =>
    intros
    exact J_none
  | succ f ih =>
    intro v0 v1 v3 v4 h0
    unfold mX5_openOf_c34
    refine J_ild4 dX5_openOf_34 ?_
    refine J_ild1 dX5_openOf_36 ?_
    refine J_ic_ge 85 dX5_openOf_37 rfl ?_ ?_
    · refine J_ald0 dX5_openOf_85 ?_
      refine J_getr (q := (v0 + 8)) fl_RX5_33 dX5_openOf_86 h0 rfl (rf_5_8 h0) ?_
      refine J_ild1 dX5_openOf_89 ?_
      refine J_iald dX5_openOf_90 (kf_5_8 h0) (ln_5_8 h0) ?_
      refine J_ild3 dX5_openOf_91 ?_
      refine J_ald0 dX5_openOf_92 ?_
      refine J_getr (q := (v0 + 8)) fl_RX5_33 dX5_openOf_93 h0 rfl (rf_5_8 h0) ?_
      refine J_ild1 dX5_openOf_96 ?_
      refine J_iald dX5_openOf_97 (kf_5_8 h0) (ln_5_8 h0) ?_
      refine J_mmin ⟨wd_6, wd_7, wd_8, wd_9⟩ dX5_openOf_98 ⟨by decide, Nat.le_of_ble_eq_true rfl, Nat.zero_le _, Nat.zero_le _⟩ ?_
      refine J_isub dX5_openOf_101 ?_
      exact J_iret dX5_openOf_102 rfl ⟨rfl, rfl, rfl⟩
    · refine J_ald0 dX5_openOf_40 ?_
      refine J_ild4 dX5_openOf_41 ?_
      refine J_ald0 dX5_openOf_43 ?_
      refine J_getr (q := (v0 + 2)) fl_RX5_15 dX5_openOf_44 h0 rfl (rf_5_2 h0) ?_
      refine J_ild1 dX5_openOf_47 ?_
      refine J_iald dX5_openOf_48 (kf_5_2 h0) (ln_5_2 h0) ?_
      refine J_cVB (jX5_isOf l cx n v0 h0 v4 (M (v0 + 2) (Int32.toNatClampNeg v1)) M) ck_RX5_65 dX5_openOf_49 rfl h0 ⟨rfl, rfl, by decide, by decide⟩ ⟨Nat.zero_le _, Nat.zero_le _, Nat.le_of_ble_eq_true rfl⟩ (fun r1 z2 => ?_)
      refine J_if_eq 79 dX5_openOf_52 rfl ?_ ?_
      · refine J_iinc4 (w := (v4 + (1 : Int32))) dX5_openOf_79 (by decide) rfl rfl ?_
        refine J_goto 34 dX5_openOf_82 rfl ?_
        exact J_wk (wk_s (wk_s (wk_n (wk_s (wk_s wk_0))))) (ih h0)
      · refine J_ald0 dX5_openOf_55 ?_
        refine J_getr (q := (v0 + 8)) fl_RX5_33 dX5_openOf_56 h0 rfl (rf_5_8 h0) ?_
        refine J_ild4 dX5_openOf_59 ?_
        refine J_iald dX5_openOf_61 (kf_5_8 h0) (ln_5_8 h0) ?_
        refine J_if_le 79 dX5_openOf_62 rfl ?_ ?_
        · refine J_iinc4 (w := (v4 + (1 : Int32))) dX5_openOf_79 (by decide) rfl rfl ?_
          refine J_goto 34 dX5_openOf_82 rfl ?_
          exact J_wk (wk_s (wk_s (wk_n (wk_s (wk_s wk_0))))) (ih h0)
        · refine J_ild3 dX5_openOf_65 ?_
          refine J_ild3 dX5_openOf_66 ?_
          refine J_ald0 dX5_openOf_67 ?_
          refine J_getr (q := (v0 + 8)) fl_RX5_33 dX5_openOf_68 h0 rfl (rf_5_8 h0) ?_
          refine J_ild4 dX5_openOf_71 ?_
          refine J_iald dX5_openOf_73 (kf_5_8 h0) (ln_5_8 h0) ?_
          refine J_mmin ⟨wd_6, wd_7, wd_8, wd_9⟩ dX5_openOf_74 ⟨by decide, Nat.le_of_ble_eq_true rfl, Nat.zero_le _, Nat.zero_le _⟩ ?_
          refine J_isub dX5_openOf_77 ?_
          refine J_ist3 dX5_openOf_78 (by decide) rfl ?_
          refine J_iinc4 (w := (v4 + (1 : Int32))) dX5_openOf_79 (by decide) rfl rfl ?_
          refine J_goto 34 dX5_openOf_82 rfl ?_
          exact J_wk (wk_s (wk_s (wk_n (wk_s (wk_s wk_0))))) (ih h0)
set_option maxRecDepth 100000 in
theorem jX5_openOf (l : Launch) (cx : CX) (n : Nat) (o : Nat) (ho : IsK GS 0 207 o 5) (a : Int32) (b : Int32) (M : Mem) : Con l cx ({ frames := 2, cells := 0, slots := 0, locals := 46 } : Room) yX5_openOf cX5_openOf 5 (some .int) 0 0 false 0 207 (EP M) GS [.ref o, .int a, .int b] M (mX5_openOf n o a b M) := by
  unfold mX5_openOf
  refine Con.of (ls := [some (.ref o), some (.int a), some (.int b), none, none]) (by decide) rfl (Nat.le_of_ble_eq_true rfl) ?_
  refine J_ald0 dX5_openOf_0 ?_
  refine J_ild1 dX5_openOf_1 ?_
  refine J_cVB (jX5_has l cx n o ho a M) ck_RX5_61 dX5_openOf_2 rfl ho ⟨rfl, rfl, by decide, by decide⟩ ⟨Nat.zero_le _, Nat.zero_le _, Nat.le_of_ble_eq_true rfl⟩ (fun r3 z4 => ?_)
  refine J_if_eq 17 dX5_openOf_5 rfl ?_ ?_
  · refine J_iconst (v := 0) dX5_openOf_17 rfl ?_
    exact J_iret dX5_openOf_18 rfl ⟨rfl, rfl, rfl⟩
  · refine J_ald0 dX5_openOf_8 ?_
    refine J_getr (q := (o + 8)) fl_RX5_33 dX5_openOf_9 ho rfl (rf_5_8 ho) ?_
    refine J_ild1 dX5_openOf_12 ?_
    refine J_iald dX5_openOf_13 (kf_5_8 ho) (ln_5_8 ho) ?_
    refine J_if_gt 19 dX5_openOf_14 rfl ?_ ?_
    · refine J_ald0 dX5_openOf_19 ?_
      refine J_ald0 dX5_openOf_20 ?_
      refine J_getr (q := (o + 2)) fl_RX5_15 dX5_openOf_21 ho rfl (rf_5_2 ho) ?_
      refine J_ild1 dX5_openOf_24 ?_
      refine J_iald dX5_openOf_25 (kf_5_2 ho) (ln_5_2 ho) ?_
      refine J_ild2 dX5_openOf_26 ?_
      refine J_cVP (jX5_coverOf l cx n o ho (M (o + 2) (Int32.toNatClampNeg a)) b M) ck_RX5_69 dX5_openOf_27 rfl ho ⟨rfl, rfl, by decide, by decide⟩ ⟨Nat.zero_le _, Nat.zero_le _, Nat.le_of_ble_eq_true rfl⟩ (fun r5 => ?_)
      refine J_ist3 dX5_openOf_30 (by decide) rfl ?_
      refine J_iconst (v := 0) dX5_openOf_31 rfl ?_
      refine J_ist4 dX5_openOf_32 (by decide) rfl ?_
      exact J_wk (wk_s (wk_s (wk_n (wk_s (wk_s wk_0))))) (jX5_openOf_c34 (n := n) n ho)
    · refine J_iconst (v := 0) dX5_openOf_17 rfl ?_
      exact J_iret dX5_openOf_18 rfl ⟨rfl, rfl, rfl⟩
