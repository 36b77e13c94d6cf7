set_option maxRecDepth 100000 in
theorem jX1_addUnits (l : Launch) (cx : CX) (n : Nat) (o : Nat) (ho : IsK GS 0 207 o 1) (a : Int32) (b : Int32) (M : Mem) : Con l cx ({ frames := 3, cells := 0, slots := 0, locals := 62 } : Room) yX1_addUnits cX1_addUnits 4 (some .int) 0 0 false 0 207 EI GS [.ref o, .int a, .int b] M (mX1_addUnits o a b M) := by
  unfold mX1_addUnits
  refine Con.of (ls := [some (.ref o), some (.int a), some (.int b), none]) (by decide) rfl (Nat.le_of_ble_eq_true rfl) ?_
  refine J_ald0 dX1_addUnits_0 ?_
  refine J_ild1 dX1_addUnits_1 ?_
  refine J_cVB (jX1_isRunning l cx n o ho a M) ck_RX1_151 dX1_addUnits_2 rfl ho ⟨rfl, rfl, by decide, by decide⟩ ⟨Nat.zero_le _, Nat.zero_le _, Nat.le_of_ble_eq_true rfl⟩ (fun r1 z2 => ?_)
  refine J_if_eq 12 dX1_addUnits_5 rfl ?_ ?_
  · refine J_iconst (v := -1) dX1_addUnits_12 rfl ?_
    exact J_iret dX1_addUnits_13 rfl ⟨rfl, rfl, rfl⟩
  · refine J_ild2 dX1_addUnits_8 ?_
    refine J_if_ge 14 dX1_addUnits_9 rfl ?_ ?_
    · refine J_ald0 dX1_addUnits_14 ?_
      refine J_getr (q := (o + 35)) fl_RX1_20 dX1_addUnits_15 ho rfl (rf_1_2 ho) ?_
      refine J_ild1 dX1_addUnits_18 ?_
      refine J_aald (q := ((o + 35) + 12 + Int32.toNatClampNeg a)) dX1_addUnits_19 (kf_1_2 ho) (Or.inl rfl) (ln_1_2 ho) (fun g3 => (aal_15 (kf_1_2 ho) g3).1) (fun g3 => ?_)
      refine J_ast3 dX1_addUnits_20 (by decide) rfl ?_
      refine J_ald3 dX1_addUnits_21 ?_
      refine J_geti fl_RX1_159 dX1_addUnits_22 (aal_15 (kf_1_2 ho) g3).2 rfl ?_
      refine J_if_eq 31 dX1_addUnits_25 rfl ?_ ?_
      · refine J_ild2 dX1_addUnits_31 ?_
        refine J_sipush (v := 9999) dX1_addUnits_32 rfl ?_
        refine J_ald3 dX1_addUnits_35 ?_
        refine J_geti fl_RX1_105 dX1_addUnits_36 (aal_15 (kf_1_2 ho) g3).2 rfl ?_
        refine J_isub dX1_addUnits_39 ?_
        refine J_ic_le 46 dX1_addUnits_40 rfl ?_ ?_
        · refine J_ald3 dX1_addUnits_46 ?_
          refine J_dup_r dX1_addUnits_47 ?_
          refine J_geti fl_RX1_105 dX1_addUnits_48 (aal_15 (kf_1_2 ho) g3).2 rfl ?_
          refine J_ild2 dX1_addUnits_51 ?_
          refine J_iadd dX1_addUnits_52 ?_
          refine J_puti fl_RX1_105 dX1_addUnits_53 (aal_15 (kf_1_2 ho) g3).2 rfl (by decide) ?_
          refine J_lt (fun M4 => ?_)
          refine J_ald3 dX1_addUnits_56 ?_
          refine J_geti fl_RX1_105 dX1_addUnits_57 (aal_15 (kf_1_2 ho) g3).2 rfl ?_
          exact J_iret dX1_addUnits_60 rfl ⟨rfl, rfl, rfl⟩
        · refine J_bipush (v := -3) dX1_addUnits_43 rfl ?_
          exact J_iret dX1_addUnits_45 rfl ⟨rfl, rfl, rfl⟩
      · refine J_bipush (v := -2) dX1_addUnits_28 rfl ?_
        exact J_iret dX1_addUnits_30 rfl ⟨rfl, rfl, rfl⟩
    · refine J_iconst (v := -1) dX1_addUnits_12 rfl ?_
      exact J_iret dX1_addUnits_13 rfl ⟨rfl, rfl, rfl⟩
set_option maxRecDepth 100000 in
theorem jX1_grantFavour (l : Launch) (cx : CX) (n : Nat) (o : Nat) (ho : IsK GS 0 207 o 1) (a : Int32) (b : Int32) (M : Mem) : Con l cx ({ frames := 2, cells := 0, slots := 0, locals := 51 } : Room) yX1_grantFavour cX1_grantFavour 3 (some .int) 0 0 false 0 207 EI GS [.ref o, .int a, .int b] M (mX1_grantFavour o a b M) := by
  unfold mX1_grantFavour
  refine Con.of (ls := [some (.ref o), some (.int a), some (.int b)]) (by decide) rfl (Nat.le_of_ble_eq_true rfl) ?_
  refine J_ald0 dX1_grantFavour_0 ?_
  refine J_ild1 dX1_grantFavour_1 ?_
  refine J_cVB (jX1_hasBegun l cx n o ho a M) ck_RX1_60 dX1_grantFavour_2 rfl ho ⟨rfl, rfl, by decide, by decide⟩ ⟨Nat.zero_le _, Nat.zero_le _, Nat.le_of_ble_eq_true rfl⟩ (fun r1 z2 => ?_)
  refine J_if_eq 26 dX1_grantFavour_5 rfl ?_ ?_
  · refine J_ldc dX1_grantFavour_26 wd_18 ?_
    exact J_iret dX1_grantFavour_28 rfl ⟨rfl, rfl, rfl⟩
  · refine J_ild2 dX1_grantFavour_8 ?_
    refine J_iconst (v := 1) dX1_grantFavour_9 rfl ?_
    refine J_ic_lt 26 dX1_grantFavour_10 rfl ?_ ?_
    · refine J_ldc dX1_grantFavour_26 wd_18 ?_
      exact J_iret dX1_grantFavour_28 rfl ⟨rfl, rfl, rfl⟩
    · refine J_ild2 dX1_grantFavour_13 ?_
      refine J_ald0 dX1_grantFavour_14 ?_
      refine J_getr (q := (o + 35)) fl_RX1_20 dX1_grantFavour_15 ho rfl (rf_1_2 ho) ?_
      refine J_ild1 dX1_grantFavour_18 ?_
      refine J_aald (q := ((o + 35) + 12 + Int32.toNatClampNeg a)) dX1_grantFavour_19 (kf_1_2 ho) (Or.inl rfl) (ln_1_2 ho) (fun g3 => (aal_15 (kf_1_2 ho) g3).1) (fun g3 => ?_)
      refine J_geti fl_RX1_83 dX1_grantFavour_20 (aal_15 (kf_1_2 ho) g3).2 rfl ?_
      refine J_ic_le 29 dX1_grantFavour_23 rfl ?_ ?_
      · refine J_ald0 dX1_grantFavour_29 ?_
        refine J_getr (q := (o + 36)) fl_RX1_27 dX1_grantFavour_30 ho rfl (rf_1_3 ho) ?_
        refine J_iconst (v := 1) dX1_grantFavour_33 rfl ?_
        refine J_cVB (jX5_haveRoom l cx n (o + 36) (kf_1_3 ho) (1 : Int32) M) ck_RX1_137 dX1_grantFavour_34 rfl (kf_1_3 ho) ⟨rfl, rfl, by decide, by decide⟩ ⟨Nat.zero_le _, Nat.zero_le _, Nat.le_of_ble_eq_true rfl⟩ (fun r4 z5 => ?_)
        refine J_if_ne 43 dX1_grantFavour_37 rfl ?_ ?_
        · refine J_ald0 dX1_grantFavour_43 ?_
          refine J_ald0 dX1_grantFavour_44 ?_
          refine J_getr (q := (o + 35)) fl_RX1_20 dX1_grantFavour_45 ho rfl (rf_1_2 ho) ?_
          refine J_ild1 dX1_grantFavour_48 ?_
          refine J_aald (q := ((o + 35) + 12 + Int32.toNatClampNeg a)) dX1_grantFavour_49 (kf_1_2 ho) (Or.inl rfl) (ln_1_2 ho) (fun g6 => (aal_15 (kf_1_2 ho) g6).1) (fun g6 => ?_)
          refine J_iconst (v := 3) dX1_grantFavour_50 rfl ?_
          refine J_ald0 dX1_grantFavour_51 ?_
          refine J_geti fl_RX1_48 dX1_grantFavour_52 ho rfl ?_
          refine J_ald0 dX1_grantFavour_55 ?_
          refine J_geti fl_RX1_48 dX1_grantFavour_56 ho rfl ?_
          refine J_ild2 dX1_grantFavour_59 ?_
          refine J_ineg dX1_grantFavour_60 ?_
          refine J_cVI (jX1_write l cx n o ho ((o + 35) + 12 + Int32.toNatClampNeg a) (aal_15 (kf_1_2 ho) g6).2 (3 : Int32) (M o 4) (M o 4) (-b) M) ck_RX1_97 dX1_grantFavour_61 rfl ho ⟨rfl, rfl, by decide, by decide⟩ ⟨Nat.zero_le _, Nat.zero_le _, Nat.le_of_ble_eq_true rfl⟩ (fun r7 M8 => ?_)
          refine J_pop_i dX1_grantFavour_64 ?_
          refine J_ald0 dX1_grantFavour_65 ?_
          refine J_getr (q := (o + 35)) fl_RX1_20 dX1_grantFavour_66 ho rfl (rf_1_2 ho) ?_
          refine J_ild1 dX1_grantFavour_69 ?_
          refine J_aald (q := ((o + 35) + 12 + Int32.toNatClampNeg a)) dX1_grantFavour_70 (kf_1_2 ho) (Or.inl rfl) (ln_1_2 ho) (fun g9 => (aal_15 (kf_1_2 ho) g9).1) (fun g9 => ?_)
          refine J_geti fl_RX1_83 dX1_grantFavour_71 (aal_15 (kf_1_2 ho) g9).2 rfl ?_
          exact J_iret dX1_grantFavour_74 rfl ⟨rfl, rfl, rfl⟩
        · refine J_ldc dX1_grantFavour_40 wd_19 ?_
          exact J_iret dX1_grantFavour_42 rfl ⟨rfl, rfl, rfl⟩
      · refine J_ldc dX1_grantFavour_26 wd_18 ?_
        exact J_iret dX1_grantFavour_28 rfl ⟨rfl, rfl, rfl⟩
set_option maxRecDepth 100000 in
theorem jX1_takePayment (l : Launch) (cx : CX) (n : Nat) (o : Nat) (ho : IsK GS 0 207 o 1) (a : Int32) (b : Int32) (M : Mem) : Con l cx ({ frames := 2, cells := 0, slots := 0, locals := 41 } : Room) yX1_takePayment cX1_takePayment 4 (some .int) 0 0 false 0 207 EI GS [.ref o, .int a, .int b] M (mX1_takePayment o a b M) := by
  unfold mX1_takePayment
  refine Con.of (ls := [some (.ref o), some (.int a), some (.int b), none]) (by decide) rfl (Nat.le_of_ble_eq_true rfl) ?_
  refine J_ald0 dX1_takePayment_0 ?_
  refine J_ild1 dX1_takePayment_1 ?_
  refine J_cVB (jX1_hasBegun l cx n o ho a M) ck_RX1_60 dX1_takePayment_2 rfl ho ⟨rfl, rfl, by decide, by decide⟩ ⟨Nat.zero_le _, Nat.zero_le _, Nat.le_of_ble_eq_true rfl⟩ (fun r1 z2 => ?_)
  refine J_if_eq 19 dX1_takePayment_5 rfl ?_ ?_
  · refine J_iconst (v := -1) dX1_takePayment_19 rfl ?_
    exact J_iret dX1_takePayment_20 rfl ⟨rfl, rfl, rfl⟩
  · refine J_ild2 dX1_takePayment_8 ?_
    refine J_iconst (v := 1) dX1_takePayment_9 rfl ?_
    refine J_ic_lt 19 dX1_takePayment_10 rfl ?_ ?_
    · refine J_iconst (v := -1) dX1_takePayment_19 rfl ?_
      exact J_iret dX1_takePayment_20 rfl ⟨rfl, rfl, rfl⟩
    · refine J_ild2 dX1_takePayment_13 ?_
      refine J_ldc dX1_takePayment_14 wd_21 ?_
      refine J_ic_le 21 dX1_takePayment_16 rfl ?_ ?_
      · refine J_ald0 dX1_takePayment_21 ?_
        refine J_getr (q := (o + 35)) fl_RX1_20 dX1_takePayment_22 ho rfl (rf_1_2 ho) ?_
        refine J_ild1 dX1_takePayment_25 ?_
        refine J_aald (q := ((o + 35) + 12 + Int32.toNatClampNeg a)) dX1_takePayment_26 (kf_1_2 ho) (Or.inl rfl) (ln_1_2 ho) (fun g3 => (aal_15 (kf_1_2 ho) g3).1) (fun g3 => ?_)
        refine J_ast3 dX1_takePayment_27 (by decide) rfl ?_
        refine J_ild2 dX1_takePayment_28 ?_
        refine J_ldc dX1_takePayment_29 wd_22 ?_
        refine J_ald3 dX1_takePayment_31 ?_
        refine J_geti fl_RX1_168 dX1_takePayment_32 (aal_15 (kf_1_2 ho) g3).2 rfl ?_
        refine J_isub dX1_takePayment_35 ?_
        refine J_ic_le 41 dX1_takePayment_36 rfl ?_ ?_
        · refine J_ald3 dX1_takePayment_41 ?_
          refine J_dup_r dX1_takePayment_42 ?_
          refine J_geti fl_RX1_168 dX1_takePayment_43 (aal_15 (kf_1_2 ho) g3).2 rfl ?_
          refine J_ild2 dX1_takePayment_46 ?_
          refine J_iadd dX1_takePayment_47 ?_
          refine J_puti fl_RX1_168 dX1_takePayment_48 (aal_15 (kf_1_2 ho) g3).2 rfl (by decide) ?_
          refine J_lt (fun M4 => ?_)
          refine J_ald3 dX1_takePayment_51 ?_
          refine J_geti fl_RX1_168 dX1_takePayment_52 (aal_15 (kf_1_2 ho) g3).2 rfl ?_
          exact J_iret dX1_takePayment_55 rfl ⟨rfl, rfl, rfl⟩
        · refine J_iconst (v := -1) dX1_takePayment_39 rfl ?_
          exact J_iret dX1_takePayment_40 rfl ⟨rfl, rfl, rfl⟩
      · refine J_iconst (v := -1) dX1_takePayment_19 rfl ?_
        exact J_iret dX1_takePayment_20 rfl ⟨rfl, rfl, rfl⟩
set_option maxRecDepth 100000 in
theorem jX5_isOf (l : Launch) (cx : CX) (n : Nat) (o : Nat) (ho : IsK GS 0 207 o 5) (a : Int32) (b : Int32) (M : Mem) : Con l cx ({ frames := 0, cells := 0, slots := 0, locals := 0 } : Room) yX5_isOf cX5_isOf 3 (some .boolean) 0 0 false 0 207 (EB M) GS [.ref o, .int a, .int b] M (mX5_isOf o a b M) := by
  unfold mX5_isOf
  refine Con.of (ls := [some (.ref o), some (.int a), some (.int b)]) (by decide) rfl (Nat.le_of_ble_eq_true rfl) ?_
  refine J_ild1 dX5_isOf_0 ?_
  refine J_if_lt 33 dX5_isOf_1 rfl ?_ ?_
  · refine J_iconst (v := 0) dX5_isOf_33 rfl ?_
    exact J_zret dX5_isOf_34 rfl (Or.inl rfl) ⟨rfl, rfl, rfl, (Or.inl rfl)⟩
  · refine J_ild1 dX5_isOf_4 ?_
    refine J_ald0 dX5_isOf_5 ?_
    refine J_geti fl_RX5_42 dX5_isOf_6 ho rfl ?_
    refine J_ic_ge 33 dX5_isOf_9 rfl ?_ ?_
    · refine J_iconst (v := 0) dX5_isOf_33 rfl ?_
      exact J_zret dX5_isOf_34 rfl (Or.inl rfl) ⟨rfl, rfl, rfl, (Or.inl rfl)⟩
    · refine J_ild1 dX5_isOf_12 ?_
      refine J_sipush (v := 400) dX5_isOf_13 rfl ?_
      refine J_ic_ge 33 dX5_isOf_16 rfl ?_ ?_
      · refine J_iconst (v := 0) dX5_isOf_33 rfl ?_
        exact J_zret dX5_isOf_34 rfl (Or.inl rfl) ⟨rfl, rfl, rfl, (Or.inl rfl)⟩
      · refine J_ald0 dX5_isOf_19 ?_
        refine J_getr (q := (o + 2)) fl_RX5_15 dX5_isOf_20 ho rfl (rf_5_2 ho) ?_
        refine J_ild1 dX5_isOf_23 ?_
        refine J_iald dX5_isOf_24 (kf_5_2 ho) (ln_5_2 ho) ?_
        refine J_ild2 dX5_isOf_25 ?_
        refine J_ic_ne 33 dX5_isOf_26 rfl ?_ ?_
        · refine J_iconst (v := 0) dX5_isOf_33 rfl ?_
          exact J_zret dX5_isOf_34 rfl (Or.inl rfl) ⟨rfl, rfl, rfl, (Or.inl rfl)⟩
        · refine J_iconst (v := 1) dX5_isOf_29 rfl ?_
          refine J_goto 34 dX5_isOf_30 rfl ?_
          exact J_zret dX5_isOf_34 rfl (Or.inr rfl) ⟨rfl, rfl, rfl, (Or.inr rfl)⟩
set_option maxRecDepth 100000 in
theorem jX5_coverOf_c5 {l : Launch} {cx : CX} {n : Nat} {M : Mem} : ∀ (f : Nat) {v0 : Nat} {v1 : Int32} {v3 : Int32} {v4 : Int32} (h0 : IsK GS 0 207 v0 5), JO l cx ({ frames := 1, cells := 0, slots := 0, locals := 22 } : Room) yX5_coverOf cX5_coverOf 5 (some .int) 0 0 false 0 207 (EP M) GS 0 0 5 [some (.ref v0), some (.int v1), none, some (.int v3), some (.int v4)] [] M (mX5_coverOf_c5 n f v0 v1 v3 v4 M) := by
  intro f
  induction f with
  | zero =>
    intros
    exact J_none
  | succ f ih =>
    intro v0 v1 v3 v4 h0
    unfold mX5_coverOf_c5
    refine J_ild4 dX5_coverOf_5 ?_
    refine J_ald0 dX5_coverOf_7 ?_
    refine J_geti fl_RX5_42 dX5_coverOf_8 h0 rfl ?_
    refine J_ic_ge 50 dX5_coverOf_11 rfl ?_ ?_
    · refine J_ild3 dX5_coverOf_50 ?_
      exact J_iret dX5_coverOf_51 rfl ⟨rfl, rfl, rfl⟩
    · refine J_ald0 dX5_coverOf_14 ?_
      refine J_ild4 dX5_coverOf_15 ?_
      refine J_ild1 dX5_coverOf_17 ?_
      refine J_cVB (jX5_isOf l cx n v0 h0 v4 v1 M) ck_RX5_65 dX5_coverOf_18 rfl h0 ⟨rfl, rfl, by decide, by decide⟩ ⟨Nat.zero_le _, Nat.zero_le _, Nat.le_of_ble_eq_true rfl⟩ (fun r1 z2 => ?_)
      refine J_if_eq 44 dX5_coverOf_21 rfl ?_ ?_
      · refine J_iinc4 (w := (v4 + (1 : Int32))) dX5_coverOf_44 (by decide) rfl rfl ?_
        refine J_goto 5 dX5_coverOf_47 rfl ?_
        exact J_wk (wk_s (wk_s (wk_n (wk_s (wk_s wk_0))))) (ih h0)
      · refine J_ald0 dX5_coverOf_24 ?_
        refine J_getr (q := (v0 + 8)) fl_RX5_33 dX5_coverOf_25 h0 rfl (rf_5_8 h0) ?_
        refine J_ild4 dX5_coverOf_28 ?_
        refine J_iald dX5_coverOf_30 (kf_5_8 h0) (ln_5_8 h0) ?_
        refine J_if_ge 44 dX5_coverOf_31 rfl ?_ ?_
        · refine J_iinc4 (w := (v4 + (1 : Int32))) dX5_coverOf_44 (by decide) rfl rfl ?_
          refine J_goto 5 dX5_coverOf_47 rfl ?_
          exact J_wk (wk_s (wk_s (wk_n (wk_s (wk_s wk_0))))) (ih h0)
        · refine J_ild3 dX5_coverOf_34 ?_
          refine J_ald0 dX5_coverOf_35 ?_
          refine J_getr (q := (v0 + 8)) fl_RX5_33 dX5_coverOf_36 h0 rfl (rf_5_8 h0) ?_
          refine J_ild4 dX5_coverOf_39 ?_
          refine J_iald dX5_coverOf_41 (kf_5_8 h0) (ln_5_8 h0) ?_
          refine J_isub dX5_coverOf_42 ?_
          refine J_ist3 dX5_coverOf_43 (by decide) rfl ?_
          refine J_iinc4 (w := (v4 + (1 : Int32))) dX5_coverOf_44 (by decide) rfl rfl ?_
          refine J_goto 5 dX5_coverOf_47 rfl ?_
          exact J_wk (wk_s (wk_s (wk_n (wk_s (wk_s wk_0))))) (ih h0)
set_option maxRecDepth 100000 in
theorem jX5_coverOf (l : Launch) (cx : CX) (n : Nat) (o : Nat) (ho : IsK GS 0 207 o 5) (a : Int32) (b : Int32) (M : Mem) : Con l cx ({ frames := 1, cells := 0, slots := 0, locals := 22 } : Room) yX5_coverOf cX5_coverOf 5 (some .int) 0 0 false 0 207 (EP M) GS [.ref o, .int a, .int b] M (mX5_coverOf n o a b M) := by
  unfold mX5_coverOf
  refine Con.of (ls := [some (.ref o), some (.int a), some (.int b), none, none]) (by decide) rfl (Nat.le_of_ble_eq_true rfl) ?_
  refine J_ild2 dX5_coverOf_0 ?_
  refine J_ist3 dX5_coverOf_1 (by decide) rfl ?_
  refine J_iconst (v := 0) dX5_coverOf_2 rfl ?_
  refine J_ist4 dX5_coverOf_3 (by decide) rfl ?_
  exact J_wk (wk_s (wk_s (wk_n (wk_s (wk_s wk_0))))) (jX5_coverOf_c5 (n := n) n ho)
set_option maxRecDepth 100000 in
theorem jX5_sumLate_c14 {l : Launch} {cx : CX} {n : Nat} {M : Mem} : ∀ (f : Nat) {v0 : Nat} {v1 : Int32} {v3 : Int32} {v4 : Int32} {v5 : Int32} {v6 : Int32} (h0 : IsK GS 0 207 v0 5), JO l cx ({ frames := 2, cells := 0, slots := 0, locals := 46 } : Room) yX5_sumLate cX5_sumLate 8 (some .int) 0 0 false 0 207 (EP M) GS 0 0 14 [some (.ref v0), some (.int v1), none, some (.int v3), some (.int v4), some (.int v5), some (.int v6), none] [] M (mX5_sumLate_c14 n f v0 v1 v3 v4 v5 v6 M) := by
  intro f
  induction f with
  | zero =>
    intros
    exact J_none
  | succ f ih =>
    intro v0 v1 v3 v4 v5 v6 h0
    unfold mX5_sumLate_c14
    refine J_ild6 dX5_sumLate_14 ?_
    refine J_ald0 dX5_sumLate_16 ?_
    refine J_geti fl_RX5_42 dX5_sumLate_17 h0 rfl ?_
    refine J_ic_ge 99 dX5_sumLate_20 rfl ?_ ?_
    · refine J_ild5 dX5_sumLate_99 ?_
      exact J_iret dX5_sumLate_101 rfl ⟨rfl, rfl, rfl⟩
    · refine J_ald0 dX5_sumLate_23 ?_
      refine J_ild6 dX5_sumLate_24 ?_
      refine J_ild1 dX5_sumLate_26 ?_
      refine J_cVB (jX5_isOf l cx n v0 h0 v6 v1 M) ck_RX5_65 dX5_sumLate_27 rfl h0 ⟨rfl, rfl, by decide, by decide⟩ ⟨Nat.zero_le _, Nat.zero_le _, Nat.le_of_ble_eq_true rfl⟩ (fun r1 z2 => ?_)
      refine J_if_eq 93 dX5_sumLate_30 rfl ?_ ?_
      · refine J_iinc6 (w := (v6 + (1 : Int32))) dX5_sumLate_93 (by decide) rfl rfl ?_
        refine J_goto 14 dX5_sumLate_96 rfl ?_
        exact J_wk (wk_s (wk_s (wk_n (wk_s (wk_s (wk_s (wk_s (wk_n wk_0)))))))) (ih h0)
      · refine J_ald0 dX5_sumLate_33 ?_
        refine J_getr (q := (v0 + 8)) fl_RX5_33 dX5_sumLate_34 h0 rfl (rf_5_8 h0) ?_
        refine J_ild6 dX5_sumLate_37 ?_
        refine J_iald dX5_sumLate_39 (kf_5_8 h0) (ln_5_8 h0) ?_
        refine J_if_le 93 dX5_sumLate_40 rfl ?_ ?_
        · refine J_iinc6 (w := (v6 + (1 : Int32))) dX5_sumLate_93 (by decide) rfl rfl ?_
          refine J_goto 14 dX5_sumLate_96 rfl ?_
          exact J_wk (wk_s (wk_s (wk_n (wk_s (wk_s (wk_s (wk_s (wk_n wk_0)))))))) (ih h0)
        · refine J_ild4 dX5_sumLate_43 ?_
          refine J_ald0 dX5_sumLate_45 ?_
          refine J_getr (q := (v0 + 8)) fl_RX5_33 dX5_sumLate_46 h0 rfl (rf_5_8 h0) ?_
          refine J_ild6 dX5_sumLate_49 ?_
          refine J_iald dX5_sumLate_51 (kf_5_8 h0) (ln_5_8 h0) ?_
          refine J_mmin ⟨wd_6, wd_7, wd_8, wd_9⟩ dX5_sumLate_52 ⟨by decide, Nat.le_of_ble_eq_true rfl, Nat.zero_le _, Nat.zero_le _⟩ ?_
          refine J_ist7 dX5_sumLate_55 (by decide) rfl ?_
          refine J_ild4 dX5_sumLate_57 ?_
          refine J_ild7 dX5_sumLate_59 ?_
          refine J_isub dX5_sumLate_61 ?_
          refine J_ist4 dX5_sumLate_62 (by decide) rfl ?_
          refine J_ald0 dX5_sumLate_64 ?_
          refine J_getr (q := (v0 + 3)) fl_RX5_18 dX5_sumLate_65 h0 rfl (rf_5_3 h0) ?_
          refine J_ild6 dX5_sumLate_68 ?_
          refine J_iald dX5_sumLate_70 (kf_5_3 h0) (ln_5_3 h0) ?_
          refine J_bipush (v := 14) dX5_sumLate_71 rfl ?_
          refine J_iadd dX5_sumLate_73 ?_
          refine J_ild3 dX5_sumLate_74 ?_
          refine J_ic_ge 93 dX5_sumLate_75 rfl ?_ ?_
          · refine J_iinc6 (w := (v6 + (1 : Int32))) dX5_sumLate_93 (by decide) rfl rfl ?_
            refine J_goto 14 dX5_sumLate_96 rfl ?_
            exact J_wk (wk_s (wk_s (wk_n (wk_s (wk_s (wk_s (wk_s (wk_n wk_0)))))))) (ih h0)
          · refine J_ild5 dX5_sumLate_78 ?_
            refine J_ald0 dX5_sumLate_80 ?_
            refine J_getr (q := (v0 + 8)) fl_RX5_33 dX5_sumLate_81 h0 rfl (rf_5_8 h0) ?_
            refine J_ild6 dX5_sumLate_84 ?_
            refine J_iald dX5_sumLate_86 (kf_5_8 h0) (ln_5_8 h0) ?_
            refine J_ild7 dX5_sumLate_87 ?_
            refine J_isub dX5_sumLate_89 ?_
            refine J_iadd dX5_sumLate_90 ?_
            refine J_ist5 dX5_sumLate_91 (by decide) rfl ?_
            refine J_iinc6 (w := (v6 + (1 : Int32))) dX5_sumLate_93 (by decide) rfl rfl ?_
            refine J_goto 14 dX5_sumLate_96 rfl ?_
            exact J_wk (wk_s (wk_s (wk_n (wk_s (wk_s (wk_s (wk_s (wk_n wk_0)))))))) (ih h0)
set_option maxRecDepth 100000 in
theorem jX5_sumLate (l : Launch) (cx : CX) (n : Nat) (o : Nat) (ho : IsK GS 0 207 o 5) (a : Int32) (b : Int32) (c : Int32) (M : Mem) : Con l cx ({ frames := 2, cells := 0, slots := 0, locals := 46 } : Room) yX5_sumLate cX5_sumLate 8 (some .int) 0 0 false 0 207 (EP M) GS [.ref o, .int a, .int b, .int c] M (mX5_sumLate n o a b c M) := by
  unfold mX5_sumLate
  refine Con.of (ls := [some (.ref o), some (.int a), some (.int b), some (.int c), none, none, none, none]) (by decide) rfl (Nat.le_of_ble_eq_true rfl) ?_
  refine J_ald0 dX5_sumLate_0 ?_
  refine J_ild1 dX5_sumLate_1 ?_
  refine J_ild2 dX5_sumLate_2 ?_
  refine J_cVP (jX5_coverOf l cx n o ho a b M) ck_RX5_69 dX5_sumLate_3 rfl ho ⟨rfl, rfl, by decide, by decide⟩ ⟨Nat.zero_le _, Nat.zero_le _, Nat.le_of_ble_eq_true rfl⟩ (fun r3 => ?_)
  refine J_ist4 dX5_sumLate_6 (by decide) rfl ?_
  refine J_iconst (v := 0) dX5_sumLate_8 rfl ?_
  refine J_ist5 dX5_sumLate_9 (by decide) rfl ?_
  refine J_iconst (v := 0) dX5_sumLate_11 rfl ?_
  refine J_ist6 dX5_sumLate_12 (by decide) rfl ?_
  exact J_wk (wk_s (wk_s (wk_n (wk_s (wk_s (wk_s (wk_s (wk_n wk_0)))))))) (jX5_sumLate_c14 (n := n) n ho)
set_option maxRecDepth 100000 in
theorem jX5_haveFeeOn_c2 {l : Launch} {cx : CX} {n : Nat} {M : Mem} : ∀ (f : Nat) {v0 : Nat} {v1 : Int32} {v2 : Int32} {v3 : Int32} (h0 : IsK GS 0 207 v0 5), JO l cx ({ frames := 1, cells := 0, slots := 0, locals := 22 } : Room) yX5_haveFeeOn cX5_haveFeeOn 4 (some .boolean) 0 0 false 0 207 (EB M) GS 0 0 2 [some (.ref v0), some (.int v1), some (.int v2), some (.int v3)] [] M (mX5_haveFeeOn_c2 n f v0 v1 v2 v3 M) := by
  intro f
  induction f with
  | zero =>
    intros
    exact J_none
  | succ f ih =>
    intro v0 v1 v2 v3 h0
    unfold mX5_haveFeeOn_c2
    refine J_ild3 dX5_haveFeeOn_2 ?_
    refine J_ald0 dX5_haveFeeOn_3 ?_
    refine J_geti fl_RX5_42 dX5_haveFeeOn_4 h0 rfl ?_
    refine J_ic_ge 47 dX5_haveFeeOn_7 rfl ?_ ?_
    · refine J_iconst (v := 0) dX5_haveFeeOn_47 rfl ?_
      exact J_zret dX5_haveFeeOn_48 rfl (Or.inl rfl) ⟨rfl, rfl, rfl, (Or.inl rfl)⟩
    · refine J_ald0 dX5_haveFeeOn_10 ?_
      refine J_ild3 dX5_haveFeeOn_11 ?_
      refine J_ild1 dX5_haveFeeOn_12 ?_
      refine J_cVB (jX5_isOf l cx n v0 h0 v3 v1 M) ck_RX5_65 dX5_haveFeeOn_13 rfl h0 ⟨rfl, rfl, by decide, by decide⟩ ⟨Nat.zero_le _, Nat.zero_le _, Nat.le_of_ble_eq_true rfl⟩ (fun r1 z2 => ?_)
      refine J_if_eq 41 dX5_haveFeeOn_16 rfl ?_ ?_
      · refine J_iinc3 (w := (v3 + (1 : Int32))) dX5_haveFeeOn_41 (by decide) rfl rfl ?_
        refine J_goto 2 dX5_haveFeeOn_44 rfl ?_
        exact J_wk (wk_s (wk_s (wk_s (wk_s wk_0)))) (ih h0)
      · refine J_ald0 dX5_haveFeeOn_19 ?_
        refine J_getr (q := (v0 + 1)) fl_RX5_9 dX5_haveFeeOn_20 h0 rfl (rf_5_1 h0) ?_
        refine J_ild3 dX5_haveFeeOn_23 ?_
        refine J_iald dX5_haveFeeOn_24 (kf_5_1 h0) (ln_5_1 h0) ?_
        refine J_iconst (v := 5) dX5_haveFeeOn_25 rfl ?_
        refine J_ic_ne 41 dX5_haveFeeOn_26 rfl ?_ ?_
        · refine J_iinc3 (w := (v3 + (1 : Int32))) dX5_haveFeeOn_41 (by decide) rfl rfl ?_
          refine J_goto 2 dX5_haveFeeOn_44 rfl ?_
          exact J_wk (wk_s (wk_s (wk_s (wk_s wk_0)))) (ih h0)
        · refine J_ald0 dX5_haveFeeOn_29 ?_
          refine J_getr (q := (v0 + 3)) fl_RX5_18 dX5_haveFeeOn_30 h0 rfl (rf_5_3 h0) ?_
          refine J_ild3 dX5_haveFeeOn_33 ?_
          refine J_iald dX5_haveFeeOn_34 (kf_5_3 h0) (ln_5_3 h0) ?_
          refine J_ild2 dX5_haveFeeOn_35 ?_
          refine J_ic_ne 41 dX5_haveFeeOn_36 rfl ?_ ?_
          · refine J_iinc3 (w := (v3 + (1 : Int32))) dX5_haveFeeOn_41 (by decide) rfl rfl ?_
            refine J_goto 2 dX5_haveFeeOn_44 rfl ?_
            exact J_wk (wk_s (wk_s (wk_s (wk_s wk_0)))) (ih h0)
          · refine J_iconst (v := 1) dX5_haveFeeOn_39 rfl ?_
            exact J_zret dX5_haveFeeOn_40 rfl (Or.inr rfl) ⟨rfl, rfl, rfl, (Or.inr rfl)⟩
set_option maxRecDepth 100000 in
theorem jX5_haveFeeOn (l : Launch) (cx : CX) (n : Nat) (o : Nat) (ho : IsK GS 0 207 o 5) (a : Int32) (b : Int32) (M : Mem) : Con l cx ({ frames := 1, cells := 0, slots := 0, locals := 22 } : Room) yX5_haveFeeOn cX5_haveFeeOn 4 (some .boolean) 0 0 false 0 207 (EB M) GS [.ref o, .int a, .int b] M (mX5_haveFeeOn n o a b M) := by
  unfold mX5_haveFeeOn
  refine Con.of (ls := [some (.ref o), some (.int a), some (.int b), none]) (by decide) rfl (Nat.le_of_ble_eq_true rfl) ?_
  refine J_iconst (v := 0) dX5_haveFeeOn_0 rfl ?_
  refine J_ist3 dX5_haveFeeOn_1 (by decide) rfl ?_
  exact J_wk (wk_s (wk_s (wk_s (wk_s wk_0)))) (jX5_haveFeeOn_c2 (n := n) n ho)
set_option maxRecDepth 100000 in
theorem jX1_writeReminder (l : Launch) (cx : CX) (n : Nat) (o : Nat) (ho : IsK GS 0 207 o 1) (a : Int32) (M : Mem) : Con l cx ({ frames := 3, cells := 0, slots := 0, locals := 73 } : Room) yX1_writeReminder cX1_writeReminder 6 (some .int) 0 0 false 0 207 EI GS [.ref o, .int a] M (mX1_writeReminder n o a M) := by
  unfold mX1_writeReminder
  refine Con.of (ls := [some (.ref o), some (.int a), none, none, none, none]) (by decide) rfl (Nat.le_of_ble_eq_true rfl) ?_
  refine J_ald0 dX1_writeReminder_0 ?_
  refine J_ild1 dX1_writeReminder_1 ?_
  refine J_cVB (jX1_hasBegun l cx n o ho a M) ck_RX1_60 dX1_writeReminder_2 rfl ho ⟨rfl, rfl, by decide, by decide⟩ ⟨Nat.zero_le _, Nat.zero_le _, Nat.le_of_ble_eq_true rfl⟩ (fun r1 z2 => ?_)
  refine J_if_ne 10 dX1_writeReminder_5 rfl ?_ ?_
  · refine J_ald0 dX1_writeReminder_10 ?_
    refine J_getr (q := (o + 35)) fl_RX1_20 dX1_writeReminder_11 ho rfl (rf_1_2 ho) ?_
    refine J_ild1 dX1_writeReminder_14 ?_
    refine J_aald (q := ((o + 35) + 12 + Int32.toNatClampNeg a)) dX1_writeReminder_15 (kf_1_2 ho) (Or.inl rfl) (ln_1_2 ho) (fun g3 => (aal_15 (kf_1_2 ho) g3).1) (fun g3 => ?_)
    refine J_ast2 dX1_writeReminder_16 (by decide) rfl ?_
    refine J_ald0 dX1_writeReminder_17 ?_
    refine J_getr (q := (o + 36)) fl_RX1_27 dX1_writeReminder_18 ho rfl (rf_1_3 ho) ?_
    refine J_ild1 dX1_writeReminder_21 ?_
    refine J_ald2 dX1_writeReminder_22 ?_
    refine J_geti fl_RX1_168 dX1_writeReminder_23 (aal_15 (kf_1_2 ho) g3).2 rfl ?_
    refine J_ald0 dX1_writeReminder_26 ?_
    refine J_geti fl_RX1_48 dX1_writeReminder_27 ho rfl ?_
    refine J_cVP (jX5_sumLate l cx n (o + 36) (kf_1_3 ho) a (M ((o + 35) + 12 + Int32.toNatClampNeg a) 12) (M o 4) M) ck_RX1_171 dX1_writeReminder_30 rfl (kf_1_3 ho) ⟨rfl, rfl, by decide, by decide⟩ ⟨Nat.zero_le _, Nat.zero_le _, Nat.le_of_ble_eq_true rfl⟩ (fun r4 => ?_)
    refine J_ist3 dX1_writeReminder_33 (by decide) rfl ?_
    refine J_ild3 dX1_writeReminder_34 ?_
    refine J_if_ne 41 dX1_writeReminder_35 rfl ?_ ?_
    · refine J_ald0 dX1_writeReminder_41 ?_
      refine J_getr (q := (o + 36)) fl_RX1_27 dX1_writeReminder_42 ho rfl (rf_1_3 ho) ?_
      refine J_iconst (v := 1) dX1_writeReminder_45 rfl ?_
      refine J_cVB (jX5_haveRoom l cx n (o + 36) (kf_1_3 ho) (1 : Int32) M) ck_RX1_137 dX1_writeReminder_46 rfl (kf_1_3 ho) ⟨rfl, rfl, by decide, by decide⟩ ⟨Nat.zero_le _, Nat.zero_le _, Nat.le_of_ble_eq_true rfl⟩ (fun r5 z6 => ?_)
      refine J_if_ne 55 dX1_writeReminder_49 rfl ?_ ?_
      · refine J_ald0 dX1_writeReminder_55 ?_
        refine J_getr (q := (o + 36)) fl_RX1_27 dX1_writeReminder_56 ho rfl (rf_1_3 ho) ?_
        refine J_ild1 dX1_writeReminder_59 ?_
        refine J_ald0 dX1_writeReminder_60 ?_
        refine J_geti fl_RX1_48 dX1_writeReminder_61 ho rfl ?_
        refine J_cVB (jX5_haveFeeOn l cx n (o + 36) (kf_1_3 ho) a (M o 4) M) ck_RX1_175 dX1_writeReminder_64 rfl (kf_1_3 ho) ⟨rfl, rfl, by decide, by decide⟩ ⟨Nat.zero_le _, Nat.zero_le _, Nat.le_of_ble_eq_true rfl⟩ (fun r7 z8 => ?_)
        refine J_if_eq 73 dX1_writeReminder_67 rfl ?_ ?_
        · refine J_ild3 dX1_writeReminder_73 ?_
          refine J_i2l dX1_writeReminder_74 ?_
          refine J_ald0 dX1_writeReminder_75 ?_
          refine J_getr (q := (o + 1)) fl_RX1_12 dX1_writeReminder_76 ho rfl (rf_1_1 ho) ?_
          refine J_geti fl_RX1_179 dX1_writeReminder_79 (kf_1_1 ho) rfl ?_
          refine J_i2l dX1_writeReminder_82 ?_
          refine J_lmul dX1_writeReminder_83 ?_
          refine J_ldc2 dX1_writeReminder_84 wd_23 ?_
          refine J_ldivK dX1_writeReminder_87 (by decide) ?_
          refine J_lst4 dX1_writeReminder_88 (by decide) rfl ?_
          refine J_ald0 dX1_writeReminder_90 ?_
          refine J_ald2 dX1_writeReminder_91 ?_
          refine J_iconst (v := 5) dX1_writeReminder_92 rfl ?_
          refine J_ald0 dX1_writeReminder_93 ?_
          refine J_geti fl_RX1_48 dX1_writeReminder_94 ho rfl ?_
          refine J_ald0 dX1_writeReminder_97 ?_
          refine J_geti fl_RX1_48 dX1_writeReminder_98 ho rfl ?_
          refine J_ldc2 dX1_writeReminder_101 wd_24 ?_
          refine J_lld4 dX1_writeReminder_104 ?_
          refine J_mminl ⟨wd_25, wd_26, wd_8, wd_27⟩ dX1_writeReminder_106 ⟨by decide, Nat.le_of_ble_eq_true rfl, Nat.zero_le _, Nat.zero_le _⟩ ?_
          refine J_l2i dX1_writeReminder_109 ?_
          refine J_cVI (jX1_write l cx n o ho ((o + 35) + 12 + Int32.toNatClampNeg a) (aal_15 (kf_1_2 ho) g3).2 (5 : Int32) (M o 4) (M o 4) (Int64.toInt32 (if (((Int32.toInt64 r4) * (Int32.toInt64 (M (o + 1) 3))) / (100 : Int64)) < (99999 : Int64) then (((Int32.toInt64 r4) * (Int32.toInt64 (M (o + 1) 3))) / (100 : Int64)) else (99999 : Int64))) M) ck_RX1_97 dX1_writeReminder_110 rfl ho ⟨rfl, rfl, by decide, by decide⟩ ⟨Nat.zero_le _, Nat.zero_le _, Nat.le_of_ble_eq_true rfl⟩ (fun r9 M10 => ?_)
          exact J_iret dX1_writeReminder_113 rfl ⟨rfl, rfl, rfl⟩
        · refine J_bipush (v := -4) dX1_writeReminder_70 rfl ?_
          exact J_iret dX1_writeReminder_72 rfl ⟨rfl, rfl, rfl⟩
      · refine J_bipush (v := -3) dX1_writeReminder_52 rfl ?_
        exact J_iret dX1_writeReminder_54 rfl ⟨rfl, rfl, rfl⟩
    · refine J_bipush (v := -2) dX1_writeReminder_38 rfl ?_
      exact J_iret dX1_writeReminder_40 rfl ⟨rfl, rfl, rfl⟩
  · refine J_iconst (v := -1) dX1_writeReminder_8 rfl ?_
    exact J_iret dX1_writeReminder_9 rfl ⟨rfl, rfl, rfl⟩
set_option maxRecDepth 100000 in
theorem jX5_has (l : Launch) (cx : CX) (n : Nat) (o : Nat) (ho : IsK GS 0 207 o 5) (a : Int32) (M : Mem) : Con l cx ({ frames := 0, cells := 0, slots := 0, locals := 0 } : Room) yX5_has cX5_has 2 (some .boolean) 0 0 false 0 207 (EB M) GS [.ref o, .int a] M (mX5_has o a M) := by
  unfold mX5_has
  refine Con.of (ls := [some (.ref o), some (.int a)]) (by decide) rfl (Nat.le_of_ble_eq_true rfl) ?_
  refine J_ild1 dX5_has_0 ?_
  refine J_if_lt 23 dX5_has_1 rfl ?_ ?_
  · refine J_iconst (v := 0) dX5_has_23 rfl ?_
    exact J_zret dX5_has_24 rfl (Or.inl rfl) ⟨rfl, rfl, rfl, (Or.inl rfl)⟩
  · refine J_ild1 dX5_has_4 ?_
    refine J_ald0 dX5_has_5 ?_
    refine J_geti fl_RX5_42 dX5_has_6 ho rfl ?_
    refine J_ic_ge 23 dX5_has_9 rfl ?_ ?_
    · refine J_iconst (v := 0) dX5_has_23 rfl ?_
      exact J_zret dX5_has_24 rfl (Or.inl rfl) ⟨rfl, rfl, rfl, (Or.inl rfl)⟩
    · refine J_ild1 dX5_has_12 ?_
      refine J_sipush (v := 400) dX5_has_13 rfl ?_
      refine J_ic_ge 23 dX5_has_16 rfl ?_ ?_
      · refine J_iconst (v := 0) dX5_has_23 rfl ?_
        exact J_zret dX5_has_24 rfl (Or.inl rfl) ⟨rfl, rfl, rfl, (Or.inl rfl)⟩
      · refine J_iconst (v := 1) dX5_has_19 rfl ?_
        refine J_goto 24 dX5_has_20 rfl ?_
        exact J_zret dX5_has_24 rfl (Or.inr rfl) ⟨rfl, rfl, rfl, (Or.inr rfl)⟩
set_option maxRecDepth 100000 in
theorem jX5_link (l : Launch) (cx : CX) (n : Nat) (o : Nat) (ho : IsK GS 0 207 o 5) (a : Int32) (b : Int32) (M : Mem) : Con l cx ({ frames := 1, cells := 0, slots := 0, locals := 21 } : Room) yX5_link cX5_link 3 none 0 0 false 0 207 EV GS [.ref o, .int a, .int b] M (mX5_link o a b M) := by
  unfold mX5_link
  refine Con.of (ls := [some (.ref o), some (.int a), some (.int b)]) (by decide) rfl (Nat.le_of_ble_eq_true rfl) ?_
  refine J_ald0 dX5_link_0 ?_
  refine J_ild1 dX5_link_1 ?_
  refine J_cVB (jX5_has l cx n o ho a M) ck_RX5_61 dX5_link_2 rfl ho ⟨rfl, rfl, by decide, by decide⟩ ⟨Nat.zero_le _, Nat.zero_le _, Nat.le_of_ble_eq_true rfl⟩ (fun r1 z2 => ?_)
  refine J_if_eq 30 dX5_link_5 rfl ?_ ?_
  · exact J_vret dX5_link_30 rfl ⟨rfl, rfl, rfl⟩
  · refine J_ald0 dX5_link_8 ?_
    refine J_ild2 dX5_link_9 ?_
    refine J_cVB (jX5_has l cx n o ho b M) ck_RX5_61 dX5_link_10 rfl ho ⟨rfl, rfl, by decide, by decide⟩ ⟨Nat.zero_le _, Nat.zero_le _, Nat.le_of_ble_eq_true rfl⟩ (fun r3 z4 => ?_)
    refine J_if_eq 30 dX5_link_13 rfl ?_ ?_
    · exact J_vret dX5_link_30 rfl ⟨rfl, rfl, rfl⟩
    · refine J_ald0 dX5_link_16 ?_
      refine J_getr (q := (o + 9)) fl_RX5_36 dX5_link_17 ho rfl (rf_5_9 ho) ?_
      refine J_ild1 dX5_link_20 ?_
      refine J_ild2 dX5_link_21 ?_
      refine J_iast dX5_link_22 (kf_5_9 ho) (ln_5_9 ho) ?_
      refine J_ald0 dX5_link_23 ?_
      refine J_getr (q := (o + 10)) fl_RX5_39 dX5_link_24 ho rfl (rf_5_10 ho) ?_
      refine J_ild2 dX5_link_27 ?_
      refine J_ild1 dX5_link_28 ?_
      refine J_iast dX5_link_29 (kf_5_10 ho) (ln_5_10 ho) ?_
      exact J_vret dX5_link_30 rfl ⟨rfl, rfl, rfl⟩
set_option maxRecDepth 100000 in
theorem jX1_turnRound (l : Launch) (cx : CX) (n : Nat) (o : Nat) (ho : IsK GS 0 207 o 1) (a : Int32) (M : Mem) : Con l cx ({ frames := 2, cells := 0, slots := 0, locals := 43 } : Room) yX1_turnRound cX1_turnRound 5 (some .int) 0 0 false 0 207 EI GS [.ref o, .int a] M (mX1_turnRound o a M) := by
  unfold mX1_turnRound
  refine Con.of (ls := [some (.ref o), some (.int a), none, none, none]) (by decide) rfl (Nat.le_of_ble_eq_true rfl) ?_
  refine J_ald0 dX1_turnRound_0 ?_
  refine J_getr (q := (o + 36)) fl_RX1_27 dX1_turnRound_1 ho rfl (rf_1_3 ho) ?_
  refine J_ild1 dX1_turnRound_4 ?_
  refine J_cVB (jX5_has l cx n (o + 36) (kf_1_3 ho) a M) ck_RX1_192 dX1_turnRound_5 rfl (kf_1_3 ho) ⟨rfl, rfl, by decide, by decide⟩ ⟨Nat.zero_le _, Nat.zero_le _, Nat.le_of_ble_eq_true rfl⟩ (fun r1 z2 => ?_)
  refine J_if_ne 13 dX1_turnRound_8 rfl ?_ ?_
  · refine J_ald0 dX1_turnRound_13 ?_
    refine J_getr (q := (o + 36)) fl_RX1_27 dX1_turnRound_14 ho rfl (rf_1_3 ho) ?_
    refine J_getr (q := ((o + 36) + 1)) fl_RX1_195 dX1_turnRound_17 (kf_1_3 ho) rfl (rf_5_1 (kf_1_3 ho)) ?_
    refine J_ild1 dX1_turnRound_20 ?_
    refine J_iald dX1_turnRound_21 (kf_5_1 (kf_1_3 ho)) (ln_5_1 (kf_1_3 ho)) ?_
    refine J_iconst (v := 4) dX1_turnRound_22 rfl ?_
    refine J_ic_eq 38 dX1_turnRound_23 rfl ?_ ?_
    · refine J_bipush (v := -2) dX1_turnRound_38 rfl ?_
      exact J_iret dX1_turnRound_40 rfl ⟨rfl, rfl, rfl⟩
    · refine J_ald0 dX1_turnRound_26 ?_
      refine J_getr (q := (o + 36)) fl_RX1_27 dX1_turnRound_27 ho rfl (rf_1_3 ho) ?_
      refine J_getr (q := ((o + 36) + 10)) fl_RX1_199 dX1_turnRound_30 (kf_1_3 ho) rfl (rf_5_10 (kf_1_3 ho)) ?_
      refine J_ild1 dX1_turnRound_33 ?_
      refine J_iald dX1_turnRound_34 (kf_5_10 (kf_1_3 ho)) (ln_5_10 (kf_1_3 ho)) ?_
      refine J_if_lt 41 dX1_turnRound_35 rfl ?_ ?_
      · refine J_ald0 dX1_turnRound_41 ?_
        refine J_getr (q := (o + 36)) fl_RX1_27 dX1_turnRound_42 ho rfl (rf_1_3 ho) ?_
        refine J_iconst (v := 1) dX1_turnRound_45 rfl ?_
        refine J_cVB (jX5_haveRoom l cx n (o + 36) (kf_1_3 ho) (1 : Int32) M) ck_RX1_137 dX1_turnRound_46 rfl (kf_1_3 ho) ⟨rfl, rfl, by decide, by decide⟩ ⟨Nat.zero_le _, Nat.zero_le _, Nat.le_of_ble_eq_true rfl⟩ (fun r3 z4 => ?_)
        refine J_if_ne 55 dX1_turnRound_49 rfl ?_ ?_
        · refine J_ald0 dX1_turnRound_55 ?_
          refine J_getr (q := (o + 36)) fl_RX1_27 dX1_turnRound_56 ho rfl (rf_1_3 ho) ?_
          refine J_getr (q := ((o + 36) + 2)) fl_RX1_202 dX1_turnRound_59 (kf_1_3 ho) rfl (rf_5_2 (kf_1_3 ho)) ?_
          refine J_ild1 dX1_turnRound_62 ?_
          refine J_iald dX1_turnRound_63 (kf_5_2 (kf_1_3 ho)) (ln_5_2 (kf_1_3 ho)) ?_
          refine J_ist2 dX1_turnRound_64 (by decide) rfl ?_
          refine J_ald0 dX1_turnRound_65 ?_
          refine J_getr (q := (o + 36)) fl_RX1_27 dX1_turnRound_66 ho rfl (rf_1_3 ho) ?_
          refine J_getr (q := ((o + 36) + 8)) fl_RX1_205 dX1_turnRound_69 (kf_1_3 ho) rfl (rf_5_8 (kf_1_3 ho)) ?_
          refine J_ild1 dX1_turnRound_72 ?_
          refine J_iald dX1_turnRound_73 (kf_5_8 (kf_1_3 ho)) (ln_5_8 (kf_1_3 ho)) ?_
          refine J_ineg dX1_turnRound_74 ?_
          refine J_ist3 dX1_turnRound_75 (by decide) rfl ?_
          refine J_ild2 dX1_turnRound_76 ?_
          refine J_cSB (jX10_isAccount l cx n (M ((o + 36) + 2) (Int32.toNatClampNeg a)) M) ck_RX1_52 dX1_turnRound_77 rfl ⟨rfl, rfl, by decide, by decide⟩ ⟨Nat.zero_le _, Nat.zero_le _, Nat.le_of_ble_eq_true rfl⟩ (fun r5 z6 => ?_)
          refine J_if_eq 97 dX1_turnRound_80 rfl ?_ ?_
          · refine J_bipush (v := -4) dX1_turnRound_97 rfl ?_
            exact J_iret dX1_turnRound_99 rfl ⟨rfl, rfl, rfl⟩
          · refine J_ald0 dX1_turnRound_83 ?_
            refine J_getr (q := (o + 35)) fl_RX1_20 dX1_turnRound_84 ho rfl (rf_1_2 ho) ?_
            refine J_ild2 dX1_turnRound_87 ?_
            refine J_aald (q := ((o + 35) + 12 + Int32.toNatClampNeg (M ((o + 36) + 2) (Int32.toNatClampNeg a)))) dX1_turnRound_88 (kf_1_2 ho) (Or.inl rfl) (ln_1_2 ho) (fun g7 => (aal_15 (kf_1_2 ho) g7).1) (fun g7 => ?_)
            refine J_geti fl_RX1_83 dX1_turnRound_89 (aal_15 (kf_1_2 ho) g7).2 rfl ?_
            refine J_ild3 dX1_turnRound_92 ?_
            refine J_iadd dX1_turnRound_93 ?_
            refine J_if_ge 100 dX1_turnRound_94 rfl ?_ ?_
            · refine J_ald0 dX1_turnRound_100 ?_
              refine J_getr (q := (o + 36)) fl_RX1_27 dX1_turnRound_101 ho rfl (rf_1_3 ho) ?_
              refine J_iconst (v := 4) dX1_turnRound_104 rfl ?_
              refine J_ild2 dX1_turnRound_105 ?_
              refine J_ald0 dX1_turnRound_106 ?_
              refine J_geti fl_RX1_48 dX1_turnRound_107 ho rfl ?_
              refine J_ild3 dX1_turnRound_110 ?_
              refine J_cVI (jX5_add l cx n (o + 36) (kf_1_3 ho) (4 : Int32) (M ((o + 36) + 2) (Int32.toNatClampNeg a)) (M o 4) (-(M ((o + 36) + 8) (Int32.toNatClampNeg a))) M) ck_RX1_69 dX1_turnRound_111 rfl (kf_1_3 ho) ⟨rfl, rfl, by decide, by decide⟩ ⟨Nat.zero_le _, Nat.zero_le _, Nat.le_of_ble_eq_true rfl⟩ (fun r8 M9 => ?_)
              refine J_ist4 dX1_turnRound_114 (by decide) rfl ?_
              refine J_ald0 dX1_turnRound_116 ?_
              refine J_getr (q := (o + 36)) fl_RX1_27 dX1_turnRound_117 ho rfl (rf_1_3 ho) ?_
              refine J_ild4 dX1_turnRound_120 ?_
              refine J_ald0 dX1_turnRound_122 ?_
              refine J_getr (q := (o + 36)) fl_RX1_27 dX1_turnRound_123 ho rfl (rf_1_3 ho) ?_
              refine J_getr (q := ((o + 36) + 4)) fl_RX1_208 dX1_turnRound_126 (kf_1_3 ho) rfl (rf_5_4 (kf_1_3 ho)) ?_
              refine J_ild1 dX1_turnRound_129 ?_
              refine J_iald dX1_turnRound_130 (kf_5_4 (kf_1_3 ho)) (ln_5_4 (kf_1_3 ho)) ?_
              refine J_ald0 dX1_turnRound_131 ?_
              refine J_getr (q := (o + 36)) fl_RX1_27 dX1_turnRound_132 ho rfl (rf_1_3 ho) ?_
              refine J_getr (q := ((o + 36) + 7)) fl_RX1_211 dX1_turnRound_135 (kf_1_3 ho) rfl (rf_5_7 (kf_1_3 ho)) ?_
              refine J_ild1 dX1_turnRound_138 ?_
              refine J_iald dX1_turnRound_139 (kf_5_7 (kf_1_3 ho)) (ln_5_7 (kf_1_3 ho)) ?_
              refine J_ald0 dX1_turnRound_140 ?_
              refine J_getr (q := (o + 36)) fl_RX1_27 dX1_turnRound_141 ho rfl (rf_1_3 ho) ?_
              refine J_getr (q := ((o + 36) + 5)) fl_RX1_214 dX1_turnRound_144 (kf_1_3 ho) rfl (rf_5_5 (kf_1_3 ho)) ?_
              refine J_ild1 dX1_turnRound_147 ?_
              refine J_iald dX1_turnRound_148 (kf_5_5 (kf_1_3 ho)) (ln_5_5 (kf_1_3 ho)) ?_
              refine J_ald0 dX1_turnRound_149 ?_
              refine J_getr (q := (o + 36)) fl_RX1_27 dX1_turnRound_150 ho rfl (rf_1_3 ho) ?_
              refine J_getr (q := ((o + 36) + 6)) fl_RX1_217 dX1_turnRound_153 (kf_1_3 ho) rfl (rf_5_6 (kf_1_3 ho)) ?_
              refine J_ild1 dX1_turnRound_156 ?_
              refine J_iald dX1_turnRound_157 (kf_5_6 (kf_1_3 ho)) (ln_5_6 (kf_1_3 ho)) ?_
              refine J_cVV (jX5_describe l cx n (o + 36) (kf_1_3 ho) r8 (M9 ((o + 36) + 4) (Int32.toNatClampNeg a)) (M9 ((o + 36) + 7) (Int32.toNatClampNeg a)) (M9 ((o + 36) + 5) (Int32.toNatClampNeg a)) (M9 ((o + 36) + 6) (Int32.toNatClampNeg a)) M9) ck_RX1_79 dX1_turnRound_158 rfl (kf_1_3 ho) ⟨rfl, rfl, by decide, by decide⟩ ⟨Nat.zero_le _, Nat.zero_le _, Nat.le_of_ble_eq_true rfl⟩ (fun M11 => ?_)
              refine J_ald0 dX1_turnRound_161 ?_
              refine J_getr (q := (o + 36)) fl_RX1_27 dX1_turnRound_162 ho rfl (rf_1_3 ho) ?_
              refine J_ild4 dX1_turnRound_165 ?_
              refine J_ild1 dX1_turnRound_167 ?_
              refine J_cVV (jX5_link l cx n (o + 36) (kf_1_3 ho) r8 a M11) ck_RX1_220 dX1_turnRound_168 rfl (kf_1_3 ho) ⟨rfl, rfl, by decide, by decide⟩ ⟨Nat.zero_le _, Nat.zero_le _, Nat.le_of_ble_eq_true rfl⟩ (fun M13 => ?_)
              refine J_ald0 dX1_turnRound_171 ?_
              refine J_getr (q := (o + 35)) fl_RX1_20 dX1_turnRound_172 ho rfl (rf_1_2 ho) ?_
              refine J_ild2 dX1_turnRound_175 ?_
              refine J_aald (q := ((o + 35) + 12 + Int32.toNatClampNeg (M ((o + 36) + 2) (Int32.toNatClampNeg a)))) dX1_turnRound_176 (kf_1_2 ho) (Or.inl rfl) (ln_1_2 ho) (fun g14 => (aal_15 (kf_1_2 ho) g14).1) (fun g14 => ?_)
              refine J_dup_r dX1_turnRound_177 ?_
              refine J_geti fl_RX1_83 dX1_turnRound_178 (aal_15 (kf_1_2 ho) g14).2 rfl ?_
              refine J_ild3 dX1_turnRound_181 ?_
              refine J_iadd dX1_turnRound_182 ?_
              refine J_puti fl_RX1_83 dX1_turnRound_183 (aal_15 (kf_1_2 ho) g14).2 rfl (by decide) ?_
              refine J_lt (fun M15 => ?_)
              refine J_ild4 dX1_turnRound_186 ?_
              exact J_iret dX1_turnRound_188 rfl ⟨rfl, rfl, rfl⟩
            · refine J_bipush (v := -4) dX1_turnRound_97 rfl ?_
              exact J_iret dX1_turnRound_99 rfl ⟨rfl, rfl, rfl⟩
        · refine J_bipush (v := -3) dX1_turnRound_52 rfl ?_
          exact J_iret dX1_turnRound_54 rfl ⟨rfl, rfl, rfl⟩
      · refine J_bipush (v := -2) dX1_turnRound_38 rfl ?_
        exact J_iret dX1_turnRound_40 rfl ⟨rfl, rfl, rfl⟩
  · refine J_iconst (v := -1) dX1_turnRound_11 rfl ?_
    exact J_iret dX1_turnRound_12 rfl ⟨rfl, rfl, rfl⟩
set_option maxRecDepth 100000 in
theorem jX1_canPassDay_c20 {l : Launch} {cx : CX} {n : Nat} {M : Mem} : ∀ (f : Nat) {v0 : Nat} {v1 : Int32} {v2 : Int32} {v3 : Int32} (h0 : IsK GS 0 207 v0 1), JO l cx ({ frames := 3, cells := 0, slots := 0, locals := 69 } : Room) yX1_canPassDay cX1_canPassDay 4 (some .boolean) 0 0 false 0 207 (EB M) GS 0 0 20 [some (.ref v0), some (.int v1), some (.int v2), some (.int v3)] [] M (mX1_canPassDay_c20 n f v0 v1 v2 v3 M) := by
  intro f
  induction f with
  | zero =>
    intros
    exact J_none
  | succ f ih =>
    intro v0 v1 v2 v3 h0
    unfold mX1_canPassDay_c20
    refine J_ild3 dX1_canPassDay_20 ?_
    refine J_bipush (v := 6) dX1_canPassDay_21 rfl ?_
    refine J_ic_ge 81 dX1_canPassDay_23 rfl ?_ ?_
    · refine J_ald0 dX1_canPassDay_81 ?_
      refine J_getr (q := (v0 + 36)) fl_RX1_27 dX1_canPassDay_82 h0 rfl (rf_1_3 h0) ?_
      refine J_ild2 dX1_canPassDay_85 ?_
      refine J_cVB (jX5_haveRoom l cx n (v0 + 36) (kf_1_3 h0) v2 M) ck_RX1_137 dX1_canPassDay_86 rfl (kf_1_3 h0) ⟨rfl, rfl, by decide, by decide⟩ ⟨Nat.zero_le _, Nat.zero_le _, Nat.le_of_ble_eq_true rfl⟩ (fun r1 z2 => ?_)
      exact J_zret dX1_canPassDay_89 rfl z2 ⟨rfl, rfl, rfl, z2⟩
    · refine J_ald0 dX1_canPassDay_26 ?_
      refine J_ild3 dX1_canPassDay_27 ?_
      refine J_cVB (jX1_isRunning l cx n v0 h0 v3 M) ck_RX1_151 dX1_canPassDay_28 rfl h0 ⟨rfl, rfl, by decide, by decide⟩ ⟨Nat.zero_le _, Nat.zero_le _, Nat.le_of_ble_eq_true rfl⟩ (fun r3 z4 => ?_)
      refine J_if_eq 75 dX1_canPassDay_31 rfl ?_ ?_
      · refine J_iinc3 (w := (v3 + (1 : Int32))) dX1_canPassDay_75 (by decide) rfl rfl ?_
        refine J_goto 20 dX1_canPassDay_78 rfl ?_
        exact J_wk (wk_s (wk_s (wk_s (wk_s wk_0)))) (ih h0)
      · refine J_ald0 dX1_canPassDay_34 ?_
        refine J_getr (q := (v0 + 35)) fl_RX1_20 dX1_canPassDay_35 h0 rfl (rf_1_2 h0) ?_
        refine J_ild3 dX1_canPassDay_38 ?_
        refine J_aald (q := ((v0 + 35) + 12 + Int32.toNatClampNeg v3)) dX1_canPassDay_39 (kf_1_2 h0) (Or.inl rfl) (ln_1_2 h0) (fun g5 => (aal_15 (kf_1_2 h0) g5).1) (fun g5 => ?_)
        refine J_geti fl_RX1_86 dX1_canPassDay_40 (aal_15 (kf_1_2 h0) g5).2 rfl ?_
        refine J_ild1 dX1_canPassDay_43 ?_
        refine J_ic_ne 75 dX1_canPassDay_44 rfl ?_ ?_
        · refine J_iinc3 (w := (v3 + (1 : Int32))) dX1_canPassDay_75 (by decide) rfl rfl ?_
          refine J_goto 20 dX1_canPassDay_78 rfl ?_
          exact J_wk (wk_s (wk_s (wk_s (wk_s wk_0)))) (ih h0)
        · refine J_iinc2 (w := (v2 + (2 : Int32))) dX1_canPassDay_47 (by decide) rfl rfl ?_
          refine J_ald0 dX1_canPassDay_50 ?_
          refine J_getr (q := 2) fl_RX1_31 dX1_canPassDay_51 h0 rfl (rf_1_0 h0) ?_
          refine J_ald0 dX1_canPassDay_54 ?_
          refine J_getr (q := (v0 + 35)) fl_RX1_20 dX1_canPassDay_55 h0 rfl (rf_1_2 h0) ?_
          refine J_ild3 dX1_canPassDay_58 ?_
          refine J_aald (q := ((v0 + 35) + 12 + Int32.toNatClampNeg v3)) dX1_canPassDay_59 (kf_1_2 h0) (Or.inl rfl) (ln_1_2 h0) (fun g6 => (aal_15 (kf_1_2 h0) g6).1) (fun g6 => ?_)
          refine J_geti fl_RX1_117 dX1_canPassDay_60 (aal_15 (kf_1_2 h0) g6).2 rfl ?_
          refine J_ild1 dX1_canPassDay_63 ?_
          refine J_cVP (jX3_nextTurn l cx n (M ((v0 + 35) + 12 + Int32.toNatClampNeg v3) 5) v1 M) ck_RX1_128 dX1_canPassDay_64 rfl kk_2 ⟨rfl, rfl, by decide, by decide⟩ ⟨Nat.zero_le _, Nat.zero_le _, Nat.le_of_ble_eq_true rfl⟩ (fun r7 => ?_)
          refine J_sipush (v := 3652) dX1_canPassDay_67 rfl ?_
          refine J_ic_le 75 dX1_canPassDay_70 rfl ?_ ?_
          · refine J_iinc3 (w := (v3 + (1 : Int32))) dX1_canPassDay_75 (by decide) rfl rfl ?_
            refine J_goto 20 dX1_canPassDay_78 rfl ?_
            exact J_wk (wk_s (wk_s (wk_s (wk_s wk_0)))) (ih h0)
          · refine J_iconst (v := 0) dX1_canPassDay_73 rfl ?_
            exact J_zret dX1_canPassDay_74 rfl (Or.inl rfl) ⟨rfl, rfl, rfl, (Or.inl rfl)⟩
set_option maxRecDepth 100000 in
theorem jX1_canPassDay (l : Launch) (cx : CX) (n : Nat) (o : Nat) (ho : IsK GS 0 207 o 1) (M : Mem) : Con l cx ({ frames := 3, cells := 0, slots := 0, locals := 69 } : Room) yX1_canPassDay cX1_canPassDay 4 (some .boolean) 0 0 false 0 207 (EB M) GS [.ref o] M (mX1_canPassDay n o M) := by
  unfold mX1_canPassDay
  refine Con.of (ls := [some (.ref o), none, none, none]) (by decide) rfl (Nat.le_of_ble_eq_true rfl) ?_
  refine J_ald0 dX1_canPassDay_0 ?_
  refine J_geti fl_RX1_48 dX1_canPassDay_1 ho rfl ?_
  refine J_iconst (v := 1) dX1_canPassDay_4 rfl ?_
  refine J_iadd dX1_canPassDay_5 ?_
  refine J_ist1 dX1_canPassDay_6 (by decide) rfl ?_
  refine J_ild1 dX1_canPassDay_7 ?_
  refine J_sipush (v := 3652) dX1_canPassDay_8 rfl ?_
  refine J_ic_le 16 dX1_canPassDay_11 rfl ?_ ?_
  · refine J_iconst (v := 0) dX1_canPassDay_16 rfl ?_
    refine J_ist2 dX1_canPassDay_17 (by decide) rfl ?_
    refine J_iconst (v := 0) dX1_canPassDay_18 rfl ?_
    refine J_ist3 dX1_canPassDay_19 (by decide) rfl ?_
    exact J_wk (wk_s (wk_s (wk_s (wk_s wk_0)))) (jX1_canPassDay_c20 (n := n) n ho)
  · refine J_iconst (v := 0) dX1_canPassDay_14 rfl ?_
    exact J_zret dX1_canPassDay_15 rfl (Or.inl rfl) ⟨rfl, rfl, rfl, (Or.inl rfl)⟩
set_option maxRecDepth 100000 in
theorem jX1_passDay_c12 {l : Launch} {cx : CX} {n : Nat} : ∀ (f : Nat) {v0 : Nat} {v1 : Int32} {M : Mem} (h0 : IsK GS 0 207 v0 1), JO l cx ({ frames := 4, cells := 0, slots := 0, locals := 92 } : Room) yX1_passDay cX1_passDay 3 none 0 0 false 0 207 EV GS 0 0 12 [some (.ref v0), some (.int v1), none] [] M (mX1_passDay_c12 n f v0 v1 M) := by
  intro f
  induction f with
  | zero =>
    intros
    exact J_none
  | succ f ih =>
    intro v0 v1 M h0
    unfold mX1_passDay_c12
    refine J_ild1 dX1_passDay_12 ?_
    refine J_bipush (v := 6) dX1_passDay_13 rfl ?_
    refine J_ic_ge 73 dX1_passDay_15 rfl ?_ ?_
    · exact J_vret dX1_passDay_73 rfl ⟨rfl, rfl, rfl⟩
    · refine J_ald0 dX1_passDay_18 ?_
      refine J_getr (q := (v0 + 35)) fl_RX1_20 dX1_passDay_19 h0 rfl (rf_1_2 h0) ?_
      refine J_ild1 dX1_passDay_22 ?_
      refine J_aald (q := ((v0 + 35) + 12 + Int32.toNatClampNeg v1)) dX1_passDay_23 (kf_1_2 h0) (Or.inl rfl) (ln_1_2 h0) (fun g1 => (aal_15 (kf_1_2 h0) g1).1) (fun g1 => ?_)
      refine J_ast2 dX1_passDay_24 (by decide) rfl ?_
      refine J_ald0 dX1_passDay_25 ?_
      refine J_ild1 dX1_passDay_26 ?_
      refine J_cVB (jX1_isRunning l cx n v0 h0 v1 M) ck_RX1_151 dX1_passDay_27 rfl h0 ⟨rfl, rfl, by decide, by decide⟩ ⟨Nat.zero_le _, Nat.zero_le _, Nat.le_of_ble_eq_true rfl⟩ (fun r2 z3 => ?_)
      refine J_if_eq 67 dX1_passDay_30 rfl ?_ ?_
      · refine J_iinc1 (w := (v1 + (1 : Int32))) dX1_passDay_67 (by decide) rfl rfl ?_
        refine J_goto 12 dX1_passDay_70 rfl ?_
        exact J_wk (wk_s (wk_s (wk_n wk_0))) (ih h0)
      · refine J_ald2 dX1_passDay_33 ?_
        refine J_geti fl_RX1_86 dX1_passDay_34 (aal_15 (kf_1_2 h0) g1).2 rfl ?_
        refine J_ald0 dX1_passDay_37 ?_
        refine J_geti fl_RX1_48 dX1_passDay_38 h0 rfl ?_
        refine J_ic_ne 67 dX1_passDay_41 rfl ?_ ?_
        · refine J_iinc1 (w := (v1 + (1 : Int32))) dX1_passDay_67 (by decide) rfl rfl ?_
          refine J_goto 12 dX1_passDay_70 rfl ?_
          exact J_wk (wk_s (wk_s (wk_n wk_0))) (ih h0)
        · refine J_ald0 dX1_passDay_44 ?_
          refine J_ald2 dX1_passDay_45 ?_
          refine J_cVI (jX1_writeUsage l cx n v0 h0 ((v0 + 35) + 12 + Int32.toNatClampNeg v1) (aal_15 (kf_1_2 h0) g1).2 M) ck_RX1_162 dX1_passDay_46 rfl h0 ⟨rfl, rfl, by decide, by decide⟩ ⟨Nat.zero_le _, Nat.zero_le _, Nat.le_of_ble_eq_true rfl⟩ (fun r4 M5 => ?_)
          refine J_pop_i dX1_passDay_49 ?_
          refine J_ald0 dX1_passDay_50 ?_
          refine J_ald2 dX1_passDay_51 ?_
          refine J_ald2 dX1_passDay_52 ?_
          refine J_geti fl_RX1_73 dX1_passDay_53 (aal_15 (kf_1_2 h0) g1).2 rfl ?_
          refine J_iconst (v := 1) dX1_passDay_56 rfl ?_
          refine J_iadd dX1_passDay_57 ?_
          refine J_cVV (jX1_startPeriod l cx n v0 h0 ((v0 + 35) + 12 + Int32.toNatClampNeg v1) (aal_15 (kf_1_2 h0) g1).2 ((M5 ((v0 + 35) + 12 + Int32.toNatClampNeg v1) 7) + (1 : Int32)) M5) ck_RX1_143 dX1_passDay_58 rfl h0 ⟨rfl, rfl, by decide, by decide⟩ ⟨Nat.zero_le _, Nat.zero_le _, Nat.le_of_ble_eq_true rfl⟩ (fun M7 => ?_)
          refine J_ald0 dX1_passDay_61 ?_
          refine J_ald2 dX1_passDay_62 ?_
          refine J_cVI (jX1_writeCharge l cx n v0 h0 ((v0 + 35) + 12 + Int32.toNatClampNeg v1) (aal_15 (kf_1_2 h0) g1).2 M7) ck_RX1_147 dX1_passDay_63 rfl h0 ⟨rfl, rfl, by decide, by decide⟩ ⟨Nat.zero_le _, Nat.zero_le _, Nat.le_of_ble_eq_true rfl⟩ (fun r8 M9 => ?_)
          refine J_pop_i dX1_passDay_66 ?_
          refine J_iinc1 (w := (v1 + (1 : Int32))) dX1_passDay_67 (by decide) rfl rfl ?_
          refine J_goto 12 dX1_passDay_70 rfl ?_
          exact J_wk (wk_s (wk_s (wk_n wk_0))) (ih h0)
set_option maxRecDepth 100000 in
theorem jX1_passDay (l : Launch) (cx : CX) (n : Nat) (o : Nat) (ho : IsK GS 0 207 o 1) (M : Mem) : Con l cx ({ frames := 4, cells := 0, slots := 0, locals := 92 } : Room) yX1_passDay cX1_passDay 3 none 0 0 false 0 207 EV GS [.ref o] M (mX1_passDay n o M) := by
  unfold mX1_passDay
  refine Con.of (ls := [some (.ref o), none, none]) (by decide) rfl (Nat.le_of_ble_eq_true rfl) ?_
  refine J_ald0 dX1_passDay_0 ?_
  refine J_dup_r dX1_passDay_1 ?_
  refine J_geti fl_RX1_48 dX1_passDay_2 ho rfl ?_
  refine J_iconst (v := 1) dX1_passDay_5 rfl ?_
  refine J_iadd dX1_passDay_6 ?_
  refine J_puti fl_RX1_48 dX1_passDay_7 ho rfl (by decide) ?_
  refine J_iconst (v := 0) dX1_passDay_10 rfl ?_
  refine J_ist1 dX1_passDay_11 (by decide) rfl ?_
  exact J_wk (wk_s (wk_s (wk_n wk_0))) (jX1_passDay_c12 (n := n) n ho)
set_option maxRecDepth 100000 in
theorem jX1_passDays_c16 {l : Launch} {cx : CX} {n : Nat} : ∀ (f : Nat) {v0 : Nat} {v1 : Int32} {v2 : Int32} {M : Mem} (h0 : IsK GS 0 207 v0 1), JO l cx ({ frames := 5, cells := 0, slots := 0, locals := 114 } : Room) yX1_passDays cX1_passDays 3 (some .int) 0 0 false 0 207 EI GS 0 0 16 [some (.ref v0), some (.int v1), some (.int v2)] [] M (mX1_passDays_c16 n f v0 v1 v2 M) := by
  intro f
  induction f with
  | zero =>
    intros
    exact J_none
  | succ f ih =>
    intro v0 v1 v2 M h0
    unfold mX1_passDays_c16
    refine J_ild2 dX1_passDays_16 ?_
    refine J_ild1 dX1_passDays_17 ?_
    refine J_ic_ge 38 dX1_passDays_18 rfl ?_ ?_
    · refine J_ild2 dX1_passDays_38 ?_
      exact J_iret dX1_passDays_39 rfl ⟨rfl, rfl, rfl⟩
    · refine J_ald0 dX1_passDays_21 ?_
      refine J_cVB (jX1_canPassDay l cx n v0 h0 M) ck_RX1_224 dX1_passDays_22 rfl h0 ⟨rfl, rfl, by decide, by decide⟩ ⟨Nat.zero_le _, Nat.zero_le _, Nat.le_of_ble_eq_true rfl⟩ (fun r1 z2 => ?_)
      refine J_if_eq 38 dX1_passDays_25 rfl ?_ ?_
      · refine J_ild2 dX1_passDays_38 ?_
        exact J_iret dX1_passDays_39 rfl ⟨rfl, rfl, rfl⟩
      · refine J_ald0 dX1_passDays_28 ?_
        refine J_cVV (jX1_passDay l cx n v0 h0 M) ck_RX1_228 dX1_passDays_29 rfl h0 ⟨rfl, rfl, by decide, by decide⟩ ⟨Nat.zero_le _, Nat.zero_le _, Nat.le_of_ble_eq_true rfl⟩ (fun M4 => ?_)
        refine J_iinc2 (w := (v2 + (1 : Int32))) dX1_passDays_32 (by decide) rfl rfl ?_
        refine J_goto 16 dX1_passDays_35 rfl ?_
        exact J_wk (wk_s (wk_s (wk_s wk_0))) (ih h0)
set_option maxRecDepth 100000 in
theorem jX1_passDays (l : Launch) (cx : CX) (n : Nat) (o : Nat) (ho : IsK GS 0 207 o 1) (a : Int32) (M : Mem) : Con l cx ({ frames := 5, cells := 0, slots := 0, locals := 114 } : Room) yX1_passDays cX1_passDays 3 (some .int) 0 0 false 0 207 EI GS [.ref o, .int a] M (mX1_passDays n o a M) := by
  unfold mX1_passDays
  refine Con.of (ls := [some (.ref o), some (.int a), none]) (by decide) rfl (Nat.le_of_ble_eq_true rfl) ?_
  refine J_ild1 dX1_passDays_0 ?_
  refine J_iconst (v := 1) dX1_passDays_1 rfl ?_
  refine J_ic_lt 12 dX1_passDays_2 rfl ?_ ?_
  · refine J_iconst (v := -1) dX1_passDays_12 rfl ?_
    exact J_iret dX1_passDays_13 rfl ⟨rfl, rfl, rfl⟩
  · refine J_ild1 dX1_passDays_5 ?_
    refine J_sipush (v := 400) dX1_passDays_6 rfl ?_
    refine J_ic_le 14 dX1_passDays_9 rfl ?_ ?_
    · refine J_iconst (v := 0) dX1_passDays_14 rfl ?_
      refine J_ist2 dX1_passDays_15 (by decide) rfl ?_
      exact J_wk (wk_s (wk_s (wk_s wk_0))) (jX1_passDays_c16 (n := n) n ho)
    · refine J_iconst (v := -1) dX1_passDays_12 rfl ?_
      exact J_iret dX1_passDays_13 rfl ⟨rfl, rfl, rfl⟩
set_option maxRecDepth 100000 in
theorem jX9_rateOn_c4 {l : Launch} {cx : CX} {n : Nat} {M : Mem} : ∀ (f : Nat) {v0 : Nat} {v1 : Int32} {v2 : Int32} {v3 : Int32} (h0 : IsK GS 0 207 v0 9), JO l cx ({ frames := 0, cells := 0, slots := 0, locals := 0 } : Room) yX9_rateOn cX9_rateOn 4 (some .int) 0 0 false 0 207 (EP M) GS 0 0 4 [some (.ref v0), some (.int v1), some (.int v2), some (.int v3)] [] M (mX9_rateOn_c4 n f v0 v1 v2 v3 M) := by
  intro f
  induction f with
  | zero =>
    intros
    exact J_none
  | succ f ih =>
    intro v0 v1 v2 v3 h0
    unfold mX9_rateOn_c4
    refine J_ild3 dX9_rateOn_4 ?_
    refine J_ald0 dX9_rateOn_5 ?_
    refine J_geti fl_RX9_38 dX9_rateOn_6 h0 rfl ?_
    refine J_ic_ge 40 dX9_rateOn_9 rfl ?_ ?_
    · refine J_ild2 dX9_rateOn_40 ?_
      exact J_iret dX9_rateOn_41 rfl ⟨rfl, rfl, rfl⟩
    · refine J_ild3 dX9_rateOn_12 ?_
      refine J_iconst (v := 4) dX9_rateOn_13 rfl ?_
      refine J_ic_ge 40 dX9_rateOn_14 rfl ?_ ?_
      · refine J_ild2 dX9_rateOn_40 ?_
        exact J_iret dX9_rateOn_41 rfl ⟨rfl, rfl, rfl⟩
      · refine J_ald0 dX9_rateOn_17 ?_
        refine J_getr (q := (v0 + 2)) fl_RX9_17 dX9_rateOn_18 h0 rfl (rf_9_5 h0) ?_
        refine J_ild3 dX9_rateOn_21 ?_
        refine J_iald dX9_rateOn_22 (kf_9_5 h0) (ln_9_5 h0) ?_
        refine J_ild1 dX9_rateOn_23 ?_
        refine J_ic_gt 34 dX9_rateOn_24 rfl ?_ ?_
        · refine J_iinc3 (w := (v3 + (1 : Int32))) dX9_rateOn_34 (by decide) rfl rfl ?_
          refine J_goto 4 dX9_rateOn_37 rfl ?_
          exact J_wk (wk_s (wk_s (wk_s (wk_s wk_0)))) (ih h0)
        · refine J_ald0 dX9_rateOn_27 ?_
          refine J_getr (q := (v0 + 3)) fl_RX9_21 dX9_rateOn_28 h0 rfl (rf_9_6 h0) ?_
          refine J_ild3 dX9_rateOn_31 ?_
          refine J_iald dX9_rateOn_32 (kf_9_6 h0) (ln_9_6 h0) ?_
          refine J_ist2 dX9_rateOn_33 (by decide) rfl ?_
          refine J_iinc3 (w := (v3 + (1 : Int32))) dX9_rateOn_34 (by decide) rfl rfl ?_
          refine J_goto 4 dX9_rateOn_37 rfl ?_
          exact J_wk (wk_s (wk_s (wk_s (wk_s wk_0)))) (ih h0)
set_option maxRecDepth 100000 in
theorem jX9_rateOn (l : Launch) (cx : CX) (n : Nat) (o : Nat) (ho : IsK GS 0 207 o 9) (a : Int32) (M : Mem) : Con l cx ({ frames := 0, cells := 0, slots := 0, locals := 0 } : Room) yX9_rateOn cX9_rateOn 4 (some .int) 0 0 false 0 207 (EP M) GS [.ref o, .int a] M (mX9_rateOn n o a M) := by
  unfold mX9_rateOn
  refine Con.of (ls := [some (.ref o), some (.int a), none, none]) (by decide) rfl (Nat.le_of_ble_eq_true rfl) ?_
  refine J_iconst (v := 0) dX9_rateOn_0 rfl ?_
  refine J_ist2 dX9_rateOn_1 (by decide) rfl ?_
  refine J_iconst (v := 0) dX9_rateOn_2 rfl ?_
  refine J_ist3 dX9_rateOn_3 (by decide) rfl ?_
  exact J_wk (wk_s (wk_s (wk_s (wk_s wk_0)))) (jX9_rateOn_c4 (n := n) n ho)
set_option maxRecDepth 100000 in
theorem jX1_hasRate (l : Launch) (cx : CX) (n : Nat) (o : Nat) (ho : IsK GS 0 207 o 1) (a : Int32) (b : Int32) (c : Int32) (M : Mem) : Con l cx ({ frames := 1, cells := 0, slots := 0, locals := 23 } : Room) yX1_hasRate cX1_hasRate 4 (some .boolean) 0 0 false 0 207 (EB M) GS [.ref o, .int a, .int b, .int c] M (mX1_hasRate n o a b c M) := by
  unfold mX1_hasRate
  refine Con.of (ls := [some (.ref o), some (.int a), some (.int b), some (.int c)]) (by decide) rfl (Nat.le_of_ble_eq_true rfl) ?_
  refine J_ald0 dX1_hasRate_0 ?_
  refine J_getr (q := (o + 36)) fl_RX1_27 dX1_hasRate_1 ho rfl (rf_1_3 ho) ?_
  refine J_ild1 dX1_hasRate_4 ?_
  refine J_ild2 dX1_hasRate_5 ?_
  refine J_cVB (jX5_isOf l cx n (o + 36) (kf_1_3 ho) a b M) ck_RX1_231 dX1_hasRate_6 rfl (kf_1_3 ho) ⟨rfl, rfl, by decide, by decide⟩ ⟨Nat.zero_le _, Nat.zero_le _, Nat.le_of_ble_eq_true rfl⟩ (fun r1 z2 => ?_)
  refine J_if_eq 36 dX1_hasRate_9 rfl ?_ ?_
  · refine J_iconst (v := 0) dX1_hasRate_36 rfl ?_
    exact J_zret dX1_hasRate_37 rfl (Or.inl rfl) ⟨rfl, rfl, rfl, (Or.inl rfl)⟩
  · refine J_ald0 dX1_hasRate_12 ?_
    refine J_getr (q := (o + 1)) fl_RX1_12 dX1_hasRate_13 ho rfl (rf_1_1 ho) ?_
    refine J_ald0 dX1_hasRate_16 ?_
    refine J_getr (q := (o + 36)) fl_RX1_27 dX1_hasRate_17 ho rfl (rf_1_3 ho) ?_
    refine J_getr (q := ((o + 36) + 3)) fl_RX1_234 dX1_hasRate_20 (kf_1_3 ho) rfl (rf_5_3 (kf_1_3 ho)) ?_
    refine J_ild1 dX1_hasRate_23 ?_
    refine J_iald dX1_hasRate_24 (kf_5_3 (kf_1_3 ho)) (ln_5_3 (kf_1_3 ho)) ?_
    refine J_cVP (jX9_rateOn l cx n (o + 1) (kf_1_1 ho) (M ((o + 36) + 3) (Int32.toNatClampNeg a)) M) ck_RX1_237 dX1_hasRate_25 rfl (kf_1_1 ho) ⟨rfl, rfl, by decide, by decide⟩ ⟨Nat.zero_le _, Nat.zero_le _, Nat.le_of_ble_eq_true rfl⟩ (fun r3 => ?_)
    refine J_ild3 dX1_hasRate_28 ?_
    refine J_ic_ne 36 dX1_hasRate_29 rfl ?_ ?_
    · refine J_iconst (v := 0) dX1_hasRate_36 rfl ?_
      exact J_zret dX1_hasRate_37 rfl (Or.inl rfl) ⟨rfl, rfl, rfl, (Or.inl rfl)⟩
    · refine J_iconst (v := 1) dX1_hasRate_32 rfl ?_
      refine J_goto 37 dX1_hasRate_33 rfl ?_
      exact J_zret dX1_hasRate_37 rfl (Or.inr rfl) ⟨rfl, rfl, rfl, (Or.inr rfl)⟩
set_option maxRecDepth 100000 in
theorem jX1_taxOf_c47 {l : Launch} {cx : CX} {n : Nat} {M : Mem} : ∀ (f : Nat) {v0 : Nat} {v1 : Int32} {v2 : Int32} {v3 : Int32} {v4 : Int64} {v6 : Int32} (h0 : IsK GS 0 207 v0 1), JO l cx ({ frames := 2, cells := 0, slots := 0, locals := 46 } : Room) yX1_taxOf cX1_taxOf 8 (some .int) 0 0 false 0 207 (EP M) GS 0 0 47 [some (.ref v0), some (.int v1), some (.int v2), some (.int v3), some (.long v4), none, some (.int v6), none] [] M (mX1_taxOf_c47 n f v0 v1 v2 v3 v4 v6 M) := by
  intro f
  induction f with
  | zero =>
    intros
    exact J_none
  | succ f ih =>
    intro v0 v1 v2 v3 v4 v6 h0
    unfold mX1_taxOf_c47
    refine J_ild6 dX1_taxOf_47 ?_
    refine J_ild1 dX1_taxOf_49 ?_
    refine J_ic_ge 86 dX1_taxOf_50 rfl ?_ ?_
    · refine J_lld4 dX1_taxOf_86 ?_
      refine J_ald0 dX1_taxOf_88 ?_
      refine J_getr (q := (v0 + 36)) fl_RX1_27 dX1_taxOf_89 h0 rfl (rf_1_3 h0) ?_
      refine J_getr (q := ((v0 + 36) + 8)) fl_RX1_205 dX1_taxOf_92 (kf_1_3 h0) rfl (rf_5_8 (kf_1_3 h0)) ?_
      refine J_ild1 dX1_taxOf_95 ?_
      refine J_iald dX1_taxOf_96 (kf_5_8 (kf_1_3 h0)) (ln_5_8 (kf_1_3 h0)) ?_
      refine J_i2l dX1_taxOf_97 ?_
      refine J_ladd dX1_taxOf_98 ?_
      refine J_lst6 dX1_taxOf_99 (by decide) rfl ?_
      refine J_lld6 dX1_taxOf_101 ?_
      refine J_ild3 dX1_taxOf_103 ?_
      refine J_i2l dX1_taxOf_104 ?_
      refine J_lmul dX1_taxOf_105 ?_
      refine J_ldc2 dX1_taxOf_106 wd_23 ?_
      refine J_ldivK dX1_taxOf_109 (by decide) ?_
      refine J_lld4 dX1_taxOf_110 ?_
      refine J_ild3 dX1_taxOf_112 ?_
      refine J_i2l dX1_taxOf_113 ?_
      refine J_lmul dX1_taxOf_114 ?_
      refine J_ldc2 dX1_taxOf_115 wd_23 ?_
      refine J_ldivK dX1_taxOf_118 (by decide) ?_
      refine J_lsub dX1_taxOf_119 ?_
      refine J_l2i dX1_taxOf_120 ?_
      exact J_iret dX1_taxOf_121 rfl ⟨rfl, rfl, rfl⟩
    · refine J_ald0 dX1_taxOf_53 ?_
      refine J_ild6 dX1_taxOf_54 ?_
      refine J_ild2 dX1_taxOf_56 ?_
      refine J_ild3 dX1_taxOf_57 ?_
      refine J_cVB (jX1_hasRate l cx n v0 h0 v6 v2 v3 M) ck_RX1_240 dX1_taxOf_58 rfl h0 ⟨rfl, rfl, by decide, by decide⟩ ⟨Nat.zero_le _, Nat.zero_le _, Nat.le_of_ble_eq_true rfl⟩ (fun r1 z2 => ?_)
      refine J_if_eq 80 dX1_taxOf_61 rfl ?_ ?_
      · refine J_iinc6 (w := (v6 + (1 : Int32))) dX1_taxOf_80 (by decide) rfl rfl ?_
        refine J_goto 47 dX1_taxOf_83 rfl ?_
        exact J_wk (wk_s (wk_s (wk_s (wk_s (wk_s (wk_n (wk_s (wk_n wk_0)))))))) (ih h0)
      · refine J_lld4 dX1_taxOf_64 ?_
        refine J_ald0 dX1_taxOf_66 ?_
        refine J_getr (q := (v0 + 36)) fl_RX1_27 dX1_taxOf_67 h0 rfl (rf_1_3 h0) ?_
        refine J_getr (q := ((v0 + 36) + 8)) fl_RX1_205 dX1_taxOf_70 (kf_1_3 h0) rfl (rf_5_8 (kf_1_3 h0)) ?_
        refine J_ild6 dX1_taxOf_73 ?_
        refine J_iald dX1_taxOf_75 (kf_5_8 (kf_1_3 h0)) (ln_5_8 (kf_1_3 h0)) ?_
        refine J_i2l dX1_taxOf_76 ?_
        refine J_ladd dX1_taxOf_77 ?_
        refine J_lst4 dX1_taxOf_78 (by decide) rfl ?_
        refine J_iinc6 (w := (v6 + (1 : Int32))) dX1_taxOf_80 (by decide) rfl rfl ?_
        refine J_goto 47 dX1_taxOf_83 rfl ?_
        exact J_wk (wk_s (wk_s (wk_s (wk_s (wk_s (wk_n (wk_s (wk_n wk_0)))))))) (ih h0)
set_option maxRecDepth 100000 in
theorem jX1_taxOf (l : Launch) (cx : CX) (n : Nat) (o : Nat) (ho : IsK GS 0 207 o 1) (a : Int32) (M : Mem) : Con l cx ({ frames := 2, cells := 0, slots := 0, locals := 46 } : Room) yX1_taxOf cX1_taxOf 8 (some .int) 0 0 false 0 207 (EP M) GS [.ref o, .int a] M (mX1_taxOf n o a M) := by
  unfold mX1_taxOf
  refine Con.of (ls := [some (.ref o), some (.int a), none, none, none, none, none, none]) (by decide) rfl (Nat.le_of_ble_eq_true rfl) ?_
  refine J_ald0 dX1_taxOf_0 ?_
  refine J_getr (q := (o + 36)) fl_RX1_27 dX1_taxOf_1 ho rfl (rf_1_3 ho) ?_
  refine J_ild1 dX1_taxOf_4 ?_
  refine J_cVB (jX5_has l cx n (o + 36) (kf_1_3 ho) a M) ck_RX1_192 dX1_taxOf_5 rfl (kf_1_3 ho) ⟨rfl, rfl, by decide, by decide⟩ ⟨Nat.zero_le _, Nat.zero_le _, Nat.le_of_ble_eq_true rfl⟩ (fun r3 z4 => ?_)
  refine J_if_ne 14 dX1_taxOf_8 rfl ?_ ?_
  · refine J_ald0 dX1_taxOf_14 ?_
    refine J_getr (q := (o + 36)) fl_RX1_27 dX1_taxOf_15 ho rfl (rf_1_3 ho) ?_
    refine J_getr (q := ((o + 36) + 2)) fl_RX1_202 dX1_taxOf_18 (kf_1_3 ho) rfl (rf_5_2 (kf_1_3 ho)) ?_
    refine J_ild1 dX1_taxOf_21 ?_
    refine J_iald dX1_taxOf_22 (kf_5_2 (kf_1_3 ho)) (ln_5_2 (kf_1_3 ho)) ?_
    refine J_ist2 dX1_taxOf_23 (by decide) rfl ?_
    refine J_ald0 dX1_taxOf_24 ?_
    refine J_getr (q := (o + 1)) fl_RX1_12 dX1_taxOf_25 ho rfl (rf_1_1 ho) ?_
    refine J_ald0 dX1_taxOf_28 ?_
    refine J_getr (q := (o + 36)) fl_RX1_27 dX1_taxOf_29 ho rfl (rf_1_3 ho) ?_
    refine J_getr (q := ((o + 36) + 3)) fl_RX1_234 dX1_taxOf_32 (kf_1_3 ho) rfl (rf_5_3 (kf_1_3 ho)) ?_
    refine J_ild1 dX1_taxOf_35 ?_
    refine J_iald dX1_taxOf_36 (kf_5_3 (kf_1_3 ho)) (ln_5_3 (kf_1_3 ho)) ?_
    refine J_cVP (jX9_rateOn l cx n (o + 1) (kf_1_1 ho) (M ((o + 36) + 3) (Int32.toNatClampNeg a)) M) ck_RX1_237 dX1_taxOf_37 rfl (kf_1_1 ho) ⟨rfl, rfl, by decide, by decide⟩ ⟨Nat.zero_le _, Nat.zero_le _, Nat.le_of_ble_eq_true rfl⟩ (fun r5 => ?_)
    refine J_ist3 dX1_taxOf_40 (by decide) rfl ?_
    refine J_lconst (v := 0) dX1_taxOf_41 rfl ?_
    refine J_lst4 dX1_taxOf_42 (by decide) rfl ?_
    refine J_iconst (v := 0) dX1_taxOf_44 rfl ?_
    refine J_ist6 dX1_taxOf_45 (by decide) rfl ?_
    exact J_wk (wk_s (wk_s (wk_s (wk_s (wk_s (wk_n (wk_s (wk_n wk_0)))))))) (jX1_taxOf_c47 (n := n) n ho)
  · refine J_ldc dX1_taxOf_11 wd_18 ?_
    exact J_iret dX1_taxOf_13 rfl ⟨rfl, rfl, rfl⟩
set_option maxRecDepth 100000 in
theorem jX1_taxesOf_c5 {l : Launch} {cx : CX} {n : Nat} {M : Mem} : ∀ (f : Nat) {v0 : Nat} {v1 : Int32} {v2 : Int32} {v3 : Int64} {v5 : Int32} (h0 : IsK GS 0 207 v0 1), JO l cx ({ frames := 2, cells := 0, slots := 0, locals := 46 } : Room) yX1_taxesOf cX1_taxesOf 6 (some .int) 0 0 false 0 207 (EP M) GS 0 0 5 [some (.ref v0), some (.int v1), some (.int v2), some (.long v3), none, some (.int v5)] [] M (mX1_taxesOf_c5 n f v0 v1 v2 v3 v5 M) := by
  intro f
  induction f with
  | zero =>
    intros
    exact J_none
  | succ f ih =>
    intro v0 v1 v2 v3 v5 h0
    unfold mX1_taxesOf_c5
    refine J_ild5 dX1_taxesOf_5 ?_
    refine J_ald0 dX1_taxesOf_7 ?_
    refine J_getr (q := (v0 + 36)) fl_RX1_27 dX1_taxesOf_8 h0 rfl (rf_1_3 h0) ?_
    refine J_geti fl_RX1_244 dX1_taxesOf_11 (kf_1_3 h0) rfl ?_
    refine J_ic_ge 48 dX1_taxesOf_14 rfl ?_ ?_
    · refine J_lld3 dX1_taxesOf_48 ?_
      refine J_ild2 dX1_taxesOf_49 ?_
      refine J_i2l dX1_taxesOf_50 ?_
      refine J_lmul dX1_taxesOf_51 ?_
      refine J_ldc2 dX1_taxesOf_52 wd_23 ?_
      refine J_ldivK dX1_taxesOf_55 (by decide) ?_
      refine J_l2i dX1_taxesOf_56 ?_
      exact J_iret dX1_taxesOf_57 rfl ⟨rfl, rfl, rfl⟩
    · refine J_ald0 dX1_taxesOf_17 ?_
      refine J_ild5 dX1_taxesOf_18 ?_
      refine J_ild1 dX1_taxesOf_20 ?_
      refine J_ild2 dX1_taxesOf_21 ?_
      refine J_cVB (jX1_hasRate l cx n v0 h0 v5 v1 v2 M) ck_RX1_240 dX1_taxesOf_22 rfl h0 ⟨rfl, rfl, by decide, by decide⟩ ⟨Nat.zero_le _, Nat.zero_le _, Nat.le_of_ble_eq_true rfl⟩ (fun r1 z2 => ?_)
      refine J_if_eq 42 dX1_taxesOf_25 rfl ?_ ?_
      · refine J_iinc5 (w := (v5 + (1 : Int32))) dX1_taxesOf_42 (by decide) rfl rfl ?_
        refine J_goto 5 dX1_taxesOf_45 rfl ?_
        exact J_wk (wk_s (wk_s (wk_s (wk_s (wk_n (wk_s wk_0)))))) (ih h0)
      · refine J_lld3 dX1_taxesOf_28 ?_
        refine J_ald0 dX1_taxesOf_29 ?_
        refine J_getr (q := (v0 + 36)) fl_RX1_27 dX1_taxesOf_30 h0 rfl (rf_1_3 h0) ?_
        refine J_getr (q := ((v0 + 36) + 8)) fl_RX1_205 dX1_taxesOf_33 (kf_1_3 h0) rfl (rf_5_8 (kf_1_3 h0)) ?_
        refine J_ild5 dX1_taxesOf_36 ?_
        refine J_iald dX1_taxesOf_38 (kf_5_8 (kf_1_3 h0)) (ln_5_8 (kf_1_3 h0)) ?_
        refine J_i2l dX1_taxesOf_39 ?_
        refine J_ladd dX1_taxesOf_40 ?_
        refine J_lst3 dX1_taxesOf_41 (by decide) rfl ?_
        refine J_iinc5 (w := (v5 + (1 : Int32))) dX1_taxesOf_42 (by decide) rfl rfl ?_
        refine J_goto 5 dX1_taxesOf_45 rfl ?_
        exact J_wk (wk_s (wk_s (wk_s (wk_s (wk_n (wk_s wk_0)))))) (ih h0)
set_option maxRecDepth 100000 in
theorem jX1_taxesOf (l : Launch) (cx : CX) (n : Nat) (o : Nat) (ho : IsK GS 0 207 o 1) (a : Int32) (b : Int32) (M : Mem) : Con l cx ({ frames := 2, cells := 0, slots := 0, locals := 46 } : Room) yX1_taxesOf cX1_taxesOf 6 (some .int) 0 0 false 0 207 (EP M) GS [.ref o, .int a, .int b] M (mX1_taxesOf n o a b M) := by
  unfold mX1_taxesOf
  refine Con.of (ls := [some (.ref o), some (.int a), some (.int b), none, none, none]) (by decide) rfl (Nat.le_of_ble_eq_true rfl) ?_
  refine J_lconst (v := 0) dX1_taxesOf_0 rfl ?_
  refine J_lst3 dX1_taxesOf_1 (by decide) rfl ?_
  refine J_iconst (v := 0) dX1_taxesOf_2 rfl ?_
  refine J_ist5 dX1_taxesOf_3 (by decide) rfl ?_
  exact J_wk (wk_s (wk_s (wk_s (wk_s (wk_n (wk_s wk_0)))))) (jX1_taxesOf_c5 (n := n) n ho)
set_option maxRecDepth 100000 in
theorem jX1_quoteOn (l : Launch) (cx : CX) (n : Nat) (o : Nat) (ho : IsK GS 0 207 o 1) (a : Nat) (ha : IsK GS 0 207 a 0) (b : Int32) (c : Int32) (M : Mem) : Con l cx ({ frames := 2, cells := 0, slots := 0, locals := 47 } : Room) yX1_quoteOn cX1_quoteOn 4 (some .int) 0 0 false 0 207 (EP M) GS [.ref o, .ref a, .int b, .int c] M (mX1_quoteOn n o a b c M) := by
  unfold mX1_quoteOn
  refine Con.of (ls := [some (.ref o), some (.ref a), some (.int b), some (.int c)]) (by decide) rfl (Nat.le_of_ble_eq_true rfl) ?_
  refine J_ald1 dX1_quoteOn_0 ?_
  refine J_ald0 dX1_quoteOn_1 ?_
  refine J_getr (q := (o + 1)) fl_RX1_12 dX1_quoteOn_2 ho rfl (rf_1_1 ho) ?_
  refine J_ild2 dX1_quoteOn_5 ?_
  refine J_ald1 dX1_quoteOn_6 ?_
  refine J_cVP (jX9_worth l cx n (o + 1) (kf_1_1 ho) b a ha M) ck_RX1_89 dX1_quoteOn_7 rfl (kf_1_1 ho) ⟨rfl, rfl, by decide, by decide⟩ ⟨Nat.zero_le _, Nat.zero_le _, Nat.le_of_ble_eq_true rfl⟩ (fun r1 => ?_)
  refine J_ild3 dX1_quoteOn_10 ?_
  refine J_cVP (jX0_partToEnd l cx n a ha r1 c M) ck_RX1_93 dX1_quoteOn_11 rfl ha ⟨rfl, rfl, by decide, by decide⟩ ⟨Nat.zero_le _, Nat.zero_le _, Nat.le_of_ble_eq_true rfl⟩ (fun r2 => ?_)
  refine J_ald1 dX1_quoteOn_14 ?_
  refine J_ald0 dX1_quoteOn_15 ?_
  refine J_getr (q := (o + 1)) fl_RX1_12 dX1_quoteOn_16 ho rfl (rf_1_1 ho) ?_
  refine J_ald1 dX1_quoteOn_19 ?_
  refine J_geti fl_RX1_76 dX1_quoteOn_20 ha rfl ?_
  refine J_ald1 dX1_quoteOn_23 ?_
  refine J_cVP (jX9_worth l cx n (o + 1) (kf_1_1 ho) (M a 4) a ha M) ck_RX1_89 dX1_quoteOn_24 rfl (kf_1_1 ho) ⟨rfl, rfl, by decide, by decide⟩ ⟨Nat.zero_le _, Nat.zero_le _, Nat.le_of_ble_eq_true rfl⟩ (fun r3 => ?_)
  refine J_ild3 dX1_quoteOn_27 ?_
  refine J_cVP (jX0_partToEnd l cx n a ha r3 c M) ck_RX1_93 dX1_quoteOn_28 rfl ha ⟨rfl, rfl, by decide, by decide⟩ ⟨Nat.zero_le _, Nat.zero_le _, Nat.le_of_ble_eq_true rfl⟩ (fun r4 => ?_)
  refine J_isub dX1_quoteOn_31 ?_
  exact J_iret dX1_quoteOn_32 rfl ⟨rfl, rfl, rfl⟩
set_option maxRecDepth 100000 in
theorem jX1_cheapestDay_c25 {l : Launch} {cx : CX} {n : Nat} {M : Mem} : ∀ (f : Nat) {v0 : Nat} {v1 : Nat} {v2 : Int32} {v3 : Int32} {v4 : Int32} {v5 : Int32} (h0 : IsK GS 0 207 v0 1) (h1 : IsK GS 0 207 v1 0), JO l cx ({ frames := 3, cells := 0, slots := 0, locals := 70 } : Room) yX1_cheapestDay cX1_cheapestDay 7 (some .int) 0 0 false 0 207 (EP M) GS 0 0 25 [some (.ref v0), some (.ref v1), some (.int v2), some (.int v3), some (.int v4), some (.int v5), none] [] M (mX1_cheapestDay_c25 n f v0 v1 v2 v3 v4 v5 M) := by
  intro f
  induction f with
  | zero =>
    intros
    exact J_none
  | succ f ih =>
    intro v0 v1 v2 v3 v4 v5 h0 h1
    unfold mX1_cheapestDay_c25
    refine J_ild5 dX1_cheapestDay_25 ?_
    refine J_ald1 dX1_cheapestDay_27 ?_
    refine J_geti fl_RX1_86 dX1_cheapestDay_28 h1 rfl ?_
    refine J_ic_ge 64 dX1_cheapestDay_31 rfl ?_ ?_
    · refine J_ild3 dX1_cheapestDay_64 ?_
      exact J_iret dX1_cheapestDay_65 rfl ⟨rfl, rfl, rfl⟩
    · refine J_ald0 dX1_cheapestDay_34 ?_
      refine J_ald1 dX1_cheapestDay_35 ?_
      refine J_ild2 dX1_cheapestDay_36 ?_
      refine J_ild5 dX1_cheapestDay_37 ?_
      refine J_cVP (jX1_quoteOn l cx n v0 h0 v1 h1 v2 v5 M) ck_RX1_247 dX1_cheapestDay_39 rfl h0 ⟨rfl, rfl, by decide, by decide⟩ ⟨Nat.zero_le _, Nat.zero_le _, Nat.le_of_ble_eq_true rfl⟩ (fun r1 => ?_)
      refine J_ist6 dX1_cheapestDay_42 (by decide) rfl ?_
      refine J_ild6 dX1_cheapestDay_44 ?_
      refine J_ild4 dX1_cheapestDay_46 ?_
      refine J_ic_ge 58 dX1_cheapestDay_48 rfl ?_ ?_
      · refine J_iinc5 (w := (v5 + (1 : Int32))) dX1_cheapestDay_58 (by decide) rfl rfl ?_
        refine J_goto 25 dX1_cheapestDay_61 rfl ?_
        exact J_wk (wk_s (wk_s (wk_s (wk_s (wk_s (wk_s (wk_n wk_0))))))) (ih h0 h1)
      · refine J_ild5 dX1_cheapestDay_51 ?_
        refine J_ist3 dX1_cheapestDay_53 (by decide) rfl ?_
        refine J_ild6 dX1_cheapestDay_54 ?_
        refine J_ist4 dX1_cheapestDay_56 (by decide) rfl ?_
        refine J_iinc5 (w := (v5 + (1 : Int32))) dX1_cheapestDay_58 (by decide) rfl rfl ?_
        refine J_goto 25 dX1_cheapestDay_61 rfl ?_
        exact J_wk (wk_s (wk_s (wk_s (wk_s (wk_s (wk_s (wk_n wk_0))))))) (ih h0 h1)
set_option maxRecDepth 100000 in
theorem jX1_cheapestDay (l : Launch) (cx : CX) (n : Nat) (o : Nat) (ho : IsK GS 0 207 o 1) (a : Nat) (ha : IsK GS 0 207 a 0) (b : Int32) (M : Mem) : Con l cx ({ frames := 3, cells := 0, slots := 0, locals := 70 } : Room) yX1_cheapestDay cX1_cheapestDay 7 (some .int) 0 0 false 0 207 (EP M) GS [.ref o, .ref a, .int b] M (mX1_cheapestDay n o a b M) := by
  unfold mX1_cheapestDay
  refine Con.of (ls := [some (.ref o), some (.ref a), some (.int b), none, none, none, none]) (by decide) rfl (Nat.le_of_ble_eq_true rfl) ?_
  refine J_ald0 dX1_cheapestDay_0 ?_
  refine J_geti fl_RX1_48 dX1_cheapestDay_1 ho rfl ?_
  refine J_ist3 dX1_cheapestDay_4 (by decide) rfl ?_
  refine J_ald0 dX1_cheapestDay_5 ?_
  refine J_ald1 dX1_cheapestDay_6 ?_
  refine J_ild2 dX1_cheapestDay_7 ?_
  refine J_ald0 dX1_cheapestDay_8 ?_
  refine J_geti fl_RX1_48 dX1_cheapestDay_9 ho rfl ?_
  refine J_cVP (jX1_quoteOn l cx n o ho a ha b (M o 4) M) ck_RX1_247 dX1_cheapestDay_12 rfl ho ⟨rfl, rfl, by decide, by decide⟩ ⟨Nat.zero_le _, Nat.zero_le _, Nat.le_of_ble_eq_true rfl⟩ (fun r2 => ?_)
  refine J_ist4 dX1_cheapestDay_15 (by decide) rfl ?_
  refine J_ald0 dX1_cheapestDay_17 ?_
  refine J_geti fl_RX1_48 dX1_cheapestDay_18 ho rfl ?_
  refine J_iconst (v := 1) dX1_cheapestDay_21 rfl ?_
  refine J_iadd dX1_cheapestDay_22 ?_
  refine J_ist5 dX1_cheapestDay_23 (by decide) rfl ?_
  exact J_wk (wk_s (wk_s (wk_s (wk_s (wk_s (wk_s (wk_n wk_0))))))) (jX1_cheapestDay_c25 (n := n) n ho ha)
set_option maxRecDepth 100000 in
theorem jX1_cheapestChange_c16 {l : Launch} {cx : CX} {n : Nat} {M : Mem} : ∀ (f : Nat) {v0 : Nat} {v1 : Nat} {v2 : Int32} {v3 : Int32} {v4 : Int32} (h0 : IsK GS 0 207 v0 1) (h1 : IsK GS 0 207 v1 0), JO l cx ({ frames := 3, cells := 0, slots := 0, locals := 70 } : Room) yX1_cheapestChange cX1_cheapestChange 6 (some .int) 0 0 false 0 207 (EP M) GS 0 0 16 [some (.ref v0), some (.ref v1), some (.int v2), some (.int v3), some (.int v4), none] [] M (mX1_cheapestChange_c16 n f v0 v1 v2 v3 v4 M) := by
  intro f
  induction f with
  | zero =>
    intros
    exact J_none
  | succ f ih =>
    intro v0 v1 v2 v3 v4 h0 h1
    unfold mX1_cheapestChange_c16
    refine J_ild4 dX1_cheapestChange_16 ?_
    refine J_bipush (v := 6) dX1_cheapestChange_18 rfl ?_
    refine J_ic_ge 54 dX1_cheapestChange_20 rfl ?_ ?_
    · refine J_ild2 dX1_cheapestChange_54 ?_
      exact J_iret dX1_cheapestChange_55 rfl ⟨rfl, rfl, rfl⟩
    · refine J_ald0 dX1_cheapestChange_23 ?_
      refine J_ald1 dX1_cheapestChange_24 ?_
      refine J_ild4 dX1_cheapestChange_25 ?_
      refine J_ald0 dX1_cheapestChange_27 ?_
      refine J_geti fl_RX1_48 dX1_cheapestChange_28 h0 rfl ?_
      refine J_cVP (jX1_quoteOn l cx n v0 h0 v1 h1 v4 (M v0 4) M) ck_RX1_247 dX1_cheapestChange_31 rfl h0 ⟨rfl, rfl, by decide, by decide⟩ ⟨Nat.zero_le _, Nat.zero_le _, Nat.le_of_ble_eq_true rfl⟩ (fun r1 => ?_)
      refine J_ist5 dX1_cheapestChange_34 (by decide) rfl ?_
      refine J_ild5 dX1_cheapestChange_36 ?_
      refine J_ild3 dX1_cheapestChange_38 ?_
      refine J_ic_ge 48 dX1_cheapestChange_39 rfl ?_ ?_
      · refine J_iinc4 (w := (v4 + (1 : Int32))) dX1_cheapestChange_48 (by decide) rfl rfl ?_
        refine J_goto 16 dX1_cheapestChange_51 rfl ?_
        exact J_wk (wk_s (wk_s (wk_s (wk_s (wk_s (wk_n wk_0)))))) (ih h0 h1)
      · refine J_ild4 dX1_cheapestChange_42 ?_
        refine J_ist2 dX1_cheapestChange_44 (by decide) rfl ?_
        refine J_ild5 dX1_cheapestChange_45 ?_
        refine J_ist3 dX1_cheapestChange_47 (by decide) rfl ?_
        refine J_iinc4 (w := (v4 + (1 : Int32))) dX1_cheapestChange_48 (by decide) rfl rfl ?_
        refine J_goto 16 dX1_cheapestChange_51 rfl ?_
        exact J_wk (wk_s (wk_s (wk_s (wk_s (wk_s (wk_n wk_0)))))) (ih h0 h1)
set_option maxRecDepth 100000 in
theorem jX1_cheapestChange (l : Launch) (cx : CX) (n : Nat) (o : Nat) (ho : IsK GS 0 207 o 1) (a : Nat) (ha : IsK GS 0 207 a 0) (M : Mem) : Con l cx ({ frames := 3, cells := 0, slots := 0, locals := 70 } : Room) yX1_cheapestChange cX1_cheapestChange 6 (some .int) 0 0 false 0 207 (EP M) GS [.ref o, .ref a] M (mX1_cheapestChange n o a M) := by
  unfold mX1_cheapestChange
  refine Con.of (ls := [some (.ref o), some (.ref a), none, none, none, none]) (by decide) rfl (Nat.le_of_ble_eq_true rfl) ?_
  refine J_iconst (v := 0) dX1_cheapestChange_0 rfl ?_
  refine J_ist2 dX1_cheapestChange_1 (by decide) rfl ?_
  refine J_ald0 dX1_cheapestChange_2 ?_
  refine J_ald1 dX1_cheapestChange_3 ?_
  refine J_iconst (v := 0) dX1_cheapestChange_4 rfl ?_
  refine J_ald0 dX1_cheapestChange_5 ?_
  refine J_geti fl_RX1_48 dX1_cheapestChange_6 ho rfl ?_
  refine J_cVP (jX1_quoteOn l cx n o ho a ha (0 : Int32) (M o 4) M) ck_RX1_247 dX1_cheapestChange_9 rfl ho ⟨rfl, rfl, by decide, by decide⟩ ⟨Nat.zero_le _, Nat.zero_le _, Nat.le_of_ble_eq_true rfl⟩ (fun r2 => ?_)
  refine J_ist3 dX1_cheapestChange_12 (by decide) rfl ?_
  refine J_iconst (v := 1) dX1_cheapestChange_13 rfl ?_
  refine J_ist4 dX1_cheapestChange_14 (by decide) rfl ?_
  exact J_wk (wk_s (wk_s (wk_s (wk_s (wk_s (wk_n wk_0)))))) (jX1_cheapestChange_c16 (n := n) n ho ha)
set_option maxRecDepth 100000 in
theorem jX1_begunBits_c4 {l : Launch} {cx : CX} {n : Nat} {M : Mem} : ∀ (f : Nat) {v0 : Nat} {v1 : Int32} {v2 : Int32} (h0 : IsK GS 0 207 v0 1), JO l cx ({ frames := 0, cells := 0, slots := 0, locals := 0 } : Room) yX1_begunBits cX1_begunBits 3 (some .int) 0 0 false 0 207 (EP M) GS 0 0 4 [some (.ref v0), some (.int v1), some (.int v2)] [] M (mX1_begunBits_c4 n f v0 v1 v2 M) := by
  intro f
  induction f with
  | zero =>
    intros
    exact J_none
  | succ f ih =>
    intro v0 v1 v2 h0
    unfold mX1_begunBits_c4
    refine J_ild2 dX1_begunBits_4 ?_
    refine J_bipush (v := 6) dX1_begunBits_5 rfl ?_
    refine J_ic_ge 38 dX1_begunBits_7 rfl ?_ ?_
    · refine J_ild1 dX1_begunBits_38 ?_
      exact J_iret dX1_begunBits_39 rfl ⟨rfl, rfl, rfl⟩
    · refine J_ild1 dX1_begunBits_10 ?_
      refine J_ald0 dX1_begunBits_11 ?_
      refine J_getr (q := (v0 + 35)) fl_RX1_20 dX1_begunBits_12 h0 rfl (rf_1_2 h0) ?_
      refine J_ild2 dX1_begunBits_15 ?_
      refine J_aald (q := ((v0 + 35) + 12 + Int32.toNatClampNeg v2)) dX1_begunBits_16 (kf_1_2 h0) (Or.inl rfl) (ln_1_2 h0) (fun g1 => (aal_15 (kf_1_2 h0) g1).1) (fun g1 => ?_)
      refine J_geti fl_RX1_56 dX1_begunBits_17 (aal_15 (kf_1_2 h0) g1).2 rfl ?_
      refine J_if_eq 29 dX1_begunBits_20 rfl ?_ ?_
      · refine J_iconst (v := 0) dX1_begunBits_29 rfl ?_
        refine J_ior dX1_begunBits_30 ?_
        refine J_ist1 dX1_begunBits_31 (by decide) rfl ?_
        refine J_iinc2 (w := (v2 + (1 : Int32))) dX1_begunBits_32 (by decide) rfl rfl ?_
        refine J_goto 4 dX1_begunBits_35 rfl ?_
        exact J_wk (wk_s (wk_s (wk_s wk_0))) (ih h0)
      · refine J_iconst (v := 1) dX1_begunBits_23 rfl ?_
        refine J_ild2 dX1_begunBits_24 ?_
        refine J_ishl dX1_begunBits_25 ?_
        refine J_goto 30 dX1_begunBits_26 rfl ?_
        refine J_ior dX1_begunBits_30 ?_
        refine J_ist1 dX1_begunBits_31 (by decide) rfl ?_
        refine J_iinc2 (w := (v2 + (1 : Int32))) dX1_begunBits_32 (by decide) rfl rfl ?_
        refine J_goto 4 dX1_begunBits_35 rfl ?_
        exact J_wk (wk_s (wk_s (wk_s wk_0))) (ih h0)
set_option maxRecDepth 100000 in
theorem jX1_begunBits (l : Launch) (cx : CX) (n : Nat) (o : Nat) (ho : IsK GS 0 207 o 1) (M : Mem) : Con l cx ({ frames := 0, cells := 0, slots := 0, locals := 0 } : Room) yX1_begunBits cX1_begunBits 3 (some .int) 0 0 false 0 207 (EP M) GS [.ref o] M (mX1_begunBits n o M) := by
  unfold mX1_begunBits
  refine Con.of (ls := [some (.ref o), none, none]) (by decide) rfl (Nat.le_of_ble_eq_true rfl) ?_
  refine J_iconst (v := 0) dX1_begunBits_0 rfl ?_
  refine J_ist1 dX1_begunBits_1 (by decide) rfl ?_
  refine J_iconst (v := 0) dX1_begunBits_2 rfl ?_
  refine J_ist2 dX1_begunBits_3 (by decide) rfl ?_
  exact J_wk (wk_s (wk_s (wk_s wk_0))) (jX1_begunBits_c4 (n := n) n ho)
set_option maxRecDepth 100000 in
theorem jX1_endedBits_c4 {l : Launch} {cx : CX} {n : Nat} {M : Mem} : ∀ (f : Nat) {v0 : Nat} {v1 : Int32} {v2 : Int32} (h0 : IsK GS 0 207 v0 1), JO l cx ({ frames := 0, cells := 0, slots := 0, locals := 0 } : Room) yX1_endedBits cX1_endedBits 3 (some .int) 0 0 false 0 207 (EP M) GS 0 0 4 [some (.ref v0), some (.int v1), some (.int v2)] [] M (mX1_endedBits_c4 n f v0 v1 v2 M) := by
  intro f
  induction f with
  | zero =>
    intros
    exact J_none
  | succ f ih =>
    intro v0 v1 v2 h0
    unfold mX1_endedBits_c4
    refine J_ild2 dX1_endedBits_4 ?_
    refine J_bipush (v := 6) dX1_endedBits_5 rfl ?_
    refine J_ic_ge 38 dX1_endedBits_7 rfl ?_ ?_
    · refine J_ild1 dX1_endedBits_38 ?_
      exact J_iret dX1_endedBits_39 rfl ⟨rfl, rfl, rfl⟩
    · refine J_ild1 dX1_endedBits_10 ?_
      refine J_ald0 dX1_endedBits_11 ?_
      refine J_getr (q := (v0 + 35)) fl_RX1_20 dX1_endedBits_12 h0 rfl (rf_1_2 h0) ?_
      refine J_ild2 dX1_endedBits_15 ?_
      refine J_aald (q := ((v0 + 35) + 12 + Int32.toNatClampNeg v2)) dX1_endedBits_16 (kf_1_2 h0) (Or.inl rfl) (ln_1_2 h0) (fun g1 => (aal_15 (kf_1_2 h0) g1).1) (fun g1 => ?_)
      refine J_geti fl_RX1_63 dX1_endedBits_17 (aal_15 (kf_1_2 h0) g1).2 rfl ?_
      refine J_if_eq 29 dX1_endedBits_20 rfl ?_ ?_
      · refine J_iconst (v := 0) dX1_endedBits_29 rfl ?_
        refine J_ior dX1_endedBits_30 ?_
        refine J_ist1 dX1_endedBits_31 (by decide) rfl ?_
        refine J_iinc2 (w := (v2 + (1 : Int32))) dX1_endedBits_32 (by decide) rfl rfl ?_
        refine J_goto 4 dX1_endedBits_35 rfl ?_
        exact J_wk (wk_s (wk_s (wk_s wk_0))) (ih h0)
      · refine J_iconst (v := 1) dX1_endedBits_23 rfl ?_
        refine J_ild2 dX1_endedBits_24 ?_
        refine J_ishl dX1_endedBits_25 ?_
        refine J_goto 30 dX1_endedBits_26 rfl ?_
        refine J_ior dX1_endedBits_30 ?_
        refine J_ist1 dX1_endedBits_31 (by decide) rfl ?_
        refine J_iinc2 (w := (v2 + (1 : Int32))) dX1_endedBits_32 (by decide) rfl rfl ?_
        refine J_goto 4 dX1_endedBits_35 rfl ?_
        exact J_wk (wk_s (wk_s (wk_s wk_0))) (ih h0)
set_option maxRecDepth 100000 in
theorem jX1_endedBits (l : Launch) (cx : CX) (n : Nat) (o : Nat) (ho : IsK GS 0 207 o 1) (M : Mem) : Con l cx ({ frames := 0, cells := 0, slots := 0, locals := 0 } : Room) yX1_endedBits cX1_endedBits 3 (some .int) 0 0 false 0 207 (EP M) GS [.ref o] M (mX1_endedBits n o M) := by
  unfold mX1_endedBits
  refine Con.of (ls := [some (.ref o), none, none]) (by decide) rfl (Nat.le_of_ble_eq_true rfl) ?_
  refine J_iconst (v := 0) dX1_endedBits_0 rfl ?_
  refine J_ist1 dX1_endedBits_1 (by decide) rfl ?_
  refine J_iconst (v := 0) dX1_endedBits_2 rfl ?_
  refine J_ist2 dX1_endedBits_3 (by decide) rfl ?_
  exact J_wk (wk_s (wk_s (wk_s wk_0))) (jX1_endedBits_c4 (n := n) n ho)
set_option maxRecDepth 100000 in
theorem jX1_pausedBits_c4 {l : Launch} {cx : CX} {n : Nat} {M : Mem} : ∀ (f : Nat) {v0 : Nat} {v1 : Int32} {v2 : Int32} (h0 : IsK GS 0 207 v0 1), JO l cx ({ frames := 0, cells := 0, slots := 0, locals := 0 } : Room) yX1_pausedBits cX1_pausedBits 3 (some .int) 0 0 false 0 207 (EP M) GS 0 0 4 [some (.ref v0), some (.int v1), some (.int v2)] [] M (mX1_pausedBits_c4 n f v0 v1 v2 M) := by
  intro f
  induction f with
  | zero =>
    intros
    exact J_none
  | succ f ih =>
    intro v0 v1 v2 h0
    unfold mX1_pausedBits_c4
    refine J_ild2 dX1_pausedBits_4 ?_
    refine J_bipush (v := 6) dX1_pausedBits_5 rfl ?_
    refine J_ic_ge 38 dX1_pausedBits_7 rfl ?_ ?_
    · refine J_ild1 dX1_pausedBits_38 ?_
      exact J_iret dX1_pausedBits_39 rfl ⟨rfl, rfl, rfl⟩
    · refine J_ild1 dX1_pausedBits_10 ?_
      refine J_ald0 dX1_pausedBits_11 ?_
      refine J_getr (q := (v0 + 35)) fl_RX1_20 dX1_pausedBits_12 h0 rfl (rf_1_2 h0) ?_
      refine J_ild2 dX1_pausedBits_15 ?_
      refine J_aald (q := ((v0 + 35) + 12 + Int32.toNatClampNeg v2)) dX1_pausedBits_16 (kf_1_2 h0) (Or.inl rfl) (ln_1_2 h0) (fun g1 => (aal_15 (kf_1_2 h0) g1).1) (fun g1 => ?_)
      refine J_geti fl_RX1_159 dX1_pausedBits_17 (aal_15 (kf_1_2 h0) g1).2 rfl ?_
      refine J_if_eq 29 dX1_pausedBits_20 rfl ?_ ?_
      · refine J_iconst (v := 0) dX1_pausedBits_29 rfl ?_
        refine J_ior dX1_pausedBits_30 ?_
        refine J_ist1 dX1_pausedBits_31 (by decide) rfl ?_
        refine J_iinc2 (w := (v2 + (1 : Int32))) dX1_pausedBits_32 (by decide) rfl rfl ?_
        refine J_goto 4 dX1_pausedBits_35 rfl ?_
        exact J_wk (wk_s (wk_s (wk_s wk_0))) (ih h0)
      · refine J_iconst (v := 1) dX1_pausedBits_23 rfl ?_
        refine J_ild2 dX1_pausedBits_24 ?_
        refine J_ishl dX1_pausedBits_25 ?_
        refine J_goto 30 dX1_pausedBits_26 rfl ?_
        refine J_ior dX1_pausedBits_30 ?_
        refine J_ist1 dX1_pausedBits_31 (by decide) rfl ?_
        refine J_iinc2 (w := (v2 + (1 : Int32))) dX1_pausedBits_32 (by decide) rfl rfl ?_
        refine J_goto 4 dX1_pausedBits_35 rfl ?_
        exact J_wk (wk_s (wk_s (wk_s wk_0))) (ih h0)
set_option maxRecDepth 100000 in
theorem jX1_pausedBits (l : Launch) (cx : CX) (n : Nat) (o : Nat) (ho : IsK GS 0 207 o 1) (M : Mem) : Con l cx ({ frames := 0, cells := 0, slots := 0, locals := 0 } : Room) yX1_pausedBits cX1_pausedBits 3 (some .int) 0 0 false 0 207 (EP M) GS [.ref o] M (mX1_pausedBits n o M) := by
  unfold mX1_pausedBits
  refine Con.of (ls := [some (.ref o), none, none]) (by decide) rfl (Nat.le_of_ble_eq_true rfl) ?_
  refine J_iconst (v := 0) dX1_pausedBits_0 rfl ?_
  refine J_ist1 dX1_pausedBits_1 (by decide) rfl ?_
  refine J_iconst (v := 0) dX1_pausedBits_2 rfl ?_
  refine J_ist2 dX1_pausedBits_3 (by decide) rfl ?_
  exact J_wk (wk_s (wk_s (wk_s wk_0))) (jX1_pausedBits_c4 (n := n) n ho)
set_option maxRecDepth 100000 in
theorem jX8_start (l : Launch) (cx : CX) (n : Nat) (o : Nat) (ho : IsK GS 0 207 o 8) (a : Int32) (M : Mem) : Con l cx ({ frames := 1, cells := 0, slots := 0, locals := 23 } : Room) yX8_start cX8_start 2 none 0 0 false 0 207 EV GS [.ref o, .int a] M (mX8_start o a M) := by
  unfold mX8_start
  refine Con.of (ls := [some (.ref o), some (.int a)]) (by decide) rfl (Nat.le_of_ble_eq_true rfl) ?_
  refine J_ald0 dX8_start_0 ?_
  refine J_iconst (v := 0) dX8_start_1 rfl ?_
  refine J_ild1 dX8_start_2 ?_
  refine J_ald0 dX8_start_3 ?_
  refine J_getr (q := 1) fl_RX8_9 dX8_start_4 ho rfl (rf_8_0 ho) ?_
  refine J_alen (v := (400 : Int32)) dX8_start_7 kk_1 (Or.inr rfl) rfl rfl ?_
  refine J_mmin ⟨wd_28, wd_7, wd_8, wd_9⟩ dX8_start_8 ⟨by decide, Nat.le_of_ble_eq_true rfl, Nat.zero_le _, Nat.zero_le _⟩ ?_
  refine J_mmax ⟨wd_29, wd_11, wd_8, wd_12⟩ dX8_start_11 ⟨by decide, Nat.le_of_ble_eq_true rfl, Nat.zero_le _, Nat.zero_le _⟩ ?_
  refine J_puti fl_RX8_24 dX8_start_14 ho rfl (by decide) ?_
  refine J_lt (fun M1 => ?_)
  refine J_ald0 dX8_start_17 ?_
  refine J_iconst (v := 0) dX8_start_18 rfl ?_
  refine J_puti fl_RX8_28 dX8_start_19 ho rfl (by decide) ?_
  refine J_ald0 dX8_start_22 ?_
  refine J_iconst (v := 0) dX8_start_23 rfl ?_
  refine J_puti fl_RX8_31 dX8_start_24 ho rfl (by decide) ?_
  refine J_ald0 dX8_start_27 ?_
  refine J_iconst (v := 0) dX8_start_28 rfl ?_
  refine J_puti fl_RX8_34 dX8_start_29 ho rfl (by decide) ?_
  exact J_vret dX8_start_32 rfl ⟨rfl, rfl, rfl⟩
set_option maxRecDepth 100000 in
theorem jX7_clear (l : Launch) (cx : CX) (n : Nat) (o : Nat) (ho : IsK GS 0 207 o 7) (M : Mem) : Con l cx ({ frames := 0, cells := 0, slots := 0, locals := 0 } : Room) yX7_clear cX7_clear 1 none 0 0 false 0 207 EV GS [.ref o] M (mX7_clear o M) := by
  unfold mX7_clear
  refine Con.of (ls := [some (.ref o)]) (by decide) rfl (Nat.le_of_ble_eq_true rfl) ?_
  refine J_ald0 dX7_clear_0 ?_
  refine J_iconst (v := 0) dX7_clear_1 rfl ?_
  refine J_puti fl_RX7_24 dX7_clear_2 ho rfl (by decide) ?_
  refine J_ald0 dX7_clear_5 ?_
  refine J_iconst (v := 0) dX7_clear_6 rfl ?_
  refine J_puti fl_RX7_28 dX7_clear_7 ho rfl (by decide) ?_
  refine J_ald0 dX7_clear_10 ?_
  refine J_iconst (v := 0) dX7_clear_11 rfl ?_
  refine J_puti fl_RX7_31 dX7_clear_12 ho rfl (by decide) ?_
  refine J_ald0 dX7_clear_15 ?_
  refine J_iconst (v := 0) dX7_clear_16 rfl ?_
  refine J_puti fl_RX7_34 dX7_clear_17 ho rfl (by decide) ?_
  refine J_lt (fun M1 => ?_)
  refine J_ald0 dX7_clear_20 ?_
  refine J_iconst (v := 0) dX7_clear_21 rfl ?_
  refine J_putzK fl_RX7_37 dX7_clear_22 ho rfl (by decide) (Or.inl rfl) ?_
  refine J_ald0 dX7_clear_25 ?_
  refine J_iconst (v := 0) dX7_clear_26 rfl ?_
  refine J_puti fl_RX7_41 dX7_clear_27 ho rfl (by decide) ?_
  refine J_ald0 dX7_clear_30 ?_
  refine J_iconst (v := 0) dX7_clear_31 rfl ?_
  refine J_puti fl_RX7_44 dX7_clear_32 ho rfl (by decide) ?_
  exact J_vret dX7_clear_35 rfl ⟨rfl, rfl, rfl⟩
set_option maxRecDepth 100000 in
theorem jX9_clear_c2 {l : Launch} {cx : CX} {n : Nat} : ∀ (f : Nat) {v0 : Nat} {v1 : Int32} {M : Mem} (h0 : IsK GS 0 207 v0 9), JO l cx ({ frames := 1, cells := 0, slots := 0, locals := 20 } : Room) yX9_clear cX9_clear 2 none 0 0 false 0 207 EV GS 0 0 2 [some (.ref v0), some (.int v1)] [] M (mX9_clear_c2 n f v0 v1 M) := by
  intro f
  induction f with
  | zero =>
    intros
    exact J_none
  | succ f ih =>
    intro v0 v1 M h0
    unfold mX9_clear_c2
    refine J_ild1 dX9_clear_2 ?_
    refine J_bipush (v := 6) dX9_clear_3 rfl ?_
    refine J_ic_ge 23 dX9_clear_5 rfl ?_ ?_
    · refine J_ald0 dX9_clear_23 ?_
      refine J_iconst (v := 0) dX9_clear_24 rfl ?_
      refine J_puti fl_RX9_28 dX9_clear_25 h0 rfl (by decide) ?_
      refine J_ald0 dX9_clear_28 ?_
      refine J_iconst (v := 0) dX9_clear_29 rfl ?_
      refine J_puti fl_RX9_32 dX9_clear_30 h0 rfl (by decide) ?_
      refine J_ald0 dX9_clear_33 ?_
      refine J_iconst (v := 0) dX9_clear_34 rfl ?_
      refine J_puti fl_RX9_35 dX9_clear_35 h0 rfl (by decide) ?_
      refine J_ald0 dX9_clear_38 ?_
      refine J_iconst (v := 0) dX9_clear_39 rfl ?_
      refine J_puti fl_RX9_38 dX9_clear_40 h0 rfl (by decide) ?_
      refine J_lt (fun M1 => ?_)
      refine J_ald0 dX9_clear_43 ?_
      refine J_iconst (v := 0) dX9_clear_44 rfl ?_
      refine J_puti fl_RX9_41 dX9_clear_45 h0 rfl (by decide) ?_
      exact J_vret dX9_clear_48 rfl ⟨rfl, rfl, rfl⟩
    · refine J_ald0 dX9_clear_8 ?_
      refine J_getr (q := (v0 + 1)) fl_RX9_11 dX9_clear_9 h0 rfl (rf_9_0 h0) ?_
      refine J_ild1 dX9_clear_12 ?_
      refine J_aald (q := ((v0 + 1) + 3 + 5 * Int32.toNatClampNeg v1)) dX9_clear_13 (kf_9_0 h0) (Or.inr rfl) (ln_9_0 h0) (fun g2 => (aal_16 (kf_9_0 h0) g2).1) (fun g2 => ?_)
      refine J_cVV (jX7_clear l cx n ((v0 + 1) + 3 + 5 * Int32.toNatClampNeg v1) (aal_16 (kf_9_0 h0) g2).2 M) ck_RX9_25 dX9_clear_14 rfl (aal_16 (kf_9_0 h0) g2).2 ⟨rfl, rfl, by decide, by decide⟩ ⟨Nat.zero_le _, Nat.zero_le _, Nat.le_of_ble_eq_true rfl⟩ (fun M4 => ?_)
      refine J_iinc1 (w := (v1 + (1 : Int32))) dX9_clear_17 (by decide) rfl rfl ?_
      refine J_goto 2 dX9_clear_20 rfl ?_
      exact J_wk (wk_s (wk_s wk_0)) (ih h0)
set_option maxRecDepth 100000 in
theorem jX9_clear (l : Launch) (cx : CX) (n : Nat) (o : Nat) (ho : IsK GS 0 207 o 9) (M : Mem) : Con l cx ({ frames := 1, cells := 0, slots := 0, locals := 20 } : Room) yX9_clear cX9_clear 2 none 0 0 false 0 207 EV GS [.ref o] M (mX9_clear n o M) := by
  unfold mX9_clear
  refine Con.of (ls := [some (.ref o), none]) (by decide) rfl (Nat.le_of_ble_eq_true rfl) ?_
  refine J_iconst (v := 0) dX9_clear_0 rfl ?_
  refine J_ist1 dX9_clear_1 (by decide) rfl ?_
  exact J_wk (wk_s (wk_s wk_0)) (jX9_clear_c2 (n := n) n ho)
set_option maxRecDepth 100000 in
theorem jX8_mark (l : Launch) (cx : CX) (n : Nat) (o : Nat) (ho : IsK GS 0 207 o 8) (a : Int32) (b : Int32) (M : Mem) : Con l cx ({ frames := 0, cells := 0, slots := 0, locals := 0 } : Room) yX8_mark cX8_mark 3 none 0 0 false 0 207 EV GS [.ref o, .int a, .int b] M (mX8_mark o a b M) := by
  unfold mX8_mark
  refine Con.of (ls := [some (.ref o), some (.int a), some (.int b)]) (by decide) rfl (Nat.le_of_ble_eq_true rfl) ?_
  refine J_ald0 dX8_mark_0 ?_
  refine J_geti fl_RX8_31 dX8_mark_1 ho rfl ?_
  refine J_if_ne 17 dX8_mark_4 rfl ?_ ?_
  · exact J_vret dX8_mark_17 rfl ⟨rfl, rfl, rfl⟩
  · refine J_ald0 dX8_mark_7 ?_
    refine J_ild1 dX8_mark_8 ?_
    refine J_puti fl_RX8_31 dX8_mark_9 ho rfl (by decide) ?_
    refine J_ald0 dX8_mark_12 ?_
    refine J_ild2 dX8_mark_13 ?_
    refine J_puti fl_RX8_34 dX8_mark_14 ho rfl (by decide) ?_
    exact J_vret dX8_mark_17 rfl ⟨rfl, rfl, rfl⟩
set_option maxRecDepth 100000 in
theorem jX8_byteAt (l : Launch) (cx : CX) (n : Nat) (o : Nat) (ho : IsK GS 0 207 o 8) (a : Int32) (M : Mem) : Con l cx ({ frames := 0, cells := 0, slots := 0, locals := 0 } : Room) yX8_byteAt cX8_byteAt 2 (some .int) 0 0 false 0 207 (EP M) GS [.ref o, .int a] M (mX8_byteAt o a M) := by
  unfold mX8_byteAt
  refine Con.of (ls := [some (.ref o), some (.int a)]) (by decide) rfl (Nat.le_of_ble_eq_true rfl) ?_
  refine J_ild1 dX8_byteAt_0 ?_
  refine J_if_lt 34 dX8_byteAt_1 rfl ?_ ?_
  · refine J_iconst (v := -1) dX8_byteAt_34 rfl ?_
    exact J_iret dX8_byteAt_35 rfl ⟨rfl, rfl, rfl⟩
  · refine J_ild1 dX8_byteAt_4 ?_
    refine J_ald0 dX8_byteAt_5 ?_
    refine J_geti fl_RX8_24 dX8_byteAt_6 ho rfl ?_
    refine J_ic_ge 34 dX8_byteAt_9 rfl ?_ ?_
    · refine J_iconst (v := -1) dX8_byteAt_34 rfl ?_
      exact J_iret dX8_byteAt_35 rfl ⟨rfl, rfl, rfl⟩
    · refine J_ild1 dX8_byteAt_12 ?_
      refine J_ald0 dX8_byteAt_13 ?_
      refine J_getr (q := 1) fl_RX8_9 dX8_byteAt_14 ho rfl (rf_8_0 ho) ?_
      refine J_alen (v := (400 : Int32)) dX8_byteAt_17 kk_1 (Or.inr rfl) rfl rfl ?_
      refine J_ic_ge 34 dX8_byteAt_18 rfl ?_ ?_
      · refine J_iconst (v := -1) dX8_byteAt_34 rfl ?_
        exact J_iret dX8_byteAt_35 rfl ⟨rfl, rfl, rfl⟩
      · refine J_ald0 dX8_byteAt_21 ?_
        refine J_getr (q := 1) fl_RX8_9 dX8_byteAt_22 ho rfl (rf_8_0 ho) ?_
        refine J_ild1 dX8_byteAt_25 ?_
        refine J_bald dX8_byteAt_26 kk_1 rfl ?_
        refine J_sipush (v := 255) dX8_byteAt_27 rfl ?_
        refine J_iand dX8_byteAt_30 ?_
        refine J_goto 35 dX8_byteAt_31 rfl ?_
        exact J_iret dX8_byteAt_35 rfl ⟨rfl, rfl, rfl⟩
set_option maxRecDepth 100000 in
theorem jX8_isSame_c3 {l : Launch} {cx : CX} {n : Nat} {M : Mem} : ∀ (f : Nat) {v0 : Nat} {v1 : Nat} {v2 : Int32} {v3 : Int32} {v4 : Int32} (h0 : IsK GS 0 207 v0 8) (h1 : v1 < 4), JO l cx ({ frames := 5, cells := 0, slots := 0, locals := 180 } : Room) yX8_isSame cX8_isSame 5 (some .boolean) 0 0 false 0 207 (EB M) GS 0 0 3 [some (.ref v0), some (.ref (SO + v1)), some (.int v2), some (.int v3), some (.int v4)] [] M (mX8_isSame_c3 n f v0 v1 v2 v3 v4 M) := by
  intro f
  induction f with
  | zero =>
    intros
    exact J_none
  | succ f ih =>
    intro v0 v1 v2 v3 v4 h0 h1
    unfold mX8_isSame_c3
    refine J_ild4 dX8_isSame_3 ?_
    refine J_ild3 dX8_isSame_5 ?_
    refine J_ic_ge 48 dX8_isSame_6 rfl ?_ ?_
    · refine J_iconst (v := 1) dX8_isSame_48 rfl ?_
      exact J_zret dX8_isSame_49 rfl (Or.inr rfl) ⟨rfl, rfl, rfl, (Or.inr rfl)⟩
    · refine J_ild4 dX8_isSame_9 ?_
      refine J_ald1 dX8_isSame_11 ?_
      refine J_slen (i := v1) wd_30 h1 dX8_isSame_12 ⟨by decide, Nat.le_of_ble_eq_true rfl⟩ ⟨Nat.zero_le _, Nat.zero_le _, Nat.le_of_ble_eq_true rfl⟩ ?_
      refine J_ic_ge 48 dX8_isSame_15 rfl ?_ ?_
      · refine J_iconst (v := 1) dX8_isSame_48 rfl ?_
        exact J_zret dX8_isSame_49 rfl (Or.inr rfl) ⟨rfl, rfl, rfl, (Or.inr rfl)⟩
      · refine J_ald1 dX8_isSame_18 ?_
        refine J_ild4 dX8_isSame_19 ?_
        refine J_schr (i := v1) wd_31 h1 dX8_isSame_21 ⟨by decide, Nat.le_of_ble_eq_true rfl⟩ ⟨Nat.zero_le _, Nat.zero_le _, Nat.le_of_ble_eq_true rfl⟩ ?_
        refine J_ald0 dX8_isSame_24 ?_
        refine J_ald0 dX8_isSame_25 ?_
        refine J_geti fl_RX8_28 dX8_isSame_26 h0 rfl ?_
        refine J_ild4 dX8_isSame_29 ?_
        refine J_iadd dX8_isSame_31 ?_
        refine J_ild2 dX8_isSame_32 ?_
        refine J_isub dX8_isSame_33 ?_
        refine J_cVP (jX8_byteAt l cx n v0 h0 (((M v0 2) + v4) - v2) M) ck_RX8_37 dX8_isSame_34 rfl h0 ⟨rfl, rfl, by decide, by decide⟩ ⟨Nat.zero_le _, Nat.zero_le _, Nat.le_of_ble_eq_true rfl⟩ (fun r1 => ?_)
        refine J_ic_eq 42 dX8_isSame_37 rfl ?_ ?_
        · refine J_iinc4 (w := (v4 + (1 : Int32))) dX8_isSame_42 (by decide) rfl rfl ?_
          refine J_goto 3 dX8_isSame_45 rfl ?_
          exact J_wk (wk_s (wk_s (wk_s (wk_s (wk_s wk_0))))) (ih h0 h1)
        · refine J_iconst (v := 0) dX8_isSame_40 rfl ?_
          exact J_zret dX8_isSame_41 rfl (Or.inl rfl) ⟨rfl, rfl, rfl, (Or.inl rfl)⟩
set_option maxRecDepth 100000 in
theorem jX8_isSame (l : Launch) (cx : CX) (n : Nat) (o : Nat) (ho : IsK GS 0 207 o 8) (a : Nat) (ha : a < 4) (b : Int32) (c : Int32) (M : Mem) : Con l cx ({ frames := 5, cells := 0, slots := 0, locals := 180 } : Room) yX8_isSame cX8_isSame 5 (some .boolean) 0 0 false 0 207 (EB M) GS [.ref o, .ref (SO + a), .int b, .int c] M (mX8_isSame n o a b c M) := by
  unfold mX8_isSame
  refine Con.of (ls := [some (.ref o), some (.ref (SO + a)), some (.int b), some (.int c), none]) (by decide) rfl (Nat.le_of_ble_eq_true rfl) ?_
  refine J_ild2 dX8_isSame_0 ?_
  refine J_ist4 dX8_isSame_1 (by decide) rfl ?_
  exact J_wk (wk_s (wk_s (wk_s (wk_s (wk_s wk_0))))) (jX8_isSame_c3 (n := n) n ho ha)
set_option maxRecDepth 100000 in
theorem jX8_word_c85 {l : Launch} {cx : CX} {n : Nat} {k56 : Nat → Nat → Int32 → Int32 → Int32 → Int32 → Mem → Option (Int32 × Mem)} (hk56 : ∀ {v0 : Nat} {v1 : Nat} {v2 : Int32} {v3 : Int32} {v4 : Int32} {v5 : Int32} {M : Mem} (h0 : IsK GS 0 207 v0 8) (h1 : v1 < 4), JO l cx ({ frames := 6, cells := 0, slots := 0, locals := 204 } : Room) yX8_word cX8_word 6 (some .int) 0 0 false 0 207 EI GS 0 0 56 [some (.ref v0), some (.ref (SO + v1)), some (.int v2), some (.int v3), some (.int v4), some (.int v5)] [] M (k56 v0 v1 v2 v3 v4 v5 M)) {v0 : Nat} {v1 : Nat} {v2 : Int32} {v3 : Int32} {v4 : Int32} {v5 : Int32} {M : Mem} (h0 : IsK GS 0 207 v0 8) (h1 : v1 < 4) : JO l cx ({ frames := 6, cells := 0, slots := 0, locals := 204 } : Room) yX8_word cX8_word 6 (some .int) 0 0 false 0 207 EI GS 0 0 85 [some (.ref v0), some (.ref (SO + v1)), some (.int v2), some (.int v3), some (.int v4), some (.int v5)] [] M (mX8_word_c85 n k56 v0 v1 v2 v3 v4 v5 M) := by
  unfold mX8_word_c85
  refine J_ild5 dX8_word_85 ?_
  refine J_ild3 dX8_word_87 ?_
  refine J_isub dX8_word_88 ?_
  refine J_ild2 dX8_word_89 ?_
  refine J_ald0 dX8_word_90 ?_
  refine J_geti fl_RX8_28 dX8_word_91 h0 rfl ?_
  refine J_isub dX8_word_94 ?_
  refine J_ic_ne 117 dX8_word_95 rfl ?_ ?_
  · refine J_ild5 dX8_word_117 ?_
    refine J_iconst (v := 1) dX8_word_119 rfl ?_
    refine J_iadd dX8_word_120 ?_
    refine J_ist3 dX8_word_121 (by decide) rfl ?_
    refine J_iinc4 (w := (v4 + (1 : Int32))) dX8_word_122 (by decide) rfl rfl ?_
    refine J_iinc5 (w := (v5 + (1 : Int32))) dX8_word_125 (by decide) rfl rfl ?_
    refine J_goto 56 dX8_word_128 rfl ?_
    exact J_wk (wk_s (wk_s (wk_s (wk_s (wk_s (wk_s wk_0)))))) (hk56 h0 h1)
  · refine J_ald0 dX8_word_98 ?_
    refine J_ald1 dX8_word_99 ?_
    refine J_ild3 dX8_word_100 ?_
    refine J_ild5 dX8_word_101 ?_
    refine J_cVB (jX8_isSame l cx n v0 h0 v1 h1 v3 v5 M) ck_RX8_54 dX8_word_103 rfl h0 ⟨rfl, rfl, by decide, by decide⟩ ⟨Nat.zero_le _, Nat.zero_le _, Nat.le_of_ble_eq_true rfl⟩ (fun r1 z2 => ?_)
    refine J_if_eq 117 dX8_word_106 rfl ?_ ?_
    · refine J_ild5 dX8_word_117 ?_
      refine J_iconst (v := 1) dX8_word_119 rfl ?_
      refine J_iadd dX8_word_120 ?_
      refine J_ist3 dX8_word_121 (by decide) rfl ?_
      refine J_iinc4 (w := (v4 + (1 : Int32))) dX8_word_122 (by decide) rfl rfl ?_
      refine J_iinc5 (w := (v5 + (1 : Int32))) dX8_word_125 (by decide) rfl rfl ?_
      refine J_goto 56 dX8_word_128 rfl ?_
      exact J_wk (wk_s (wk_s (wk_s (wk_s (wk_s (wk_s wk_0)))))) (hk56 h0 h1)
    · refine J_ald0 dX8_word_109 ?_
      refine J_ild2 dX8_word_110 ?_
      refine J_puti fl_RX8_28 dX8_word_111 h0 rfl (by decide) ?_
      refine J_ild4 dX8_word_114 ?_
      exact J_iret dX8_word_116 rfl ⟨rfl, rfl, rfl⟩
set_option maxRecDepth 100000 in
theorem jX8_word_c56 {l : Launch} {cx : CX} {n : Nat} : ∀ (f : Nat) {v0 : Nat} {v1 : Nat} {v2 : Int32} {v3 : Int32} {v4 : Int32} {v5 : Int32} {M : Mem} (h0 : IsK GS 0 207 v0 8) (h1 : v1 < 4), JO l cx ({ frames := 6, cells := 0, slots := 0, locals := 204 } : Room) yX8_word cX8_word 6 (some .int) 0 0 false 0 207 EI GS 0 0 56 [some (.ref v0), some (.ref (SO + v1)), some (.int v2), some (.int v3), some (.int v4), some (.int v5)] [] M (mX8_word_c56 n f v0 v1 v2 v3 v4 v5 M) := by
  intro f
  induction f with
  | zero =>
    intros
    exact J_none
  | succ f ih =>
    intro v0 v1 v2 v3 v4 v5 M h0 h1
    unfold mX8_word_c56
    refine J_ild5 dX8_word_56 ?_
    refine J_ald1 dX8_word_58 ?_
    refine J_slen (i := v1) wd_30 h1 dX8_word_59 ⟨by decide, Nat.le_of_ble_eq_true rfl⟩ ⟨Nat.zero_le _, Nat.zero_le _, Nat.le_of_ble_eq_true rfl⟩ ?_
    refine J_ic_gt 131 dX8_word_62 rfl ?_ ?_
    · refine J_ald0 dX8_word_131 ?_
      refine J_iconst (v := 1) dX8_word_132 rfl ?_
      refine J_ald0 dX8_word_133 ?_
      refine J_geti fl_RX8_28 dX8_word_134 h0 rfl ?_
      refine J_cVV (jX8_mark l cx n v0 h0 (1 : Int32) (M v0 2) M) ck_RX8_41 dX8_word_137 rfl h0 ⟨rfl, rfl, by decide, by decide⟩ ⟨Nat.zero_le _, Nat.zero_le _, Nat.le_of_ble_eq_true rfl⟩ (fun M4 => ?_)
      refine J_iconst (v := -1) dX8_word_140 rfl ?_
      exact J_iret dX8_word_141 rfl ⟨rfl, rfl, rfl⟩
    · refine J_ild5 dX8_word_65 ?_
      refine J_ald1 dX8_word_67 ?_
      refine J_slen (i := v1) wd_30 h1 dX8_word_68 ⟨by decide, Nat.le_of_ble_eq_true rfl⟩ ⟨Nat.zero_le _, Nat.zero_le _, Nat.le_of_ble_eq_true rfl⟩ ?_
      refine J_ic_eq 85 dX8_word_71 rfl ?_ ?_
      · exact J_wk (wk_s (wk_s (wk_s (wk_s (wk_s (wk_s wk_0)))))) (jX8_word_c85 (n := n) (fun q0 q1 => ih q0 q1) h0 h1)
      · refine J_ald1 dX8_word_74 ?_
        refine J_ild5 dX8_word_75 ?_
        refine J_schr (i := v1) wd_31 h1 dX8_word_77 ⟨by decide, Nat.le_of_ble_eq_true rfl⟩ ⟨Nat.zero_le _, Nat.zero_le _, Nat.le_of_ble_eq_true rfl⟩ ?_
        refine J_bipush (v := 32) dX8_word_80 rfl ?_
        refine J_ic_ne 125 dX8_word_82 rfl ?_ ?_
        · refine J_iinc5 (w := (v5 + (1 : Int32))) dX8_word_125 (by decide) rfl rfl ?_
          refine J_goto 56 dX8_word_128 rfl ?_
          exact J_wk (wk_s (wk_s (wk_s (wk_s (wk_s (wk_s wk_0)))))) (ih h0 h1)
        · exact J_wk (wk_s (wk_s (wk_s (wk_s (wk_s (wk_s wk_0)))))) (jX8_word_c85 (n := n) (fun q0 q1 => ih q0 q1) h0 h1)
set_option maxRecDepth 100000 in
theorem jX8_word_c14 {l : Launch} {cx : CX} {n : Nat} : ∀ (f : Nat) {v0 : Nat} {v1 : Nat} {v2 : Int32} {M : Mem} (h0 : IsK GS 0 207 v0 8) (h1 : v1 < 4), JO l cx ({ frames := 6, cells := 0, slots := 0, locals := 204 } : Room) yX8_word cX8_word 6 (some .int) 0 0 false 0 207 EI GS 0 0 14 [some (.ref v0), some (.ref (SO + v1)), some (.int v2), none, none, none] [] M (mX8_word_c14 n f v0 v1 v2 M) := by
  intro f
  induction f with
  | zero =>
    intros
    exact J_none
  | succ f ih =>
    intro v0 v1 v2 M h0 h1
    unfold mX8_word_c14
    refine J_ild2 dX8_word_14 ?_
    refine J_ald0 dX8_word_15 ?_
    refine J_geti fl_RX8_24 dX8_word_16 h0 rfl ?_
    refine J_ic_ge 48 dX8_word_19 rfl ?_ ?_
    · refine J_iconst (v := 0) dX8_word_48 rfl ?_
      refine J_ist3 dX8_word_49 (by decide) rfl ?_
      refine J_iconst (v := 0) dX8_word_50 rfl ?_
      refine J_ist4 dX8_word_51 (by decide) rfl ?_
      refine J_iconst (v := 0) dX8_word_53 rfl ?_
      refine J_ist5 dX8_word_54 (by decide) rfl ?_
      exact J_wk (wk_s (wk_s (wk_s (wk_s (wk_s (wk_s wk_0)))))) (jX8_word_c56 (n := n) n h0 h1)
    · refine J_ald0 dX8_word_22 ?_
      refine J_ild2 dX8_word_23 ?_
      refine J_cVP (jX8_byteAt l cx n v0 h0 v2 M) ck_RX8_37 dX8_word_24 rfl h0 ⟨rfl, rfl, by decide, by decide⟩ ⟨Nat.zero_le _, Nat.zero_le _, Nat.le_of_ble_eq_true rfl⟩ (fun r5 => ?_)
      refine J_bipush (v := 97) dX8_word_27 rfl ?_
      refine J_ic_lt 48 dX8_word_29 rfl ?_ ?_
      · refine J_iconst (v := 0) dX8_word_48 rfl ?_
        refine J_ist3 dX8_word_49 (by decide) rfl ?_
        refine J_iconst (v := 0) dX8_word_50 rfl ?_
        refine J_ist4 dX8_word_51 (by decide) rfl ?_
        refine J_iconst (v := 0) dX8_word_53 rfl ?_
        refine J_ist5 dX8_word_54 (by decide) rfl ?_
        exact J_wk (wk_s (wk_s (wk_s (wk_s (wk_s (wk_s wk_0)))))) (jX8_word_c56 (n := n) n h0 h1)
      · refine J_ald0 dX8_word_32 ?_
        refine J_ild2 dX8_word_33 ?_
        refine J_cVP (jX8_byteAt l cx n v0 h0 v2 M) ck_RX8_37 dX8_word_34 rfl h0 ⟨rfl, rfl, by decide, by decide⟩ ⟨Nat.zero_le _, Nat.zero_le _, Nat.le_of_ble_eq_true rfl⟩ (fun r6 => ?_)
        refine J_bipush (v := 122) dX8_word_37 rfl ?_
        refine J_ic_gt 48 dX8_word_39 rfl ?_ ?_
        · refine J_iconst (v := 0) dX8_word_48 rfl ?_
          refine J_ist3 dX8_word_49 (by decide) rfl ?_
          refine J_iconst (v := 0) dX8_word_50 rfl ?_
          refine J_ist4 dX8_word_51 (by decide) rfl ?_
          refine J_iconst (v := 0) dX8_word_53 rfl ?_
          refine J_ist5 dX8_word_54 (by decide) rfl ?_
          exact J_wk (wk_s (wk_s (wk_s (wk_s (wk_s (wk_s wk_0)))))) (jX8_word_c56 (n := n) n h0 h1)
        · refine J_iinc2 (w := (v2 + (1 : Int32))) dX8_word_42 (by decide) rfl rfl ?_
          refine J_goto 14 dX8_word_45 rfl ?_
          exact J_wk (wk_s (wk_s (wk_s (wk_n (wk_n (wk_n wk_0)))))) (ih h0 h1)
set_option maxRecDepth 100000 in
theorem jX8_word (l : Launch) (cx : CX) (n : Nat) (o : Nat) (ho : IsK GS 0 207 o 8) (a : Nat) (ha : a < 4) (M : Mem) : Con l cx ({ frames := 6, cells := 0, slots := 0, locals := 204 } : Room) yX8_word cX8_word 6 (some .int) 0 0 false 0 207 EI GS [.ref o, .ref (SO + a)] M (mX8_word n o a M) := by
  unfold mX8_word
  refine Con.of (ls := [some (.ref o), some (.ref (SO + a)), none, none, none, none]) (by decide) rfl (Nat.le_of_ble_eq_true rfl) ?_
  refine J_ald0 dX8_word_0 ?_
  refine J_geti fl_RX8_31 dX8_word_1 ho rfl ?_
  refine J_if_eq 9 dX8_word_4 rfl ?_ ?_
  · refine J_ald0 dX8_word_9 ?_
    refine J_geti fl_RX8_28 dX8_word_10 ho rfl ?_
    refine J_ist2 dX8_word_13 (by decide) rfl ?_
    exact J_wk (wk_s (wk_s (wk_s (wk_n (wk_n (wk_n wk_0)))))) (jX8_word_c14 (n := n) n ho ha)
  · refine J_iconst (v := -1) dX8_word_7 rfl ?_
    exact J_iret dX8_word_8 rfl ⟨rfl, rfl, rfl⟩
set_option maxRecDepth 100000 in
theorem jX8_blank (l : Launch) (cx : CX) (n : Nat) (o : Nat) (ho : IsK GS 0 207 o 8) (M : Mem) : Con l cx ({ frames := 1, cells := 0, slots := 0, locals := 22 } : Room) yX8_blank cX8_blank 1 none 0 0 false 0 207 EV GS [.ref o] M (mX8_blank o M) := by
  unfold mX8_blank
  refine Con.of (ls := [some (.ref o)]) (by decide) rfl (Nat.le_of_ble_eq_true rfl) ?_
  refine J_ald0 dX8_blank_0 ?_
  refine J_geti fl_RX8_31 dX8_blank_1 ho rfl ?_
  refine J_if_eq 8 dX8_blank_4 rfl ?_ ?_
  · refine J_ald0 dX8_blank_8 ?_
    refine J_ald0 dX8_blank_9 ?_
    refine J_geti fl_RX8_28 dX8_blank_10 ho rfl ?_
    refine J_cVP (jX8_byteAt l cx n o ho (M o 2) M) ck_RX8_37 dX8_blank_13 rfl ho ⟨rfl, rfl, by decide, by decide⟩ ⟨Nat.zero_le _, Nat.zero_le _, Nat.le_of_ble_eq_true rfl⟩ (fun r1 => ?_)
    refine J_bipush (v := 32) dX8_blank_16 rfl ?_
    refine J_ic_ne 34 dX8_blank_18 rfl ?_ ?_
    · refine J_ald0 dX8_blank_34 ?_
      refine J_iconst (v := 1) dX8_blank_35 rfl ?_
      refine J_ald0 dX8_blank_36 ?_
      refine J_geti fl_RX8_28 dX8_blank_37 ho rfl ?_
      refine J_cVV (jX8_mark l cx n o ho (1 : Int32) (M o 2) M) ck_RX8_41 dX8_blank_40 rfl ho ⟨rfl, rfl, by decide, by decide⟩ ⟨Nat.zero_le _, Nat.zero_le _, Nat.le_of_ble_eq_true rfl⟩ (fun M3 => ?_)
      exact J_vret dX8_blank_43 rfl ⟨rfl, rfl, rfl⟩
    · refine J_ald0 dX8_blank_21 ?_
      refine J_dup_r dX8_blank_22 ?_
      refine J_geti fl_RX8_28 dX8_blank_23 ho rfl ?_
      refine J_iconst (v := 1) dX8_blank_26 rfl ?_
      refine J_iadd dX8_blank_27 ?_
      refine J_puti fl_RX8_28 dX8_blank_28 ho rfl (by decide) ?_
      refine J_goto 43 dX8_blank_31 rfl ?_
      exact J_vret dX8_blank_43 rfl ⟨rfl, rfl, rfl⟩
  · exact J_vret dX8_blank_7 rfl ⟨rfl, rfl, rfl⟩
set_option maxRecDepth 100000 in
theorem jX8_isSound (l : Launch) (cx : CX) (n : Nat) (o : Nat) (ho : IsK GS 0 207 o 8) (M : Mem) : Con l cx ({ frames := 0, cells := 0, slots := 0, locals := 0 } : Room) yX8_isSound cX8_isSound 1 (some .boolean) 0 0 false 0 207 (EB M) GS [.ref o] M (mX8_isSound o M) := by
  unfold mX8_isSound
  refine Con.of (ls := [some (.ref o)]) (by decide) rfl (Nat.le_of_ble_eq_true rfl) ?_
  refine J_ald0 dX8_isSound_0 ?_
  refine J_geti fl_RX8_31 dX8_isSound_1 ho rfl ?_
  refine J_if_ne 11 dX8_isSound_4 rfl ?_ ?_
  · refine J_iconst (v := 0) dX8_isSound_11 rfl ?_
    exact J_zret dX8_isSound_12 rfl (Or.inl rfl) ⟨rfl, rfl, rfl, (Or.inl rfl)⟩
  · refine J_iconst (v := 1) dX8_isSound_7 rfl ?_
    refine J_goto 12 dX8_isSound_8 rfl ?_
    exact J_zret dX8_isSound_12 rfl (Or.inr rfl) ⟨rfl, rfl, rfl, (Or.inr rfl)⟩
set_option maxRecDepth 100000 in
theorem jX8_number_c122 {l : Launch} {cx : CX} {n : Nat} {v0 : Nat} {v1 : Int32} {v2 : Int32} {v3 : Int32} {v4 : Int32} {M : Mem} (h0 : IsK GS 0 207 v0 8) : JO l cx ({ frames := 1, cells := 0, slots := 0, locals := 22 } : Room) yX8_number cX8_number 6 (some .int) 0 0 false 0 207 EI GS 0 0 122 [some (.ref v0), some (.int v1), some (.int v2), some (.int v3), some (.int v4), none] [] M (mX8_number_c122 n v0 v1 v2 v3 v4 M) := by
  unfold mX8_number_c122
  refine J_ald0 dX8_number_122 ?_
  refine J_geti fl_RX8_28 dX8_number_123 h0 rfl ?_
  refine J_ild3 dX8_number_126 ?_
  refine J_ic_ne 139 dX8_number_127 rfl ?_ ?_
  · refine J_ild4 dX8_number_139 ?_
    refine J_ild1 dX8_number_141 ?_
    refine J_ic_lt 151 dX8_number_142 rfl ?_ ?_
    · refine J_ald0 dX8_number_151 ?_
      refine J_iconst (v := 3) dX8_number_152 rfl ?_
      refine J_ild3 dX8_number_153 ?_
      refine J_cVV (jX8_mark l cx n v0 h0 (3 : Int32) v3 M) ck_RX8_41 dX8_number_154 rfl h0 ⟨rfl, rfl, by decide, by decide⟩ ⟨Nat.zero_le _, Nat.zero_le _, Nat.le_of_ble_eq_true rfl⟩ (fun M2 => ?_)
      refine J_ald0 dX8_number_157 ?_
      refine J_geti fl_RX8_31 dX8_number_158 h0 rfl ?_
      refine J_if_ne 169 dX8_number_161 rfl ?_ ?_
      · refine J_ild1 dX8_number_169 ?_
        exact J_iret dX8_number_170 rfl ⟨rfl, rfl, rfl⟩
      · refine J_ild4 dX8_number_164 ?_
        refine J_goto 170 dX8_number_166 rfl ?_
        exact J_iret dX8_number_170 rfl ⟨rfl, rfl, rfl⟩
    · refine J_ild4 dX8_number_145 ?_
      refine J_ild2 dX8_number_147 ?_
      refine J_ic_le 157 dX8_number_148 rfl ?_ ?_
      · refine J_ald0 dX8_number_157 ?_
        refine J_geti fl_RX8_31 dX8_number_158 h0 rfl ?_
        refine J_if_ne 169 dX8_number_161 rfl ?_ ?_
        · refine J_ild1 dX8_number_169 ?_
          exact J_iret dX8_number_170 rfl ⟨rfl, rfl, rfl⟩
        · refine J_ild4 dX8_number_164 ?_
          refine J_goto 170 dX8_number_166 rfl ?_
          exact J_iret dX8_number_170 rfl ⟨rfl, rfl, rfl⟩
      · refine J_ald0 dX8_number_151 ?_
        refine J_iconst (v := 3) dX8_number_152 rfl ?_
        refine J_ild3 dX8_number_153 ?_
        refine J_cVV (jX8_mark l cx n v0 h0 (3 : Int32) v3 M) ck_RX8_41 dX8_number_154 rfl h0 ⟨rfl, rfl, by decide, by decide⟩ ⟨Nat.zero_le _, Nat.zero_le _, Nat.le_of_ble_eq_true rfl⟩ (fun M4 => ?_)
        refine J_ald0 dX8_number_157 ?_
        refine J_geti fl_RX8_31 dX8_number_158 h0 rfl ?_
        refine J_if_ne 169 dX8_number_161 rfl ?_ ?_
        · refine J_ild1 dX8_number_169 ?_
          exact J_iret dX8_number_170 rfl ⟨rfl, rfl, rfl⟩
        · refine J_ild4 dX8_number_164 ?_
          refine J_goto 170 dX8_number_166 rfl ?_
          exact J_iret dX8_number_170 rfl ⟨rfl, rfl, rfl⟩
  · refine J_ald0 dX8_number_130 ?_
    refine J_iconst (v := 1) dX8_number_131 rfl ?_
    refine J_ild3 dX8_number_132 ?_
    refine J_cVV (jX8_mark l cx n v0 h0 (1 : Int32) v3 M) ck_RX8_41 dX8_number_133 rfl h0 ⟨rfl, rfl, by decide, by decide⟩ ⟨Nat.zero_le _, Nat.zero_le _, Nat.le_of_ble_eq_true rfl⟩ (fun M6 => ?_)
    refine J_goto 157 dX8_number_136 rfl ?_
    refine J_ald0 dX8_number_157 ?_
    refine J_geti fl_RX8_31 dX8_number_158 h0 rfl ?_
    refine J_if_ne 169 dX8_number_161 rfl ?_ ?_
    · refine J_ild1 dX8_number_169 ?_
      exact J_iret dX8_number_170 rfl ⟨rfl, rfl, rfl⟩
    · refine J_ild4 dX8_number_164 ?_
      refine J_goto 170 dX8_number_166 rfl ?_
      exact J_iret dX8_number_170 rfl ⟨rfl, rfl, rfl⟩
set_option maxRecDepth 100000 in
theorem jX8_number_c87 {l : Launch} {cx : CX} {n : Nat} {v0 : Nat} {v1 : Int32} {v2 : Int32} {v3 : Int32} {v4 : Int32} {v5 : Int32} {M : Mem} (h0 : IsK GS 0 207 v0 8) : JO l cx ({ frames := 1, cells := 0, slots := 0, locals := 22 } : Room) yX8_number cX8_number 6 (some .int) 0 0 false 0 207 EI GS 0 0 87 [some (.ref v0), some (.int v1), some (.int v2), some (.int v3), some (.int v4), some (.int v5)] [] M (mX8_number_c87 n v0 v1 v2 v3 v4 v5 M) := by
  unfold mX8_number_c87
  refine J_ald0 dX8_number_87 ?_
  refine J_geti fl_RX8_28 dX8_number_88 h0 rfl ?_
  refine J_ild3 dX8_number_91 ?_
  refine J_iconst (v := 5) dX8_number_92 rfl ?_
  refine J_iadd dX8_number_93 ?_
  refine J_ic_ne 122 dX8_number_94 rfl ?_ ?_
  · exact J_wk (wk_s (wk_s (wk_s (wk_s (wk_s (wk_n wk_0)))))) (jX8_number_c122 (n := n) h0)
  · refine J_ild5 dX8_number_97 ?_
    refine J_bipush (v := 48) dX8_number_99 rfl ?_
    refine J_ic_lt 122 dX8_number_101 rfl ?_ ?_
    · exact J_wk (wk_s (wk_s (wk_s (wk_s (wk_s (wk_n wk_0)))))) (jX8_number_c122 (n := n) h0)
    · refine J_ild5 dX8_number_104 ?_
      refine J_bipush (v := 57) dX8_number_106 rfl ?_
      refine J_ic_gt 122 dX8_number_108 rfl ?_ ?_
      · exact J_wk (wk_s (wk_s (wk_s (wk_s (wk_s (wk_n wk_0)))))) (jX8_number_c122 (n := n) h0)
      · refine J_ald0 dX8_number_111 ?_
        refine J_iconst (v := 2) dX8_number_112 rfl ?_
        refine J_ald0 dX8_number_113 ?_
        refine J_geti fl_RX8_28 dX8_number_114 h0 rfl ?_
        refine J_cVV (jX8_mark l cx n v0 h0 (2 : Int32) (M v0 2) M) ck_RX8_41 dX8_number_117 rfl h0 ⟨rfl, rfl, by decide, by decide⟩ ⟨Nat.zero_le _, Nat.zero_le _, Nat.le_of_ble_eq_true rfl⟩ (fun M8 => ?_)
        refine J_ild1 dX8_number_120 ?_
        exact J_iret dX8_number_121 rfl ⟨rfl, rfl, rfl⟩
set_option maxRecDepth 100000 in
theorem jX8_number_c27 {l : Launch} {cx : CX} {n : Nat} : ∀ (f : Nat) {v0 : Nat} {v1 : Int32} {v2 : Int32} {v3 : Int32} {v4 : Int32} {v5 : Int32} {M : Mem} (h0 : IsK GS 0 207 v0 8), JO l cx ({ frames := 1, cells := 0, slots := 0, locals := 22 } : Room) yX8_number cX8_number 6 (some .int) 0 0 false 0 207 EI GS 0 0 27 [some (.ref v0), some (.int v1), some (.int v2), some (.int v3), some (.int v4), some (.int v5)] [] M (mX8_number_c27 n f v0 v1 v2 v3 v4 v5 M) := by
  intro f
  induction f with
  | zero =>
    intros
    exact J_none
  | succ f ih =>
    intro v0 v1 v2 v3 v4 v5 M h0
    unfold mX8_number_c27
    refine J_ald0 dX8_number_27 ?_
    refine J_geti fl_RX8_28 dX8_number_28 h0 rfl ?_
    refine J_ild3 dX8_number_31 ?_
    refine J_iconst (v := 5) dX8_number_32 rfl ?_
    refine J_iadd dX8_number_33 ?_
    refine J_ic_ge 87 dX8_number_34 rfl ?_ ?_
    · exact J_wk (wk_s (wk_s (wk_s (wk_s (wk_s (wk_s wk_0)))))) (jX8_number_c87 (n := n) h0)
    · refine J_ild5 dX8_number_37 ?_
      refine J_bipush (v := 48) dX8_number_39 rfl ?_
      refine J_ic_lt 87 dX8_number_41 rfl ?_ ?_
      · exact J_wk (wk_s (wk_s (wk_s (wk_s (wk_s (wk_s wk_0)))))) (jX8_number_c87 (n := n) h0)
      · refine J_ild5 dX8_number_44 ?_
        refine J_bipush (v := 57) dX8_number_46 rfl ?_
        refine J_ic_gt 87 dX8_number_48 rfl ?_ ?_
        · exact J_wk (wk_s (wk_s (wk_s (wk_s (wk_s (wk_s wk_0)))))) (jX8_number_c87 (n := n) h0)
        · refine J_ild4 dX8_number_51 ?_
          refine J_bipush (v := 10) dX8_number_53 rfl ?_
          refine J_imul dX8_number_55 ?_
          refine J_ild5 dX8_number_56 ?_
          refine J_iadd dX8_number_58 ?_
          refine J_bipush (v := 48) dX8_number_59 rfl ?_
          refine J_isub dX8_number_61 ?_
          refine J_ist4 dX8_number_62 (by decide) rfl ?_
          refine J_ald0 dX8_number_64 ?_
          refine J_dup_r dX8_number_65 ?_
          refine J_geti fl_RX8_28 dX8_number_66 h0 rfl ?_
          refine J_iconst (v := 1) dX8_number_69 rfl ?_
          refine J_iadd dX8_number_70 ?_
          refine J_puti fl_RX8_28 dX8_number_71 h0 rfl (by decide) ?_
          refine J_ald0 dX8_number_74 ?_
          refine J_ald0 dX8_number_75 ?_
          refine J_geti fl_RX8_28 dX8_number_76 h0 rfl ?_
          refine J_cVP (jX8_byteAt l cx n v0 h0 ((upd2 M v0 2 ((M v0 2) + (1 : Int32))) v0 2) (upd2 M v0 2 ((M v0 2) + (1 : Int32)))) ck_RX8_37 dX8_number_79 rfl h0 ⟨rfl, rfl, by decide, by decide⟩ ⟨Nat.zero_le _, Nat.zero_le _, Nat.le_of_ble_eq_true rfl⟩ (fun r9 => ?_)
          refine J_ist5 dX8_number_82 (by decide) rfl ?_
          refine J_goto 27 dX8_number_84 rfl ?_
          exact J_wk (wk_s (wk_s (wk_s (wk_s (wk_s (wk_s wk_0)))))) (ih h0)
set_option maxRecDepth 100000 in
theorem jX8_number (l : Launch) (cx : CX) (n : Nat) (o : Nat) (ho : IsK GS 0 207 o 8) (a : Int32) (b : Int32) (M : Mem) : Con l cx ({ frames := 1, cells := 0, slots := 0, locals := 22 } : Room) yX8_number cX8_number 6 (some .int) 0 0 false 0 207 EI GS [.ref o, .int a, .int b] M (mX8_number n o a b M) := by
  unfold mX8_number
  refine Con.of (ls := [some (.ref o), some (.int a), some (.int b), none, none, none]) (by decide) rfl (Nat.le_of_ble_eq_true rfl) ?_
  refine J_ald0 dX8_number_0 ?_
  refine J_geti fl_RX8_31 dX8_number_1 ho rfl ?_
  refine J_if_eq 9 dX8_number_4 rfl ?_ ?_
  · refine J_ald0 dX8_number_9 ?_
    refine J_geti fl_RX8_28 dX8_number_10 ho rfl ?_
    refine J_ist3 dX8_number_13 (by decide) rfl ?_
    refine J_iconst (v := 0) dX8_number_14 rfl ?_
    refine J_ist4 dX8_number_15 (by decide) rfl ?_
    refine J_ald0 dX8_number_17 ?_
    refine J_ald0 dX8_number_18 ?_
    refine J_geti fl_RX8_28 dX8_number_19 ho rfl ?_
    refine J_cVP (jX8_byteAt l cx n o ho (M o 2) M) ck_RX8_37 dX8_number_22 rfl ho ⟨rfl, rfl, by decide, by decide⟩ ⟨Nat.zero_le _, Nat.zero_le _, Nat.le_of_ble_eq_true rfl⟩ (fun r10 => ?_)
    refine J_ist5 dX8_number_25 (by decide) rfl ?_
    exact J_wk (wk_s (wk_s (wk_s (wk_s (wk_s (wk_s wk_0)))))) (jX8_number_c27 (n := n) n ho)
  · refine J_ild1 dX8_number_7 ?_
    exact J_iret dX8_number_8 rfl ⟨rfl, rfl, rfl⟩
