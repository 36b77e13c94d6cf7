set_option maxRecDepth 100000 in
theorem jX5_tellOpen_c21 {l : Launch} {cx : CX} {n : Nat} {M : Mem} : ∀ (f : Nat) {v0 : Nat} {v1 : Int32} {v3 : Int32} {v4 : Int32} {v5 : Int32} {v6 : Int32} {v7 : Int32} {v8 : Int32} (h0 : IsK GS 0 207 v0 5), JO l cx ({ frames := 2, cells := 0, slots := 0, locals := 46 } : Room) yX5_tellOpen cX5_tellOpen 10 (some .int) 0 0 false 0 207 (EP M) GS 0 0 21 [some (.ref v0), some (.int v1), none, some (.int v3), some (.int v4), some (.int v5), some (.int v6), some (.int v7), some (.int v8), none] [] M (mX5_tellOpen_c21 n f v0 v1 v3 v4 v5 v6 v7 v8 M) := by
  intro f
  induction f with
  | zero =>
    intros
    exact J_none
  | succ f ih =>
    intro v0 v1 v3 v4 v5 v6 v7 v8 h0
    unfold mX5_tellOpen_c21
    refine J_ild8 dX5_tellOpen_21 ?_
    refine J_ald0 dX5_tellOpen_23 ?_
    refine J_geti fl_RX5_42 dX5_tellOpen_24 h0 rfl ?_
    refine J_ic_ge 121 dX5_tellOpen_27 rfl ?_ ?_
    · refine J_ild3 dX5_tellOpen_121 ?_
      refine J_swIn (v := 0) 148 dX5_tellOpen_122 (by decide) (by decide) rfl rfl ?_ (fun w1 => ?_)
      · refine J_ild5 dX5_tellOpen_148 ?_
        exact J_iret dX5_tellOpen_150 rfl ⟨rfl, rfl, rfl⟩
      refine J_swIn (v := 1) 151 dX5_tellOpen_122 (by decide) (by decide) rfl rfl ?_ (fun w2 => ?_)
      · refine J_ild6 dX5_tellOpen_151 ?_
        exact J_iret dX5_tellOpen_153 rfl ⟨rfl, rfl, rfl⟩
      refine J_swIn (v := 2) 154 dX5_tellOpen_122 (by decide) (by decide) rfl rfl ?_ (fun w3 => ?_)
      · refine J_ild7 dX5_tellOpen_154 ?_
        exact J_iret dX5_tellOpen_156 rfl ⟨rfl, rfl, rfl⟩
      refine J_swOut 157 dX5_tellOpen_122 (sw_out 3 rfl (fun k hk => sw_c3 (P := fun k => ¬ v3 = Int32.ofInt (0 + (k : Int))) hk w1 w2 w3)) rfl ?_
      refine J_ild4 dX5_tellOpen_157 ?_
      exact J_iret dX5_tellOpen_159 rfl ⟨rfl, rfl, rfl⟩
    · refine J_ald0 dX5_tellOpen_30 ?_
      refine J_ild8 dX5_tellOpen_31 ?_
      refine J_ild1 dX5_tellOpen_33 ?_
      refine J_cVB (jX5_isOf l cx n v0 h0 v8 v1 M) ck_RX5_65 dX5_tellOpen_34 rfl h0 ⟨rfl, rfl, by decide, by decide⟩ ⟨Nat.zero_le _, Nat.zero_le _, Nat.le_of_ble_eq_true rfl⟩ (fun r4 z5 => ?_)
      refine J_if_eq 115 dX5_tellOpen_37 rfl ?_ ?_
      · refine J_iinc8 (w := (v8 + (1 : Int32))) dX5_tellOpen_115 (by decide) rfl rfl ?_
        refine J_goto 21 dX5_tellOpen_118 rfl ?_
        exact J_wk (wk_s (wk_s (wk_n (wk_s (wk_s (wk_s (wk_s (wk_s (wk_s (wk_n wk_0)))))))))) (ih h0)
      · refine J_ald0 dX5_tellOpen_40 ?_
        refine J_getr (q := (v0 + 8)) fl_RX5_33 dX5_tellOpen_41 h0 rfl (rf_5_8 h0) ?_
        refine J_ild8 dX5_tellOpen_44 ?_
        refine J_iald dX5_tellOpen_46 (kf_5_8 h0) (ln_5_8 h0) ?_
        refine J_if_le 115 dX5_tellOpen_47 rfl ?_ ?_
        · refine J_iinc8 (w := (v8 + (1 : Int32))) dX5_tellOpen_115 (by decide) rfl rfl ?_
          refine J_goto 21 dX5_tellOpen_118 rfl ?_
          exact J_wk (wk_s (wk_s (wk_n (wk_s (wk_s (wk_s (wk_s (wk_s (wk_s (wk_n wk_0)))))))))) (ih h0)
        · refine J_ild4 dX5_tellOpen_50 ?_
          refine J_ald0 dX5_tellOpen_52 ?_
          refine J_getr (q := (v0 + 8)) fl_RX5_33 dX5_tellOpen_53 h0 rfl (rf_5_8 h0) ?_
          refine J_ild8 dX5_tellOpen_56 ?_
          refine J_iald dX5_tellOpen_58 (kf_5_8 h0) (ln_5_8 h0) ?_
          refine J_mmin ⟨wd_6, wd_7, wd_8, wd_9⟩ dX5_tellOpen_59 ⟨by decide, Nat.le_of_ble_eq_true rfl, Nat.zero_le _, Nat.zero_le _⟩ ?_
          refine J_ist9 dX5_tellOpen_62 (by decide) rfl ?_
          refine J_ild4 dX5_tellOpen_64 ?_
          refine J_ild9 dX5_tellOpen_66 ?_
          refine J_isub dX5_tellOpen_68 ?_
          refine J_ist4 dX5_tellOpen_69 (by decide) rfl ?_
          refine J_ild9 dX5_tellOpen_71 ?_
          refine J_ald0 dX5_tellOpen_73 ?_
          refine J_getr (q := (v0 + 8)) fl_RX5_33 dX5_tellOpen_74 h0 rfl (rf_5_8 h0) ?_
          refine J_ild8 dX5_tellOpen_77 ?_
          refine J_iald dX5_tellOpen_79 (kf_5_8 h0) (ln_5_8 h0) ?_
          refine J_ic_ge 115 dX5_tellOpen_80 rfl ?_ ?_
          · refine J_iinc8 (w := (v8 + (1 : Int32))) dX5_tellOpen_115 (by decide) rfl rfl ?_
            refine J_goto 21 dX5_tellOpen_118 rfl ?_
            exact J_wk (wk_s (wk_s (wk_n (wk_s (wk_s (wk_s (wk_s (wk_s (wk_s (wk_n wk_0)))))))))) (ih h0)
          · refine J_ild5 dX5_tellOpen_83 ?_
            refine J_if_ne 93 dX5_tellOpen_85 rfl ?_ ?_
            · refine J_ild6 dX5_tellOpen_93 ?_
              refine J_ist6 dX5_tellOpen_95 (by decide) rfl ?_
              refine J_iinc5 (w := (v5 + (1 : Int32))) dX5_tellOpen_97 (by decide) rfl rfl ?_
              refine J_ild7 dX5_tellOpen_100 ?_
              refine J_ald0 dX5_tellOpen_102 ?_
              refine J_getr (q := (v0 + 8)) fl_RX5_33 dX5_tellOpen_103 h0 rfl (rf_5_8 h0) ?_
              refine J_ild8 dX5_tellOpen_106 ?_
              refine J_iald dX5_tellOpen_108 (kf_5_8 h0) (ln_5_8 h0) ?_
              refine J_ild9 dX5_tellOpen_109 ?_
              refine J_isub dX5_tellOpen_111 ?_
              refine J_iadd dX5_tellOpen_112 ?_
              refine J_ist7 dX5_tellOpen_113 (by decide) rfl ?_
              refine J_iinc8 (w := (v8 + (1 : Int32))) dX5_tellOpen_115 (by decide) rfl rfl ?_
              refine J_goto 21 dX5_tellOpen_118 rfl ?_
              exact J_wk (wk_s (wk_s (wk_n (wk_s (wk_s (wk_s (wk_s (wk_s (wk_s (wk_n wk_0)))))))))) (ih h0)
            · refine J_ild8 dX5_tellOpen_88 ?_
              refine J_goto 95 dX5_tellOpen_90 rfl ?_
              refine J_ist6 dX5_tellOpen_95 (by decide) rfl ?_
              refine J_iinc5 (w := (v5 + (1 : Int32))) dX5_tellOpen_97 (by decide) rfl rfl ?_
              refine J_ild7 dX5_tellOpen_100 ?_
              refine J_ald0 dX5_tellOpen_102 ?_
              refine J_getr (q := (v0 + 8)) fl_RX5_33 dX5_tellOpen_103 h0 rfl (rf_5_8 h0) ?_
              refine J_ild8 dX5_tellOpen_106 ?_
              refine J_iald dX5_tellOpen_108 (kf_5_8 h0) (ln_5_8 h0) ?_
              refine J_ild9 dX5_tellOpen_109 ?_
              refine J_isub dX5_tellOpen_111 ?_
              refine J_iadd dX5_tellOpen_112 ?_
              refine J_ist7 dX5_tellOpen_113 (by decide) rfl ?_
              refine J_iinc8 (w := (v8 + (1 : Int32))) dX5_tellOpen_115 (by decide) rfl rfl ?_
              refine J_goto 21 dX5_tellOpen_118 rfl ?_
              exact J_wk (wk_s (wk_s (wk_n (wk_s (wk_s (wk_s (wk_s (wk_s (wk_s (wk_n wk_0)))))))))) (ih h0)
set_option maxRecDepth 100000 in
theorem jX5_tellOpen (l : Launch) (cx : CX) (n : Nat) (o : Nat) (ho : IsK GS 0 207 o 5) (a : Int32) (b : Int32) (c : Int32) (M : Mem) : Con l cx ({ frames := 2, cells := 0, slots := 0, locals := 46 } : Room) yX5_tellOpen cX5_tellOpen 10 (some .int) 0 0 false 0 207 (EP M) GS [.ref o, .int a, .int b, .int c] M (mX5_tellOpen n o a b c M) := by
  unfold mX5_tellOpen
  refine Con.of (ls := [some (.ref o), some (.int a), some (.int b), some (.int c), none, none, none, none, none, none]) (by decide) rfl (Nat.le_of_ble_eq_true rfl) ?_
  refine J_ald0 dX5_tellOpen_0 ?_
  refine J_ild1 dX5_tellOpen_1 ?_
  refine J_ild2 dX5_tellOpen_2 ?_
  refine J_cVP (jX5_coverOf l cx n o ho a b M) ck_RX5_69 dX5_tellOpen_3 rfl ho ⟨rfl, rfl, by decide, by decide⟩ ⟨Nat.zero_le _, Nat.zero_le _, Nat.le_of_ble_eq_true rfl⟩ (fun r6 => ?_)
  refine J_ist4 dX5_tellOpen_6 (by decide) rfl ?_
  refine J_iconst (v := 0) dX5_tellOpen_8 rfl ?_
  refine J_ist5 dX5_tellOpen_9 (by decide) rfl ?_
  refine J_bipush (v := -2) dX5_tellOpen_11 rfl ?_
  refine J_ist6 dX5_tellOpen_13 (by decide) rfl ?_
  refine J_iconst (v := 0) dX5_tellOpen_15 rfl ?_
  refine J_ist7 dX5_tellOpen_16 (by decide) rfl ?_
  refine J_iconst (v := 0) dX5_tellOpen_18 rfl ?_
  refine J_ist8 dX5_tellOpen_19 (by decide) rfl ?_
  exact J_wk (wk_s (wk_s (wk_n (wk_s (wk_s (wk_s (wk_s (wk_s (wk_s (wk_n wk_0)))))))))) (jX5_tellOpen_c21 (n := n) n ho)
set_option maxRecDepth 100000 in
theorem jX5_earnedOf (l : Launch) (cx : CX) (n : Nat) (o : Nat) (ho : IsK GS 0 207 o 5) (a : Int32) (b : Int32) (M : Mem) : Con l cx ({ frames := 1, cells := 0, slots := 0, locals := 23 } : Room) yX5_earnedOf cX5_earnedOf 5 (some .int) 0 0 false 0 207 (EP M) GS [.ref o, .int a, .int b] M (mX5_earnedOf o a b M) := by
  unfold mX5_earnedOf
  refine Con.of (ls := [some (.ref o), some (.int a), some (.int b), none, none]) (by decide) rfl (Nat.le_of_ble_eq_true rfl) ?_
  refine J_ald0 dX5_earnedOf_0 ?_
  refine J_ild1 dX5_earnedOf_1 ?_
  refine J_cVB (jX5_has l cx n o ho a M) ck_RX5_61 dX5_earnedOf_2 rfl ho ⟨rfl, rfl, by decide, by decide⟩ ⟨Nat.zero_le _, Nat.zero_le _, Nat.le_of_ble_eq_true rfl⟩ (fun r1 z2 => ?_)
  refine J_if_ne 10 dX5_earnedOf_5 rfl ?_ ?_
  · refine J_ald0 dX5_earnedOf_10 ?_
    refine J_getr (q := (o + 6)) fl_RX5_27 dX5_earnedOf_11 ho rfl (rf_5_6 ho) ?_
    refine J_ild1 dX5_earnedOf_14 ?_
    refine J_iald dX5_earnedOf_15 (kf_5_6 ho) (ln_5_6 ho) ?_
    refine J_ald0 dX5_earnedOf_16 ?_
    refine J_getr (q := (o + 5)) fl_RX5_24 dX5_earnedOf_17 ho rfl (rf_5_5 ho) ?_
    refine J_ild1 dX5_earnedOf_20 ?_
    refine J_iald dX5_earnedOf_21 (kf_5_5 ho) (ln_5_5 ho) ?_
    refine J_isub dX5_earnedOf_22 ?_
    refine J_ist3 dX5_earnedOf_23 (by decide) rfl ?_
    refine J_ald0 dX5_earnedOf_24 ?_
    refine J_getr (q := (o + 1)) fl_RX5_9 dX5_earnedOf_25 ho rfl (rf_5_1 ho) ?_
    refine J_ild1 dX5_earnedOf_28 ?_
    refine J_iald dX5_earnedOf_29 (kf_5_1 ho) (ln_5_1 ho) ?_
    refine J_iconst (v := 1) dX5_earnedOf_30 rfl ?_
    refine J_ic_gt 39 dX5_earnedOf_31 rfl ?_ ?_
    · refine J_ald0 dX5_earnedOf_39 ?_
      refine J_getr (q := (o + 3)) fl_RX5_18 dX5_earnedOf_40 ho rfl (rf_5_3 ho) ?_
      refine J_ild1 dX5_earnedOf_43 ?_
      refine J_iald dX5_earnedOf_44 (kf_5_3 ho) (ln_5_3 ho) ?_
      refine J_ild2 dX5_earnedOf_45 ?_
      refine J_ic_ge 58 dX5_earnedOf_46 rfl ?_ ?_
      · refine J_iconst (v := 0) dX5_earnedOf_58 rfl ?_
        exact J_iret dX5_earnedOf_59 rfl ⟨rfl, rfl, rfl⟩
      · refine J_ald0 dX5_earnedOf_49 ?_
        refine J_getr (q := (o + 8)) fl_RX5_33 dX5_earnedOf_50 ho rfl (rf_5_8 ho) ?_
        refine J_ild1 dX5_earnedOf_53 ?_
        refine J_iald dX5_earnedOf_54 (kf_5_8 ho) (ln_5_8 ho) ?_
        refine J_goto 59 dX5_earnedOf_55 rfl ?_
        exact J_iret dX5_earnedOf_59 rfl ⟨rfl, rfl, rfl⟩
    · refine J_ild3 dX5_earnedOf_34 ?_
      refine J_iconst (v := 1) dX5_earnedOf_35 rfl ?_
      refine J_ic_ge 60 dX5_earnedOf_36 rfl ?_ ?_
      · refine J_iconst (v := 0) dX5_earnedOf_60 rfl ?_
        refine J_ild3 dX5_earnedOf_61 ?_
        refine J_ild2 dX5_earnedOf_62 ?_
        refine J_ald0 dX5_earnedOf_63 ?_
        refine J_getr (q := (o + 5)) fl_RX5_24 dX5_earnedOf_64 ho rfl (rf_5_5 ho) ?_
        refine J_ild1 dX5_earnedOf_67 ?_
        refine J_iald dX5_earnedOf_68 (kf_5_5 ho) (ln_5_5 ho) ?_
        refine J_isub dX5_earnedOf_69 ?_
        refine J_mmin ⟨wd_6, wd_7, wd_8, wd_9⟩ dX5_earnedOf_70 ⟨by decide, Nat.le_of_ble_eq_true rfl, Nat.zero_le _, Nat.zero_le _⟩ ?_
        refine J_mmax ⟨wd_10, wd_11, wd_8, wd_12⟩ dX5_earnedOf_73 ⟨by decide, Nat.le_of_ble_eq_true rfl, Nat.zero_le _, Nat.zero_le _⟩ ?_
        refine J_ist4 dX5_earnedOf_76 (by decide) rfl ?_
        refine J_ald0 dX5_earnedOf_78 ?_
        refine J_getr (q := (o + 8)) fl_RX5_33 dX5_earnedOf_79 ho rfl (rf_5_8 ho) ?_
        refine J_ild1 dX5_earnedOf_82 ?_
        refine J_iald dX5_earnedOf_83 (kf_5_8 ho) (ln_5_8 ho) ?_
        refine J_ild4 dX5_earnedOf_84 ?_
        refine J_imul dX5_earnedOf_86 ?_
        refine J_ild3 dX5_earnedOf_87 ?_
        refine J_idiv dX5_earnedOf_88 ?_
        exact J_iret dX5_earnedOf_89 rfl ⟨rfl, rfl, rfl⟩
      · refine J_ald0 dX5_earnedOf_39 ?_
        refine J_getr (q := (o + 3)) fl_RX5_18 dX5_earnedOf_40 ho rfl (rf_5_3 ho) ?_
        refine J_ild1 dX5_earnedOf_43 ?_
        refine J_iald dX5_earnedOf_44 (kf_5_3 ho) (ln_5_3 ho) ?_
        refine J_ild2 dX5_earnedOf_45 ?_
        refine J_ic_ge 58 dX5_earnedOf_46 rfl ?_ ?_
        · refine J_iconst (v := 0) dX5_earnedOf_58 rfl ?_
          exact J_iret dX5_earnedOf_59 rfl ⟨rfl, rfl, rfl⟩
        · refine J_ald0 dX5_earnedOf_49 ?_
          refine J_getr (q := (o + 8)) fl_RX5_33 dX5_earnedOf_50 ho rfl (rf_5_8 ho) ?_
          refine J_ild1 dX5_earnedOf_53 ?_
          refine J_iald dX5_earnedOf_54 (kf_5_8 ho) (ln_5_8 ho) ?_
          refine J_goto 59 dX5_earnedOf_55 rfl ?_
          exact J_iret dX5_earnedOf_59 rfl ⟨rfl, rfl, rfl⟩
  · refine J_iconst (v := 0) dX5_earnedOf_8 rfl ?_
    exact J_iret dX5_earnedOf_9 rfl ⟨rfl, rfl, rfl⟩
set_option maxRecDepth 100000 in
theorem jX5_sumEarned_c5 {l : Launch} {cx : CX} {n : Nat} {M : Mem} : ∀ (f : Nat) {v0 : Nat} {v1 : Int32} {v2 : Int32} {v3 : Int32} {v4 : Int32} (h0 : IsK GS 0 207 v0 5), JO l cx ({ frames := 2, cells := 0, slots := 0, locals := 47 } : Room) yX5_sumEarned cX5_sumEarned 5 (some .int) 0 0 false 0 207 (EP M) GS 0 0 5 [some (.ref v0), some (.int v1), some (.int v2), some (.int v3), some (.int v4)] [] M (mX5_sumEarned_c5 n f v0 v1 v2 v3 v4 M) := by
  intro f
  induction f with
  | zero =>
    intros
    exact J_none
  | succ f ih =>
    intro v0 v1 v2 v3 v4 h0
    unfold mX5_sumEarned_c5
    refine J_ild4 dX5_sumEarned_5 ?_
    refine J_ald0 dX5_sumEarned_7 ?_
    refine J_geti fl_RX5_42 dX5_sumEarned_8 h0 rfl ?_
    refine J_ic_ge 40 dX5_sumEarned_11 rfl ?_ ?_
    · refine J_ild3 dX5_sumEarned_40 ?_
      exact J_iret dX5_sumEarned_41 rfl ⟨rfl, rfl, rfl⟩
    · refine J_ald0 dX5_sumEarned_14 ?_
      refine J_ild4 dX5_sumEarned_15 ?_
      refine J_ild1 dX5_sumEarned_17 ?_
      refine J_cVB (jX5_isOf l cx n v0 h0 v4 v1 M) ck_RX5_65 dX5_sumEarned_18 rfl h0 ⟨rfl, rfl, by decide, by decide⟩ ⟨Nat.zero_le _, Nat.zero_le _, Nat.le_of_ble_eq_true rfl⟩ (fun r1 z2 => ?_)
      refine J_if_eq 34 dX5_sumEarned_21 rfl ?_ ?_
      · refine J_iinc4 (w := (v4 + (1 : Int32))) dX5_sumEarned_34 (by decide) rfl rfl ?_
        refine J_goto 5 dX5_sumEarned_37 rfl ?_
        exact J_wk (wk_s (wk_s (wk_s (wk_s (wk_s wk_0))))) (ih h0)
      · refine J_ild3 dX5_sumEarned_24 ?_
        refine J_ald0 dX5_sumEarned_25 ?_
        refine J_ild4 dX5_sumEarned_26 ?_
        refine J_ild2 dX5_sumEarned_28 ?_
        refine J_cVP (jX5_earnedOf l cx n v0 h0 v4 v2 M) ck_RX5_72 dX5_sumEarned_29 rfl h0 ⟨rfl, rfl, by decide, by decide⟩ ⟨Nat.zero_le _, Nat.zero_le _, Nat.le_of_ble_eq_true rfl⟩ (fun r3 => ?_)
        refine J_iadd dX5_sumEarned_32 ?_
        refine J_ist3 dX5_sumEarned_33 (by decide) rfl ?_
        refine J_iinc4 (w := (v4 + (1 : Int32))) dX5_sumEarned_34 (by decide) rfl rfl ?_
        refine J_goto 5 dX5_sumEarned_37 rfl ?_
        exact J_wk (wk_s (wk_s (wk_s (wk_s (wk_s wk_0))))) (ih h0)
set_option maxRecDepth 100000 in
theorem jX5_sumEarned (l : Launch) (cx : CX) (n : Nat) (o : Nat) (ho : IsK GS 0 207 o 5) (a : Int32) (b : Int32) (M : Mem) : Con l cx ({ frames := 2, cells := 0, slots := 0, locals := 47 } : Room) yX5_sumEarned cX5_sumEarned 5 (some .int) 0 0 false 0 207 (EP M) GS [.ref o, .int a, .int b] M (mX5_sumEarned n o a b M) := by
  unfold mX5_sumEarned
  refine Con.of (ls := [some (.ref o), some (.int a), some (.int b), none, none]) (by decide) rfl (Nat.le_of_ble_eq_true rfl) ?_
  refine J_iconst (v := 0) dX5_sumEarned_0 rfl ?_
  refine J_ist3 dX5_sumEarned_1 (by decide) rfl ?_
  refine J_iconst (v := 0) dX5_sumEarned_2 rfl ?_
  refine J_ist4 dX5_sumEarned_3 (by decide) rfl ?_
  exact J_wk (wk_s (wk_s (wk_s (wk_s (wk_s wk_0))))) (jX5_sumEarned_c5 (n := n) n ho)
set_option maxRecDepth 100000 in
theorem jX5_tell (l : Launch) (cx : CX) (n : Nat) (o : Nat) (ho : IsK GS 0 207 o 5) (a : Int32) (b : Int32) (M : Mem) : Con l cx ({ frames := 1, cells := 0, slots := 0, locals := 21 } : Room) yX5_tell cX5_tell 3 (some .int) 0 0 false 0 207 (EP M) GS [.ref o, .int a, .int b] M (mX5_tell o a b M) := by
  unfold mX5_tell
  refine Con.of (ls := [some (.ref o), some (.int a), some (.int b)]) (by decide) rfl (Nat.le_of_ble_eq_true rfl) ?_
  refine J_ald0 dX5_tell_0 ?_
  refine J_ild1 dX5_tell_1 ?_
  refine J_cVB (jX5_has l cx n o ho a M) ck_RX5_61 dX5_tell_2 rfl ho ⟨rfl, rfl, by decide, by decide⟩ ⟨Nat.zero_le _, Nat.zero_le _, Nat.le_of_ble_eq_true rfl⟩ (fun r1 z2 => ?_)
  refine J_if_ne 11 dX5_tell_5 rfl ?_ ?_
  · refine J_ild2 dX5_tell_11 ?_
    refine J_swIn (v := 0) 68 dX5_tell_12 (by decide) (by decide) rfl rfl ?_ (fun w3 => ?_)
    · refine J_ald0 dX5_tell_68 ?_
      refine J_getr (q := (o + 1)) fl_RX5_9 dX5_tell_69 ho rfl (rf_5_1 ho) ?_
      refine J_ild1 dX5_tell_72 ?_
      refine J_iald dX5_tell_73 (kf_5_1 ho) (ln_5_1 ho) ?_
      exact J_iret dX5_tell_74 rfl ⟨rfl, rfl, rfl⟩
    refine J_swIn (v := 1) 75 dX5_tell_12 (by decide) (by decide) rfl rfl ?_ (fun w4 => ?_)
    · refine J_ald0 dX5_tell_75 ?_
      refine J_getr (q := (o + 2)) fl_RX5_15 dX5_tell_76 ho rfl (rf_5_2 ho) ?_
      refine J_ild1 dX5_tell_79 ?_
      refine J_iald dX5_tell_80 (kf_5_2 ho) (ln_5_2 ho) ?_
      exact J_iret dX5_tell_81 rfl ⟨rfl, rfl, rfl⟩
    refine J_swIn (v := 2) 82 dX5_tell_12 (by decide) (by decide) rfl rfl ?_ (fun w5 => ?_)
    · refine J_ald0 dX5_tell_82 ?_
      refine J_getr (q := (o + 3)) fl_RX5_18 dX5_tell_83 ho rfl (rf_5_3 ho) ?_
      refine J_ild1 dX5_tell_86 ?_
      refine J_iald dX5_tell_87 (kf_5_3 ho) (ln_5_3 ho) ?_
      exact J_iret dX5_tell_88 rfl ⟨rfl, rfl, rfl⟩
    refine J_swIn (v := 3) 89 dX5_tell_12 (by decide) (by decide) rfl rfl ?_ (fun w6 => ?_)
    · refine J_ald0 dX5_tell_89 ?_
      refine J_getr (q := (o + 4)) fl_RX5_21 dX5_tell_90 ho rfl (rf_5_4 ho) ?_
      refine J_ild1 dX5_tell_93 ?_
      refine J_iald dX5_tell_94 (kf_5_4 ho) (ln_5_4 ho) ?_
      exact J_iret dX5_tell_95 rfl ⟨rfl, rfl, rfl⟩
    refine J_swIn (v := 4) 96 dX5_tell_12 (by decide) (by decide) rfl rfl ?_ (fun w7 => ?_)
    · refine J_ald0 dX5_tell_96 ?_
      refine J_getr (q := (o + 5)) fl_RX5_24 dX5_tell_97 ho rfl (rf_5_5 ho) ?_
      refine J_ild1 dX5_tell_100 ?_
      refine J_iald dX5_tell_101 (kf_5_5 ho) (ln_5_5 ho) ?_
      exact J_iret dX5_tell_102 rfl ⟨rfl, rfl, rfl⟩
    refine J_swIn (v := 5) 103 dX5_tell_12 (by decide) (by decide) rfl rfl ?_ (fun w8 => ?_)
    · refine J_ald0 dX5_tell_103 ?_
      refine J_getr (q := (o + 6)) fl_RX5_27 dX5_tell_104 ho rfl (rf_5_6 ho) ?_
      refine J_ild1 dX5_tell_107 ?_
      refine J_iald dX5_tell_108 (kf_5_6 ho) (ln_5_6 ho) ?_
      exact J_iret dX5_tell_109 rfl ⟨rfl, rfl, rfl⟩
    refine J_swIn (v := 6) 110 dX5_tell_12 (by decide) (by decide) rfl rfl ?_ (fun w9 => ?_)
    · refine J_ald0 dX5_tell_110 ?_
      refine J_getr (q := (o + 7)) fl_RX5_30 dX5_tell_111 ho rfl (rf_5_7 ho) ?_
      refine J_ild1 dX5_tell_114 ?_
      refine J_iald dX5_tell_115 (kf_5_7 ho) (ln_5_7 ho) ?_
      exact J_iret dX5_tell_116 rfl ⟨rfl, rfl, rfl⟩
    refine J_swIn (v := 7) 117 dX5_tell_12 (by decide) (by decide) rfl rfl ?_ (fun w10 => ?_)
    · refine J_ald0 dX5_tell_117 ?_
      refine J_getr (q := (o + 8)) fl_RX5_33 dX5_tell_118 ho rfl (rf_5_8 ho) ?_
      refine J_ild1 dX5_tell_121 ?_
      refine J_iald dX5_tell_122 (kf_5_8 ho) (ln_5_8 ho) ?_
      exact J_iret dX5_tell_123 rfl ⟨rfl, rfl, rfl⟩
    refine J_swIn (v := 8) 124 dX5_tell_12 (by decide) (by decide) rfl rfl ?_ (fun w11 => ?_)
    · refine J_ald0 dX5_tell_124 ?_
      refine J_getr (q := (o + 9)) fl_RX5_36 dX5_tell_125 ho rfl (rf_5_9 ho) ?_
      refine J_ild1 dX5_tell_128 ?_
      refine J_iald dX5_tell_129 (kf_5_9 ho) (ln_5_9 ho) ?_
      exact J_iret dX5_tell_130 rfl ⟨rfl, rfl, rfl⟩
    refine J_swIn (v := 9) 131 dX5_tell_12 (by decide) (by decide) rfl rfl ?_ (fun w12 => ?_)
    · refine J_ald0 dX5_tell_131 ?_
      refine J_getr (q := (o + 10)) fl_RX5_39 dX5_tell_132 ho rfl (rf_5_10 ho) ?_
      refine J_ild1 dX5_tell_135 ?_
      refine J_iald dX5_tell_136 (kf_5_10 ho) (ln_5_10 ho) ?_
      exact J_iret dX5_tell_137 rfl ⟨rfl, rfl, rfl⟩
    refine J_swOut 138 dX5_tell_12 (sw_out 10 rfl (fun k hk => sw_c10 (P := fun k => ¬ b = Int32.ofInt (0 + (k : Int))) hk w3 w4 w5 w6 w7 w8 w9 w10 w11 w12)) rfl ?_
    refine J_ldc dX5_tell_138 wd_36 ?_
    exact J_iret dX5_tell_140 rfl ⟨rfl, rfl, rfl⟩
  · refine J_ldc dX5_tell_8 wd_36 ?_
    exact J_iret dX5_tell_10 rfl ⟨rfl, rfl, rfl⟩
set_option maxRecDepth 100000 in
theorem jX6_byteAt (l : Launch) (cx : CX) (n : Nat) (a : Int32) (M : Mem) : Con l cx ({ frames := 0, cells := 0, slots := 0, locals := 0 } : Room) yX6_byteAt cX6_byteAt 2 (some .int) 0 0 false 0 207 (EP M) GS [.ref 205, .int a] M (mX6_byteAt a M) := by
  unfold mX6_byteAt
  refine Con.of (ls := [some (.ref 205), some (.int a)]) (by decide) rfl (Nat.le_of_ble_eq_true rfl) ?_
  refine J_ild1 dX6_byteAt_0 ?_
  refine J_if_lt 31 dX6_byteAt_1 rfl ?_ ?_
  · refine J_bipush (v := -4) dX6_byteAt_31 rfl ?_
    exact J_iret dX6_byteAt_33 rfl ⟨rfl, rfl, rfl⟩
  · refine J_ild1 dX6_byteAt_4 ?_
    refine J_ald0 dX6_byteAt_5 ?_
    refine J_geti fl_RX6_17 dX6_byteAt_6 kk_205 rfl ?_
    refine J_ic_ge 31 dX6_byteAt_9 rfl ?_ ?_
    · refine J_bipush (v := -4) dX6_byteAt_31 rfl ?_
      exact J_iret dX6_byteAt_33 rfl ⟨rfl, rfl, rfl⟩
    · refine J_ild1 dX6_byteAt_12 ?_
      refine J_bipush (v := 80) dX6_byteAt_13 rfl ?_
      refine J_ic_ge 31 dX6_byteAt_15 rfl ?_ ?_
      · refine J_bipush (v := -4) dX6_byteAt_31 rfl ?_
        exact J_iret dX6_byteAt_33 rfl ⟨rfl, rfl, rfl⟩
      · refine J_ald0 dX6_byteAt_18 ?_
        refine J_getr (q := 206) fl_RX6_9 dX6_byteAt_19 kk_205 rfl (rf_6_1 kk_205) ?_
        refine J_ild1 dX6_byteAt_22 ?_
        refine J_bald dX6_byteAt_23 kk_206 rfl ?_
        refine J_sipush (v := 255) dX6_byteAt_24 rfl ?_
        refine J_iand dX6_byteAt_27 ?_
        refine J_goto 33 dX6_byteAt_28 rfl ?_
        exact J_iret dX6_byteAt_33 rfl ⟨rfl, rfl, rfl⟩
set_option maxRecDepth 100000 in
theorem jX6_put (l : Launch) (cx : CX) (n : Nat) (a : Int32) (M : Mem) : Con l cx ({ frames := 0, cells := 0, slots := 0, locals := 0 } : Room) yX6_put cX6_put 2 none 0 0 false 0 207 EV GS [.ref 205, .int a] M (mX6_put a M) := by
  unfold mX6_put
  refine Con.of (ls := [some (.ref 205), some (.int a)]) (by decide) rfl (Nat.le_of_ble_eq_true rfl) ?_
  refine J_ald0 dX6_put_0 ?_
  refine J_geti fl_RX6_17 dX6_put_1 kk_205 rfl ?_
  refine J_if_lt 37 dX6_put_4 rfl ?_ ?_
  · exact J_vret dX6_put_37 rfl ⟨rfl, rfl, rfl⟩
  · refine J_ald0 dX6_put_7 ?_
    refine J_geti fl_RX6_17 dX6_put_8 kk_205 rfl ?_
    refine J_bipush (v := 80) dX6_put_11 rfl ?_
    refine J_ic_ge 37 dX6_put_13 rfl ?_ ?_
    · exact J_vret dX6_put_37 rfl ⟨rfl, rfl, rfl⟩
    · refine J_ald0 dX6_put_16 ?_
      refine J_getr (q := 206) fl_RX6_9 dX6_put_17 kk_205 rfl (rf_6_1 kk_205) ?_
      refine J_ald0 dX6_put_20 ?_
      refine J_geti fl_RX6_17 dX6_put_21 kk_205 rfl ?_
      refine J_ild1 dX6_put_24 ?_
      refine J_i2b dX6_put_25 ?_
      refine J_bast dX6_put_26 kk_206 rfl ?_
      refine J_lt (fun M1 => ?_)
      refine J_ald0 dX6_put_27 ?_
      refine J_dup_r dX6_put_28 ?_
      refine J_geti fl_RX6_17 dX6_put_29 kk_205 rfl ?_
      refine J_iconst (v := 1) dX6_put_32 rfl ?_
      refine J_iadd dX6_put_33 ?_
      refine J_puti fl_RX6_17 dX6_put_34 kk_205 rfl (by decide) ?_
      exact J_vret dX6_put_37 rfl ⟨rfl, rfl, rfl⟩
set_option maxRecDepth 100000 in
theorem jX6_putNumber_c40 {l : Launch} {cx : CX} {n : Nat} : ∀ (f : Nat) {v1 : Int32} {v3 : Int32} {v4 : Int32} {M : Mem}, JO l cx ({ frames := 1, cells := 0, slots := 0, locals := 21 } : Room) yX6_putNumber cX6_putNumber 5 none 0 0 false 0 207 EV GS 0 0 40 [some (.ref 205), some (.int v1), none, some (.int v3), some (.int v4)] [] M (mX6_putNumber_c40 n f v1 v3 v4 M) := by
  intro f
  induction f with
  | zero =>
    intros
    exact J_none
  | succ f ih =>
    intro v1 v3 v4 M
    unfold mX6_putNumber_c40
    refine J_ild4 dX6_putNumber_40 ?_
    refine J_bipush (v := 10) dX6_putNumber_42 rfl ?_
    refine J_ic_ge 75 dX6_putNumber_44 rfl ?_ ?_
    · exact J_vret dX6_putNumber_75 rfl ⟨rfl, rfl, rfl⟩
    · refine J_ild3 dX6_putNumber_47 ?_
      refine J_if_le 75 dX6_putNumber_48 rfl ?_ ?_
      · exact J_vret dX6_putNumber_75 rfl ⟨rfl, rfl, rfl⟩
      · refine J_ald0 dX6_putNumber_51 ?_
        refine J_bipush (v := 48) dX6_putNumber_52 rfl ?_
        refine J_ild1 dX6_putNumber_54 ?_
        refine J_ild3 dX6_putNumber_55 ?_
        refine J_idiv dX6_putNumber_56 ?_
        refine J_bipush (v := 10) dX6_putNumber_57 rfl ?_
        refine J_iremK dX6_putNumber_59 (by decide) ?_
        refine J_iadd dX6_putNumber_60 ?_
        refine J_cVV (jX6_put l cx n ((48 : Int32) + ((v1 / v3) - (v1 / v3) / (10 : Int32) * (10 : Int32))) M) ck_RX6_27 dX6_putNumber_61 rfl kk_205 ⟨rfl, rfl, by decide, by decide⟩ ⟨Nat.zero_le _, Nat.zero_le _, Nat.le_of_ble_eq_true rfl⟩ (fun M2 => ?_)
        refine J_ild3 dX6_putNumber_64 ?_
        refine J_bipush (v := 10) dX6_putNumber_65 rfl ?_
        refine J_idivK dX6_putNumber_67 (by decide) ?_
        refine J_ist3 dX6_putNumber_68 (by decide) rfl ?_
        refine J_iinc4 (w := (v4 + (1 : Int32))) dX6_putNumber_69 (by decide) rfl rfl ?_
        refine J_goto 40 dX6_putNumber_72 rfl ?_
        exact J_wk (wk_s (wk_s (wk_n (wk_s (wk_s wk_0))))) (ih)
set_option maxRecDepth 100000 in
theorem jX6_putNumber_c5 {l : Launch} {cx : CX} {n : Nat} : ∀ (f : Nat) {v1 : Int32} {v2 : Int32} {v3 : Int32} {v4 : Int32} {M : Mem}, JO l cx ({ frames := 1, cells := 0, slots := 0, locals := 21 } : Room) yX6_putNumber cX6_putNumber 5 none 0 0 false 0 207 EV GS 0 0 5 [some (.ref 205), some (.int v1), some (.int v2), some (.int v3), some (.int v4)] [] M (mX6_putNumber_c5 n f v1 v2 v3 v4 M) := by
  intro f
  induction f with
  | zero =>
    intros
    exact J_none
  | succ f ih =>
    intro v1 v2 v3 v4 M
    unfold mX6_putNumber_c5
    refine J_ild4 dX6_putNumber_5 ?_
    refine J_bipush (v := 10) dX6_putNumber_7 rfl ?_
    refine J_ic_ge 37 dX6_putNumber_9 rfl ?_ ?_
    · refine J_iconst (v := 0) dX6_putNumber_37 rfl ?_
      refine J_ist4 dX6_putNumber_38 (by decide) rfl ?_
      exact J_wk (wk_s (wk_s (wk_n (wk_s (wk_s wk_0))))) (jX6_putNumber_c40 (n := n) n)
    · refine J_ild4 dX6_putNumber_12 ?_
      refine J_ild2 dX6_putNumber_14 ?_
      refine J_ic_lt 26 dX6_putNumber_15 rfl ?_ ?_
      · refine J_ild3 dX6_putNumber_26 ?_
        refine J_bipush (v := 10) dX6_putNumber_27 rfl ?_
        refine J_imul dX6_putNumber_29 ?_
        refine J_ist3 dX6_putNumber_30 (by decide) rfl ?_
        refine J_iinc4 (w := (v4 + (1 : Int32))) dX6_putNumber_31 (by decide) rfl rfl ?_
        refine J_goto 5 dX6_putNumber_34 rfl ?_
        exact J_wk (wk_s (wk_s (wk_s (wk_s (wk_s wk_0))))) (ih)
      · refine J_ild1 dX6_putNumber_18 ?_
        refine J_bipush (v := 10) dX6_putNumber_19 rfl ?_
        refine J_idivK dX6_putNumber_21 (by decide) ?_
        refine J_ild3 dX6_putNumber_22 ?_
        refine J_ic_lt 37 dX6_putNumber_23 rfl ?_ ?_
        · refine J_iconst (v := 0) dX6_putNumber_37 rfl ?_
          refine J_ist4 dX6_putNumber_38 (by decide) rfl ?_
          exact J_wk (wk_s (wk_s (wk_n (wk_s (wk_s wk_0))))) (jX6_putNumber_c40 (n := n) n)
        · refine J_ild3 dX6_putNumber_26 ?_
          refine J_bipush (v := 10) dX6_putNumber_27 rfl ?_
          refine J_imul dX6_putNumber_29 ?_
          refine J_ist3 dX6_putNumber_30 (by decide) rfl ?_
          refine J_iinc4 (w := (v4 + (1 : Int32))) dX6_putNumber_31 (by decide) rfl rfl ?_
          refine J_goto 5 dX6_putNumber_34 rfl ?_
          exact J_wk (wk_s (wk_s (wk_s (wk_s (wk_s wk_0))))) (ih)
set_option maxRecDepth 100000 in
theorem jX6_putNumber (l : Launch) (cx : CX) (n : Nat) (a : Int32) (b : Int32) (M : Mem) : Con l cx ({ frames := 1, cells := 0, slots := 0, locals := 21 } : Room) yX6_putNumber cX6_putNumber 5 none 0 0 false 0 207 EV GS [.ref 205, .int a, .int b] M (mX6_putNumber n a b M) := by
  unfold mX6_putNumber
  refine Con.of (ls := [some (.ref 205), some (.int a), some (.int b), none, none]) (by decide) rfl (Nat.le_of_ble_eq_true rfl) ?_
  refine J_iconst (v := 1) dX6_putNumber_0 rfl ?_
  refine J_ist3 dX6_putNumber_1 (by decide) rfl ?_
  refine J_iconst (v := 1) dX6_putNumber_2 rfl ?_
  refine J_ist4 dX6_putNumber_3 (by decide) rfl ?_
  exact J_wk (wk_s (wk_s (wk_s (wk_s (wk_s wk_0))))) (jX6_putNumber_c5 (n := n) n)
set_option maxRecDepth 100000 in
theorem jX6_putDate (l : Launch) (cx : CX) (n : Nat) (a : Int32) (M : Mem) : Con l cx ({ frames := 3, cells := 0, slots := 0, locals := 66 } : Room) yX6_putDate cX6_putDate 2 none 0 0 false 0 207 EV GS [.ref 205, .int a] M (mX6_putDate n a M) := by
  unfold mX6_putDate
  refine Con.of (ls := [some (.ref 205), some (.int a)]) (by decide) rfl (Nat.le_of_ble_eq_true rfl) ?_
  refine J_ald0 dX6_putDate_0 ?_
  refine J_ald0 dX6_putDate_1 ?_
  refine J_getr (q := 2) fl_RX6_13 dX6_putDate_2 kk_205 rfl (rf_6_0 kk_205) ?_
  refine J_ild1 dX6_putDate_5 ?_
  refine J_cVP (jX3_yearOf l cx n a M) ck_RX6_63 dX6_putDate_6 rfl kk_2 ⟨rfl, rfl, by decide, by decide⟩ ⟨Nat.zero_le _, Nat.zero_le _, Nat.le_of_ble_eq_true rfl⟩ (fun r1 => ?_)
  refine J_iconst (v := 4) dX6_putDate_9 rfl ?_
  refine J_cVV (jX6_putNumber l cx n r1 (4 : Int32) M) ck_RX6_35 dX6_putDate_10 rfl kk_205 ⟨rfl, rfl, by decide, by decide⟩ ⟨Nat.zero_le _, Nat.zero_le _, Nat.le_of_ble_eq_true rfl⟩ (fun M3 => ?_)
  refine J_ald0 dX6_putDate_13 ?_
  refine J_bipush (v := 45) dX6_putDate_14 rfl ?_
  refine J_cVV (jX6_put l cx n (45 : Int32) M3) ck_RX6_27 dX6_putDate_16 rfl kk_205 ⟨rfl, rfl, by decide, by decide⟩ ⟨Nat.zero_le _, Nat.zero_le _, Nat.le_of_ble_eq_true rfl⟩ (fun M5 => ?_)
  refine J_ald0 dX6_putDate_19 ?_
  refine J_ald0 dX6_putDate_20 ?_
  refine J_getr (q := 2) fl_RX6_13 dX6_putDate_21 kk_205 rfl (rf_6_0 kk_205) ?_
  refine J_ild1 dX6_putDate_24 ?_
  refine J_cVP (jX3_monthOf l cx n a M5) ck_RX6_69 dX6_putDate_25 rfl kk_2 ⟨rfl, rfl, by decide, by decide⟩ ⟨Nat.zero_le _, Nat.zero_le _, Nat.le_of_ble_eq_true rfl⟩ (fun r6 => ?_)
  refine J_iconst (v := 2) dX6_putDate_28 rfl ?_
  refine J_cVV (jX6_putNumber l cx n r6 (2 : Int32) M5) ck_RX6_35 dX6_putDate_29 rfl kk_205 ⟨rfl, rfl, by decide, by decide⟩ ⟨Nat.zero_le _, Nat.zero_le _, Nat.le_of_ble_eq_true rfl⟩ (fun M8 => ?_)
  refine J_ald0 dX6_putDate_32 ?_
  refine J_bipush (v := 45) dX6_putDate_33 rfl ?_
  refine J_cVV (jX6_put l cx n (45 : Int32) M8) ck_RX6_27 dX6_putDate_35 rfl kk_205 ⟨rfl, rfl, by decide, by decide⟩ ⟨Nat.zero_le _, Nat.zero_le _, Nat.le_of_ble_eq_true rfl⟩ (fun M10 => ?_)
  refine J_ald0 dX6_putDate_38 ?_
  refine J_ald0 dX6_putDate_39 ?_
  refine J_getr (q := 2) fl_RX6_13 dX6_putDate_40 kk_205 rfl (rf_6_0 kk_205) ?_
  refine J_ild1 dX6_putDate_43 ?_
  refine J_cVP (jX3_dayOfMonth l cx n a M10) ck_RX6_72 dX6_putDate_44 rfl kk_2 ⟨rfl, rfl, by decide, by decide⟩ ⟨Nat.zero_le _, Nat.zero_le _, Nat.le_of_ble_eq_true rfl⟩ (fun r11 => ?_)
  refine J_iconst (v := 2) dX6_putDate_47 rfl ?_
  refine J_cVV (jX6_putNumber l cx n r11 (2 : Int32) M10) ck_RX6_35 dX6_putDate_48 rfl kk_205 ⟨rfl, rfl, by decide, by decide⟩ ⟨Nat.zero_le _, Nat.zero_le _, Nat.le_of_ble_eq_true rfl⟩ (fun M13 => ?_)
  exact J_vret dX6_putDate_51 rfl ⟨rfl, rfl, rfl⟩
set_option maxRecDepth 100000 in
theorem jX6_putKind_c7 {l : Launch} {cx : CX} {n : Nat} : ∀ (f : Nat) {v2 : Int32} {v3 : Int32} {M : Mem}, JO l cx ({ frames := 5, cells := 0, slots := 0, locals := 180 } : Room) yX6_putKind cX6_putKind 4 none 0 0 false 0 207 EV GS 0 0 7 [some (.ref 205), none, some (.int v2), some (.int v3)] [] M (mX6_putKind_c7 n f v2 v3 M) := by
  intro f
  induction f with
  | zero =>
    intros
    exact J_none
  | succ f ih =>
    intro v2 v3 M
    unfold mX6_putKind_c7
    refine J_ild3 dX6_putKind_7 ?_
    refine J_if_lt 55 dX6_putKind_8 rfl ?_ ?_
    · exact J_vret dX6_putKind_55 rfl ⟨rfl, rfl, rfl⟩
    · refine J_ild3 dX6_putKind_11 ?_
      refine J_ild2 dX6_putKind_12 ?_
      refine J_bipush (v := 6) dX6_putKind_13 rfl ?_
      refine J_iadd dX6_putKind_15 ?_
      refine J_ic_ge 55 dX6_putKind_16 rfl ?_ ?_
      · exact J_vret dX6_putKind_55 rfl ⟨rfl, rfl, rfl⟩
      · refine J_ild3 dX6_putKind_19 ?_
        refine J_ldcS (i := 3) dX6_putKind_20 (by decide) rfl rfl ?_
        refine J_slen (i := 3) wd_37 (by decide) dX6_putKind_22 ⟨by decide, Nat.le_of_ble_eq_true rfl⟩ ⟨Nat.zero_le _, Nat.zero_le _, Nat.le_of_ble_eq_true rfl⟩ ?_
        refine J_ic_ge 55 dX6_putKind_25 rfl ?_ ?_
        · exact J_vret dX6_putKind_55 rfl ⟨rfl, rfl, rfl⟩
        · refine J_ldcS (i := 3) dX6_putKind_28 (by decide) rfl rfl ?_
          refine J_ild3 dX6_putKind_30 ?_
          refine J_schr (i := 3) wd_38 (by decide) dX6_putKind_31 ⟨by decide, Nat.le_of_ble_eq_true rfl⟩ ⟨Nat.zero_le _, Nat.zero_le _, Nat.le_of_ble_eq_true rfl⟩ ?_
          refine J_bipush (v := 32) dX6_putKind_34 rfl ?_
          refine J_ic_eq 49 dX6_putKind_36 rfl ?_ ?_
          · refine J_iinc3 (w := (v3 + (1 : Int32))) dX6_putKind_49 (by decide) rfl rfl ?_
            refine J_goto 7 dX6_putKind_52 rfl ?_
            exact J_wk (wk_s (wk_n (wk_s (wk_s wk_0)))) (ih)
          · refine J_ald0 dX6_putKind_39 ?_
            refine J_ldcS (i := 3) dX6_putKind_40 (by decide) rfl rfl ?_
            refine J_ild3 dX6_putKind_42 ?_
            refine J_schr (i := 3) wd_38 (by decide) dX6_putKind_43 ⟨by decide, Nat.le_of_ble_eq_true rfl⟩ ⟨Nat.zero_le _, Nat.zero_le _, Nat.le_of_ble_eq_true rfl⟩ ?_
            refine J_cVV (jX6_put l cx n ((sByt.getD 3 []).getD (Int32.toNatClampNeg v3) 0) M) ck_RX6_27 dX6_putKind_46 rfl kk_205 ⟨rfl, rfl, by decide, by decide⟩ ⟨Nat.zero_le _, Nat.zero_le _, Nat.le_of_ble_eq_true rfl⟩ (fun M2 => ?_)
            refine J_iinc3 (w := (v3 + (1 : Int32))) dX6_putKind_49 (by decide) rfl rfl ?_
            refine J_goto 7 dX6_putKind_52 rfl ?_
            exact J_wk (wk_s (wk_n (wk_s (wk_s wk_0)))) (ih)
set_option maxRecDepth 100000 in
theorem jX6_putKind (l : Launch) (cx : CX) (n : Nat) (a : Int32) (M : Mem) : Con l cx ({ frames := 5, cells := 0, slots := 0, locals := 180 } : Room) yX6_putKind cX6_putKind 4 none 0 0 false 0 207 EV GS [.ref 205, .int a] M (mX6_putKind n a M) := by
  unfold mX6_putKind
  refine Con.of (ls := [some (.ref 205), some (.int a), none, none]) (by decide) rfl (Nat.le_of_ble_eq_true rfl) ?_
  refine J_ild1 dX6_putKind_0 ?_
  refine J_bipush (v := 6) dX6_putKind_1 rfl ?_
  refine J_imul dX6_putKind_3 ?_
  refine J_ist2 dX6_putKind_4 (by decide) rfl ?_
  refine J_ild2 dX6_putKind_5 ?_
  refine J_ist3 dX6_putKind_6 (by decide) rfl ?_
  exact J_wk (wk_s (wk_n (wk_s (wk_s wk_0)))) (jX6_putKind_c7 (n := n) n)
set_option maxRecDepth 100000 in
theorem jX6_putEuros_c10 {l : Launch} {cx : CX} {n : Nat} {v1 : Int32} {M : Mem} : JO l cx ({ frames := 2, cells := 0, slots := 0, locals := 45 } : Room) yX6_putEuros cX6_putEuros 3 none 0 0 false 0 207 EV GS 0 0 10 [some (.ref 205), some (.int v1), none] [] M (mX6_putEuros_c10 n v1 M) := by
  unfold mX6_putEuros_c10
  refine J_ild1 dX6_putEuros_10 ?_
  refine J_mabs ⟨wd_39, wd_40, wd_8, wd_41⟩ dX6_putEuros_11 ⟨by decide, Nat.le_of_ble_eq_true rfl, Nat.zero_le _, Nat.zero_le _⟩ ?_
  refine J_ist2 dX6_putEuros_14 (by decide) rfl ?_
  refine J_ald0 dX6_putEuros_15 ?_
  refine J_ild2 dX6_putEuros_16 ?_
  refine J_bipush (v := 100) dX6_putEuros_17 rfl ?_
  refine J_idivK dX6_putEuros_19 (by decide) ?_
  refine J_iconst (v := 1) dX6_putEuros_20 rfl ?_
  refine J_cVV (jX6_putNumber l cx n ((if 0 ≤ v1 then v1 else 0 - v1) / (100 : Int32)) (1 : Int32) M) ck_RX6_35 dX6_putEuros_21 rfl kk_205 ⟨rfl, rfl, by decide, by decide⟩ ⟨Nat.zero_le _, Nat.zero_le _, Nat.le_of_ble_eq_true rfl⟩ (fun M2 => ?_)
  refine J_ald0 dX6_putEuros_24 ?_
  refine J_bipush (v := 46) dX6_putEuros_25 rfl ?_
  refine J_cVV (jX6_put l cx n (46 : Int32) M2) ck_RX6_27 dX6_putEuros_27 rfl kk_205 ⟨rfl, rfl, by decide, by decide⟩ ⟨Nat.zero_le _, Nat.zero_le _, Nat.le_of_ble_eq_true rfl⟩ (fun M4 => ?_)
  refine J_ald0 dX6_putEuros_30 ?_
  refine J_ild2 dX6_putEuros_31 ?_
  refine J_bipush (v := 100) dX6_putEuros_32 rfl ?_
  refine J_iremK dX6_putEuros_34 (by decide) ?_
  refine J_iconst (v := 2) dX6_putEuros_35 rfl ?_
  refine J_cVV (jX6_putNumber l cx n ((if 0 ≤ v1 then v1 else 0 - v1) - (if 0 ≤ v1 then v1 else 0 - v1) / (100 : Int32) * (100 : Int32)) (2 : Int32) M4) ck_RX6_35 dX6_putEuros_36 rfl kk_205 ⟨rfl, rfl, by decide, by decide⟩ ⟨Nat.zero_le _, Nat.zero_le _, Nat.le_of_ble_eq_true rfl⟩ (fun M6 => ?_)
  exact J_vret dX6_putEuros_39 rfl ⟨rfl, rfl, rfl⟩
set_option maxRecDepth 100000 in
theorem jX6_putEuros (l : Launch) (cx : CX) (n : Nat) (a : Int32) (M : Mem) : Con l cx ({ frames := 2, cells := 0, slots := 0, locals := 45 } : Room) yX6_putEuros cX6_putEuros 3 none 0 0 false 0 207 EV GS [.ref 205, .int a] M (mX6_putEuros n a M) := by
  unfold mX6_putEuros
  refine Con.of (ls := [some (.ref 205), some (.int a), none]) (by decide) rfl (Nat.le_of_ble_eq_true rfl) ?_
  refine J_ild1 dX6_putEuros_0 ?_
  refine J_if_ge 10 dX6_putEuros_1 rfl ?_ ?_
  · exact J_wk (wk_s (wk_s (wk_n wk_0))) (jX6_putEuros_c10 (n := n))
  · refine J_ald0 dX6_putEuros_4 ?_
    refine J_bipush (v := 45) dX6_putEuros_5 rfl ?_
    refine J_cVV (jX6_put l cx n (45 : Int32) M) ck_RX6_27 dX6_putEuros_7 rfl kk_205 ⟨rfl, rfl, by decide, by decide⟩ ⟨Nat.zero_le _, Nat.zero_le _, Nat.le_of_ble_eq_true rfl⟩ (fun M8 => ?_)
    exact J_wk (wk_s (wk_s (wk_n wk_0))) (jX6_putEuros_c10 (n := n))
set_option maxRecDepth 100000 in
theorem jX6_write (l : Launch) (cx : CX) (n : Nat) (a : Nat) (ha : IsK GS 0 207 a 5) (b : Int32) (M : Mem) : Con l cx ({ frames := 6, cells := 0, slots := 0, locals := 203 } : Room) yX6_write cX6_write 3 none 0 0 false 0 207 EV GS [.ref 205, .ref a, .int b] M (mX6_write n a b M) := by
  unfold mX6_write
  refine Con.of (ls := [some (.ref 205), some (.ref a), some (.int b)]) (by decide) rfl (Nat.le_of_ble_eq_true rfl) ?_
  refine J_ald0 dX6_write_0 ?_
  refine J_iconst (v := 0) dX6_write_1 rfl ?_
  refine J_puti fl_RX6_17 dX6_write_2 kk_205 rfl (by decide) ?_
  refine J_ald1 dX6_write_5 ?_
  refine J_ild2 dX6_write_6 ?_
  refine J_cVB (jX5_has l cx n a ha b (upd2 M 205 2 (0 : Int32))) ck_RX6_21 dX6_write_7 rfl ha ⟨rfl, rfl, by decide, by decide⟩ ⟨Nat.zero_le _, Nat.zero_le _, Nat.le_of_ble_eq_true rfl⟩ (fun r1 z2 => ?_)
  refine J_if_ne 14 dX6_write_10 rfl ?_ ?_
  · refine J_ald0 dX6_write_14 ?_
    refine J_bipush (v := 80) dX6_write_15 rfl ?_
    refine J_cVV (jX6_put l cx n (80 : Int32) (upd2 M 205 2 (0 : Int32))) ck_RX6_27 dX6_write_17 rfl kk_205 ⟨rfl, rfl, by decide, by decide⟩ ⟨Nat.zero_le _, Nat.zero_le _, Nat.le_of_ble_eq_true rfl⟩ (fun M4 => ?_)
    refine J_ald0 dX6_write_20 ?_
    refine J_ald1 dX6_write_21 ?_
    refine J_getr (q := (a + 4)) fl_RX6_31 dX6_write_22 ha rfl (rf_5_4 ha) ?_
    refine J_ild2 dX6_write_25 ?_
    refine J_iald dX6_write_26 (kf_5_4 ha) (ln_5_4 ha) ?_
    refine J_iconst (v := 1) dX6_write_27 rfl ?_
    refine J_cVV (jX6_putNumber l cx n (M4 (a + 4) (Int32.toNatClampNeg b)) (1 : Int32) M4) ck_RX6_35 dX6_write_28 rfl kk_205 ⟨rfl, rfl, by decide, by decide⟩ ⟨Nat.zero_le _, Nat.zero_le _, Nat.le_of_ble_eq_true rfl⟩ (fun M6 => ?_)
    refine J_ald0 dX6_write_31 ?_
    refine J_bipush (v := 32) dX6_write_32 rfl ?_
    refine J_cVV (jX6_put l cx n (32 : Int32) M6) ck_RX6_27 dX6_write_34 rfl kk_205 ⟨rfl, rfl, by decide, by decide⟩ ⟨Nat.zero_le _, Nat.zero_le _, Nat.le_of_ble_eq_true rfl⟩ (fun M8 => ?_)
    refine J_ald0 dX6_write_37 ?_
    refine J_ald1 dX6_write_38 ?_
    refine J_getr (q := (a + 5)) fl_RX6_39 dX6_write_39 ha rfl (rf_5_5 ha) ?_
    refine J_ild2 dX6_write_42 ?_
    refine J_iald dX6_write_43 (kf_5_5 ha) (ln_5_5 ha) ?_
    refine J_cVV (jX6_putDate l cx n (M8 (a + 5) (Int32.toNatClampNeg b)) M8) ck_RX6_42 dX6_write_44 rfl kk_205 ⟨rfl, rfl, by decide, by decide⟩ ⟨Nat.zero_le _, Nat.zero_le _, Nat.le_of_ble_eq_true rfl⟩ (fun M10 => ?_)
    refine J_ald0 dX6_write_47 ?_
    refine J_bipush (v := 32) dX6_write_48 rfl ?_
    refine J_cVV (jX6_put l cx n (32 : Int32) M10) ck_RX6_27 dX6_write_50 rfl kk_205 ⟨rfl, rfl, by decide, by decide⟩ ⟨Nat.zero_le _, Nat.zero_le _, Nat.le_of_ble_eq_true rfl⟩ (fun M12 => ?_)
    refine J_ald0 dX6_write_53 ?_
    refine J_bipush (v := 116) dX6_write_54 rfl ?_
    refine J_cVV (jX6_put l cx n (116 : Int32) M12) ck_RX6_27 dX6_write_56 rfl kk_205 ⟨rfl, rfl, by decide, by decide⟩ ⟨Nat.zero_le _, Nat.zero_le _, Nat.le_of_ble_eq_true rfl⟩ (fun M14 => ?_)
    refine J_ald0 dX6_write_59 ?_
    refine J_bipush (v := 111) dX6_write_60 rfl ?_
    refine J_cVV (jX6_put l cx n (111 : Int32) M14) ck_RX6_27 dX6_write_62 rfl kk_205 ⟨rfl, rfl, by decide, by decide⟩ ⟨Nat.zero_le _, Nat.zero_le _, Nat.le_of_ble_eq_true rfl⟩ (fun M16 => ?_)
    refine J_ald0 dX6_write_65 ?_
    refine J_bipush (v := 32) dX6_write_66 rfl ?_
    refine J_cVV (jX6_put l cx n (32 : Int32) M16) ck_RX6_27 dX6_write_68 rfl kk_205 ⟨rfl, rfl, by decide, by decide⟩ ⟨Nat.zero_le _, Nat.zero_le _, Nat.le_of_ble_eq_true rfl⟩ (fun M18 => ?_)
    refine J_ald0 dX6_write_71 ?_
    refine J_ald1 dX6_write_72 ?_
    refine J_getr (q := (a + 6)) fl_RX6_45 dX6_write_73 ha rfl (rf_5_6 ha) ?_
    refine J_ild2 dX6_write_76 ?_
    refine J_iald dX6_write_77 (kf_5_6 ha) (ln_5_6 ha) ?_
    refine J_cVV (jX6_putDate l cx n (M18 (a + 6) (Int32.toNatClampNeg b)) M18) ck_RX6_42 dX6_write_78 rfl kk_205 ⟨rfl, rfl, by decide, by decide⟩ ⟨Nat.zero_le _, Nat.zero_le _, Nat.le_of_ble_eq_true rfl⟩ (fun M20 => ?_)
    refine J_ald0 dX6_write_81 ?_
    refine J_bipush (v := 32) dX6_write_82 rfl ?_
    refine J_cVV (jX6_put l cx n (32 : Int32) M20) ck_RX6_27 dX6_write_84 rfl kk_205 ⟨rfl, rfl, by decide, by decide⟩ ⟨Nat.zero_le _, Nat.zero_le _, Nat.le_of_ble_eq_true rfl⟩ (fun M22 => ?_)
    refine J_ald0 dX6_write_87 ?_
    refine J_bipush (v := 65) dX6_write_88 rfl ?_
    refine J_ald1 dX6_write_90 ?_
    refine J_getr (q := (a + 7)) fl_RX6_48 dX6_write_91 ha rfl (rf_5_7 ha) ?_
    refine J_ild2 dX6_write_94 ?_
    refine J_iald dX6_write_95 (kf_5_7 ha) (ln_5_7 ha) ?_
    refine J_iadd dX6_write_96 ?_
    refine J_cVV (jX6_put l cx n ((65 : Int32) + (M22 (a + 7) (Int32.toNatClampNeg b))) M22) ck_RX6_27 dX6_write_97 rfl kk_205 ⟨rfl, rfl, by decide, by decide⟩ ⟨Nat.zero_le _, Nat.zero_le _, Nat.le_of_ble_eq_true rfl⟩ (fun M24 => ?_)
    refine J_ald0 dX6_write_100 ?_
    refine J_bipush (v := 32) dX6_write_101 rfl ?_
    refine J_cVV (jX6_put l cx n (32 : Int32) M24) ck_RX6_27 dX6_write_103 rfl kk_205 ⟨rfl, rfl, by decide, by decide⟩ ⟨Nat.zero_le _, Nat.zero_le _, Nat.le_of_ble_eq_true rfl⟩ (fun M26 => ?_)
    refine J_ald0 dX6_write_106 ?_
    refine J_ald1 dX6_write_107 ?_
    refine J_getr (q := (a + 1)) fl_RX6_51 dX6_write_108 ha rfl (rf_5_1 ha) ?_
    refine J_ild2 dX6_write_111 ?_
    refine J_iald dX6_write_112 (kf_5_1 ha) (ln_5_1 ha) ?_
    refine J_cVV (jX6_putKind l cx n (M26 (a + 1) (Int32.toNatClampNeg b)) M26) ck_RX6_54 dX6_write_113 rfl kk_205 ⟨rfl, rfl, by decide, by decide⟩ ⟨Nat.zero_le _, Nat.zero_le _, Nat.le_of_ble_eq_true rfl⟩ (fun M28 => ?_)
    refine J_ald0 dX6_write_116 ?_
    refine J_bipush (v := 32) dX6_write_117 rfl ?_
    refine J_cVV (jX6_put l cx n (32 : Int32) M28) ck_RX6_27 dX6_write_119 rfl kk_205 ⟨rfl, rfl, by decide, by decide⟩ ⟨Nat.zero_le _, Nat.zero_le _, Nat.le_of_ble_eq_true rfl⟩ (fun M30 => ?_)
    refine J_ald0 dX6_write_122 ?_
    refine J_ald1 dX6_write_123 ?_
    refine J_getr (q := (a + 8)) fl_RX6_57 dX6_write_124 ha rfl (rf_5_8 ha) ?_
    refine J_ild2 dX6_write_127 ?_
    refine J_iald dX6_write_128 (kf_5_8 ha) (ln_5_8 ha) ?_
    refine J_cVV (jX6_putEuros l cx n (M30 (a + 8) (Int32.toNatClampNeg b)) M30) ck_RX6_60 dX6_write_129 rfl kk_205 ⟨rfl, rfl, by decide, by decide⟩ ⟨Nat.zero_le _, Nat.zero_le _, Nat.le_of_ble_eq_true rfl⟩ (fun M32 => ?_)
    exact J_vret dX6_write_132 rfl ⟨rfl, rfl, rfl⟩
  · exact J_vret dX6_write_13 rfl ⟨rfl, rfl, rfl⟩
set_option maxRecDepth 100000 in
theorem jX7_mostWhole_c4 {l : Launch} {cx : CX} {n : Nat} {M : Mem} : ∀ (f : Nat) {v0 : Nat} {v1 : Int32} {v2 : Int32} {v3 : Int32} (h0 : IsK GS 0 207 v0 7), JO l cx ({ frames := 1, cells := 0, slots := 0, locals := 23 } : Room) yX7_mostWhole cX7_mostWhole 4 (some .int) 0 0 false 0 207 (EP M) GS 0 0 4 [some (.ref v0), some (.int v1), some (.int v2), some (.int v3)] [] M (mX7_mostWhole_c4 n f v0 v1 v2 v3 M) := by
  intro f
  induction f with
  | zero =>
    intros
    exact J_none
  | succ f ih =>
    intro v0 v1 v2 v3 h0
    unfold mX7_mostWhole_c4
    refine J_ild3 dX7_mostWhole_4 ?_
    refine J_ald0 dX7_mostWhole_5 ?_
    refine J_geti fl_RX7_31 dX7_mostWhole_6 h0 rfl ?_
    refine J_ic_ge 69 dX7_mostWhole_9 rfl ?_ ?_
    · refine J_ald0 dX7_mostWhole_69 ?_
      refine J_geti fl_RX7_34 dX7_mostWhole_70 h0 rfl ?_
      refine J_if_le 89 dX7_mostWhole_73 rfl ?_ ?_
      · refine J_sipush (v := 9999) dX7_mostWhole_89 rfl ?_
        exact J_iret dX7_mostWhole_92 rfl ⟨rfl, rfl, rfl⟩
      · refine J_ild2 dX7_mostWhole_76 ?_
        refine J_ild1 dX7_mostWhole_77 ?_
        refine J_ald0 dX7_mostWhole_78 ?_
        refine J_geti fl_RX7_34 dX7_mostWhole_79 h0 rfl ?_
        refine J_idiv dX7_mostWhole_82 ?_
        refine J_mmax ⟨wd_15, wd_11, wd_8, wd_12⟩ dX7_mostWhole_83 ⟨by decide, Nat.le_of_ble_eq_true rfl, Nat.zero_le _, Nat.zero_le _⟩ ?_
        refine J_goto 92 dX7_mostWhole_86 rfl ?_
        exact J_iret dX7_mostWhole_92 rfl ⟨rfl, rfl, rfl⟩
    · refine J_ild3 dX7_mostWhole_12 ?_
      refine J_iconst (v := 4) dX7_mostWhole_13 rfl ?_
      refine J_ic_ge 69 dX7_mostWhole_14 rfl ?_ ?_
      · refine J_ald0 dX7_mostWhole_69 ?_
        refine J_geti fl_RX7_34 dX7_mostWhole_70 h0 rfl ?_
        refine J_if_le 89 dX7_mostWhole_73 rfl ?_ ?_
        · refine J_sipush (v := 9999) dX7_mostWhole_89 rfl ?_
          exact J_iret dX7_mostWhole_92 rfl ⟨rfl, rfl, rfl⟩
        · refine J_ild2 dX7_mostWhole_76 ?_
          refine J_ild1 dX7_mostWhole_77 ?_
          refine J_ald0 dX7_mostWhole_78 ?_
          refine J_geti fl_RX7_34 dX7_mostWhole_79 h0 rfl ?_
          refine J_idiv dX7_mostWhole_82 ?_
          refine J_mmax ⟨wd_15, wd_11, wd_8, wd_12⟩ dX7_mostWhole_83 ⟨by decide, Nat.le_of_ble_eq_true rfl, Nat.zero_le _, Nat.zero_le _⟩ ?_
          refine J_goto 92 dX7_mostWhole_86 rfl ?_
          exact J_iret dX7_mostWhole_92 rfl ⟨rfl, rfl, rfl⟩
      · refine J_ald0 dX7_mostWhole_17 ?_
        refine J_getr (q := (v0 + 2)) fl_RX7_15 dX7_mostWhole_18 h0 rfl (rf_7_4 h0) ?_
        refine J_ild3 dX7_mostWhole_21 ?_
        refine J_iald dX7_mostWhole_22 (kf_7_4 h0) (ln_7_4 h0) ?_
        refine J_if_le 56 dX7_mostWhole_23 rfl ?_ ?_
        · refine J_ald0 dX7_mostWhole_56 ?_
          refine J_getr (q := (v0 + 1)) fl_RX7_11 dX7_mostWhole_57 h0 rfl (rf_7_3 h0) ?_
          refine J_ild3 dX7_mostWhole_60 ?_
          refine J_iald dX7_mostWhole_61 (kf_7_3 h0) (ln_7_3 h0) ?_
          refine J_ist2 dX7_mostWhole_62 (by decide) rfl ?_
          refine J_iinc3 (w := (v3 + (1 : Int32))) dX7_mostWhole_63 (by decide) rfl rfl ?_
          refine J_goto 4 dX7_mostWhole_66 rfl ?_
          exact J_wk (wk_s (wk_s (wk_s (wk_s wk_0)))) (ih h0)
        · refine J_ald0 dX7_mostWhole_26 ?_
          refine J_getr (q := (v0 + 1)) fl_RX7_11 dX7_mostWhole_27 h0 rfl (rf_7_3 h0) ?_
          refine J_ild3 dX7_mostWhole_30 ?_
          refine J_iald dX7_mostWhole_31 (kf_7_3 h0) (ln_7_3 h0) ?_
          refine J_ald0 dX7_mostWhole_32 ?_
          refine J_getr (q := (v0 + 2)) fl_RX7_15 dX7_mostWhole_33 h0 rfl (rf_7_4 h0) ?_
          refine J_ild3 dX7_mostWhole_36 ?_
          refine J_iald dX7_mostWhole_37 (kf_7_4 h0) (ln_7_4 h0) ?_
          refine J_imul dX7_mostWhole_38 ?_
          refine J_ild1 dX7_mostWhole_39 ?_
          refine J_ic_le 56 dX7_mostWhole_40 rfl ?_ ?_
          · refine J_ald0 dX7_mostWhole_56 ?_
            refine J_getr (q := (v0 + 1)) fl_RX7_11 dX7_mostWhole_57 h0 rfl (rf_7_3 h0) ?_
            refine J_ild3 dX7_mostWhole_60 ?_
            refine J_iald dX7_mostWhole_61 (kf_7_3 h0) (ln_7_3 h0) ?_
            refine J_ist2 dX7_mostWhole_62 (by decide) rfl ?_
            refine J_iinc3 (w := (v3 + (1 : Int32))) dX7_mostWhole_63 (by decide) rfl rfl ?_
            refine J_goto 4 dX7_mostWhole_66 rfl ?_
            exact J_wk (wk_s (wk_s (wk_s (wk_s wk_0)))) (ih h0)
          · refine J_ild2 dX7_mostWhole_43 ?_
            refine J_ild1 dX7_mostWhole_44 ?_
            refine J_ald0 dX7_mostWhole_45 ?_
            refine J_getr (q := (v0 + 2)) fl_RX7_15 dX7_mostWhole_46 h0 rfl (rf_7_4 h0) ?_
            refine J_ild3 dX7_mostWhole_49 ?_
            refine J_iald dX7_mostWhole_50 (kf_7_4 h0) (ln_7_4 h0) ?_
            refine J_idiv dX7_mostWhole_51 ?_
            refine J_mmax ⟨wd_15, wd_11, wd_8, wd_12⟩ dX7_mostWhole_52 ⟨by decide, Nat.le_of_ble_eq_true rfl, Nat.zero_le _, Nat.zero_le _⟩ ?_
            exact J_iret dX7_mostWhole_55 rfl ⟨rfl, rfl, rfl⟩
set_option maxRecDepth 100000 in
theorem jX7_mostWhole (l : Launch) (cx : CX) (n : Nat) (o : Nat) (ho : IsK GS 0 207 o 7) (a : Int32) (M : Mem) : Con l cx ({ frames := 1, cells := 0, slots := 0, locals := 23 } : Room) yX7_mostWhole cX7_mostWhole 4 (some .int) 0 0 false 0 207 (EP M) GS [.ref o, .int a] M (mX7_mostWhole n o a M) := by
  unfold mX7_mostWhole
  refine Con.of (ls := [some (.ref o), some (.int a), none, none]) (by decide) rfl (Nat.le_of_ble_eq_true rfl) ?_
  refine J_iconst (v := 0) dX7_mostWhole_0 rfl ?_
  refine J_ist2 dX7_mostWhole_1 (by decide) rfl ?_
  refine J_iconst (v := 0) dX7_mostWhole_2 rfl ?_
  refine J_ist3 dX7_mostWhole_3 (by decide) rfl ?_
  exact J_wk (wk_s (wk_s (wk_s (wk_s wk_0)))) (jX7_mostWhole_c4 (n := n) n ho)
set_option maxRecDepth 100000 in
theorem jX7_mostAdded_c7 {l : Launch} {cx : CX} {n : Nat} {M : Mem} : ∀ (f : Nat) {v0 : Nat} {v2 : Int32} {v3 : Int32} {v4 : Int32} (h0 : IsK GS 0 207 v0 7), JO l cx ({ frames := 0, cells := 0, slots := 0, locals := 0 } : Room) yX7_mostAdded cX7_mostAdded 6 (some .int) 0 0 false 0 207 (EP M) GS 0 0 7 [some (.ref v0), none, some (.int v2), some (.int v3), some (.int v4), none] [] M (mX7_mostAdded_c7 n f v0 v2 v3 v4 M) := by
  intro f
  induction f with
  | zero =>
    intros
    exact J_none
  | succ f ih =>
    intro v0 v2 v3 v4 h0
    unfold mX7_mostAdded_c7
    refine J_ild4 dX7_mostAdded_7 ?_
    refine J_ald0 dX7_mostAdded_9 ?_
    refine J_geti fl_RX7_31 dX7_mostAdded_10 h0 rfl ?_
    refine J_ic_ge 88 dX7_mostAdded_13 rfl ?_ ?_
    · refine J_ald0 dX7_mostAdded_88 ?_
      refine J_geti fl_RX7_34 dX7_mostAdded_89 h0 rfl ?_
      refine J_if_le 106 dX7_mostAdded_92 rfl ?_ ?_
      · refine J_sipush (v := 9999) dX7_mostAdded_106 rfl ?_
        exact J_iret dX7_mostAdded_109 rfl ⟨rfl, rfl, rfl⟩
      · refine J_ild2 dX7_mostAdded_95 ?_
        refine J_ild3 dX7_mostAdded_96 ?_
        refine J_ald0 dX7_mostAdded_97 ?_
        refine J_geti fl_RX7_34 dX7_mostAdded_98 h0 rfl ?_
        refine J_idiv dX7_mostAdded_101 ?_
        refine J_iadd dX7_mostAdded_102 ?_
        refine J_goto 109 dX7_mostAdded_103 rfl ?_
        exact J_iret dX7_mostAdded_109 rfl ⟨rfl, rfl, rfl⟩
    · refine J_ild4 dX7_mostAdded_16 ?_
      refine J_iconst (v := 4) dX7_mostAdded_18 rfl ?_
      refine J_ic_ge 88 dX7_mostAdded_19 rfl ?_ ?_
      · refine J_ald0 dX7_mostAdded_88 ?_
        refine J_geti fl_RX7_34 dX7_mostAdded_89 h0 rfl ?_
        refine J_if_le 106 dX7_mostAdded_92 rfl ?_ ?_
        · refine J_sipush (v := 9999) dX7_mostAdded_106 rfl ?_
          exact J_iret dX7_mostAdded_109 rfl ⟨rfl, rfl, rfl⟩
        · refine J_ild2 dX7_mostAdded_95 ?_
          refine J_ild3 dX7_mostAdded_96 ?_
          refine J_ald0 dX7_mostAdded_97 ?_
          refine J_geti fl_RX7_34 dX7_mostAdded_98 h0 rfl ?_
          refine J_idiv dX7_mostAdded_101 ?_
          refine J_iadd dX7_mostAdded_102 ?_
          refine J_goto 109 dX7_mostAdded_103 rfl ?_
          exact J_iret dX7_mostAdded_109 rfl ⟨rfl, rfl, rfl⟩
      · refine J_ald0 dX7_mostAdded_22 ?_
        refine J_getr (q := (v0 + 1)) fl_RX7_11 dX7_mostAdded_23 h0 rfl (rf_7_3 h0) ?_
        refine J_ild4 dX7_mostAdded_26 ?_
        refine J_iald dX7_mostAdded_28 (kf_7_3 h0) (ln_7_3 h0) ?_
        refine J_ild2 dX7_mostAdded_29 ?_
        refine J_isub dX7_mostAdded_30 ?_
        refine J_ald0 dX7_mostAdded_31 ?_
        refine J_getr (q := (v0 + 2)) fl_RX7_15 dX7_mostAdded_32 h0 rfl (rf_7_4 h0) ?_
        refine J_ild4 dX7_mostAdded_35 ?_
        refine J_iald dX7_mostAdded_37 (kf_7_4 h0) (ln_7_4 h0) ?_
        refine J_imul dX7_mostAdded_38 ?_
        refine J_ist5 dX7_mostAdded_39 (by decide) rfl ?_
        refine J_ald0 dX7_mostAdded_41 ?_
        refine J_getr (q := (v0 + 2)) fl_RX7_15 dX7_mostAdded_42 h0 rfl (rf_7_4 h0) ?_
        refine J_ild4 dX7_mostAdded_45 ?_
        refine J_iald dX7_mostAdded_47 (kf_7_4 h0) (ln_7_4 h0) ?_
        refine J_if_le 69 dX7_mostAdded_48 rfl ?_ ?_
        · refine J_ild3 dX7_mostAdded_69 ?_
          refine J_ild5 dX7_mostAdded_70 ?_
          refine J_isub dX7_mostAdded_72 ?_
          refine J_ist3 dX7_mostAdded_73 (by decide) rfl ?_
          refine J_ald0 dX7_mostAdded_74 ?_
          refine J_getr (q := (v0 + 1)) fl_RX7_11 dX7_mostAdded_75 h0 rfl (rf_7_3 h0) ?_
          refine J_ild4 dX7_mostAdded_78 ?_
          refine J_iald dX7_mostAdded_80 (kf_7_3 h0) (ln_7_3 h0) ?_
          refine J_ist2 dX7_mostAdded_81 (by decide) rfl ?_
          refine J_iinc4 (w := (v4 + (1 : Int32))) dX7_mostAdded_82 (by decide) rfl rfl ?_
          refine J_goto 7 dX7_mostAdded_85 rfl ?_
          exact J_wk (wk_s (wk_n (wk_s (wk_s (wk_s (wk_n wk_0)))))) (ih h0)
        · refine J_ild5 dX7_mostAdded_51 ?_
          refine J_ild3 dX7_mostAdded_53 ?_
          refine J_ic_le 69 dX7_mostAdded_54 rfl ?_ ?_
          · refine J_ild3 dX7_mostAdded_69 ?_
            refine J_ild5 dX7_mostAdded_70 ?_
            refine J_isub dX7_mostAdded_72 ?_
            refine J_ist3 dX7_mostAdded_73 (by decide) rfl ?_
            refine J_ald0 dX7_mostAdded_74 ?_
            refine J_getr (q := (v0 + 1)) fl_RX7_11 dX7_mostAdded_75 h0 rfl (rf_7_3 h0) ?_
            refine J_ild4 dX7_mostAdded_78 ?_
            refine J_iald dX7_mostAdded_80 (kf_7_3 h0) (ln_7_3 h0) ?_
            refine J_ist2 dX7_mostAdded_81 (by decide) rfl ?_
            refine J_iinc4 (w := (v4 + (1 : Int32))) dX7_mostAdded_82 (by decide) rfl rfl ?_
            refine J_goto 7 dX7_mostAdded_85 rfl ?_
            exact J_wk (wk_s (wk_n (wk_s (wk_s (wk_s (wk_n wk_0)))))) (ih h0)
          · refine J_ild2 dX7_mostAdded_57 ?_
            refine J_ild3 dX7_mostAdded_58 ?_
            refine J_ald0 dX7_mostAdded_59 ?_
            refine J_getr (q := (v0 + 2)) fl_RX7_15 dX7_mostAdded_60 h0 rfl (rf_7_4 h0) ?_
            refine J_ild4 dX7_mostAdded_63 ?_
            refine J_iald dX7_mostAdded_65 (kf_7_4 h0) (ln_7_4 h0) ?_
            refine J_idiv dX7_mostAdded_66 ?_
            refine J_iadd dX7_mostAdded_67 ?_
            exact J_iret dX7_mostAdded_68 rfl ⟨rfl, rfl, rfl⟩
set_option maxRecDepth 100000 in
theorem jX7_mostAdded (l : Launch) (cx : CX) (n : Nat) (o : Nat) (ho : IsK GS 0 207 o 7) (a : Int32) (M : Mem) : Con l cx ({ frames := 0, cells := 0, slots := 0, locals := 0 } : Room) yX7_mostAdded cX7_mostAdded 6 (some .int) 0 0 false 0 207 (EP M) GS [.ref o, .int a] M (mX7_mostAdded n o a M) := by
  unfold mX7_mostAdded
  refine Con.of (ls := [some (.ref o), some (.int a), none, none, none, none]) (by decide) rfl (Nat.le_of_ble_eq_true rfl) ?_
  refine J_iconst (v := 0) dX7_mostAdded_0 rfl ?_
  refine J_ist2 dX7_mostAdded_1 (by decide) rfl ?_
  refine J_ild1 dX7_mostAdded_2 ?_
  refine J_ist3 dX7_mostAdded_3 (by decide) rfl ?_
  refine J_iconst (v := 0) dX7_mostAdded_4 rfl ?_
  refine J_ist4 dX7_mostAdded_5 (by decide) rfl ?_
  exact J_wk (wk_s (wk_n (wk_s (wk_s (wk_s (wk_n wk_0)))))) (jX7_mostAdded_c7 (n := n) n ho)
set_option maxRecDepth 100000 in
theorem jX7_mostUnits (l : Launch) (cx : CX) (n : Nat) (o : Nat) (ho : IsK GS 0 207 o 7) (a : Int32) (M : Mem) : Con l cx ({ frames := 2, cells := 0, slots := 0, locals := 46 } : Room) yX7_mostUnits cX7_mostUnits 3 (some .int) 0 0 false 0 207 (EP M) GS [.ref o, .int a] M (mX7_mostUnits n o a M) := by
  unfold mX7_mostUnits
  refine Con.of (ls := [some (.ref o), some (.int a), none]) (by decide) rfl (Nat.le_of_ble_eq_true rfl) ?_
  refine J_ald0 dX7_mostUnits_0 ?_
  refine J_geti fl_RX7_37 dX7_mostUnits_1 ho rfl ?_
  refine J_if_eq 15 dX7_mostUnits_4 rfl ?_ ?_
  · refine J_ald0 dX7_mostUnits_15 ?_
    refine J_ild1 dX7_mostUnits_16 ?_
    refine J_cVP (jX7_mostAdded l cx n o ho a M) ck_RX7_72 dX7_mostUnits_17 rfl ho ⟨rfl, rfl, by decide, by decide⟩ ⟨Nat.zero_le _, Nat.zero_le _, Nat.le_of_ble_eq_true rfl⟩ (fun r1 => ?_)
    refine J_ist2 dX7_mostUnits_20 (by decide) rfl ?_
    refine J_sipush (v := 9999) dX7_mostUnits_21 rfl ?_
    refine J_ald0 dX7_mostUnits_24 ?_
    refine J_geti fl_RX7_28 dX7_mostUnits_25 ho rfl ?_
    refine J_ild2 dX7_mostUnits_28 ?_
    refine J_iadd dX7_mostUnits_29 ?_
    refine J_mmin ⟨wd_14, wd_7, wd_8, wd_9⟩ dX7_mostUnits_30 ⟨by decide, Nat.le_of_ble_eq_true rfl, Nat.zero_le _, Nat.zero_le _⟩ ?_
    exact J_iret dX7_mostUnits_33 rfl ⟨rfl, rfl, rfl⟩
  · refine J_ald0 dX7_mostUnits_7 ?_
    refine J_ild1 dX7_mostUnits_8 ?_
    refine J_cVP (jX7_mostWhole l cx n o ho a M) ck_RX7_69 dX7_mostUnits_9 rfl ho ⟨rfl, rfl, by decide, by decide⟩ ⟨Nat.zero_le _, Nat.zero_le _, Nat.le_of_ble_eq_true rfl⟩ (fun r2 => ?_)
    refine J_goto 20 dX7_mostUnits_12 rfl ?_
    refine J_ist2 dX7_mostUnits_20 (by decide) rfl ?_
    refine J_sipush (v := 9999) dX7_mostUnits_21 rfl ?_
    refine J_ald0 dX7_mostUnits_24 ?_
    refine J_geti fl_RX7_28 dX7_mostUnits_25 ho rfl ?_
    refine J_ild2 dX7_mostUnits_28 ?_
    refine J_iadd dX7_mostUnits_29 ?_
    refine J_mmin ⟨wd_14, wd_7, wd_8, wd_9⟩ dX7_mostUnits_30 ⟨by decide, Nat.le_of_ble_eq_true rfl, Nat.zero_le _, Nat.zero_le _⟩ ?_
    exact J_iret dX7_mostUnits_33 rfl ⟨rfl, rfl, rfl⟩
set_option maxRecDepth 100000 in
theorem jX10_tellOf (l : Launch) (cx : CX) (n : Nat) (a : Nat) (ha : IsK GS 0 207 a 12) (b : Int32) (c : Int32) (M : Mem) : Con l cx ({ frames := 0, cells := 0, slots := 0, locals := 0 } : Room) yX10_tellOf cX10_tellOf 3 (some .int) 0 0 false 0 207 (EP M) GS [.ref a, .int b, .int c] M (mX10_tellOf a b c M) := by
  unfold mX10_tellOf
  refine Con.of (ls := [some (.ref a), some (.int b), some (.int c)]) (by decide) rfl (Nat.le_of_ble_eq_true rfl) ?_
  refine J_ild2 dX10_tellOf_0 ?_
  refine J_if_lt 21 dX10_tellOf_1 rfl ?_ ?_
  · refine J_bipush (v := -2) dX10_tellOf_21 rfl ?_
    exact J_iret dX10_tellOf_23 rfl ⟨rfl, rfl, rfl⟩
  · refine J_ild2 dX10_tellOf_4 ?_
    refine J_ild1 dX10_tellOf_5 ?_
    refine J_ic_ge 21 dX10_tellOf_6 rfl ?_ ?_
    · refine J_bipush (v := -2) dX10_tellOf_21 rfl ?_
      exact J_iret dX10_tellOf_23 rfl ⟨rfl, rfl, rfl⟩
    · refine J_ild2 dX10_tellOf_9 ?_
      refine J_ald0 dX10_tellOf_10 ?_
      refine J_alen (v := (Int32.ofNat (GS.2.1 a))) dX10_tellOf_11 ha (Or.inl rfl) rfl rfl ?_
      refine J_ic_ge 21 dX10_tellOf_12 rfl ?_ ?_
      · refine J_bipush (v := -2) dX10_tellOf_21 rfl ?_
        exact J_iret dX10_tellOf_23 rfl ⟨rfl, rfl, rfl⟩
      · refine J_ald0 dX10_tellOf_15 ?_
        refine J_ild2 dX10_tellOf_16 ?_
        refine J_iald dX10_tellOf_17 ha rfl ?_
        refine J_goto 23 dX10_tellOf_18 rfl ?_
        exact J_iret dX10_tellOf_23 rfl ⟨rfl, rfl, rfl⟩
set_option maxRecDepth 100000 in
theorem jX7_tell (l : Launch) (cx : CX) (n : Nat) (o : Nat) (ho : IsK GS 0 207 o 7) (a : Int32) (M : Mem) : Con l cx ({ frames := 1, cells := 0, slots := 0, locals := 22 } : Room) yX7_tell cX7_tell 2 (some .int) 0 0 false 0 207 (EP M) GS [.ref o, .int a] M (mX7_tell o a M) := by
  unfold mX7_tell
  refine Con.of (ls := [some (.ref o), some (.int a)]) (by decide) rfl (Nat.le_of_ble_eq_true rfl) ?_
  refine J_ild1 dX7_tell_0 ?_
  refine J_swIn (v := 0) 188 dX7_tell_1 (by decide) (by decide) rfl rfl ?_ (fun w1 => ?_)
  · refine J_ald0 dX7_tell_188 ?_
    refine J_geti fl_RX7_24 dX7_tell_189 ho rfl ?_
    exact J_iret dX7_tell_192 rfl ⟨rfl, rfl, rfl⟩
  refine J_swIn (v := 1) 193 dX7_tell_1 (by decide) (by decide) rfl rfl ?_ (fun w2 => ?_)
  · refine J_ald0 dX7_tell_193 ?_
    refine J_geti fl_RX7_28 dX7_tell_194 ho rfl ?_
    exact J_iret dX7_tell_197 rfl ⟨rfl, rfl, rfl⟩
  refine J_swIn (v := 2) 198 dX7_tell_1 (by decide) (by decide) rfl rfl ?_ (fun w3 => ?_)
  · refine J_ald0 dX7_tell_198 ?_
    refine J_geti fl_RX7_31 dX7_tell_199 ho rfl ?_
    exact J_iret dX7_tell_202 rfl ⟨rfl, rfl, rfl⟩
  refine J_swIn (v := 3) 203 dX7_tell_1 (by decide) (by decide) rfl rfl ?_ (fun w4 => ?_)
  · refine J_ald0 dX7_tell_203 ?_
    refine J_geti fl_RX7_34 dX7_tell_204 ho rfl ?_
    exact J_iret dX7_tell_207 rfl ⟨rfl, rfl, rfl⟩
  refine J_swIn (v := 4) 208 dX7_tell_1 (by decide) (by decide) rfl rfl ?_ (fun w5 => ?_)
  · refine J_ald0 dX7_tell_208 ?_
    refine J_geti fl_RX7_37 dX7_tell_209 ho rfl ?_
    refine J_if_eq 219 dX7_tell_212 rfl ?_ ?_
    · refine J_iconst (v := 0) dX7_tell_219 rfl ?_
      exact J_iret dX7_tell_220 rfl ⟨rfl, rfl, rfl⟩
    · refine J_iconst (v := 1) dX7_tell_215 rfl ?_
      refine J_goto 220 dX7_tell_216 rfl ?_
      exact J_iret dX7_tell_220 rfl ⟨rfl, rfl, rfl⟩
  refine J_swIn (v := 5) 221 dX7_tell_1 (by decide) (by decide) rfl rfl ?_ (fun w6 => ?_)
  · refine J_ald0 dX7_tell_221 ?_
    refine J_geti fl_RX7_41 dX7_tell_222 ho rfl ?_
    exact J_iret dX7_tell_225 rfl ⟨rfl, rfl, rfl⟩
  refine J_swIn (v := 6) 290 dX7_tell_1 (by decide) (by decide) rfl rfl ?_ (fun w7 => ?_)
  · refine J_iconst (v := -1) dX7_tell_290 rfl ?_
    exact J_iret dX7_tell_291 rfl ⟨rfl, rfl, rfl⟩
  refine J_swIn (v := 7) 290 dX7_tell_1 (by decide) (by decide) rfl rfl ?_ (fun w8 => ?_)
  · refine J_iconst (v := -1) dX7_tell_290 rfl ?_
    exact J_iret dX7_tell_291 rfl ⟨rfl, rfl, rfl⟩
  refine J_swIn (v := 8) 290 dX7_tell_1 (by decide) (by decide) rfl rfl ?_ (fun w9 => ?_)
  · refine J_iconst (v := -1) dX7_tell_290 rfl ?_
    exact J_iret dX7_tell_291 rfl ⟨rfl, rfl, rfl⟩
  refine J_swIn (v := 9) 290 dX7_tell_1 (by decide) (by decide) rfl rfl ?_ (fun w10 => ?_)
  · refine J_iconst (v := -1) dX7_tell_290 rfl ?_
    exact J_iret dX7_tell_291 rfl ⟨rfl, rfl, rfl⟩
  refine J_swIn (v := 10) 226 dX7_tell_1 (by decide) (by decide) rfl rfl ?_ (fun w12 => ?_)
  · refine J_ald0 dX7_tell_226 ?_
    refine J_getr (q := (o + 1)) fl_RX7_11 dX7_tell_227 ho rfl (rf_7_3 ho) ?_
    refine J_ald0 dX7_tell_230 ?_
    refine J_geti fl_RX7_31 dX7_tell_231 ho rfl ?_
    refine J_ild1 dX7_tell_234 ?_
    refine J_bipush (v := 10) dX7_tell_235 rfl ?_
    refine J_isub dX7_tell_237 ?_
    refine J_cSP (jX10_tellOf l cx n (o + 1) (kf_7_3 ho) (M o 2) (a - (10 : Int32)) M) ck_RX7_75 dX7_tell_238 rfl ⟨rfl, rfl, by decide, by decide⟩ ⟨Nat.zero_le _, Nat.zero_le _, Nat.le_of_ble_eq_true rfl⟩ (fun r11 => ?_)
    exact J_iret dX7_tell_241 rfl ⟨rfl, rfl, rfl⟩
  refine J_swIn (v := 11) 226 dX7_tell_1 (by decide) (by decide) rfl rfl ?_ (fun w14 => ?_)
  · refine J_ald0 dX7_tell_226 ?_
    refine J_getr (q := (o + 1)) fl_RX7_11 dX7_tell_227 ho rfl (rf_7_3 ho) ?_
    refine J_ald0 dX7_tell_230 ?_
    refine J_geti fl_RX7_31 dX7_tell_231 ho rfl ?_
    refine J_ild1 dX7_tell_234 ?_
    refine J_bipush (v := 10) dX7_tell_235 rfl ?_
    refine J_isub dX7_tell_237 ?_
    refine J_cSP (jX10_tellOf l cx n (o + 1) (kf_7_3 ho) (M o 2) (a - (10 : Int32)) M) ck_RX7_75 dX7_tell_238 rfl ⟨rfl, rfl, by decide, by decide⟩ ⟨Nat.zero_le _, Nat.zero_le _, Nat.le_of_ble_eq_true rfl⟩ (fun r13 => ?_)
    exact J_iret dX7_tell_241 rfl ⟨rfl, rfl, rfl⟩
  refine J_swIn (v := 12) 226 dX7_tell_1 (by decide) (by decide) rfl rfl ?_ (fun w16 => ?_)
  · refine J_ald0 dX7_tell_226 ?_
    refine J_getr (q := (o + 1)) fl_RX7_11 dX7_tell_227 ho rfl (rf_7_3 ho) ?_
    refine J_ald0 dX7_tell_230 ?_
    refine J_geti fl_RX7_31 dX7_tell_231 ho rfl ?_
    refine J_ild1 dX7_tell_234 ?_
    refine J_bipush (v := 10) dX7_tell_235 rfl ?_
    refine J_isub dX7_tell_237 ?_
    refine J_cSP (jX10_tellOf l cx n (o + 1) (kf_7_3 ho) (M o 2) (a - (10 : Int32)) M) ck_RX7_75 dX7_tell_238 rfl ⟨rfl, rfl, by decide, by decide⟩ ⟨Nat.zero_le _, Nat.zero_le _, Nat.le_of_ble_eq_true rfl⟩ (fun r15 => ?_)
    exact J_iret dX7_tell_241 rfl ⟨rfl, rfl, rfl⟩
  refine J_swIn (v := 13) 226 dX7_tell_1 (by decide) (by decide) rfl rfl ?_ (fun w18 => ?_)
  · refine J_ald0 dX7_tell_226 ?_
    refine J_getr (q := (o + 1)) fl_RX7_11 dX7_tell_227 ho rfl (rf_7_3 ho) ?_
    refine J_ald0 dX7_tell_230 ?_
    refine J_geti fl_RX7_31 dX7_tell_231 ho rfl ?_
    refine J_ild1 dX7_tell_234 ?_
    refine J_bipush (v := 10) dX7_tell_235 rfl ?_
    refine J_isub dX7_tell_237 ?_
    refine J_cSP (jX10_tellOf l cx n (o + 1) (kf_7_3 ho) (M o 2) (a - (10 : Int32)) M) ck_RX7_75 dX7_tell_238 rfl ⟨rfl, rfl, by decide, by decide⟩ ⟨Nat.zero_le _, Nat.zero_le _, Nat.le_of_ble_eq_true rfl⟩ (fun r17 => ?_)
    exact J_iret dX7_tell_241 rfl ⟨rfl, rfl, rfl⟩
  refine J_swIn (v := 14) 290 dX7_tell_1 (by decide) (by decide) rfl rfl ?_ (fun w19 => ?_)
  · refine J_iconst (v := -1) dX7_tell_290 rfl ?_
    exact J_iret dX7_tell_291 rfl ⟨rfl, rfl, rfl⟩
  refine J_swIn (v := 15) 290 dX7_tell_1 (by decide) (by decide) rfl rfl ?_ (fun w20 => ?_)
  · refine J_iconst (v := -1) dX7_tell_290 rfl ?_
    exact J_iret dX7_tell_291 rfl ⟨rfl, rfl, rfl⟩
  refine J_swIn (v := 16) 290 dX7_tell_1 (by decide) (by decide) rfl rfl ?_ (fun w21 => ?_)
  · refine J_iconst (v := -1) dX7_tell_290 rfl ?_
    exact J_iret dX7_tell_291 rfl ⟨rfl, rfl, rfl⟩
  refine J_swIn (v := 17) 290 dX7_tell_1 (by decide) (by decide) rfl rfl ?_ (fun w22 => ?_)
  · refine J_iconst (v := -1) dX7_tell_290 rfl ?_
    exact J_iret dX7_tell_291 rfl ⟨rfl, rfl, rfl⟩
  refine J_swIn (v := 18) 290 dX7_tell_1 (by decide) (by decide) rfl rfl ?_ (fun w23 => ?_)
  · refine J_iconst (v := -1) dX7_tell_290 rfl ?_
    exact J_iret dX7_tell_291 rfl ⟨rfl, rfl, rfl⟩
  refine J_swIn (v := 19) 290 dX7_tell_1 (by decide) (by decide) rfl rfl ?_ (fun w24 => ?_)
  · refine J_iconst (v := -1) dX7_tell_290 rfl ?_
    exact J_iret dX7_tell_291 rfl ⟨rfl, rfl, rfl⟩
  refine J_swIn (v := 20) 242 dX7_tell_1 (by decide) (by decide) rfl rfl ?_ (fun w26 => ?_)
  · refine J_ald0 dX7_tell_242 ?_
    refine J_getr (q := (o + 2)) fl_RX7_15 dX7_tell_243 ho rfl (rf_7_4 ho) ?_
    refine J_ald0 dX7_tell_246 ?_
    refine J_geti fl_RX7_31 dX7_tell_247 ho rfl ?_
    refine J_ild1 dX7_tell_250 ?_
    refine J_bipush (v := 20) dX7_tell_251 rfl ?_
    refine J_isub dX7_tell_253 ?_
    refine J_cSP (jX10_tellOf l cx n (o + 2) (kf_7_4 ho) (M o 2) (a - (20 : Int32)) M) ck_RX7_75 dX7_tell_254 rfl ⟨rfl, rfl, by decide, by decide⟩ ⟨Nat.zero_le _, Nat.zero_le _, Nat.le_of_ble_eq_true rfl⟩ (fun r25 => ?_)
    exact J_iret dX7_tell_257 rfl ⟨rfl, rfl, rfl⟩
  refine J_swIn (v := 21) 242 dX7_tell_1 (by decide) (by decide) rfl rfl ?_ (fun w28 => ?_)
  · refine J_ald0 dX7_tell_242 ?_
    refine J_getr (q := (o + 2)) fl_RX7_15 dX7_tell_243 ho rfl (rf_7_4 ho) ?_
    refine J_ald0 dX7_tell_246 ?_
    refine J_geti fl_RX7_31 dX7_tell_247 ho rfl ?_
    refine J_ild1 dX7_tell_250 ?_
    refine J_bipush (v := 20) dX7_tell_251 rfl ?_
    refine J_isub dX7_tell_253 ?_
    refine J_cSP (jX10_tellOf l cx n (o + 2) (kf_7_4 ho) (M o 2) (a - (20 : Int32)) M) ck_RX7_75 dX7_tell_254 rfl ⟨rfl, rfl, by decide, by decide⟩ ⟨Nat.zero_le _, Nat.zero_le _, Nat.le_of_ble_eq_true rfl⟩ (fun r27 => ?_)
    exact J_iret dX7_tell_257 rfl ⟨rfl, rfl, rfl⟩
  refine J_swIn (v := 22) 242 dX7_tell_1 (by decide) (by decide) rfl rfl ?_ (fun w30 => ?_)
  · refine J_ald0 dX7_tell_242 ?_
    refine J_getr (q := (o + 2)) fl_RX7_15 dX7_tell_243 ho rfl (rf_7_4 ho) ?_
    refine J_ald0 dX7_tell_246 ?_
    refine J_geti fl_RX7_31 dX7_tell_247 ho rfl ?_
    refine J_ild1 dX7_tell_250 ?_
    refine J_bipush (v := 20) dX7_tell_251 rfl ?_
    refine J_isub dX7_tell_253 ?_
    refine J_cSP (jX10_tellOf l cx n (o + 2) (kf_7_4 ho) (M o 2) (a - (20 : Int32)) M) ck_RX7_75 dX7_tell_254 rfl ⟨rfl, rfl, by decide, by decide⟩ ⟨Nat.zero_le _, Nat.zero_le _, Nat.le_of_ble_eq_true rfl⟩ (fun r29 => ?_)
    exact J_iret dX7_tell_257 rfl ⟨rfl, rfl, rfl⟩
  refine J_swIn (v := 23) 242 dX7_tell_1 (by decide) (by decide) rfl rfl ?_ (fun w32 => ?_)
  · refine J_ald0 dX7_tell_242 ?_
    refine J_getr (q := (o + 2)) fl_RX7_15 dX7_tell_243 ho rfl (rf_7_4 ho) ?_
    refine J_ald0 dX7_tell_246 ?_
    refine J_geti fl_RX7_31 dX7_tell_247 ho rfl ?_
    refine J_ild1 dX7_tell_250 ?_
    refine J_bipush (v := 20) dX7_tell_251 rfl ?_
    refine J_isub dX7_tell_253 ?_
    refine J_cSP (jX10_tellOf l cx n (o + 2) (kf_7_4 ho) (M o 2) (a - (20 : Int32)) M) ck_RX7_75 dX7_tell_254 rfl ⟨rfl, rfl, by decide, by decide⟩ ⟨Nat.zero_le _, Nat.zero_le _, Nat.le_of_ble_eq_true rfl⟩ (fun r31 => ?_)
    exact J_iret dX7_tell_257 rfl ⟨rfl, rfl, rfl⟩
  refine J_swIn (v := 24) 290 dX7_tell_1 (by decide) (by decide) rfl rfl ?_ (fun w33 => ?_)
  · refine J_iconst (v := -1) dX7_tell_290 rfl ?_
    exact J_iret dX7_tell_291 rfl ⟨rfl, rfl, rfl⟩
  refine J_swIn (v := 25) 290 dX7_tell_1 (by decide) (by decide) rfl rfl ?_ (fun w34 => ?_)
  · refine J_iconst (v := -1) dX7_tell_290 rfl ?_
    exact J_iret dX7_tell_291 rfl ⟨rfl, rfl, rfl⟩
  refine J_swIn (v := 26) 290 dX7_tell_1 (by decide) (by decide) rfl rfl ?_ (fun w35 => ?_)
  · refine J_iconst (v := -1) dX7_tell_290 rfl ?_
    exact J_iret dX7_tell_291 rfl ⟨rfl, rfl, rfl⟩
  refine J_swIn (v := 27) 290 dX7_tell_1 (by decide) (by decide) rfl rfl ?_ (fun w36 => ?_)
  · refine J_iconst (v := -1) dX7_tell_290 rfl ?_
    exact J_iret dX7_tell_291 rfl ⟨rfl, rfl, rfl⟩
  refine J_swIn (v := 28) 290 dX7_tell_1 (by decide) (by decide) rfl rfl ?_ (fun w37 => ?_)
  · refine J_iconst (v := -1) dX7_tell_290 rfl ?_
    exact J_iret dX7_tell_291 rfl ⟨rfl, rfl, rfl⟩
  refine J_swIn (v := 29) 290 dX7_tell_1 (by decide) (by decide) rfl rfl ?_ (fun w38 => ?_)
  · refine J_iconst (v := -1) dX7_tell_290 rfl ?_
    exact J_iret dX7_tell_291 rfl ⟨rfl, rfl, rfl⟩
  refine J_swIn (v := 30) 258 dX7_tell_1 (by decide) (by decide) rfl rfl ?_ (fun w40 => ?_)
  · refine J_ald0 dX7_tell_258 ?_
    refine J_getr (q := (o + 3)) fl_RX7_18 dX7_tell_259 ho rfl (rf_7_9 ho) ?_
    refine J_ald0 dX7_tell_262 ?_
    refine J_geti fl_RX7_44 dX7_tell_263 ho rfl ?_
    refine J_ild1 dX7_tell_266 ?_
    refine J_bipush (v := 30) dX7_tell_267 rfl ?_
    refine J_isub dX7_tell_269 ?_
    refine J_cSP (jX10_tellOf l cx n (o + 3) (kf_7_9 ho) (M o 8) (a - (30 : Int32)) M) ck_RX7_75 dX7_tell_270 rfl ⟨rfl, rfl, by decide, by decide⟩ ⟨Nat.zero_le _, Nat.zero_le _, Nat.le_of_ble_eq_true rfl⟩ (fun r39 => ?_)
    exact J_iret dX7_tell_273 rfl ⟨rfl, rfl, rfl⟩
  refine J_swIn (v := 31) 258 dX7_tell_1 (by decide) (by decide) rfl rfl ?_ (fun w42 => ?_)
  · refine J_ald0 dX7_tell_258 ?_
    refine J_getr (q := (o + 3)) fl_RX7_18 dX7_tell_259 ho rfl (rf_7_9 ho) ?_
    refine J_ald0 dX7_tell_262 ?_
    refine J_geti fl_RX7_44 dX7_tell_263 ho rfl ?_
    refine J_ild1 dX7_tell_266 ?_
    refine J_bipush (v := 30) dX7_tell_267 rfl ?_
    refine J_isub dX7_tell_269 ?_
    refine J_cSP (jX10_tellOf l cx n (o + 3) (kf_7_9 ho) (M o 8) (a - (30 : Int32)) M) ck_RX7_75 dX7_tell_270 rfl ⟨rfl, rfl, by decide, by decide⟩ ⟨Nat.zero_le _, Nat.zero_le _, Nat.le_of_ble_eq_true rfl⟩ (fun r41 => ?_)
    exact J_iret dX7_tell_273 rfl ⟨rfl, rfl, rfl⟩
  refine J_swIn (v := 32) 258 dX7_tell_1 (by decide) (by decide) rfl rfl ?_ (fun w44 => ?_)
  · refine J_ald0 dX7_tell_258 ?_
    refine J_getr (q := (o + 3)) fl_RX7_18 dX7_tell_259 ho rfl (rf_7_9 ho) ?_
    refine J_ald0 dX7_tell_262 ?_
    refine J_geti fl_RX7_44 dX7_tell_263 ho rfl ?_
    refine J_ild1 dX7_tell_266 ?_
    refine J_bipush (v := 30) dX7_tell_267 rfl ?_
    refine J_isub dX7_tell_269 ?_
    refine J_cSP (jX10_tellOf l cx n (o + 3) (kf_7_9 ho) (M o 8) (a - (30 : Int32)) M) ck_RX7_75 dX7_tell_270 rfl ⟨rfl, rfl, by decide, by decide⟩ ⟨Nat.zero_le _, Nat.zero_le _, Nat.le_of_ble_eq_true rfl⟩ (fun r43 => ?_)
    exact J_iret dX7_tell_273 rfl ⟨rfl, rfl, rfl⟩
  refine J_swIn (v := 33) 290 dX7_tell_1 (by decide) (by decide) rfl rfl ?_ (fun w45 => ?_)
  · refine J_iconst (v := -1) dX7_tell_290 rfl ?_
    exact J_iret dX7_tell_291 rfl ⟨rfl, rfl, rfl⟩
  refine J_swIn (v := 34) 290 dX7_tell_1 (by decide) (by decide) rfl rfl ?_ (fun w46 => ?_)
  · refine J_iconst (v := -1) dX7_tell_290 rfl ?_
    exact J_iret dX7_tell_291 rfl ⟨rfl, rfl, rfl⟩
  refine J_swIn (v := 35) 290 dX7_tell_1 (by decide) (by decide) rfl rfl ?_ (fun w47 => ?_)
  · refine J_iconst (v := -1) dX7_tell_290 rfl ?_
    exact J_iret dX7_tell_291 rfl ⟨rfl, rfl, rfl⟩
  refine J_swIn (v := 36) 290 dX7_tell_1 (by decide) (by decide) rfl rfl ?_ (fun w48 => ?_)
  · refine J_iconst (v := -1) dX7_tell_290 rfl ?_
    exact J_iret dX7_tell_291 rfl ⟨rfl, rfl, rfl⟩
  refine J_swIn (v := 37) 290 dX7_tell_1 (by decide) (by decide) rfl rfl ?_ (fun w49 => ?_)
  · refine J_iconst (v := -1) dX7_tell_290 rfl ?_
    exact J_iret dX7_tell_291 rfl ⟨rfl, rfl, rfl⟩
  refine J_swIn (v := 38) 290 dX7_tell_1 (by decide) (by decide) rfl rfl ?_ (fun w50 => ?_)
  · refine J_iconst (v := -1) dX7_tell_290 rfl ?_
    exact J_iret dX7_tell_291 rfl ⟨rfl, rfl, rfl⟩
  refine J_swIn (v := 39) 290 dX7_tell_1 (by decide) (by decide) rfl rfl ?_ (fun w51 => ?_)
  · refine J_iconst (v := -1) dX7_tell_290 rfl ?_
    exact J_iret dX7_tell_291 rfl ⟨rfl, rfl, rfl⟩
  refine J_swIn (v := 40) 274 dX7_tell_1 (by decide) (by decide) rfl rfl ?_ (fun w53 => ?_)
  · refine J_ald0 dX7_tell_274 ?_
    refine J_getr (q := (o + 4)) fl_RX7_21 dX7_tell_275 ho rfl (rf_7_10 ho) ?_
    refine J_ald0 dX7_tell_278 ?_
    refine J_geti fl_RX7_44 dX7_tell_279 ho rfl ?_
    refine J_ild1 dX7_tell_282 ?_
    refine J_bipush (v := 40) dX7_tell_283 rfl ?_
    refine J_isub dX7_tell_285 ?_
    refine J_cSP (jX10_tellOf l cx n (o + 4) (kf_7_10 ho) (M o 8) (a - (40 : Int32)) M) ck_RX7_75 dX7_tell_286 rfl ⟨rfl, rfl, by decide, by decide⟩ ⟨Nat.zero_le _, Nat.zero_le _, Nat.le_of_ble_eq_true rfl⟩ (fun r52 => ?_)
    exact J_iret dX7_tell_289 rfl ⟨rfl, rfl, rfl⟩
  refine J_swIn (v := 41) 274 dX7_tell_1 (by decide) (by decide) rfl rfl ?_ (fun w55 => ?_)
  · refine J_ald0 dX7_tell_274 ?_
    refine J_getr (q := (o + 4)) fl_RX7_21 dX7_tell_275 ho rfl (rf_7_10 ho) ?_
    refine J_ald0 dX7_tell_278 ?_
    refine J_geti fl_RX7_44 dX7_tell_279 ho rfl ?_
    refine J_ild1 dX7_tell_282 ?_
    refine J_bipush (v := 40) dX7_tell_283 rfl ?_
    refine J_isub dX7_tell_285 ?_
    refine J_cSP (jX10_tellOf l cx n (o + 4) (kf_7_10 ho) (M o 8) (a - (40 : Int32)) M) ck_RX7_75 dX7_tell_286 rfl ⟨rfl, rfl, by decide, by decide⟩ ⟨Nat.zero_le _, Nat.zero_le _, Nat.le_of_ble_eq_true rfl⟩ (fun r54 => ?_)
    exact J_iret dX7_tell_289 rfl ⟨rfl, rfl, rfl⟩
  refine J_swIn (v := 42) 274 dX7_tell_1 (by decide) (by decide) rfl rfl ?_ (fun w57 => ?_)
  · refine J_ald0 dX7_tell_274 ?_
    refine J_getr (q := (o + 4)) fl_RX7_21 dX7_tell_275 ho rfl (rf_7_10 ho) ?_
    refine J_ald0 dX7_tell_278 ?_
    refine J_geti fl_RX7_44 dX7_tell_279 ho rfl ?_
    refine J_ild1 dX7_tell_282 ?_
    refine J_bipush (v := 40) dX7_tell_283 rfl ?_
    refine J_isub dX7_tell_285 ?_
    refine J_cSP (jX10_tellOf l cx n (o + 4) (kf_7_10 ho) (M o 8) (a - (40 : Int32)) M) ck_RX7_75 dX7_tell_286 rfl ⟨rfl, rfl, by decide, by decide⟩ ⟨Nat.zero_le _, Nat.zero_le _, Nat.le_of_ble_eq_true rfl⟩ (fun r56 => ?_)
    exact J_iret dX7_tell_289 rfl ⟨rfl, rfl, rfl⟩
  refine J_swOut 290 dX7_tell_1 (sw_out 43 rfl (fun k hk => sw_c43 (P := fun k => ¬ a = Int32.ofInt (0 + (k : Int))) hk w1 w2 w3 w4 w5 w6 w7 w8 w9 w10 w12 w14 w16 w18 w19 w20 w21 w22 w23 w24 w26 w28 w30 w32 w33 w34 w35 w36 w37 w38 w40 w42 w44 w45 w46 w47 w48 w49 w50 w51 w53 w55 w57)) rfl ?_
  refine J_iconst (v := -1) dX7_tell_290 rfl ?_
  exact J_iret dX7_tell_291 rfl ⟨rfl, rfl, rfl⟩
set_option maxRecDepth 100000 in
theorem jX9_cheapestPlan_c7 {l : Launch} {cx : CX} {n : Nat} {M : Mem} : ∀ (f : Nat) {v0 : Nat} {v1 : Int32} {v2 : Int32} {v3 : Int32} {v4 : Int32} (h0 : IsK GS 0 207 v0 9), JO l cx ({ frames := 3, cells := 0, slots := 0, locals := 70 } : Room) yX9_cheapestPlan cX9_cheapestPlan 6 (some .int) 0 0 false 0 207 (EP M) GS 0 0 7 [some (.ref v0), some (.int v1), some (.int v2), some (.int v3), some (.int v4), none] [] M (mX9_cheapestPlan_c7 n f v0 v1 v2 v3 v4 M) := by
  intro f
  induction f with
  | zero =>
    intros
    exact J_none
  | succ f ih =>
    intro v0 v1 v2 v3 v4 h0
    unfold mX9_cheapestPlan_c7
    refine J_ild4 dX9_cheapestPlan_7 ?_
    refine J_bipush (v := 6) dX9_cheapestPlan_9 rfl ?_
    refine J_ic_ge 61 dX9_cheapestPlan_11 rfl ?_ ?_
    · refine J_ild2 dX9_cheapestPlan_61 ?_
      exact J_iret dX9_cheapestPlan_62 rfl ⟨rfl, rfl, rfl⟩
    · refine J_ald0 dX9_cheapestPlan_14 ?_
      refine J_getr (q := (v0 + 1)) fl_RX9_11 dX9_cheapestPlan_15 h0 rfl (rf_9_0 h0) ?_
      refine J_ild4 dX9_cheapestPlan_18 ?_
      refine J_aald (q := ((v0 + 1) + 3 + 5 * Int32.toNatClampNeg v4)) dX9_cheapestPlan_20 (kf_9_0 h0) (Or.inr rfl) (ln_9_0 h0) (fun g1 => (aal_16 (kf_9_0 h0) g1).1) (fun g1 => ?_)
      refine J_geti fl_RX9_76 dX9_cheapestPlan_21 (aal_16 (kf_9_0 h0) g1).2 rfl ?_
      refine J_ald0 dX9_cheapestPlan_24 ?_
      refine J_getr (q := (v0 + 1)) fl_RX9_11 dX9_cheapestPlan_25 h0 rfl (rf_9_0 h0) ?_
      refine J_ild4 dX9_cheapestPlan_28 ?_
      refine J_aald (q := ((v0 + 1) + 3 + 5 * Int32.toNatClampNeg v4)) dX9_cheapestPlan_30 (kf_9_0 h0) (Or.inr rfl) (ln_9_0 h0) (fun g2 => (aal_16 (kf_9_0 h0) g2).1) (fun g2 => ?_)
      refine J_ild1 dX9_cheapestPlan_31 ?_
      refine J_cVP (jX7_usageOf l cx n ((v0 + 1) + 3 + 5 * Int32.toNatClampNeg v4) (aal_16 (kf_9_0 h0) g2).2 v1 M) ck_RX9_79 dX9_cheapestPlan_32 rfl (aal_16 (kf_9_0 h0) g2).2 ⟨rfl, rfl, by decide, by decide⟩ ⟨Nat.zero_le _, Nat.zero_le _, Nat.le_of_ble_eq_true rfl⟩ (fun r3 => ?_)
      refine J_iadd dX9_cheapestPlan_35 ?_
      refine J_ist5 dX9_cheapestPlan_36 (by decide) rfl ?_
      refine J_ild4 dX9_cheapestPlan_38 ?_
      refine J_if_eq 49 dX9_cheapestPlan_40 rfl ?_ ?_
      · refine J_ild4 dX9_cheapestPlan_49 ?_
        refine J_ist2 dX9_cheapestPlan_51 (by decide) rfl ?_
        refine J_ild5 dX9_cheapestPlan_52 ?_
        refine J_ist3 dX9_cheapestPlan_54 (by decide) rfl ?_
        refine J_iinc4 (w := (v4 + (1 : Int32))) dX9_cheapestPlan_55 (by decide) rfl rfl ?_
        refine J_goto 7 dX9_cheapestPlan_58 rfl ?_
        exact J_wk (wk_s (wk_s (wk_s (wk_s (wk_s (wk_n wk_0)))))) (ih h0)
      · refine J_ild5 dX9_cheapestPlan_43 ?_
        refine J_ild3 dX9_cheapestPlan_45 ?_
        refine J_ic_ge 55 dX9_cheapestPlan_46 rfl ?_ ?_
        · refine J_iinc4 (w := (v4 + (1 : Int32))) dX9_cheapestPlan_55 (by decide) rfl rfl ?_
          refine J_goto 7 dX9_cheapestPlan_58 rfl ?_
          exact J_wk (wk_s (wk_s (wk_s (wk_s (wk_s (wk_n wk_0)))))) (ih h0)
        · refine J_ild4 dX9_cheapestPlan_49 ?_
          refine J_ist2 dX9_cheapestPlan_51 (by decide) rfl ?_
          refine J_ild5 dX9_cheapestPlan_52 ?_
          refine J_ist3 dX9_cheapestPlan_54 (by decide) rfl ?_
          refine J_iinc4 (w := (v4 + (1 : Int32))) dX9_cheapestPlan_55 (by decide) rfl rfl ?_
          refine J_goto 7 dX9_cheapestPlan_58 rfl ?_
          exact J_wk (wk_s (wk_s (wk_s (wk_s (wk_s (wk_n wk_0)))))) (ih h0)
set_option maxRecDepth 100000 in
theorem jX9_cheapestPlan (l : Launch) (cx : CX) (n : Nat) (o : Nat) (ho : IsK GS 0 207 o 9) (a : Int32) (M : Mem) : Con l cx ({ frames := 3, cells := 0, slots := 0, locals := 70 } : Room) yX9_cheapestPlan cX9_cheapestPlan 6 (some .int) 0 0 false 0 207 (EP M) GS [.ref o, .int a] M (mX9_cheapestPlan n o a M) := by
  unfold mX9_cheapestPlan
  refine Con.of (ls := [some (.ref o), some (.int a), none, none, none, none]) (by decide) rfl (Nat.le_of_ble_eq_true rfl) ?_
  refine J_iconst (v := 0) dX9_cheapestPlan_0 rfl ?_
  refine J_ist2 dX9_cheapestPlan_1 (by decide) rfl ?_
  refine J_iconst (v := 0) dX9_cheapestPlan_2 rfl ?_
  refine J_ist3 dX9_cheapestPlan_3 (by decide) rfl ?_
  refine J_iconst (v := 0) dX9_cheapestPlan_4 rfl ?_
  refine J_ist4 dX9_cheapestPlan_5 (by decide) rfl ?_
  exact J_wk (wk_s (wk_s (wk_s (wk_s (wk_s (wk_n wk_0)))))) (jX9_cheapestPlan_c7 (n := n) n ho)
set_option maxRecDepth 100000 in
theorem jX9_tell (l : Launch) (cx : CX) (n : Nat) (o : Nat) (ho : IsK GS 0 207 o 9) (a : Int32) (M : Mem) : Con l cx ({ frames := 1, cells := 0, slots := 0, locals := 22 } : Room) yX9_tell cX9_tell 2 (some .int) 0 0 false 0 207 (EP M) GS [.ref o, .int a] M (mX9_tell o a M) := by
  unfold mX9_tell
  refine Con.of (ls := [some (.ref o), some (.int a)]) (by decide) rfl (Nat.le_of_ble_eq_true rfl) ?_
  refine J_ild1 dX9_tell_0 ?_
  refine J_swIn (v := 0) 112 dX9_tell_1 (by decide) (by decide) rfl rfl ?_ (fun w1 => ?_)
  · refine J_ald0 dX9_tell_112 ?_
    refine J_geti fl_RX9_28 dX9_tell_113 ho rfl ?_
    exact J_iret dX9_tell_116 rfl ⟨rfl, rfl, rfl⟩
  refine J_swIn (v := 1) 117 dX9_tell_1 (by decide) (by decide) rfl rfl ?_ (fun w2 => ?_)
  · refine J_ald0 dX9_tell_117 ?_
    refine J_geti fl_RX9_32 dX9_tell_118 ho rfl ?_
    exact J_iret dX9_tell_121 rfl ⟨rfl, rfl, rfl⟩
  refine J_swIn (v := 2) 159 dX9_tell_1 (by decide) (by decide) rfl rfl ?_ (fun w3 => ?_)
  · refine J_iconst (v := -1) dX9_tell_159 rfl ?_
    exact J_iret dX9_tell_160 rfl ⟨rfl, rfl, rfl⟩
  refine J_swIn (v := 3) 159 dX9_tell_1 (by decide) (by decide) rfl rfl ?_ (fun w4 => ?_)
  · refine J_iconst (v := -1) dX9_tell_159 rfl ?_
    exact J_iret dX9_tell_160 rfl ⟨rfl, rfl, rfl⟩
  refine J_swIn (v := 4) 159 dX9_tell_1 (by decide) (by decide) rfl rfl ?_ (fun w5 => ?_)
  · refine J_iconst (v := -1) dX9_tell_159 rfl ?_
    exact J_iret dX9_tell_160 rfl ⟨rfl, rfl, rfl⟩
  refine J_swIn (v := 5) 159 dX9_tell_1 (by decide) (by decide) rfl rfl ?_ (fun w6 => ?_)
  · refine J_iconst (v := -1) dX9_tell_159 rfl ?_
    exact J_iret dX9_tell_160 rfl ⟨rfl, rfl, rfl⟩
  refine J_swIn (v := 6) 159 dX9_tell_1 (by decide) (by decide) rfl rfl ?_ (fun w7 => ?_)
  · refine J_iconst (v := -1) dX9_tell_159 rfl ?_
    exact J_iret dX9_tell_160 rfl ⟨rfl, rfl, rfl⟩
  refine J_swIn (v := 7) 122 dX9_tell_1 (by decide) (by decide) rfl rfl ?_ (fun w8 => ?_)
  · refine J_ald0 dX9_tell_122 ?_
    refine J_geti fl_RX9_35 dX9_tell_123 ho rfl ?_
    exact J_iret dX9_tell_126 rfl ⟨rfl, rfl, rfl⟩
  refine J_swIn (v := 8) 159 dX9_tell_1 (by decide) (by decide) rfl rfl ?_ (fun w9 => ?_)
  · refine J_iconst (v := -1) dX9_tell_159 rfl ?_
    exact J_iret dX9_tell_160 rfl ⟨rfl, rfl, rfl⟩
  refine J_swIn (v := 9) 159 dX9_tell_1 (by decide) (by decide) rfl rfl ?_ (fun w10 => ?_)
  · refine J_iconst (v := -1) dX9_tell_159 rfl ?_
    exact J_iret dX9_tell_160 rfl ⟨rfl, rfl, rfl⟩
  refine J_swIn (v := 10) 127 dX9_tell_1 (by decide) (by decide) rfl rfl ?_ (fun w12 => ?_)
  · refine J_ald0 dX9_tell_127 ?_
    refine J_getr (q := (o + 2)) fl_RX9_17 dX9_tell_128 ho rfl (rf_9_5 ho) ?_
    refine J_ald0 dX9_tell_131 ?_
    refine J_geti fl_RX9_38 dX9_tell_132 ho rfl ?_
    refine J_ild1 dX9_tell_135 ?_
    refine J_bipush (v := 10) dX9_tell_136 rfl ?_
    refine J_isub dX9_tell_138 ?_
    refine J_cSP (jX10_tellOf l cx n (o + 2) (kf_9_5 ho) (M o 4) (a - (10 : Int32)) M) ck_RX9_82 dX9_tell_139 rfl ⟨rfl, rfl, by decide, by decide⟩ ⟨Nat.zero_le _, Nat.zero_le _, Nat.le_of_ble_eq_true rfl⟩ (fun r11 => ?_)
    exact J_iret dX9_tell_142 rfl ⟨rfl, rfl, rfl⟩
  refine J_swIn (v := 11) 127 dX9_tell_1 (by decide) (by decide) rfl rfl ?_ (fun w14 => ?_)
  · refine J_ald0 dX9_tell_127 ?_
    refine J_getr (q := (o + 2)) fl_RX9_17 dX9_tell_128 ho rfl (rf_9_5 ho) ?_
    refine J_ald0 dX9_tell_131 ?_
    refine J_geti fl_RX9_38 dX9_tell_132 ho rfl ?_
    refine J_ild1 dX9_tell_135 ?_
    refine J_bipush (v := 10) dX9_tell_136 rfl ?_
    refine J_isub dX9_tell_138 ?_
    refine J_cSP (jX10_tellOf l cx n (o + 2) (kf_9_5 ho) (M o 4) (a - (10 : Int32)) M) ck_RX9_82 dX9_tell_139 rfl ⟨rfl, rfl, by decide, by decide⟩ ⟨Nat.zero_le _, Nat.zero_le _, Nat.le_of_ble_eq_true rfl⟩ (fun r13 => ?_)
    exact J_iret dX9_tell_142 rfl ⟨rfl, rfl, rfl⟩
  refine J_swIn (v := 12) 127 dX9_tell_1 (by decide) (by decide) rfl rfl ?_ (fun w16 => ?_)
  · refine J_ald0 dX9_tell_127 ?_
    refine J_getr (q := (o + 2)) fl_RX9_17 dX9_tell_128 ho rfl (rf_9_5 ho) ?_
    refine J_ald0 dX9_tell_131 ?_
    refine J_geti fl_RX9_38 dX9_tell_132 ho rfl ?_
    refine J_ild1 dX9_tell_135 ?_
    refine J_bipush (v := 10) dX9_tell_136 rfl ?_
    refine J_isub dX9_tell_138 ?_
    refine J_cSP (jX10_tellOf l cx n (o + 2) (kf_9_5 ho) (M o 4) (a - (10 : Int32)) M) ck_RX9_82 dX9_tell_139 rfl ⟨rfl, rfl, by decide, by decide⟩ ⟨Nat.zero_le _, Nat.zero_le _, Nat.le_of_ble_eq_true rfl⟩ (fun r15 => ?_)
    exact J_iret dX9_tell_142 rfl ⟨rfl, rfl, rfl⟩
  refine J_swIn (v := 13) 127 dX9_tell_1 (by decide) (by decide) rfl rfl ?_ (fun w18 => ?_)
  · refine J_ald0 dX9_tell_127 ?_
    refine J_getr (q := (o + 2)) fl_RX9_17 dX9_tell_128 ho rfl (rf_9_5 ho) ?_
    refine J_ald0 dX9_tell_131 ?_
    refine J_geti fl_RX9_38 dX9_tell_132 ho rfl ?_
    refine J_ild1 dX9_tell_135 ?_
    refine J_bipush (v := 10) dX9_tell_136 rfl ?_
    refine J_isub dX9_tell_138 ?_
    refine J_cSP (jX10_tellOf l cx n (o + 2) (kf_9_5 ho) (M o 4) (a - (10 : Int32)) M) ck_RX9_82 dX9_tell_139 rfl ⟨rfl, rfl, by decide, by decide⟩ ⟨Nat.zero_le _, Nat.zero_le _, Nat.le_of_ble_eq_true rfl⟩ (fun r17 => ?_)
    exact J_iret dX9_tell_142 rfl ⟨rfl, rfl, rfl⟩
  refine J_swIn (v := 14) 159 dX9_tell_1 (by decide) (by decide) rfl rfl ?_ (fun w19 => ?_)
  · refine J_iconst (v := -1) dX9_tell_159 rfl ?_
    exact J_iret dX9_tell_160 rfl ⟨rfl, rfl, rfl⟩
  refine J_swIn (v := 15) 159 dX9_tell_1 (by decide) (by decide) rfl rfl ?_ (fun w20 => ?_)
  · refine J_iconst (v := -1) dX9_tell_159 rfl ?_
    exact J_iret dX9_tell_160 rfl ⟨rfl, rfl, rfl⟩
  refine J_swIn (v := 16) 159 dX9_tell_1 (by decide) (by decide) rfl rfl ?_ (fun w21 => ?_)
  · refine J_iconst (v := -1) dX9_tell_159 rfl ?_
    exact J_iret dX9_tell_160 rfl ⟨rfl, rfl, rfl⟩
  refine J_swIn (v := 17) 159 dX9_tell_1 (by decide) (by decide) rfl rfl ?_ (fun w22 => ?_)
  · refine J_iconst (v := -1) dX9_tell_159 rfl ?_
    exact J_iret dX9_tell_160 rfl ⟨rfl, rfl, rfl⟩
  refine J_swIn (v := 18) 159 dX9_tell_1 (by decide) (by decide) rfl rfl ?_ (fun w23 => ?_)
  · refine J_iconst (v := -1) dX9_tell_159 rfl ?_
    exact J_iret dX9_tell_160 rfl ⟨rfl, rfl, rfl⟩
  refine J_swIn (v := 19) 159 dX9_tell_1 (by decide) (by decide) rfl rfl ?_ (fun w24 => ?_)
  · refine J_iconst (v := -1) dX9_tell_159 rfl ?_
    exact J_iret dX9_tell_160 rfl ⟨rfl, rfl, rfl⟩
  refine J_swIn (v := 20) 143 dX9_tell_1 (by decide) (by decide) rfl rfl ?_ (fun w26 => ?_)
  · refine J_ald0 dX9_tell_143 ?_
    refine J_getr (q := (o + 3)) fl_RX9_21 dX9_tell_144 ho rfl (rf_9_6 ho) ?_
    refine J_ald0 dX9_tell_147 ?_
    refine J_geti fl_RX9_38 dX9_tell_148 ho rfl ?_
    refine J_ild1 dX9_tell_151 ?_
    refine J_bipush (v := 20) dX9_tell_152 rfl ?_
    refine J_isub dX9_tell_154 ?_
    refine J_cSP (jX10_tellOf l cx n (o + 3) (kf_9_6 ho) (M o 4) (a - (20 : Int32)) M) ck_RX9_82 dX9_tell_155 rfl ⟨rfl, rfl, by decide, by decide⟩ ⟨Nat.zero_le _, Nat.zero_le _, Nat.le_of_ble_eq_true rfl⟩ (fun r25 => ?_)
    exact J_iret dX9_tell_158 rfl ⟨rfl, rfl, rfl⟩
  refine J_swIn (v := 21) 143 dX9_tell_1 (by decide) (by decide) rfl rfl ?_ (fun w28 => ?_)
  · refine J_ald0 dX9_tell_143 ?_
    refine J_getr (q := (o + 3)) fl_RX9_21 dX9_tell_144 ho rfl (rf_9_6 ho) ?_
    refine J_ald0 dX9_tell_147 ?_
    refine J_geti fl_RX9_38 dX9_tell_148 ho rfl ?_
    refine J_ild1 dX9_tell_151 ?_
    refine J_bipush (v := 20) dX9_tell_152 rfl ?_
    refine J_isub dX9_tell_154 ?_
    refine J_cSP (jX10_tellOf l cx n (o + 3) (kf_9_6 ho) (M o 4) (a - (20 : Int32)) M) ck_RX9_82 dX9_tell_155 rfl ⟨rfl, rfl, by decide, by decide⟩ ⟨Nat.zero_le _, Nat.zero_le _, Nat.le_of_ble_eq_true rfl⟩ (fun r27 => ?_)
    exact J_iret dX9_tell_158 rfl ⟨rfl, rfl, rfl⟩
  refine J_swIn (v := 22) 143 dX9_tell_1 (by decide) (by decide) rfl rfl ?_ (fun w30 => ?_)
  · refine J_ald0 dX9_tell_143 ?_
    refine J_getr (q := (o + 3)) fl_RX9_21 dX9_tell_144 ho rfl (rf_9_6 ho) ?_
    refine J_ald0 dX9_tell_147 ?_
    refine J_geti fl_RX9_38 dX9_tell_148 ho rfl ?_
    refine J_ild1 dX9_tell_151 ?_
    refine J_bipush (v := 20) dX9_tell_152 rfl ?_
    refine J_isub dX9_tell_154 ?_
    refine J_cSP (jX10_tellOf l cx n (o + 3) (kf_9_6 ho) (M o 4) (a - (20 : Int32)) M) ck_RX9_82 dX9_tell_155 rfl ⟨rfl, rfl, by decide, by decide⟩ ⟨Nat.zero_le _, Nat.zero_le _, Nat.le_of_ble_eq_true rfl⟩ (fun r29 => ?_)
    exact J_iret dX9_tell_158 rfl ⟨rfl, rfl, rfl⟩
  refine J_swIn (v := 23) 143 dX9_tell_1 (by decide) (by decide) rfl rfl ?_ (fun w32 => ?_)
  · refine J_ald0 dX9_tell_143 ?_
    refine J_getr (q := (o + 3)) fl_RX9_21 dX9_tell_144 ho rfl (rf_9_6 ho) ?_
    refine J_ald0 dX9_tell_147 ?_
    refine J_geti fl_RX9_38 dX9_tell_148 ho rfl ?_
    refine J_ild1 dX9_tell_151 ?_
    refine J_bipush (v := 20) dX9_tell_152 rfl ?_
    refine J_isub dX9_tell_154 ?_
    refine J_cSP (jX10_tellOf l cx n (o + 3) (kf_9_6 ho) (M o 4) (a - (20 : Int32)) M) ck_RX9_82 dX9_tell_155 rfl ⟨rfl, rfl, by decide, by decide⟩ ⟨Nat.zero_le _, Nat.zero_le _, Nat.le_of_ble_eq_true rfl⟩ (fun r31 => ?_)
    exact J_iret dX9_tell_158 rfl ⟨rfl, rfl, rfl⟩
  refine J_swOut 159 dX9_tell_1 (sw_out 24 rfl (fun k hk => sw_c24 (P := fun k => ¬ a = Int32.ofInt (0 + (k : Int))) hk w1 w2 w3 w4 w5 w6 w7 w8 w9 w10 w12 w14 w16 w18 w19 w20 w21 w22 w23 w24 w26 w28 w30 w32)) rfl ?_
  refine J_iconst (v := -1) dX9_tell_159 rfl ?_
  exact J_iret dX9_tell_160 rfl ⟨rfl, rfl, rfl⟩
set_option maxRecDepth 100000 in
theorem jX10_putOnTape_c3 {l : Launch} {cx : CX} {n : Nat} : ∀ (f : Nat) {v1 : Int32} {v2 : Int32} {M : Mem}, JO l cx ({ frames := 0, cells := 0, slots := 0, locals := 0 } : Room) yX10_putOnTape cX10_putOnTape 3 none 0 0 false 0 207 EV GS 0 0 3 [some (.ref 0), some (.int v1), some (.int v2)] [] M (mX10_putOnTape_c3 n f v1 v2 M) := by
  intro f
  induction f with
  | zero =>
    intros
    exact J_none
  | succ f ih =>
    intro v1 v2 M
    unfold mX10_putOnTape_c3
    refine J_ild2 dX10_putOnTape_3 ?_
    refine J_if_lt 55 dX10_putOnTape_4 rfl ?_ ?_
    · exact J_vret dX10_putOnTape_55 rfl ⟨rfl, rfl, rfl⟩
    · refine J_ald0 dX10_putOnTape_7 ?_
      refine J_geti fl_RX10_58 dX10_putOnTape_8 kk_0 rfl ?_
      refine J_if_lt 49 dX10_putOnTape_11 rfl ?_ ?_
      · refine J_iinc2 (w := (v2 + (-8 : Int32))) dX10_putOnTape_49 (by decide) rfl rfl ?_
        refine J_goto 3 dX10_putOnTape_52 rfl ?_
        exact J_wk (wk_s (wk_s (wk_s wk_0))) (ih)
      · refine J_ald0 dX10_putOnTape_14 ?_
        refine J_geti fl_RX10_58 dX10_putOnTape_15 kk_0 rfl ?_
        refine J_ald0 dX10_putOnTape_18 ?_
        refine J_getr (q := 1) fl_RX10_9 dX10_putOnTape_19 kk_0 rfl (rf_10_0 kk_0) ?_
        refine J_alen (v := (400 : Int32)) dX10_putOnTape_22 kk_1 (Or.inr rfl) rfl rfl ?_
        refine J_ic_ge 49 dX10_putOnTape_23 rfl ?_ ?_
        · refine J_iinc2 (w := (v2 + (-8 : Int32))) dX10_putOnTape_49 (by decide) rfl rfl ?_
          refine J_goto 3 dX10_putOnTape_52 rfl ?_
          exact J_wk (wk_s (wk_s (wk_s wk_0))) (ih)
        · refine J_ald0 dX10_putOnTape_26 ?_
          refine J_getr (q := 1) fl_RX10_9 dX10_putOnTape_27 kk_0 rfl (rf_10_0 kk_0) ?_
          refine J_ald0 dX10_putOnTape_30 ?_
          refine J_geti fl_RX10_58 dX10_putOnTape_31 kk_0 rfl ?_
          refine J_ild1 dX10_putOnTape_34 ?_
          refine J_ild2 dX10_putOnTape_35 ?_
          refine J_ishr dX10_putOnTape_36 ?_
          refine J_i2b dX10_putOnTape_37 ?_
          refine J_bast dX10_putOnTape_38 kk_1 rfl ?_
          refine J_lt (fun M1 => ?_)
          refine J_ald0 dX10_putOnTape_39 ?_
          refine J_dup_r dX10_putOnTape_40 ?_
          refine J_geti fl_RX10_58 dX10_putOnTape_41 kk_0 rfl ?_
          refine J_iconst (v := 1) dX10_putOnTape_44 rfl ?_
          refine J_iadd dX10_putOnTape_45 ?_
          refine J_puti fl_RX10_58 dX10_putOnTape_46 kk_0 rfl (by decide) ?_
          refine J_iinc2 (w := (v2 + (-8 : Int32))) dX10_putOnTape_49 (by decide) rfl rfl ?_
          refine J_goto 3 dX10_putOnTape_52 rfl ?_
          exact J_wk (wk_s (wk_s (wk_s wk_0))) (ih)
set_option maxRecDepth 100000 in
theorem jX10_putOnTape (l : Launch) (cx : CX) (n : Nat) (a : Int32) (M : Mem) : Con l cx ({ frames := 0, cells := 0, slots := 0, locals := 0 } : Room) yX10_putOnTape cX10_putOnTape 3 none 0 0 false 0 207 EV GS [.ref 0, .int a] M (mX10_putOnTape n a M) := by
  unfold mX10_putOnTape
  refine Con.of (ls := [some (.ref 0), some (.int a), none]) (by decide) rfl (Nat.le_of_ble_eq_true rfl) ?_
  refine J_bipush (v := 24) dX10_putOnTape_0 rfl ?_
  refine J_ist2 dX10_putOnTape_2 (by decide) rfl ?_
  exact J_wk (wk_s (wk_s (wk_s wk_0))) (jX10_putOnTape_c3 (n := n) n)
set_option maxRecDepth 100000 in
theorem jX10_feed (l : Launch) (cx : CX) (n : Nat) (a : Int32) (b : Int32) (c : Int32) (d : Int32) (e0 : Int32) (M : Mem) : Con l cx ({ frames := 1, cells := 0, slots := 0, locals := 22 } : Room) yX10_feed cX10_feed 6 (some .int) 0 0 false 0 207 EI GS [.ref 0, .int a, .int b, .int c, .int d, .int e0] M (mX10_feed n a b c d e0 M) := by
  unfold mX10_feed
  refine Con.of (ls := [some (.ref 0), some (.int a), some (.int b), some (.int c), some (.int d), some (.int e0)]) (by decide) rfl (Nat.le_of_ble_eq_true rfl) ?_
  refine J_ald0 dX10_feed_0 ?_
  refine J_geti fl_RX10_58 dX10_feed_1 kk_0 rfl ?_
  refine J_bipush (v := 20) dX10_feed_4 rfl ?_
  refine J_iadd dX10_feed_6 ?_
  refine J_sipush (v := 400) dX10_feed_7 rfl ?_
  refine J_ic_le 15 dX10_feed_10 rfl ?_ ?_
  · refine J_ald0 dX10_feed_15 ?_
    refine J_ild1 dX10_feed_16 ?_
    refine J_cVV (jX10_putOnTape l cx n a M) ck_RX10_62 dX10_feed_17 rfl kk_0 ⟨rfl, rfl, by decide, by decide⟩ ⟨Nat.zero_le _, Nat.zero_le _, Nat.le_of_ble_eq_true rfl⟩ (fun M2 => ?_)
    refine J_ald0 dX10_feed_20 ?_
    refine J_ild2 dX10_feed_21 ?_
    refine J_cVV (jX10_putOnTape l cx n b M2) ck_RX10_62 dX10_feed_22 rfl kk_0 ⟨rfl, rfl, by decide, by decide⟩ ⟨Nat.zero_le _, Nat.zero_le _, Nat.le_of_ble_eq_true rfl⟩ (fun M4 => ?_)
    refine J_ald0 dX10_feed_25 ?_
    refine J_ild3 dX10_feed_26 ?_
    refine J_cVV (jX10_putOnTape l cx n c M4) ck_RX10_62 dX10_feed_27 rfl kk_0 ⟨rfl, rfl, by decide, by decide⟩ ⟨Nat.zero_le _, Nat.zero_le _, Nat.le_of_ble_eq_true rfl⟩ (fun M6 => ?_)
    refine J_ald0 dX10_feed_30 ?_
    refine J_ild4 dX10_feed_31 ?_
    refine J_cVV (jX10_putOnTape l cx n d M6) ck_RX10_62 dX10_feed_33 rfl kk_0 ⟨rfl, rfl, by decide, by decide⟩ ⟨Nat.zero_le _, Nat.zero_le _, Nat.le_of_ble_eq_true rfl⟩ (fun M8 => ?_)
    refine J_ald0 dX10_feed_36 ?_
    refine J_ild5 dX10_feed_37 ?_
    refine J_cVV (jX10_putOnTape l cx n e0 M8) ck_RX10_62 dX10_feed_39 rfl kk_0 ⟨rfl, rfl, by decide, by decide⟩ ⟨Nat.zero_le _, Nat.zero_le _, Nat.le_of_ble_eq_true rfl⟩ (fun M10 => ?_)
    refine J_ald0 dX10_feed_42 ?_
    refine J_geti fl_RX10_58 dX10_feed_43 kk_0 rfl ?_
    exact J_iret dX10_feed_46 rfl ⟨rfl, rfl, rfl⟩
  · refine J_iconst (v := -1) dX10_feed_13 rfl ?_
    exact J_iret dX10_feed_14 rfl ⟨rfl, rfl, rfl⟩
set_option maxRecDepth 100000 in
theorem jX10_hasText (l : Launch) (cx : CX) (n : Nat) (a : Int32) (M : Mem) : Con l cx ({ frames := 0, cells := 0, slots := 0, locals := 0 } : Room) yX10_hasText cX10_hasText 2 (some .boolean) 0 0 false 0 207 (EB M) GS [.ref 0, .int a] M (mX10_hasText a M) := by
  unfold mX10_hasText
  refine Con.of (ls := [some (.ref 0), some (.int a)]) (by decide) rfl (Nat.le_of_ble_eq_true rfl) ?_
  refine J_ild1 dX10_hasText_0 ?_
  refine J_iconst (v := 1) dX10_hasText_1 rfl ?_
  refine J_ic_lt 24 dX10_hasText_2 rfl ?_ ?_
  · refine J_iconst (v := 0) dX10_hasText_24 rfl ?_
    exact J_zret dX10_hasText_25 rfl (Or.inl rfl) ⟨rfl, rfl, rfl, (Or.inl rfl)⟩
  · refine J_ild1 dX10_hasText_5 ?_
    refine J_sipush (v := 200) dX10_hasText_6 rfl ?_
    refine J_ic_gt 24 dX10_hasText_9 rfl ?_ ?_
    · refine J_iconst (v := 0) dX10_hasText_24 rfl ?_
      exact J_zret dX10_hasText_25 rfl (Or.inl rfl) ⟨rfl, rfl, rfl, (Or.inl rfl)⟩
    · refine J_ild1 dX10_hasText_12 ?_
      refine J_ald0 dX10_hasText_13 ?_
      refine J_geti fl_RX10_58 dX10_hasText_14 kk_0 rfl ?_
      refine J_ic_gt 24 dX10_hasText_17 rfl ?_ ?_
      · refine J_iconst (v := 0) dX10_hasText_24 rfl ?_
        exact J_zret dX10_hasText_25 rfl (Or.inl rfl) ⟨rfl, rfl, rfl, (Or.inl rfl)⟩
      · refine J_iconst (v := 1) dX10_hasText_20 rfl ?_
        refine J_goto 25 dX10_hasText_21 rfl ?_
        exact J_zret dX10_hasText_25 rfl (Or.inr rfl) ⟨rfl, rfl, rfl, (Or.inr rfl)⟩
set_option maxRecDepth 100000 in
theorem jX10_book (l : Launch) (cx : CX) (n : Nat) (a : Int32) (M : Mem) : Con l cx ({ frames := 10, cells := 0, slots := 0, locals := 297 } : Room) yX10_book cX10_book 3 (some .int) 0 0 false 0 207 EI GS [.ref 0, .int a] M (mX10_book n a M) := by
  unfold mX10_book
  refine Con.of (ls := [some (.ref 0), some (.int a), none]) (by decide) rfl (Nat.le_of_ble_eq_true rfl) ?_
  refine J_ald0 dX10_book_0 ?_
  refine J_ild1 dX10_book_1 ?_
  refine J_cVB (jX10_hasText l cx n a M) ck_RX10_66 dX10_book_2 rfl kk_0 ⟨rfl, rfl, by decide, by decide⟩ ⟨Nat.zero_le _, Nat.zero_le _, Nat.le_of_ble_eq_true rfl⟩ (fun r1 z2 => ?_)
  refine J_if_ne 10 dX10_book_5 rfl ?_ ?_
  · refine J_ald0 dX10_book_10 ?_
    refine J_iconst (v := 0) dX10_book_11 rfl ?_
    refine J_puti fl_RX10_58 dX10_book_12 kk_0 rfl (by decide) ?_
    refine J_ald0 dX10_book_15 ?_
    refine J_getr (q := 4) fl_RX10_25 dX10_book_16 kk_0 rfl (rf_10_3 kk_0) ?_
    refine J_getr (q := 40) fl_RX10_70 dX10_book_19 kk_4 rfl (rf_1_3 kk_4) ?_
    refine J_geti fl_RX10_74 dX10_book_22 kk_40 rfl ?_
    refine J_if_le 31 dX10_book_25 rfl ?_ ?_
    · refine J_ald0 dX10_book_31 ?_
      refine J_getr (q := 163) fl_RX10_40 dX10_book_32 kk_0 rfl (rf_10_7 kk_0) ?_
      refine J_ild1 dX10_book_35 ?_
      refine J_cVI (jX2_read l cx n a (upd2 M 0 1 (0 : Int32))) ck_RX10_79 dX10_book_36 rfl kk_163 ⟨rfl, rfl, by decide, by decide⟩ ⟨Nat.zero_le _, Nat.zero_le _, Nat.le_of_ble_eq_true rfl⟩ (fun r3 M4 => ?_)
      refine J_ist2 dX10_book_39 (by decide) rfl ?_
      refine J_ild2 dX10_book_40 ?_
      refine J_if_eq 46 dX10_book_41 rfl ?_ ?_
      · refine J_ald0 dX10_book_46 ?_
        refine J_getr (q := 4) fl_RX10_25 dX10_book_47 kk_0 rfl (rf_10_3 kk_0) ?_
        refine J_getr (q := 5) fl_RX10_83 dX10_book_50 kk_4 rfl (rf_1_1 kk_4) ?_
        refine J_ald0 dX10_book_53 ?_
        refine J_getr (q := 163) fl_RX10_40 dX10_book_54 kk_0 rfl (rf_10_7 kk_0) ?_
        refine J_getr (q := 164) fl_RX10_87 dX10_book_57 kk_163 rfl (rf_2_1 kk_163) ?_
        refine J_cVV (jX9_copyFrom l cx n 5 kk_5 164 kk_164 M4) ck_RX10_90 dX10_book_60 rfl kk_5 ⟨rfl, rfl, by decide, by decide⟩ ⟨Nat.zero_le _, Nat.zero_le _, Nat.le_of_ble_eq_true rfl⟩ (fun M6 => ?_)
        refine J_ald0 dX10_book_63 ?_
        refine J_getr (q := 4) fl_RX10_25 dX10_book_64 kk_0 rfl (rf_10_3 kk_0) ?_
        refine J_getr (q := 5) fl_RX10_83 dX10_book_67 kk_4 rfl (rf_1_1 kk_4) ?_
        refine J_geti fl_RX10_96 dX10_book_70 kk_5 rfl ?_
        exact J_iret dX10_book_73 rfl ⟨rfl, rfl, rfl⟩
      · refine J_ild2 dX10_book_44 ?_
        exact J_iret dX10_book_45 rfl ⟨rfl, rfl, rfl⟩
    · refine J_bipush (v := -3) dX10_book_28 rfl ?_
      exact J_iret dX10_book_30 rfl ⟨rfl, rfl, rfl⟩
  · refine J_iconst (v := -1) dX10_book_8 rfl ?_
    exact J_iret dX10_book_9 rfl ⟨rfl, rfl, rfl⟩
set_option maxRecDepth 100000 in
theorem jX10_deeds_c32 {l : Launch} {cx : CX} {n : Nat} : ∀ (f : Nat) {v3 : Int32} {M : Mem}, JO l cx ({ frames := 9, cells := 0, slots := 0, locals := 274 } : Room) yX10_deeds cX10_deeds 4 (some .int) 0 0 false 0 207 EI GS 0 0 32 [some (.ref 0), none, none, some (.int v3)] [] M (mX10_deeds_c32 n f v3 M) := by
  intro f
  induction f with
  | zero =>
    intros
    exact J_none
  | succ f ih =>
    intro v3 M
    unfold mX10_deeds_c32
    refine J_ild3 dX10_deeds_32 ?_
    refine J_ald0 dX10_deeds_33 ?_
    refine J_getr (q := 199) fl_RX10_47 dX10_deeds_34 kk_0 rfl (rf_10_8 kk_0) ?_
    refine J_geti fl_RX10_100 dX10_deeds_37 kk_199 rfl ?_
    refine J_ic_ge 64 dX10_deeds_40 rfl ?_ ?_
    · refine J_ild3 dX10_deeds_64 ?_
      exact J_iret dX10_deeds_65 rfl ⟨rfl, rfl, rfl⟩
    · refine J_ald0 dX10_deeds_43 ?_
      refine J_getr (q := 199) fl_RX10_47 dX10_deeds_44 kk_0 rfl (rf_10_8 kk_0) ?_
      refine J_ild3 dX10_deeds_47 ?_
      refine J_ald0 dX10_deeds_48 ?_
      refine J_getr (q := 4) fl_RX10_25 dX10_deeds_49 kk_0 rfl (rf_10_3 kk_0) ?_
      refine J_cVZ (jX4_isDone l cx n v3 4 kk_4 M) ck_RX10_103 dX10_deeds_52 rfl kk_199 ⟨rfl, rfl, by decide, by decide⟩ ⟨Nat.zero_le _, Nat.zero_le _, Nat.le_of_ble_eq_true rfl⟩ (fun r1 M2 z3 => ?_)
      refine J_if_eq 64 dX10_deeds_55 rfl ?_ ?_
      · refine J_ild3 dX10_deeds_64 ?_
        exact J_iret dX10_deeds_65 rfl ⟨rfl, rfl, rfl⟩
      · refine J_iinc3 (w := (v3 + (1 : Int32))) dX10_deeds_58 (by decide) rfl rfl ?_
        refine J_goto 32 dX10_deeds_61 rfl ?_
        exact J_wk (wk_s (wk_n (wk_n (wk_s wk_0)))) (ih)
set_option maxRecDepth 100000 in
theorem jX10_deeds (l : Launch) (cx : CX) (n : Nat) (a : Int32) (M : Mem) : Con l cx ({ frames := 9, cells := 0, slots := 0, locals := 274 } : Room) yX10_deeds cX10_deeds 4 (some .int) 0 0 false 0 207 EI GS [.ref 0, .int a] M (mX10_deeds n a M) := by
  unfold mX10_deeds
  refine Con.of (ls := [some (.ref 0), some (.int a), none, none]) (by decide) rfl (Nat.le_of_ble_eq_true rfl) ?_
  refine J_ald0 dX10_deeds_0 ?_
  refine J_ild1 dX10_deeds_1 ?_
  refine J_cVB (jX10_hasText l cx n a M) ck_RX10_66 dX10_deeds_2 rfl kk_0 ⟨rfl, rfl, by decide, by decide⟩ ⟨Nat.zero_le _, Nat.zero_le _, Nat.le_of_ble_eq_true rfl⟩ (fun r4 z5 => ?_)
  refine J_if_ne 10 dX10_deeds_5 rfl ?_ ?_
  · refine J_ald0 dX10_deeds_10 ?_
    refine J_iconst (v := 0) dX10_deeds_11 rfl ?_
    refine J_puti fl_RX10_58 dX10_deeds_12 kk_0 rfl (by decide) ?_
    refine J_ald0 dX10_deeds_15 ?_
    refine J_getr (q := 199) fl_RX10_47 dX10_deeds_16 kk_0 rfl (rf_10_8 kk_0) ?_
    refine J_ild1 dX10_deeds_19 ?_
    refine J_cVI (jX4_read l cx n a (upd2 M 0 1 (0 : Int32))) ck_RX10_99 dX10_deeds_20 rfl kk_199 ⟨rfl, rfl, by decide, by decide⟩ ⟨Nat.zero_le _, Nat.zero_le _, Nat.le_of_ble_eq_true rfl⟩ (fun r6 M7 => ?_)
    refine J_ist2 dX10_deeds_23 (by decide) rfl ?_
    refine J_ild2 dX10_deeds_24 ?_
    refine J_if_eq 30 dX10_deeds_25 rfl ?_ ?_
    · refine J_iconst (v := 0) dX10_deeds_30 rfl ?_
      refine J_ist3 dX10_deeds_31 (by decide) rfl ?_
      exact J_wk (wk_s (wk_n (wk_n (wk_s wk_0)))) (jX10_deeds_c32 (n := n) n)
    · refine J_ild2 dX10_deeds_28 ?_
      exact J_iret dX10_deeds_29 rfl ⟨rfl, rfl, rfl⟩
  · refine J_iconst (v := -1) dX10_deeds_8 rfl ?_
    exact J_iret dX10_deeds_9 rfl ⟨rfl, rfl, rfl⟩
