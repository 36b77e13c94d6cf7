set_option maxRecDepth 100000 in
theorem jX10_tried_c85 {l : Launch} {cx : CX} {n : Nat} {v2 : Int32} {M : Mem} : JO l cx ({ frames := 9, cells := 0, slots := 0, locals := 274 } : Room) yX10_tried cX10_tried 5 (some .int) 0 0 false 0 207 EI GS 0 0 85 [some (.ref 0), none, some (.int v2), none, none] [] M (mX10_tried_c85 n v2 M) := by
  unfold mX10_tried_c85
  refine J_ald0 dX10_tried_85 ?_
  refine J_getr (q := 110) fl_RX10_32 dX10_tried_86 kk_0 rfl (rf_10_5 kk_0) ?_
  refine J_ild2 dX10_tried_89 ?_
  refine J_cVB (jX1_hasBegun l cx n 110 kk_110 v2 M) ck_RX10_113 dX10_tried_90 rfl kk_110 ⟨rfl, rfl, by decide, by decide⟩ ⟨Nat.zero_le _, Nat.zero_le _, Nat.le_of_ble_eq_true rfl⟩ (fun r1 z2 => ?_)
  refine J_if_eq 111 dX10_tried_93 rfl ?_ ?_
  · refine J_ldc dX10_tried_111 wd_42 ?_
    exact J_iret dX10_tried_113 rfl ⟨rfl, rfl, rfl⟩
  · refine J_ald0 dX10_tried_96 ?_
    refine J_getr (q := 110) fl_RX10_32 dX10_tried_97 kk_0 rfl (rf_10_5 kk_0) ?_
    refine J_getr (q := 145) fl_RX10_116 dX10_tried_100 kk_110 rfl (rf_1_2 kk_110) ?_
    refine J_ild2 dX10_tried_103 ?_
    refine J_aald (q := (145 + 12 + Int32.toNatClampNeg v2)) dX10_tried_104 kk_145 (Or.inl rfl) rfl (fun g3 => (aal_15 kk_145 g3).1) (fun g3 => ?_)
    refine J_geti fl_RX10_120 dX10_tried_105 (aal_15 kk_145 g3).2 rfl ?_
    refine J_goto 113 dX10_tried_108 rfl ?_
    exact J_iret dX10_tried_113 rfl ⟨rfl, rfl, rfl⟩
set_option maxRecDepth 100000 in
theorem jX10_tried_c51 {l : Launch} {cx : CX} {n : Nat} : ∀ (f : Nat) {v2 : Int32} {v4 : Int32} {M : Mem}, JO l cx ({ frames := 9, cells := 0, slots := 0, locals := 274 } : Room) yX10_tried cX10_tried 5 (some .int) 0 0 false 0 207 EI GS 0 0 51 [some (.ref 0), none, some (.int v2), none, some (.int v4)] [] M (mX10_tried_c51 n f v2 v4 M) := by
  intro f
  induction f with
  | zero =>
    intros
    exact J_none
  | succ f ih =>
    intro v2 v4 M
    unfold mX10_tried_c51
    refine J_ild4 dX10_tried_51 ?_
    refine J_ald0 dX10_tried_53 ?_
    refine J_getr (q := 199) fl_RX10_47 dX10_tried_54 kk_0 rfl (rf_10_8 kk_0) ?_
    refine J_geti fl_RX10_100 dX10_tried_57 kk_199 rfl ?_
    refine J_ic_ge 85 dX10_tried_60 rfl ?_ ?_
    · exact J_wk (wk_s (wk_n (wk_s (wk_n (wk_n wk_0))))) (jX10_tried_c85 (n := n))
    · refine J_ald0 dX10_tried_63 ?_
      refine J_getr (q := 199) fl_RX10_47 dX10_tried_64 kk_0 rfl (rf_10_8 kk_0) ?_
      refine J_ild4 dX10_tried_67 ?_
      refine J_ald0 dX10_tried_69 ?_
      refine J_getr (q := 110) fl_RX10_32 dX10_tried_70 kk_0 rfl (rf_10_5 kk_0) ?_
      refine J_cVZ (jX4_isDone l cx n v4 110 kk_110 M) ck_RX10_103 dX10_tried_73 rfl kk_199 ⟨rfl, rfl, by decide, by decide⟩ ⟨Nat.zero_le _, Nat.zero_le _, Nat.le_of_ble_eq_true rfl⟩ (fun r4 M5 z6 => ?_)
      refine J_if_eq 85 dX10_tried_76 rfl ?_ ?_
      · exact J_wk (wk_s (wk_n (wk_s (wk_n (wk_n wk_0))))) (jX10_tried_c85 (n := n))
      · refine J_iinc4 (w := (v4 + (1 : Int32))) dX10_tried_79 (by decide) rfl rfl ?_
        refine J_goto 51 dX10_tried_82 rfl ?_
        exact J_wk (wk_s (wk_n (wk_s (wk_n (wk_s wk_0))))) (ih)
set_option maxRecDepth 100000 in
theorem jX10_tried (l : Launch) (cx : CX) (n : Nat) (a : Int32) (b : Int32) (M : Mem) : Con l cx ({ frames := 9, cells := 0, slots := 0, locals := 274 } : Room) yX10_tried cX10_tried 5 (some .int) 0 0 false 0 207 EI GS [.ref 0, .int a, .int b] M (mX10_tried n a b M) := by
  unfold mX10_tried
  refine Con.of (ls := [some (.ref 0), some (.int a), some (.int b), none, none]) (by decide) rfl (Nat.le_of_ble_eq_true rfl) ?_
  refine J_ild2 dX10_tried_0 ?_
  refine J_cSB (jX10_isAccount l cx n b M) ck_RX10_107 dX10_tried_1 rfl ⟨rfl, rfl, by decide, by decide⟩ ⟨Nat.zero_le _, Nat.zero_le _, Nat.le_of_ble_eq_true rfl⟩ (fun r7 z8 => ?_)
  refine J_if_eq 15 dX10_tried_4 rfl ?_ ?_
  · refine J_iconst (v := -1) dX10_tried_15 rfl ?_
    exact J_iret dX10_tried_16 rfl ⟨rfl, rfl, rfl⟩
  · refine J_ald0 dX10_tried_7 ?_
    refine J_ild1 dX10_tried_8 ?_
    refine J_cVB (jX10_hasText l cx n a M) ck_RX10_66 dX10_tried_9 rfl kk_0 ⟨rfl, rfl, by decide, by decide⟩ ⟨Nat.zero_le _, Nat.zero_le _, Nat.le_of_ble_eq_true rfl⟩ (fun r9 z10 => ?_)
    refine J_if_ne 17 dX10_tried_12 rfl ?_ ?_
    · refine J_ald0 dX10_tried_17 ?_
      refine J_iconst (v := 0) dX10_tried_18 rfl ?_
      refine J_puti fl_RX10_58 dX10_tried_19 kk_0 rfl (by decide) ?_
      refine J_ald0 dX10_tried_22 ?_
      refine J_getr (q := 199) fl_RX10_47 dX10_tried_23 kk_0 rfl (rf_10_8 kk_0) ?_
      refine J_ild1 dX10_tried_26 ?_
      refine J_cVI (jX4_read l cx n a (upd2 M 0 1 (0 : Int32))) ck_RX10_99 dX10_tried_27 rfl kk_199 ⟨rfl, rfl, by decide, by decide⟩ ⟨Nat.zero_le _, Nat.zero_le _, Nat.le_of_ble_eq_true rfl⟩ (fun r11 M12 => ?_)
      refine J_ist3 dX10_tried_30 (by decide) rfl ?_
      refine J_ild3 dX10_tried_31 ?_
      refine J_if_eq 37 dX10_tried_32 rfl ?_ ?_
      · refine J_ald0 dX10_tried_37 ?_
        refine J_getr (q := 110) fl_RX10_32 dX10_tried_38 kk_0 rfl (rf_10_5 kk_0) ?_
        refine J_ald0 dX10_tried_41 ?_
        refine J_getr (q := 4) fl_RX10_25 dX10_tried_42 kk_0 rfl (rf_10_3 kk_0) ?_
        refine J_cVV (jX1_copyFrom l cx n 110 kk_110 4 kk_4 M12) ck_RX10_110 dX10_tried_45 rfl kk_110 ⟨rfl, rfl, by decide, by decide⟩ ⟨Nat.zero_le _, Nat.zero_le _, Nat.le_of_ble_eq_true rfl⟩ (fun M14 => ?_)
        refine J_iconst (v := 0) dX10_tried_48 rfl ?_
        refine J_ist4 dX10_tried_49 (by decide) rfl ?_
        exact J_wk (wk_s (wk_n (wk_s (wk_n (wk_s wk_0))))) (jX10_tried_c51 (n := n) n)
      · refine J_ild3 dX10_tried_35 ?_
        exact J_iret dX10_tried_36 rfl ⟨rfl, rfl, rfl⟩
    · refine J_iconst (v := -1) dX10_tried_15 rfl ?_
      exact J_iret dX10_tried_16 rfl ⟨rfl, rfl, rfl⟩
set_option maxRecDepth 100000 in
theorem jX10_check_c29 {l : Launch} {cx : CX} {n : Nat} : ∀ (f : Nat) {v1 : Int32} {v2 : Int32} {M : Mem}, JO l cx ({ frames := 1, cells := 0, slots := 0, locals := 21 } : Room) yX10_check cX10_check 3 (some .int) 0 0 false 0 207 EI GS 0 0 29 [some (.ref 0), some (.int v1), some (.int v2)] [] M (mX10_check_c29 n f v1 v2 M) := by
  intro f
  induction f with
  | zero =>
    intros
    exact J_none
  | succ f ih =>
    intro v1 v2 M
    unfold mX10_check_c29
    refine J_ild2 dX10_check_29 ?_
    refine J_ild1 dX10_check_30 ?_
    refine J_ic_ge 94 dX10_check_31 rfl ?_ ?_
    · refine J_iconst (v := -1) dX10_check_94 rfl ?_
      exact J_iret dX10_check_95 rfl ⟨rfl, rfl, rfl⟩
    · refine J_ild2 dX10_check_34 ?_
      refine J_ald0 dX10_check_35 ?_
      refine J_getr (q := 1) fl_RX10_9 dX10_check_36 kk_0 rfl (rf_10_0 kk_0) ?_
      refine J_alen (v := (400 : Int32)) dX10_check_39 kk_1 (Or.inr rfl) rfl rfl ?_
      refine J_ic_ge 94 dX10_check_40 rfl ?_ ?_
      · refine J_iconst (v := -1) dX10_check_94 rfl ?_
        exact J_iret dX10_check_95 rfl ⟨rfl, rfl, rfl⟩
      · refine J_ald0 dX10_check_43 ?_
        refine J_getr (q := 4) fl_RX10_25 dX10_check_44 kk_0 rfl (rf_10_3 kk_0) ?_
        refine J_getr (q := 40) fl_RX10_70 dX10_check_47 kk_4 rfl (rf_1_3 kk_4) ?_
        refine J_ild2 dX10_check_50 ?_
        refine J_cVB (jX5_has l cx n 40 kk_40 v2 M) ck_RX10_126 dX10_check_51 rfl kk_40 ⟨rfl, rfl, by decide, by decide⟩ ⟨Nat.zero_le _, Nat.zero_le _, Nat.le_of_ble_eq_true rfl⟩ (fun r1 z2 => ?_)
        refine J_if_eq 86 dX10_check_54 rfl ?_ ?_
        · refine J_ild2 dX10_check_86 ?_
          exact J_iret dX10_check_87 rfl ⟨rfl, rfl, rfl⟩
        · refine J_ald0 dX10_check_57 ?_
          refine J_getr (q := 4) fl_RX10_25 dX10_check_58 kk_0 rfl (rf_10_3 kk_0) ?_
          refine J_getr (q := 40) fl_RX10_70 dX10_check_61 kk_4 rfl (rf_1_3 kk_4) ?_
          refine J_getr (q := 48) fl_RX10_129 dX10_check_64 kk_40 rfl (rf_5_8 kk_40) ?_
          refine J_ild2 dX10_check_67 ?_
          refine J_iald dX10_check_68 kk_48 rfl ?_
          refine J_sipush (v := 255) dX10_check_69 rfl ?_
          refine J_iand dX10_check_72 ?_
          refine J_ald0 dX10_check_73 ?_
          refine J_getr (q := 1) fl_RX10_9 dX10_check_74 kk_0 rfl (rf_10_0 kk_0) ?_
          refine J_ild2 dX10_check_77 ?_
          refine J_bald dX10_check_78 kk_1 rfl ?_
          refine J_sipush (v := 255) dX10_check_79 rfl ?_
          refine J_iand dX10_check_82 ?_
          refine J_ic_eq 88 dX10_check_83 rfl ?_ ?_
          · refine J_iinc2 (w := (v2 + (1 : Int32))) dX10_check_88 (by decide) rfl rfl ?_
            refine J_goto 29 dX10_check_91 rfl ?_
            exact J_wk (wk_s (wk_s (wk_s wk_0))) (ih)
          · refine J_ild2 dX10_check_86 ?_
            exact J_iret dX10_check_87 rfl ⟨rfl, rfl, rfl⟩
set_option maxRecDepth 100000 in
theorem jX10_check (l : Launch) (cx : CX) (n : Nat) (a : Int32) (M : Mem) : Con l cx ({ frames := 1, cells := 0, slots := 0, locals := 21 } : Room) yX10_check cX10_check 3 (some .int) 0 0 false 0 207 EI GS [.ref 0, .int a] M (mX10_check n a M) := by
  unfold mX10_check
  refine Con.of (ls := [some (.ref 0), some (.int a), none]) (by decide) rfl (Nat.le_of_ble_eq_true rfl) ?_
  refine J_ild1 dX10_check_0 ?_
  refine J_if_lt 19 dX10_check_1 rfl ?_ ?_
  · refine J_bipush (v := -2) dX10_check_19 rfl ?_
    exact J_iret dX10_check_21 rfl ⟨rfl, rfl, rfl⟩
  · refine J_ild1 dX10_check_4 ?_
    refine J_sipush (v := 400) dX10_check_5 rfl ?_
    refine J_ic_gt 19 dX10_check_8 rfl ?_ ?_
    · refine J_bipush (v := -2) dX10_check_19 rfl ?_
      exact J_iret dX10_check_21 rfl ⟨rfl, rfl, rfl⟩
    · refine J_ild1 dX10_check_11 ?_
      refine J_ald0 dX10_check_12 ?_
      refine J_geti fl_RX10_58 dX10_check_13 kk_0 rfl ?_
      refine J_ic_le 22 dX10_check_16 rfl ?_ ?_
      · refine J_ald0 dX10_check_22 ?_
        refine J_iconst (v := 0) dX10_check_23 rfl ?_
        refine J_puti fl_RX10_58 dX10_check_24 kk_0 rfl (by decide) ?_
        refine J_iconst (v := 0) dX10_check_27 rfl ?_
        refine J_ist2 dX10_check_28 (by decide) rfl ?_
        exact J_wk (wk_s (wk_s (wk_s wk_0))) (jX10_check_c29 (n := n) n)
      · refine J_bipush (v := -2) dX10_check_19 rfl ?_
        exact J_iret dX10_check_21 rfl ⟨rfl, rfl, rfl⟩
set_option maxRecDepth 100000 in
theorem jX10_keep (l : Launch) (cx : CX) (n : Nat) (M : Mem) : Con l cx ({ frames := 4, cells := 0, slots := 0, locals := 114 } : Room) yX10_keep cX10_keep 1 (some .int) 0 0 false 0 207 EI GS [.ref 0] M (mX10_keep n M) := by
  unfold mX10_keep
  refine Con.of (ls := [some (.ref 0)]) (by decide) rfl (Nat.le_of_ble_eq_true rfl) ?_
  refine J_ald0 dX10_keep_0 ?_
  refine J_getr (q := 57) fl_RX10_29 dX10_keep_1 kk_0 rfl (rf_10_4 kk_0) ?_
  refine J_ald0 dX10_keep_4 ?_
  refine J_getr (q := 4) fl_RX10_25 dX10_keep_5 kk_0 rfl (rf_10_3 kk_0) ?_
  refine J_cVV (jX1_copyFrom l cx n 57 kk_57 4 kk_4 M) ck_RX10_110 dX10_keep_8 rfl kk_57 ⟨rfl, rfl, by decide, by decide⟩ ⟨Nat.zero_le _, Nat.zero_le _, Nat.le_of_ble_eq_true rfl⟩ (fun M2 => ?_)
  refine J_ald0 dX10_keep_11 ?_
  refine J_iconst (v := 1) dX10_keep_12 rfl ?_
  refine J_putzK fl_RX10_133 dX10_keep_13 kk_0 rfl (by decide) (Or.inr rfl) ?_
  refine J_ald0 dX10_keep_16 ?_
  refine J_getr (q := 4) fl_RX10_25 dX10_keep_17 kk_0 rfl (rf_10_3 kk_0) ?_
  refine J_getr (q := 40) fl_RX10_70 dX10_keep_20 kk_4 rfl (rf_1_3 kk_4) ?_
  refine J_geti fl_RX10_74 dX10_keep_23 kk_40 rfl ?_
  exact J_iret dX10_keep_26 rfl ⟨rfl, rfl, rfl⟩
set_option maxRecDepth 100000 in
theorem jX10_undo (l : Launch) (cx : CX) (n : Nat) (M : Mem) : Con l cx ({ frames := 4, cells := 0, slots := 0, locals := 114 } : Room) yX10_undo cX10_undo 1 (some .boolean) 0 0 false 0 207 EZ GS [.ref 0] M (mX10_undo n M) := by
  unfold mX10_undo
  refine Con.of (ls := [some (.ref 0)]) (by decide) rfl (Nat.le_of_ble_eq_true rfl) ?_
  refine J_ald0 dX10_undo_0 ?_
  refine J_geti fl_RX10_133 dX10_undo_1 kk_0 rfl ?_
  refine J_if_ne 9 dX10_undo_4 rfl ?_ ?_
  · refine J_ald0 dX10_undo_9 ?_
    refine J_getr (q := 4) fl_RX10_25 dX10_undo_10 kk_0 rfl (rf_10_3 kk_0) ?_
    refine J_ald0 dX10_undo_13 ?_
    refine J_getr (q := 57) fl_RX10_29 dX10_undo_14 kk_0 rfl (rf_10_4 kk_0) ?_
    refine J_cVV (jX1_copyFrom l cx n 4 kk_4 57 kk_57 M) ck_RX10_110 dX10_undo_17 rfl kk_4 ⟨rfl, rfl, by decide, by decide⟩ ⟨Nat.zero_le _, Nat.zero_le _, Nat.le_of_ble_eq_true rfl⟩ (fun M2 => ?_)
    refine J_iconst (v := 1) dX10_undo_20 rfl ?_
    exact J_zret dX10_undo_21 rfl (Or.inr rfl) ⟨rfl, rfl, rfl, (Or.inr rfl)⟩
  · refine J_iconst (v := 0) dX10_undo_7 rfl ?_
    exact J_zret dX10_undo_8 rfl (Or.inl rfl) ⟨rfl, rfl, rfl, (Or.inl rfl)⟩
set_option maxRecDepth 100000 in
theorem jX10_count (l : Launch) (cx : CX) (n : Nat) (a : Int32) (M : Mem) : Con l cx ({ frames := 0, cells := 0, slots := 0, locals := 0 } : Room) yX10_count cX10_count 2 (some .int) 0 0 false 0 207 (EP M) GS [.ref 0, .int a] M (mX10_count a M) := by
  unfold mX10_count
  refine Con.of (ls := [some (.ref 0), some (.int a)]) (by decide) rfl (Nat.le_of_ble_eq_true rfl) ?_
  refine J_ild1 dX10_count_0 ?_
  refine J_swIn (v := 0) 32 dX10_count_1 (by decide) (by decide) rfl rfl ?_ (fun w1 => ?_)
  · refine J_ald0 dX10_count_32 ?_
    refine J_getr (q := 4) fl_RX10_25 dX10_count_33 kk_0 rfl (rf_10_3 kk_0) ?_
    refine J_getr (q := 40) fl_RX10_70 dX10_count_36 kk_4 rfl (rf_1_3 kk_4) ?_
    refine J_geti fl_RX10_74 dX10_count_39 kk_40 rfl ?_
    exact J_iret dX10_count_42 rfl ⟨rfl, rfl, rfl⟩
  refine J_swIn (v := 1) 43 dX10_count_1 (by decide) (by decide) rfl rfl ?_ (fun w2 => ?_)
  · refine J_ald0 dX10_count_43 ?_
    refine J_getr (q := 4) fl_RX10_25 dX10_count_44 kk_0 rfl (rf_10_3 kk_0) ?_
    refine J_geti fl_RX10_137 dX10_count_47 kk_4 rfl ?_
    exact J_iret dX10_count_50 rfl ⟨rfl, rfl, rfl⟩
  refine J_swIn (v := 2) 51 dX10_count_1 (by decide) (by decide) rfl rfl ?_ (fun w3 => ?_)
  · refine J_ald0 dX10_count_51 ?_
    refine J_geti fl_RX10_58 dX10_count_52 kk_0 rfl ?_
    exact J_iret dX10_count_55 rfl ⟨rfl, rfl, rfl⟩
  refine J_swIn (v := 3) 56 dX10_count_1 (by decide) (by decide) rfl rfl ?_ (fun w4 => ?_)
  · refine J_ald0 dX10_count_56 ?_
    refine J_getr (q := 4) fl_RX10_25 dX10_count_57 kk_0 rfl (rf_10_3 kk_0) ?_
    refine J_getr (q := 5) fl_RX10_83 dX10_count_60 kk_4 rfl (rf_1_1 kk_4) ?_
    refine J_geti fl_RX10_96 dX10_count_63 kk_5 rfl ?_
    exact J_iret dX10_count_66 rfl ⟨rfl, rfl, rfl⟩
  refine J_swOut 67 dX10_count_1 (sw_out 4 rfl (fun k hk => sw_c4 (P := fun k => ¬ a = Int32.ofInt (0 + (k : Int))) hk w1 w2 w3 w4)) rfl ?_
  refine J_iconst (v := -1) dX10_count_67 rfl ?_
  exact J_iret dX10_count_68 rfl ⟨rfl, rfl, rfl⟩
set_option maxRecDepth 100000 in
theorem jX10_begin (l : Launch) (cx : CX) (n : Nat) (a : Int32) (b : Int32) (c : Int32) (M : Mem) : Con l cx ({ frames := 5, cells := 0, slots := 0, locals := 115 } : Room) yX10_begin cX10_begin 4 (some .int) 0 0 false 0 207 EI GS [.ref 0, .int a, .int b, .int c] M (mX10_begin n a b c M) := by
  unfold mX10_begin
  refine Con.of (ls := [some (.ref 0), some (.int a), some (.int b), some (.int c)]) (by decide) rfl (Nat.le_of_ble_eq_true rfl) ?_
  refine J_ald0 dX10_begin_0 ?_
  refine J_getr (q := 4) fl_RX10_25 dX10_begin_1 kk_0 rfl (rf_10_3 kk_0) ?_
  refine J_ild1 dX10_begin_4 ?_
  refine J_ild2 dX10_begin_5 ?_
  refine J_ild3 dX10_begin_6 ?_
  refine J_cVI (jX1_startAccount l cx n 4 kk_4 a b c M) ck_RX10_140 dX10_begin_7 rfl kk_4 ⟨rfl, rfl, by decide, by decide⟩ ⟨Nat.zero_le _, Nat.zero_le _, Nat.le_of_ble_eq_true rfl⟩ (fun r1 M2 => ?_)
  exact J_iret dX10_begin_10 rfl ⟨rfl, rfl, rfl⟩
set_option maxRecDepth 100000 in
theorem jX10_change (l : Launch) (cx : CX) (n : Nat) (a : Int32) (b : Int32) (M : Mem) : Con l cx ({ frames := 4, cells := 0, slots := 0, locals := 96 } : Room) yX10_change cX10_change 3 (some .int) 0 0 false 0 207 EI GS [.ref 0, .int a, .int b] M (mX10_change n a b M) := by
  unfold mX10_change
  refine Con.of (ls := [some (.ref 0), some (.int a), some (.int b)]) (by decide) rfl (Nat.le_of_ble_eq_true rfl) ?_
  refine J_ald0 dX10_change_0 ?_
  refine J_getr (q := 4) fl_RX10_25 dX10_change_1 kk_0 rfl (rf_10_3 kk_0) ?_
  refine J_ild1 dX10_change_4 ?_
  refine J_ild2 dX10_change_5 ?_
  refine J_cVI (jX1_putPlan l cx n 4 kk_4 a b M) ck_RX10_144 dX10_change_6 rfl kk_4 ⟨rfl, rfl, by decide, by decide⟩ ⟨Nat.zero_le _, Nat.zero_le _, Nat.le_of_ble_eq_true rfl⟩ (fun r1 M2 => ?_)
  exact J_iret dX10_change_9 rfl ⟨rfl, rfl, rfl⟩
set_option maxRecDepth 100000 in
theorem jX10_seats (l : Launch) (cx : CX) (n : Nat) (a : Int32) (b : Int32) (M : Mem) : Con l cx ({ frames := 4, cells := 0, slots := 0, locals := 96 } : Room) yX10_seats cX10_seats 3 (some .int) 0 0 false 0 207 EI GS [.ref 0, .int a, .int b] M (mX10_seats n a b M) := by
  unfold mX10_seats
  refine Con.of (ls := [some (.ref 0), some (.int a), some (.int b)]) (by decide) rfl (Nat.le_of_ble_eq_true rfl) ?_
  refine J_ald0 dX10_seats_0 ?_
  refine J_getr (q := 4) fl_RX10_25 dX10_seats_1 kk_0 rfl (rf_10_3 kk_0) ?_
  refine J_ild1 dX10_seats_4 ?_
  refine J_ild2 dX10_seats_5 ?_
  refine J_cVI (jX1_putSeats l cx n 4 kk_4 a b M) ck_RX10_148 dX10_seats_6 rfl kk_4 ⟨rfl, rfl, by decide, by decide⟩ ⟨Nat.zero_le _, Nat.zero_le _, Nat.le_of_ble_eq_true rfl⟩ (fun r1 M2 => ?_)
  exact J_iret dX10_seats_9 rfl ⟨rfl, rfl, rfl⟩
set_option maxRecDepth 100000 in
theorem jX10_pause (l : Launch) (cx : CX) (n : Nat) (a : Int32) (b : Int32) (zb : b = 0 ∨ b = 1) (M : Mem) : Con l cx ({ frames := 4, cells := 0, slots := 0, locals := 96 } : Room) yX10_pause cX10_pause 3 (some .int) 0 0 false 0 207 EI GS [.ref 0, .int a, .int b] M (mX10_pause n a b M) := by
  unfold mX10_pause
  refine Con.of (ls := [some (.ref 0), some (.int a), some (.int b)]) (by decide) rfl (Nat.le_of_ble_eq_true rfl) ?_
  refine J_ald0 dX10_pause_0 ?_
  refine J_getr (q := 4) fl_RX10_25 dX10_pause_1 kk_0 rfl (rf_10_3 kk_0) ?_
  refine J_ild1 dX10_pause_4 ?_
  refine J_ild2 dX10_pause_5 ?_
  refine J_cVI (jX1_putPaused l cx n 4 kk_4 a b zb M) ck_RX10_151 dX10_pause_6 rfl kk_4 ⟨rfl, rfl, by decide, by decide⟩ ⟨Nat.zero_le _, Nat.zero_le _, Nat.le_of_ble_eq_true rfl⟩ (fun r1 M2 => ?_)
  exact J_iret dX10_pause_9 rfl ⟨rfl, rfl, rfl⟩
set_option maxRecDepth 100000 in
theorem jX10_giveUp (l : Launch) (cx : CX) (n : Nat) (a : Int32) (M : Mem) : Con l cx ({ frames := 5, cells := 0, slots := 0, locals := 115 } : Room) yX10_giveUp cX10_giveUp 2 (some .int) 0 0 false 0 207 EI GS [.ref 0, .int a] M (mX10_giveUp n a M) := by
  unfold mX10_giveUp
  refine Con.of (ls := [some (.ref 0), some (.int a)]) (by decide) rfl (Nat.le_of_ble_eq_true rfl) ?_
  refine J_ald0 dX10_giveUp_0 ?_
  refine J_getr (q := 4) fl_RX10_25 dX10_giveUp_1 kk_0 rfl (rf_10_3 kk_0) ?_
  refine J_ild1 dX10_giveUp_4 ?_
  refine J_cVI (jX1_endAccount l cx n 4 kk_4 a M) ck_RX10_155 dX10_giveUp_5 rfl kk_4 ⟨rfl, rfl, by decide, by decide⟩ ⟨Nat.zero_le _, Nat.zero_le _, Nat.le_of_ble_eq_true rfl⟩ (fun r1 M2 => ?_)
  exact J_iret dX10_giveUp_8 rfl ⟨rfl, rfl, rfl⟩
set_option maxRecDepth 100000 in
theorem jX10_move (l : Launch) (cx : CX) (n : Nat) (a : Int32) (b : Int32) (M : Mem) : Con l cx ({ frames := 5, cells := 0, slots := 0, locals := 117 } : Room) yX10_move cX10_move 3 (some .int) 0 0 false 0 207 EI GS [.ref 0, .int a, .int b] M (mX10_move n a b M) := by
  unfold mX10_move
  refine Con.of (ls := [some (.ref 0), some (.int a), some (.int b)]) (by decide) rfl (Nat.le_of_ble_eq_true rfl) ?_
  refine J_ald0 dX10_move_0 ?_
  refine J_getr (q := 4) fl_RX10_25 dX10_move_1 kk_0 rfl (rf_10_3 kk_0) ?_
  refine J_ild1 dX10_move_4 ?_
  refine J_ild2 dX10_move_5 ?_
  refine J_cVI (jX1_putAnchor l cx n 4 kk_4 a b M) ck_RX10_158 dX10_move_6 rfl kk_4 ⟨rfl, rfl, by decide, by decide⟩ ⟨Nat.zero_le _, Nat.zero_le _, Nat.le_of_ble_eq_true rfl⟩ (fun r1 M2 => ?_)
  exact J_iret dX10_move_9 rfl ⟨rfl, rfl, rfl⟩
set_option maxRecDepth 100000 in
theorem jX10_use (l : Launch) (cx : CX) (n : Nat) (a : Int32) (b : Int32) (M : Mem) : Con l cx ({ frames := 4, cells := 0, slots := 0, locals := 85 } : Room) yX10_use cX10_use 3 (some .int) 0 0 false 0 207 EI GS [.ref 0, .int a, .int b] M (mX10_use a b M) := by
  unfold mX10_use
  refine Con.of (ls := [some (.ref 0), some (.int a), some (.int b)]) (by decide) rfl (Nat.le_of_ble_eq_true rfl) ?_
  refine J_ald0 dX10_use_0 ?_
  refine J_getr (q := 4) fl_RX10_25 dX10_use_1 kk_0 rfl (rf_10_3 kk_0) ?_
  refine J_ild1 dX10_use_4 ?_
  refine J_ild2 dX10_use_5 ?_
  refine J_cVI (jX1_addUnits l cx n 4 kk_4 a b M) ck_RX10_161 dX10_use_6 rfl kk_4 ⟨rfl, rfl, by decide, by decide⟩ ⟨Nat.zero_le _, Nat.zero_le _, Nat.le_of_ble_eq_true rfl⟩ (fun r1 M2 => ?_)
  exact J_iret dX10_use_9 rfl ⟨rfl, rfl, rfl⟩
set_option maxRecDepth 100000 in
theorem jX10_days (l : Launch) (cx : CX) (n : Nat) (a : Int32) (M : Mem) : Con l cx ({ frames := 6, cells := 0, slots := 0, locals := 136 } : Room) yX10_days cX10_days 2 (some .int) 0 0 false 0 207 EI GS [.ref 0, .int a] M (mX10_days n a M) := by
  unfold mX10_days
  refine Con.of (ls := [some (.ref 0), some (.int a)]) (by decide) rfl (Nat.le_of_ble_eq_true rfl) ?_
  refine J_ald0 dX10_days_0 ?_
  refine J_getr (q := 4) fl_RX10_25 dX10_days_1 kk_0 rfl (rf_10_3 kk_0) ?_
  refine J_ild1 dX10_days_4 ?_
  refine J_cVI (jX1_passDays l cx n 4 kk_4 a M) ck_RX10_164 dX10_days_5 rfl kk_4 ⟨rfl, rfl, by decide, by decide⟩ ⟨Nat.zero_le _, Nat.zero_le _, Nat.le_of_ble_eq_true rfl⟩ (fun r1 M2 => ?_)
  exact J_iret dX10_days_8 rfl ⟨rfl, rfl, rfl⟩
set_option maxRecDepth 100000 in
theorem jX10_favour (l : Launch) (cx : CX) (n : Nat) (a : Int32) (b : Int32) (M : Mem) : Con l cx ({ frames := 3, cells := 0, slots := 0, locals := 73 } : Room) yX10_favour cX10_favour 3 (some .int) 0 0 false 0 207 EI GS [.ref 0, .int a, .int b] M (mX10_favour a b M) := by
  unfold mX10_favour
  refine Con.of (ls := [some (.ref 0), some (.int a), some (.int b)]) (by decide) rfl (Nat.le_of_ble_eq_true rfl) ?_
  refine J_ald0 dX10_favour_0 ?_
  refine J_getr (q := 4) fl_RX10_25 dX10_favour_1 kk_0 rfl (rf_10_3 kk_0) ?_
  refine J_ild1 dX10_favour_4 ?_
  refine J_ild2 dX10_favour_5 ?_
  refine J_cVI (jX1_grantFavour l cx n 4 kk_4 a b M) ck_RX10_167 dX10_favour_6 rfl kk_4 ⟨rfl, rfl, by decide, by decide⟩ ⟨Nat.zero_le _, Nat.zero_le _, Nat.le_of_ble_eq_true rfl⟩ (fun r1 M2 => ?_)
  exact J_iret dX10_favour_9 rfl ⟨rfl, rfl, rfl⟩
set_option maxRecDepth 100000 in
theorem jX10_pay (l : Launch) (cx : CX) (n : Nat) (a : Int32) (b : Int32) (M : Mem) : Con l cx ({ frames := 3, cells := 0, slots := 0, locals := 64 } : Room) yX10_pay cX10_pay 3 (some .int) 0 0 false 0 207 EI GS [.ref 0, .int a, .int b] M (mX10_pay a b M) := by
  unfold mX10_pay
  refine Con.of (ls := [some (.ref 0), some (.int a), some (.int b)]) (by decide) rfl (Nat.le_of_ble_eq_true rfl) ?_
  refine J_ald0 dX10_pay_0 ?_
  refine J_getr (q := 4) fl_RX10_25 dX10_pay_1 kk_0 rfl (rf_10_3 kk_0) ?_
  refine J_ild1 dX10_pay_4 ?_
  refine J_ild2 dX10_pay_5 ?_
  refine J_cVI (jX1_takePayment l cx n 4 kk_4 a b M) ck_RX10_170 dX10_pay_6 rfl kk_4 ⟨rfl, rfl, by decide, by decide⟩ ⟨Nat.zero_le _, Nat.zero_le _, Nat.le_of_ble_eq_true rfl⟩ (fun r1 M2 => ?_)
  exact J_iret dX10_pay_9 rfl ⟨rfl, rfl, rfl⟩
set_option maxRecDepth 100000 in
theorem jX10_remind (l : Launch) (cx : CX) (n : Nat) (a : Int32) (M : Mem) : Con l cx ({ frames := 4, cells := 0, slots := 0, locals := 98 } : Room) yX10_remind cX10_remind 2 (some .int) 0 0 false 0 207 EI GS [.ref 0, .int a] M (mX10_remind n a M) := by
  unfold mX10_remind
  refine Con.of (ls := [some (.ref 0), some (.int a)]) (by decide) rfl (Nat.le_of_ble_eq_true rfl) ?_
  refine J_ald0 dX10_remind_0 ?_
  refine J_getr (q := 4) fl_RX10_25 dX10_remind_1 kk_0 rfl (rf_10_3 kk_0) ?_
  refine J_ild1 dX10_remind_4 ?_
  refine J_cVI (jX1_writeReminder l cx n 4 kk_4 a M) ck_RX10_173 dX10_remind_5 rfl kk_4 ⟨rfl, rfl, by decide, by decide⟩ ⟨Nat.zero_le _, Nat.zero_le _, Nat.le_of_ble_eq_true rfl⟩ (fun r1 M2 => ?_)
  exact J_iret dX10_remind_8 rfl ⟨rfl, rfl, rfl⟩
set_option maxRecDepth 100000 in
theorem jX10_turn (l : Launch) (cx : CX) (n : Nat) (a : Int32) (M : Mem) : Con l cx ({ frames := 3, cells := 0, slots := 0, locals := 67 } : Room) yX10_turn cX10_turn 2 (some .int) 0 0 false 0 207 EI GS [.ref 0, .int a] M (mX10_turn a M) := by
  unfold mX10_turn
  refine Con.of (ls := [some (.ref 0), some (.int a)]) (by decide) rfl (Nat.le_of_ble_eq_true rfl) ?_
  refine J_ald0 dX10_turn_0 ?_
  refine J_getr (q := 4) fl_RX10_25 dX10_turn_1 kk_0 rfl (rf_10_3 kk_0) ?_
  refine J_ild1 dX10_turn_4 ?_
  refine J_cVI (jX1_turnRound l cx n 4 kk_4 a M) ck_RX10_176 dX10_turn_5 rfl kk_4 ⟨rfl, rfl, by decide, by decide⟩ ⟨Nat.zero_le _, Nat.zero_le _, Nat.le_of_ble_eq_true rfl⟩ (fun r1 M2 => ?_)
  exact J_iret dX10_turn_8 rfl ⟨rfl, rfl, rfl⟩
set_option maxRecDepth 100000 in
theorem jX10_accountIs_c52 {l : Launch} {cx : CX} {n : Nat} {M : Mem} {v1 : Int32} {v2 : Int32} {v3 : Nat} (h3 : IsK GS 0 207 v3 0) : JO l cx ({ frames := 2, cells := 0, slots := 0, locals := 47 } : Room) yX10_accountIs cX10_accountIs 4 (some .int) 0 0 false 0 207 (EP M) GS 0 0 52 [some (.ref 0), some (.int v1), some (.int v2), some (.ref v3)] [] M (mX10_accountIs_c52 n v1 v2 v3 M) := by
  unfold mX10_accountIs_c52
  refine J_ild2 dX10_accountIs_52 ?_
  refine J_lsw (v := 6) 80 dX10_accountIs_53 (by decide) rfl rfl ?_ (fun w2 => ?_)
  · refine J_ald0 dX10_accountIs_80 ?_
    refine J_getr (q := 4) fl_RX10_25 dX10_accountIs_81 kk_0 rfl (rf_10_3 kk_0) ?_
    refine J_getr (q := 5) fl_RX10_83 dX10_accountIs_84 kk_4 rfl (rf_1_1 kk_4) ?_
    refine J_ald3 dX10_accountIs_87 ?_
    refine J_geti fl_RX10_182 dX10_accountIs_88 h3 rfl ?_
    refine J_ald3 dX10_accountIs_91 ?_
    refine J_cVP (jX9_worth l cx n 5 kk_5 (M v3 4) v3 h3 M) ck_RX10_185 dX10_accountIs_92 rfl kk_5 ⟨rfl, rfl, by decide, by decide⟩ ⟨Nat.zero_le _, Nat.zero_le _, Nat.le_of_ble_eq_true rfl⟩ (fun r1 => ?_)
    exact J_iret dX10_accountIs_95 rfl ⟨rfl, rfl, rfl⟩
  refine J_lsw (v := 11) 96 dX10_accountIs_53 (by decide) rfl rfl ?_ (fun w4 => ?_)
  · refine J_ald0 dX10_accountIs_96 ?_
    refine J_getr (q := 4) fl_RX10_25 dX10_accountIs_97 kk_0 rfl (rf_10_3 kk_0) ?_
    refine J_getr (q := 40) fl_RX10_70 dX10_accountIs_100 kk_4 rfl (rf_1_3 kk_4) ?_
    refine J_ild1 dX10_accountIs_103 ?_
    refine J_cVP (jX5_howManyOf l cx n 40 kk_40 v1 M) ck_RX10_189 dX10_accountIs_104 rfl kk_40 ⟨rfl, rfl, by decide, by decide⟩ ⟨Nat.zero_le _, Nat.zero_le _, Nat.le_of_ble_eq_true rfl⟩ (fun r3 => ?_)
    exact J_iret dX10_accountIs_107 rfl ⟨rfl, rfl, rfl⟩
  refine J_lswOut 108 dX10_accountIs_53 (by decide) (lsw_out2 w2 w4) rfl ?_
  refine J_ald3 dX10_accountIs_108 ?_
  refine J_ild2 dX10_accountIs_109 ?_
  refine J_cVP (jX0_tell l cx n v3 h3 v2 M) ck_RX10_192 dX10_accountIs_110 rfl h3 ⟨rfl, rfl, by decide, by decide⟩ ⟨Nat.zero_le _, Nat.zero_le _, Nat.le_of_ble_eq_true rfl⟩ (fun r5 => ?_)
  exact J_iret dX10_accountIs_113 rfl ⟨rfl, rfl, rfl⟩
set_option maxRecDepth 100000 in
theorem jX10_accountIs (l : Launch) (cx : CX) (n : Nat) (a : Int32) (b : Int32) (M : Mem) : Con l cx ({ frames := 2, cells := 0, slots := 0, locals := 47 } : Room) yX10_accountIs cX10_accountIs 4 (some .int) 0 0 false 0 207 (EP M) GS [.ref 0, .int a, .int b] M (mX10_accountIs n a b M) := by
  unfold mX10_accountIs
  refine Con.of (ls := [some (.ref 0), some (.int a), some (.int b), none]) (by decide) rfl (Nat.le_of_ble_eq_true rfl) ?_
  refine J_ald0 dX10_accountIs_0 ?_
  refine J_getr (q := 4) fl_RX10_25 dX10_accountIs_1 kk_0 rfl (rf_10_3 kk_0) ?_
  refine J_ild1 dX10_accountIs_4 ?_
  refine J_cVB (jX1_hasBegun l cx n 4 kk_4 a M) ck_RX10_113 dX10_accountIs_5 rfl kk_4 ⟨rfl, rfl, by decide, by decide⟩ ⟨Nat.zero_le _, Nat.zero_le _, Nat.le_of_ble_eq_true rfl⟩ (fun r6 z7 => ?_)
  refine J_if_ne 14 dX10_accountIs_8 rfl ?_ ?_
  · refine J_ald0 dX10_accountIs_14 ?_
    refine J_getr (q := 4) fl_RX10_25 dX10_accountIs_15 kk_0 rfl (rf_10_3 kk_0) ?_
    refine J_getr (q := 39) fl_RX10_116 dX10_accountIs_18 kk_4 rfl (rf_1_2 kk_4) ?_
    refine J_ild1 dX10_accountIs_21 ?_
    refine J_aald (q := (39 + 12 + Int32.toNatClampNeg a)) dX10_accountIs_22 kk_39 (Or.inl rfl) rfl (fun g8 => (aal_15 kk_39 g8).1) (fun g8 => ?_)
    refine J_ast3 dX10_accountIs_23 (by decide) rfl ?_
    refine J_ild2 dX10_accountIs_24 ?_
    refine J_bipush (v := 12) dX10_accountIs_25 rfl ?_
    refine J_ic_lt 52 dX10_accountIs_27 rfl ?_ ?_
    · exact J_wk (wk_s (wk_s (wk_s (wk_s wk_0)))) (jX10_accountIs_c52 (n := n) (aal_15 kk_39 g8).2)
    · refine J_ild2 dX10_accountIs_30 ?_
      refine J_bipush (v := 17) dX10_accountIs_31 rfl ?_
      refine J_ic_gt 52 dX10_accountIs_33 rfl ?_ ?_
      · exact J_wk (wk_s (wk_s (wk_s (wk_s wk_0)))) (jX10_accountIs_c52 (n := n) (aal_15 kk_39 g8).2)
      · refine J_ald0 dX10_accountIs_36 ?_
        refine J_getr (q := 4) fl_RX10_25 dX10_accountIs_37 kk_0 rfl (rf_10_3 kk_0) ?_
        refine J_getr (q := 40) fl_RX10_70 dX10_accountIs_40 kk_4 rfl (rf_1_3 kk_4) ?_
        refine J_ild1 dX10_accountIs_43 ?_
        refine J_ild2 dX10_accountIs_44 ?_
        refine J_bipush (v := 12) dX10_accountIs_45 rfl ?_
        refine J_isub dX10_accountIs_47 ?_
        refine J_cVP (jX5_sumOfKind l cx n 40 kk_40 a (b - (12 : Int32)) M) ck_RX10_179 dX10_accountIs_48 rfl kk_40 ⟨rfl, rfl, by decide, by decide⟩ ⟨Nat.zero_le _, Nat.zero_le _, Nat.le_of_ble_eq_true rfl⟩ (fun r9 => ?_)
        exact J_iret dX10_accountIs_51 rfl ⟨rfl, rfl, rfl⟩
  · refine J_ldc dX10_accountIs_11 wd_42 ?_
    exact J_iret dX10_accountIs_13 rfl ⟨rfl, rfl, rfl⟩
set_option maxRecDepth 100000 in
theorem jX10_late (l : Launch) (cx : CX) (n : Nat) (a : Int32) (b : Int32) (M : Mem) : Con l cx ({ frames := 3, cells := 0, slots := 0, locals := 73 } : Room) yX10_late cX10_late 3 (some .int) 0 0 false 0 207 (EP M) GS [.ref 0, .int a, .int b] M (mX10_late n a b M) := by
  unfold mX10_late
  refine Con.of (ls := [some (.ref 0), some (.int a), some (.int b)]) (by decide) rfl (Nat.le_of_ble_eq_true rfl) ?_
  refine J_ald0 dX10_late_0 ?_
  refine J_getr (q := 4) fl_RX10_25 dX10_late_1 kk_0 rfl (rf_10_3 kk_0) ?_
  refine J_ild1 dX10_late_4 ?_
  refine J_cVB (jX1_hasBegun l cx n 4 kk_4 a M) ck_RX10_113 dX10_late_5 rfl kk_4 ⟨rfl, rfl, by decide, by decide⟩ ⟨Nat.zero_le _, Nat.zero_le _, Nat.le_of_ble_eq_true rfl⟩ (fun r1 z2 => ?_)
  refine J_if_eq 29 dX10_late_8 rfl ?_ ?_
  · refine J_ldc dX10_late_29 wd_42 ?_
    exact J_iret dX10_late_31 rfl ⟨rfl, rfl, rfl⟩
  · refine J_ild2 dX10_late_11 ?_
    refine J_ald0 dX10_late_12 ?_
    refine J_getr (q := 4) fl_RX10_25 dX10_late_13 kk_0 rfl (rf_10_3 kk_0) ?_
    refine J_geti fl_RX10_137 dX10_late_16 kk_4 rfl ?_
    refine J_ic_lt 29 dX10_late_19 rfl ?_ ?_
    · refine J_ldc dX10_late_29 wd_42 ?_
      exact J_iret dX10_late_31 rfl ⟨rfl, rfl, rfl⟩
    · refine J_ild2 dX10_late_22 ?_
      refine J_sipush (v := 3652) dX10_late_23 rfl ?_
      refine J_ic_le 32 dX10_late_26 rfl ?_ ?_
      · refine J_ald0 dX10_late_32 ?_
        refine J_getr (q := 4) fl_RX10_25 dX10_late_33 kk_0 rfl (rf_10_3 kk_0) ?_
        refine J_getr (q := 40) fl_RX10_70 dX10_late_36 kk_4 rfl (rf_1_3 kk_4) ?_
        refine J_ild1 dX10_late_39 ?_
        refine J_ald0 dX10_late_40 ?_
        refine J_getr (q := 4) fl_RX10_25 dX10_late_41 kk_0 rfl (rf_10_3 kk_0) ?_
        refine J_getr (q := 39) fl_RX10_116 dX10_late_44 kk_4 rfl (rf_1_2 kk_4) ?_
        refine J_ild1 dX10_late_47 ?_
        refine J_aald (q := (39 + 12 + Int32.toNatClampNeg a)) dX10_late_48 kk_39 (Or.inl rfl) rfl (fun g3 => (aal_15 kk_39 g3).1) (fun g3 => ?_)
        refine J_geti fl_RX10_195 dX10_late_49 (aal_15 kk_39 g3).2 rfl ?_
        refine J_ild2 dX10_late_52 ?_
        refine J_cVP (jX5_sumLate l cx n 40 kk_40 a (M (39 + 12 + Int32.toNatClampNeg a) 12) b M) ck_RX10_198 dX10_late_53 rfl kk_40 ⟨rfl, rfl, by decide, by decide⟩ ⟨Nat.zero_le _, Nat.zero_le _, Nat.le_of_ble_eq_true rfl⟩ (fun r4 => ?_)
        exact J_iret dX10_late_56 rfl ⟨rfl, rfl, rfl⟩
      · refine J_ldc dX10_late_29 wd_42 ?_
        exact J_iret dX10_late_31 rfl ⟨rfl, rfl, rfl⟩
set_option maxRecDepth 100000 in
theorem jX10_owes (l : Launch) (cx : CX) (n : Nat) (a : Int32) (b : Int32) (M : Mem) : Con l cx ({ frames := 3, cells := 0, slots := 0, locals := 75 } : Room) yX10_owes cX10_owes 3 (some .int) 0 0 false 0 207 (EP M) GS [.ref 0, .int a, .int b] M (mX10_owes n a b M) := by
  unfold mX10_owes
  refine Con.of (ls := [some (.ref 0), some (.int a), some (.int b)]) (by decide) rfl (Nat.le_of_ble_eq_true rfl) ?_
  refine J_ald0 dX10_owes_0 ?_
  refine J_getr (q := 4) fl_RX10_25 dX10_owes_1 kk_0 rfl (rf_10_3 kk_0) ?_
  refine J_ild1 dX10_owes_4 ?_
  refine J_cVB (jX1_hasBegun l cx n 4 kk_4 a M) ck_RX10_113 dX10_owes_5 rfl kk_4 ⟨rfl, rfl, by decide, by decide⟩ ⟨Nat.zero_le _, Nat.zero_le _, Nat.le_of_ble_eq_true rfl⟩ (fun r1 z2 => ?_)
  refine J_if_eq 20 dX10_owes_8 rfl ?_ ?_
  · refine J_iconst (v := -1) dX10_owes_20 rfl ?_
    exact J_iret dX10_owes_21 rfl ⟨rfl, rfl, rfl⟩
  · refine J_ild2 dX10_owes_11 ?_
    refine J_if_lt 20 dX10_owes_12 rfl ?_ ?_
    · refine J_iconst (v := -1) dX10_owes_20 rfl ?_
      exact J_iret dX10_owes_21 rfl ⟨rfl, rfl, rfl⟩
    · refine J_ild2 dX10_owes_15 ?_
      refine J_iconst (v := 3) dX10_owes_16 rfl ?_
      refine J_ic_le 22 dX10_owes_17 rfl ?_ ?_
      · refine J_ald0 dX10_owes_22 ?_
        refine J_getr (q := 4) fl_RX10_25 dX10_owes_23 kk_0 rfl (rf_10_3 kk_0) ?_
        refine J_getr (q := 40) fl_RX10_70 dX10_owes_26 kk_4 rfl (rf_1_3 kk_4) ?_
        refine J_ild1 dX10_owes_29 ?_
        refine J_ald0 dX10_owes_30 ?_
        refine J_getr (q := 4) fl_RX10_25 dX10_owes_31 kk_0 rfl (rf_10_3 kk_0) ?_
        refine J_getr (q := 39) fl_RX10_116 dX10_owes_34 kk_4 rfl (rf_1_2 kk_4) ?_
        refine J_ild1 dX10_owes_37 ?_
        refine J_aald (q := (39 + 12 + Int32.toNatClampNeg a)) dX10_owes_38 kk_39 (Or.inl rfl) rfl (fun g3 => (aal_15 kk_39 g3).1) (fun g3 => ?_)
        refine J_geti fl_RX10_195 dX10_owes_39 (aal_15 kk_39 g3).2 rfl ?_
        refine J_ild2 dX10_owes_42 ?_
        refine J_cVP (jX5_tellOpen l cx n 40 kk_40 a (M (39 + 12 + Int32.toNatClampNeg a) 12) b M) ck_RX10_201 dX10_owes_43 rfl kk_40 ⟨rfl, rfl, by decide, by decide⟩ ⟨Nat.zero_le _, Nat.zero_le _, Nat.le_of_ble_eq_true rfl⟩ (fun r4 => ?_)
        exact J_iret dX10_owes_46 rfl ⟨rfl, rfl, rfl⟩
      · refine J_iconst (v := -1) dX10_owes_20 rfl ?_
        exact J_iret dX10_owes_21 rfl ⟨rfl, rfl, rfl⟩
set_option maxRecDepth 100000 in
theorem jX10_earned (l : Launch) (cx : CX) (n : Nat) (a : Int32) (b : Int32) (M : Mem) : Con l cx ({ frames := 3, cells := 0, slots := 0, locals := 71 } : Room) yX10_earned cX10_earned 3 (some .int) 0 0 false 0 207 (EP M) GS [.ref 0, .int a, .int b] M (mX10_earned n a b M) := by
  unfold mX10_earned
  refine Con.of (ls := [some (.ref 0), some (.int a), some (.int b)]) (by decide) rfl (Nat.le_of_ble_eq_true rfl) ?_
  refine J_ald0 dX10_earned_0 ?_
  refine J_getr (q := 4) fl_RX10_25 dX10_earned_1 kk_0 rfl (rf_10_3 kk_0) ?_
  refine J_ild1 dX10_earned_4 ?_
  refine J_cVB (jX1_hasBegun l cx n 4 kk_4 a M) ck_RX10_113 dX10_earned_5 rfl kk_4 ⟨rfl, rfl, by decide, by decide⟩ ⟨Nat.zero_le _, Nat.zero_le _, Nat.le_of_ble_eq_true rfl⟩ (fun r1 z2 => ?_)
  refine J_if_eq 22 dX10_earned_8 rfl ?_ ?_
  · refine J_ldc dX10_earned_22 wd_42 ?_
    exact J_iret dX10_earned_24 rfl ⟨rfl, rfl, rfl⟩
  · refine J_ild2 dX10_earned_11 ?_
    refine J_if_lt 22 dX10_earned_12 rfl ?_ ?_
    · refine J_ldc dX10_earned_22 wd_42 ?_
      exact J_iret dX10_earned_24 rfl ⟨rfl, rfl, rfl⟩
    · refine J_ild2 dX10_earned_15 ?_
      refine J_sipush (v := 3653) dX10_earned_16 rfl ?_
      refine J_ic_le 25 dX10_earned_19 rfl ?_ ?_
      · refine J_ald0 dX10_earned_25 ?_
        refine J_getr (q := 4) fl_RX10_25 dX10_earned_26 kk_0 rfl (rf_10_3 kk_0) ?_
        refine J_getr (q := 40) fl_RX10_70 dX10_earned_29 kk_4 rfl (rf_1_3 kk_4) ?_
        refine J_ild1 dX10_earned_32 ?_
        refine J_ild2 dX10_earned_33 ?_
        refine J_cVP (jX5_sumEarned l cx n 40 kk_40 a b M) ck_RX10_204 dX10_earned_34 rfl kk_40 ⟨rfl, rfl, by decide, by decide⟩ ⟨Nat.zero_le _, Nat.zero_le _, Nat.le_of_ble_eq_true rfl⟩ (fun r3 => ?_)
        exact J_iret dX10_earned_37 rfl ⟨rfl, rfl, rfl⟩
      · refine J_ldc dX10_earned_22 wd_42 ?_
        exact J_iret dX10_earned_24 rfl ⟨rfl, rfl, rfl⟩
set_option maxRecDepth 100000 in
theorem jX10_period (l : Launch) (cx : CX) (n : Nat) (a : Int32) (b : Int32) (M : Mem) : Con l cx ({ frames := 2, cells := 0, slots := 0, locals := 46 } : Room) yX10_period cX10_period 3 (some .int) 0 0 false 0 207 (EP M) GS [.ref 0, .int a, .int b] M (mX10_period n a b M) := by
  unfold mX10_period
  refine Con.of (ls := [some (.ref 0), some (.int a), some (.int b)]) (by decide) rfl (Nat.le_of_ble_eq_true rfl) ?_
  refine J_ald0 dX10_period_0 ?_
  refine J_getr (q := 4) fl_RX10_25 dX10_period_1 kk_0 rfl (rf_10_3 kk_0) ?_
  refine J_ild1 dX10_period_4 ?_
  refine J_cVB (jX1_hasBegun l cx n 4 kk_4 a M) ck_RX10_113 dX10_period_5 rfl kk_4 ⟨rfl, rfl, by decide, by decide⟩ ⟨Nat.zero_le _, Nat.zero_le _, Nat.le_of_ble_eq_true rfl⟩ (fun r1 z2 => ?_)
  refine J_if_eq 22 dX10_period_8 rfl ?_ ?_
  · refine J_ldc dX10_period_22 wd_42 ?_
    exact J_iret dX10_period_24 rfl ⟨rfl, rfl, rfl⟩
  · refine J_ild2 dX10_period_11 ?_
    refine J_if_lt 22 dX10_period_12 rfl ?_ ?_
    · refine J_ldc dX10_period_22 wd_42 ?_
      exact J_iret dX10_period_24 rfl ⟨rfl, rfl, rfl⟩
    · refine J_ild2 dX10_period_15 ?_
      refine J_sipush (v := 199) dX10_period_16 rfl ?_
      refine J_ic_le 25 dX10_period_19 rfl ?_ ?_
      · refine J_ald0 dX10_period_25 ?_
        refine J_getr (q := 4) fl_RX10_25 dX10_period_26 kk_0 rfl (rf_10_3 kk_0) ?_
        refine J_getr (q := 40) fl_RX10_70 dX10_period_29 kk_4 rfl (rf_1_3 kk_4) ?_
        refine J_ild1 dX10_period_32 ?_
        refine J_ild2 dX10_period_33 ?_
        refine J_cVP (jX5_sumOfPeriod l cx n 40 kk_40 a b M) ck_RX10_207 dX10_period_34 rfl kk_40 ⟨rfl, rfl, by decide, by decide⟩ ⟨Nat.zero_le _, Nat.zero_le _, Nat.le_of_ble_eq_true rfl⟩ (fun r3 => ?_)
        exact J_iret dX10_period_37 rfl ⟨rfl, rfl, rfl⟩
      · refine J_ldc dX10_period_22 wd_42 ?_
        exact J_iret dX10_period_24 rfl ⟨rfl, rfl, rfl⟩
set_option maxRecDepth 100000 in
theorem jX10_taxes (l : Launch) (cx : CX) (n : Nat) (a : Int32) (b : Int32) (M : Mem) : Con l cx ({ frames := 3, cells := 0, slots := 0, locals := 71 } : Room) yX10_taxes cX10_taxes 3 (some .int) 0 0 false 0 207 (EP M) GS [.ref 0, .int a, .int b] M (mX10_taxes n a b M) := by
  unfold mX10_taxes
  refine Con.of (ls := [some (.ref 0), some (.int a), some (.int b)]) (by decide) rfl (Nat.le_of_ble_eq_true rfl) ?_
  refine J_ald0 dX10_taxes_0 ?_
  refine J_getr (q := 4) fl_RX10_25 dX10_taxes_1 kk_0 rfl (rf_10_3 kk_0) ?_
  refine J_ild1 dX10_taxes_4 ?_
  refine J_cVB (jX1_hasBegun l cx n 4 kk_4 a M) ck_RX10_113 dX10_taxes_5 rfl kk_4 ⟨rfl, rfl, by decide, by decide⟩ ⟨Nat.zero_le _, Nat.zero_le _, Nat.le_of_ble_eq_true rfl⟩ (fun r1 z2 => ?_)
  refine J_if_eq 21 dX10_taxes_8 rfl ?_ ?_
  · refine J_ldc dX10_taxes_21 wd_42 ?_
    exact J_iret dX10_taxes_23 rfl ⟨rfl, rfl, rfl⟩
  · refine J_ild2 dX10_taxes_11 ?_
    refine J_if_lt 21 dX10_taxes_12 rfl ?_ ?_
    · refine J_ldc dX10_taxes_21 wd_42 ?_
      exact J_iret dX10_taxes_23 rfl ⟨rfl, rfl, rfl⟩
    · refine J_ild2 dX10_taxes_15 ?_
      refine J_bipush (v := 100) dX10_taxes_16 rfl ?_
      refine J_ic_le 24 dX10_taxes_18 rfl ?_ ?_
      · refine J_ald0 dX10_taxes_24 ?_
        refine J_getr (q := 4) fl_RX10_25 dX10_taxes_25 kk_0 rfl (rf_10_3 kk_0) ?_
        refine J_ild1 dX10_taxes_28 ?_
        refine J_ild2 dX10_taxes_29 ?_
        refine J_cVP (jX1_taxesOf l cx n 4 kk_4 a b M) ck_RX10_210 dX10_taxes_30 rfl kk_4 ⟨rfl, rfl, by decide, by decide⟩ ⟨Nat.zero_le _, Nat.zero_le _, Nat.le_of_ble_eq_true rfl⟩ (fun r3 => ?_)
        exact J_iret dX10_taxes_33 rfl ⟨rfl, rfl, rfl⟩
      · refine J_ldc dX10_taxes_21 wd_42 ?_
        exact J_iret dX10_taxes_23 rfl ⟨rfl, rfl, rfl⟩
set_option maxRecDepth 100000 in
theorem jX10_quote (l : Launch) (cx : CX) (n : Nat) (a : Int32) (b : Int32) (c : Int32) (M : Mem) : Con l cx ({ frames := 3, cells := 0, slots := 0, locals := 70 } : Room) yX10_quote cX10_quote 5 (some .int) 0 0 false 0 207 (EP M) GS [.ref 0, .int a, .int b, .int c] M (mX10_quote n a b c M) := by
  unfold mX10_quote
  refine Con.of (ls := [some (.ref 0), some (.int a), some (.int b), some (.int c), none]) (by decide) rfl (Nat.le_of_ble_eq_true rfl) ?_
  refine J_ald0 dX10_quote_0 ?_
  refine J_getr (q := 4) fl_RX10_25 dX10_quote_1 kk_0 rfl (rf_10_3 kk_0) ?_
  refine J_ild1 dX10_quote_4 ?_
  refine J_cVB (jX1_isRunning l cx n 4 kk_4 a M) ck_RX10_213 dX10_quote_5 rfl kk_4 ⟨rfl, rfl, by decide, by decide⟩ ⟨Nat.zero_le _, Nat.zero_le _, Nat.le_of_ble_eq_true rfl⟩ (fun r1 z2 => ?_)
  refine J_if_eq 18 dX10_quote_8 rfl ?_ ?_
  · refine J_ldc dX10_quote_18 wd_42 ?_
    exact J_iret dX10_quote_20 rfl ⟨rfl, rfl, rfl⟩
  · refine J_ild2 dX10_quote_11 ?_
    refine J_cSB (jX10_isPlan l cx n b M) ck_RX10_216 dX10_quote_12 rfl ⟨rfl, rfl, by decide, by decide⟩ ⟨Nat.zero_le _, Nat.zero_le _, Nat.le_of_ble_eq_true rfl⟩ (fun r3 z4 => ?_)
    refine J_if_ne 21 dX10_quote_15 rfl ?_ ?_
    · refine J_ald0 dX10_quote_21 ?_
      refine J_getr (q := 4) fl_RX10_25 dX10_quote_22 kk_0 rfl (rf_10_3 kk_0) ?_
      refine J_getr (q := 39) fl_RX10_116 dX10_quote_25 kk_4 rfl (rf_1_2 kk_4) ?_
      refine J_ild1 dX10_quote_28 ?_
      refine J_aald (q := (39 + 12 + Int32.toNatClampNeg a)) dX10_quote_29 kk_39 (Or.inl rfl) rfl (fun g5 => (aal_15 kk_39 g5).1) (fun g5 => ?_)
      refine J_ast4 dX10_quote_30 (by decide) rfl ?_
      refine J_ild3 dX10_quote_32 ?_
      refine J_ald0 dX10_quote_33 ?_
      refine J_getr (q := 4) fl_RX10_25 dX10_quote_34 kk_0 rfl (rf_10_3 kk_0) ?_
      refine J_geti fl_RX10_137 dX10_quote_37 kk_4 rfl ?_
      refine J_ic_lt 52 dX10_quote_40 rfl ?_ ?_
      · refine J_ldc dX10_quote_52 wd_42 ?_
        exact J_iret dX10_quote_54 rfl ⟨rfl, rfl, rfl⟩
      · refine J_ild3 dX10_quote_43 ?_
        refine J_ald4 dX10_quote_44 ?_
        refine J_geti fl_RX10_219 dX10_quote_46 (aal_15 kk_39 g5).2 rfl ?_
        refine J_ic_lt 55 dX10_quote_49 rfl ?_ ?_
        · refine J_ald0 dX10_quote_55 ?_
          refine J_getr (q := 4) fl_RX10_25 dX10_quote_56 kk_0 rfl (rf_10_3 kk_0) ?_
          refine J_ald4 dX10_quote_59 ?_
          refine J_ild2 dX10_quote_61 ?_
          refine J_ild3 dX10_quote_62 ?_
          refine J_cVP (jX1_quoteOn l cx n 4 kk_4 (39 + 12 + Int32.toNatClampNeg a) (aal_15 kk_39 g5).2 b c M) ck_RX10_222 dX10_quote_63 rfl kk_4 ⟨rfl, rfl, by decide, by decide⟩ ⟨Nat.zero_le _, Nat.zero_le _, Nat.le_of_ble_eq_true rfl⟩ (fun r6 => ?_)
          exact J_iret dX10_quote_66 rfl ⟨rfl, rfl, rfl⟩
        · refine J_ldc dX10_quote_52 wd_42 ?_
          exact J_iret dX10_quote_54 rfl ⟨rfl, rfl, rfl⟩
    · refine J_ldc dX10_quote_18 wd_42 ?_
      exact J_iret dX10_quote_20 rfl ⟨rfl, rfl, rfl⟩
set_option maxRecDepth 100000 in
theorem jX10_best (l : Launch) (cx : CX) (n : Nat) (a : Int32) (b : Int32) (c : Int32) (M : Mem) : Con l cx ({ frames := 4, cells := 0, slots := 0, locals := 96 } : Room) yX10_best cX10_best 5 (some .int) 0 0 false 0 207 (EP M) GS [.ref 0, .int a, .int b, .int c] M (mX10_best n a b c M) := by
  unfold mX10_best
  refine Con.of (ls := [some (.ref 0), some (.int a), some (.int b), some (.int c), none]) (by decide) rfl (Nat.le_of_ble_eq_true rfl) ?_
  refine J_ald0 dX10_best_0 ?_
  refine J_getr (q := 4) fl_RX10_25 dX10_best_1 kk_0 rfl (rf_10_3 kk_0) ?_
  refine J_ild1 dX10_best_4 ?_
  refine J_cVB (jX1_isRunning l cx n 4 kk_4 a M) ck_RX10_213 dX10_best_5 rfl kk_4 ⟨rfl, rfl, by decide, by decide⟩ ⟨Nat.zero_le _, Nat.zero_le _, Nat.le_of_ble_eq_true rfl⟩ (fun r1 z2 => ?_)
  refine J_if_eq 18 dX10_best_8 rfl ?_ ?_
  · refine J_ldc dX10_best_18 wd_42 ?_
    exact J_iret dX10_best_20 rfl ⟨rfl, rfl, rfl⟩
  · refine J_ild2 dX10_best_11 ?_
    refine J_cSB (jX10_isPlan l cx n b M) ck_RX10_216 dX10_best_12 rfl ⟨rfl, rfl, by decide, by decide⟩ ⟨Nat.zero_le _, Nat.zero_le _, Nat.le_of_ble_eq_true rfl⟩ (fun r3 z4 => ?_)
    refine J_if_ne 21 dX10_best_15 rfl ?_ ?_
    · refine J_ald0 dX10_best_21 ?_
      refine J_getr (q := 4) fl_RX10_25 dX10_best_22 kk_0 rfl (rf_10_3 kk_0) ?_
      refine J_getr (q := 39) fl_RX10_116 dX10_best_25 kk_4 rfl (rf_1_2 kk_4) ?_
      refine J_ild1 dX10_best_28 ?_
      refine J_aald (q := (39 + 12 + Int32.toNatClampNeg a)) dX10_best_29 kk_39 (Or.inl rfl) rfl (fun g5 => (aal_15 kk_39 g5).1) (fun g5 => ?_)
      refine J_ast4 dX10_best_30 (by decide) rfl ?_
      refine J_ild3 dX10_best_32 ?_
      refine J_swIn (v := 0) 60 dX10_best_33 (by decide) (by decide) rfl rfl ?_ (fun w7 => ?_)
      · refine J_ald0 dX10_best_60 ?_
        refine J_getr (q := 4) fl_RX10_25 dX10_best_61 kk_0 rfl (rf_10_3 kk_0) ?_
        refine J_ald4 dX10_best_64 ?_
        refine J_ild2 dX10_best_66 ?_
        refine J_cVP (jX1_cheapestDay l cx n 4 kk_4 (39 + 12 + Int32.toNatClampNeg a) (aal_15 kk_39 g5).2 b M) ck_RX10_226 dX10_best_67 rfl kk_4 ⟨rfl, rfl, by decide, by decide⟩ ⟨Nat.zero_le _, Nat.zero_le _, Nat.le_of_ble_eq_true rfl⟩ (fun r6 => ?_)
        exact J_iret dX10_best_70 rfl ⟨rfl, rfl, rfl⟩
      refine J_swIn (v := 1) 71 dX10_best_33 (by decide) (by decide) rfl rfl ?_ (fun w10 => ?_)
      · refine J_ald0 dX10_best_71 ?_
        refine J_getr (q := 4) fl_RX10_25 dX10_best_72 kk_0 rfl (rf_10_3 kk_0) ?_
        refine J_ald4 dX10_best_75 ?_
        refine J_ild2 dX10_best_77 ?_
        refine J_ald0 dX10_best_78 ?_
        refine J_getr (q := 4) fl_RX10_25 dX10_best_79 kk_0 rfl (rf_10_3 kk_0) ?_
        refine J_ald4 dX10_best_82 ?_
        refine J_ild2 dX10_best_84 ?_
        refine J_cVP (jX1_cheapestDay l cx n 4 kk_4 (39 + 12 + Int32.toNatClampNeg a) (aal_15 kk_39 g5).2 b M) ck_RX10_226 dX10_best_85 rfl kk_4 ⟨rfl, rfl, by decide, by decide⟩ ⟨Nat.zero_le _, Nat.zero_le _, Nat.le_of_ble_eq_true rfl⟩ (fun r8 => ?_)
        refine J_cVP (jX1_quoteOn l cx n 4 kk_4 (39 + 12 + Int32.toNatClampNeg a) (aal_15 kk_39 g5).2 b r8 M) ck_RX10_222 dX10_best_88 rfl kk_4 ⟨rfl, rfl, by decide, by decide⟩ ⟨Nat.zero_le _, Nat.zero_le _, Nat.le_of_ble_eq_true rfl⟩ (fun r9 => ?_)
        exact J_iret dX10_best_91 rfl ⟨rfl, rfl, rfl⟩
      refine J_swIn (v := 2) 92 dX10_best_33 (by decide) (by decide) rfl rfl ?_ (fun w12 => ?_)
      · refine J_ald0 dX10_best_92 ?_
        refine J_getr (q := 4) fl_RX10_25 dX10_best_93 kk_0 rfl (rf_10_3 kk_0) ?_
        refine J_ald4 dX10_best_96 ?_
        refine J_cVP (jX1_cheapestChange l cx n 4 kk_4 (39 + 12 + Int32.toNatClampNeg a) (aal_15 kk_39 g5).2 M) ck_RX10_230 dX10_best_98 rfl kk_4 ⟨rfl, rfl, by decide, by decide⟩ ⟨Nat.zero_le _, Nat.zero_le _, Nat.le_of_ble_eq_true rfl⟩ (fun r11 => ?_)
        exact J_iret dX10_best_101 rfl ⟨rfl, rfl, rfl⟩
      refine J_swOut 102 dX10_best_33 (sw_out 3 rfl (fun k hk => sw_c3 (P := fun k => ¬ c = Int32.ofInt (0 + (k : Int))) hk w7 w10 w12)) rfl ?_
      refine J_ldc dX10_best_102 wd_42 ?_
      exact J_iret dX10_best_104 rfl ⟨rfl, rfl, rfl⟩
    · refine J_ldc dX10_best_18 wd_42 ?_
      exact J_iret dX10_best_20 rfl ⟨rfl, rfl, rfl⟩
set_option maxRecDepth 100000 in
theorem jX10_ahead (l : Launch) (cx : CX) (n : Nat) (a : Int32) (b : Int32) (M : Mem) : Con l cx ({ frames := 6, cells := 0, slots := 0, locals := 136 } : Room) yX10_ahead cX10_ahead 3 (some .int) 0 0 false 0 207 EI GS [.ref 0, .int a, .int b] M (mX10_ahead n a b M) := by
  unfold mX10_ahead
  refine Con.of (ls := [some (.ref 0), some (.int a), some (.int b)]) (by decide) rfl (Nat.le_of_ble_eq_true rfl) ?_
  refine J_ald0 dX10_ahead_0 ?_
  refine J_getr (q := 4) fl_RX10_25 dX10_ahead_1 kk_0 rfl (rf_10_3 kk_0) ?_
  refine J_ild1 dX10_ahead_4 ?_
  refine J_cVB (jX1_hasBegun l cx n 4 kk_4 a M) ck_RX10_113 dX10_ahead_5 rfl kk_4 ⟨rfl, rfl, by decide, by decide⟩ ⟨Nat.zero_le _, Nat.zero_le _, Nat.le_of_ble_eq_true rfl⟩ (fun r1 z2 => ?_)
  refine J_if_eq 22 dX10_ahead_8 rfl ?_ ?_
  · refine J_ldc dX10_ahead_22 wd_42 ?_
    exact J_iret dX10_ahead_24 rfl ⟨rfl, rfl, rfl⟩
  · refine J_ild2 dX10_ahead_11 ?_
    refine J_if_lt 22 dX10_ahead_12 rfl ?_ ?_
    · refine J_ldc dX10_ahead_22 wd_42 ?_
      exact J_iret dX10_ahead_24 rfl ⟨rfl, rfl, rfl⟩
    · refine J_ild2 dX10_ahead_15 ?_
      refine J_sipush (v := 400) dX10_ahead_16 rfl ?_
      refine J_ic_le 25 dX10_ahead_19 rfl ?_ ?_
      · refine J_ald0 dX10_ahead_25 ?_
        refine J_getr (q := 110) fl_RX10_32 dX10_ahead_26 kk_0 rfl (rf_10_5 kk_0) ?_
        refine J_ald0 dX10_ahead_29 ?_
        refine J_getr (q := 4) fl_RX10_25 dX10_ahead_30 kk_0 rfl (rf_10_3 kk_0) ?_
        refine J_cVV (jX1_copyFrom l cx n 110 kk_110 4 kk_4 M) ck_RX10_110 dX10_ahead_33 rfl kk_110 ⟨rfl, rfl, by decide, by decide⟩ ⟨Nat.zero_le _, Nat.zero_le _, Nat.le_of_ble_eq_true rfl⟩ (fun M4 => ?_)
        refine J_ild2 dX10_ahead_36 ?_
        refine J_if_le 49 dX10_ahead_37 rfl ?_ ?_
        · refine J_ald0 dX10_ahead_49 ?_
          refine J_getr (q := 110) fl_RX10_32 dX10_ahead_50 kk_0 rfl (rf_10_5 kk_0) ?_
          refine J_getr (q := 145) fl_RX10_116 dX10_ahead_53 kk_110 rfl (rf_1_2 kk_110) ?_
          refine J_ild1 dX10_ahead_56 ?_
          refine J_aald (q := (145 + 12 + Int32.toNatClampNeg a)) dX10_ahead_57 kk_145 (Or.inl rfl) rfl (fun g5 => (aal_15 kk_145 g5).1) (fun g5 => ?_)
          refine J_geti fl_RX10_120 dX10_ahead_58 (aal_15 kk_145 g5).2 rfl ?_
          exact J_iret dX10_ahead_61 rfl ⟨rfl, rfl, rfl⟩
        · refine J_ald0 dX10_ahead_40 ?_
          refine J_getr (q := 110) fl_RX10_32 dX10_ahead_41 kk_0 rfl (rf_10_5 kk_0) ?_
          refine J_ild2 dX10_ahead_44 ?_
          refine J_cVI (jX1_passDays l cx n 110 kk_110 b M4) ck_RX10_164 dX10_ahead_45 rfl kk_110 ⟨rfl, rfl, by decide, by decide⟩ ⟨Nat.zero_le _, Nat.zero_le _, Nat.le_of_ble_eq_true rfl⟩ (fun r6 M7 => ?_)
          refine J_pop_i dX10_ahead_48 ?_
          refine J_ald0 dX10_ahead_49 ?_
          refine J_getr (q := 110) fl_RX10_32 dX10_ahead_50 kk_0 rfl (rf_10_5 kk_0) ?_
          refine J_getr (q := 145) fl_RX10_116 dX10_ahead_53 kk_110 rfl (rf_1_2 kk_110) ?_
          refine J_ild1 dX10_ahead_56 ?_
          refine J_aald (q := (145 + 12 + Int32.toNatClampNeg a)) dX10_ahead_57 kk_145 (Or.inl rfl) rfl (fun g8 => (aal_15 kk_145 g8).1) (fun g8 => ?_)
          refine J_geti fl_RX10_120 dX10_ahead_58 (aal_15 kk_145 g8).2 rfl ?_
          exact J_iret dX10_ahead_61 rfl ⟨rfl, rfl, rfl⟩
      · refine J_ldc dX10_ahead_22 wd_42 ?_
        exact J_iret dX10_ahead_24 rfl ⟨rfl, rfl, rfl⟩
set_option maxRecDepth 100000 in
theorem jX10_when_c26 {l : Launch} {cx : CX} {n : Nat} : ∀ (f : Nat) {v1 : Int32} {v2 : Int32} {v3 : Int32} {M : Mem}, JO l cx ({ frames := 5, cells := 0, slots := 0, locals := 114 } : Room) yX10_when cX10_when 4 (some .int) 0 0 false 0 207 EI GS 0 0 26 [some (.ref 0), some (.int v1), some (.int v2), some (.int v3)] [] M (mX10_when_c26 n f v1 v2 v3 M) := by
  intro f
  induction f with
  | zero =>
    intros
    exact J_none
  | succ f ih =>
    intro v1 v2 v3 M
    unfold mX10_when_c26
    refine J_ild3 dX10_when_26 ?_
    refine J_sipush (v := 400) dX10_when_27 rfl ?_
    refine J_ic_gt 84 dX10_when_30 rfl ?_ ?_
    · refine J_bipush (v := -2) dX10_when_84 rfl ?_
      exact J_iret dX10_when_86 rfl ⟨rfl, rfl, rfl⟩
    · refine J_ald0 dX10_when_33 ?_
      refine J_getr (q := 110) fl_RX10_32 dX10_when_34 kk_0 rfl (rf_10_5 kk_0) ?_
      refine J_getr (q := 145) fl_RX10_116 dX10_when_37 kk_110 rfl (rf_1_2 kk_110) ?_
      refine J_ild1 dX10_when_40 ?_
      refine J_aald (q := (145 + 12 + Int32.toNatClampNeg v1)) dX10_when_41 kk_145 (Or.inl rfl) rfl (fun g1 => (aal_15 kk_145 g1).1) (fun g1 => ?_)
      refine J_geti fl_RX10_120 dX10_when_42 (aal_15 kk_145 g1).2 rfl ?_
      refine J_ild2 dX10_when_45 ?_
      refine J_ic_lt 51 dX10_when_46 rfl ?_ ?_
      · refine J_ild3 dX10_when_51 ?_
        refine J_sipush (v := 400) dX10_when_52 rfl ?_
        refine J_ic_eq 68 dX10_when_55 rfl ?_ ?_
        · refine J_bipush (v := -2) dX10_when_68 rfl ?_
          exact J_iret dX10_when_70 rfl ⟨rfl, rfl, rfl⟩
        · refine J_ald0 dX10_when_58 ?_
          refine J_getr (q := 110) fl_RX10_32 dX10_when_59 kk_0 rfl (rf_10_5 kk_0) ?_
          refine J_cVB (jX1_canPassDay l cx n 110 kk_110 M) ck_RX10_234 dX10_when_62 rfl kk_110 ⟨rfl, rfl, by decide, by decide⟩ ⟨Nat.zero_le _, Nat.zero_le _, Nat.le_of_ble_eq_true rfl⟩ (fun r2 z3 => ?_)
          refine J_if_ne 71 dX10_when_65 rfl ?_ ?_
          · refine J_ald0 dX10_when_71 ?_
            refine J_getr (q := 110) fl_RX10_32 dX10_when_72 kk_0 rfl (rf_10_5 kk_0) ?_
            refine J_cVV (jX1_passDay l cx n 110 kk_110 M) ck_RX10_238 dX10_when_75 rfl kk_110 ⟨rfl, rfl, by decide, by decide⟩ ⟨Nat.zero_le _, Nat.zero_le _, Nat.le_of_ble_eq_true rfl⟩ (fun M5 => ?_)
            refine J_iinc3 (w := (v3 + (1 : Int32))) dX10_when_78 (by decide) rfl rfl ?_
            refine J_goto 26 dX10_when_81 rfl ?_
            exact J_wk (wk_s (wk_s (wk_s (wk_s wk_0)))) (ih)
          · refine J_bipush (v := -2) dX10_when_68 rfl ?_
            exact J_iret dX10_when_70 rfl ⟨rfl, rfl, rfl⟩
      · refine J_ild3 dX10_when_49 ?_
        exact J_iret dX10_when_50 rfl ⟨rfl, rfl, rfl⟩
set_option maxRecDepth 100000 in
theorem jX10_when (l : Launch) (cx : CX) (n : Nat) (a : Int32) (b : Int32) (M : Mem) : Con l cx ({ frames := 5, cells := 0, slots := 0, locals := 114 } : Room) yX10_when cX10_when 4 (some .int) 0 0 false 0 207 EI GS [.ref 0, .int a, .int b] M (mX10_when n a b M) := by
  unfold mX10_when
  refine Con.of (ls := [some (.ref 0), some (.int a), some (.int b), none]) (by decide) rfl (Nat.le_of_ble_eq_true rfl) ?_
  refine J_ald0 dX10_when_0 ?_
  refine J_getr (q := 4) fl_RX10_25 dX10_when_1 kk_0 rfl (rf_10_3 kk_0) ?_
  refine J_ild1 dX10_when_4 ?_
  refine J_cVB (jX1_hasBegun l cx n 4 kk_4 a M) ck_RX10_113 dX10_when_5 rfl kk_4 ⟨rfl, rfl, by decide, by decide⟩ ⟨Nat.zero_le _, Nat.zero_le _, Nat.le_of_ble_eq_true rfl⟩ (fun r6 z7 => ?_)
  refine J_if_ne 13 dX10_when_8 rfl ?_ ?_
  · refine J_ald0 dX10_when_13 ?_
    refine J_getr (q := 110) fl_RX10_32 dX10_when_14 kk_0 rfl (rf_10_5 kk_0) ?_
    refine J_ald0 dX10_when_17 ?_
    refine J_getr (q := 4) fl_RX10_25 dX10_when_18 kk_0 rfl (rf_10_3 kk_0) ?_
    refine J_cVV (jX1_copyFrom l cx n 110 kk_110 4 kk_4 M) ck_RX10_110 dX10_when_21 rfl kk_110 ⟨rfl, rfl, by decide, by decide⟩ ⟨Nat.zero_le _, Nat.zero_le _, Nat.le_of_ble_eq_true rfl⟩ (fun M9 => ?_)
    refine J_iconst (v := 0) dX10_when_24 rfl ?_
    refine J_ist3 dX10_when_25 (by decide) rfl ?_
    exact J_wk (wk_s (wk_s (wk_s (wk_s wk_0)))) (jX10_when_c26 (n := n) n)
  · refine J_iconst (v := -1) dX10_when_11 rfl ?_
    exact J_iret dX10_when_12 rfl ⟨rfl, rfl, rfl⟩
set_option maxRecDepth 100000 in
theorem jX10_tax (l : Launch) (cx : CX) (n : Nat) (a : Int32) (M : Mem) : Con l cx ({ frames := 3, cells := 0, slots := 0, locals := 73 } : Room) yX10_tax cX10_tax 2 (some .int) 0 0 false 0 207 (EP M) GS [.ref 0, .int a] M (mX10_tax n a M) := by
  unfold mX10_tax
  refine Con.of (ls := [some (.ref 0), some (.int a)]) (by decide) rfl (Nat.le_of_ble_eq_true rfl) ?_
  refine J_ald0 dX10_tax_0 ?_
  refine J_getr (q := 4) fl_RX10_25 dX10_tax_1 kk_0 rfl (rf_10_3 kk_0) ?_
  refine J_ild1 dX10_tax_4 ?_
  refine J_cVP (jX1_taxOf l cx n 4 kk_4 a M) ck_RX10_241 dX10_tax_5 rfl kk_4 ⟨rfl, rfl, by decide, by decide⟩ ⟨Nat.zero_le _, Nat.zero_le _, Nat.le_of_ble_eq_true rfl⟩ (fun r1 => ?_)
  exact J_iret dX10_tax_8 rfl ⟨rfl, rfl, rfl⟩
set_option maxRecDepth 100000 in
theorem jX10_open (l : Launch) (cx : CX) (n : Nat) (a : Int32) (M : Mem) : Con l cx ({ frames := 3, cells := 0, slots := 0, locals := 70 } : Room) yX10_open cX10_open 3 (some .int) 0 0 false 0 207 (EP M) GS [.ref 0, .int a] M (mX10_open n a M) := by
  unfold mX10_open
  refine Con.of (ls := [some (.ref 0), some (.int a), none]) (by decide) rfl (Nat.le_of_ble_eq_true rfl) ?_
  refine J_ald0 dX10_open_0 ?_
  refine J_getr (q := 4) fl_RX10_25 dX10_open_1 kk_0 rfl (rf_10_3 kk_0) ?_
  refine J_getr (q := 40) fl_RX10_70 dX10_open_4 kk_4 rfl (rf_1_3 kk_4) ?_
  refine J_ild1 dX10_open_7 ?_
  refine J_cVB (jX5_has l cx n 40 kk_40 a M) ck_RX10_126 dX10_open_8 rfl kk_40 ⟨rfl, rfl, by decide, by decide⟩ ⟨Nat.zero_le _, Nat.zero_le _, Nat.le_of_ble_eq_true rfl⟩ (fun r1 z2 => ?_)
  refine J_if_ne 17 dX10_open_11 rfl ?_ ?_
  · refine J_ald0 dX10_open_17 ?_
    refine J_getr (q := 4) fl_RX10_25 dX10_open_18 kk_0 rfl (rf_10_3 kk_0) ?_
    refine J_getr (q := 40) fl_RX10_70 dX10_open_21 kk_4 rfl (rf_1_3 kk_4) ?_
    refine J_getr (q := 42) fl_RX10_244 dX10_open_24 kk_40 rfl (rf_5_2 kk_40) ?_
    refine J_ild1 dX10_open_27 ?_
    refine J_iald dX10_open_28 kk_42 rfl ?_
    refine J_ist2 dX10_open_29 (by decide) rfl ?_
    refine J_ild2 dX10_open_30 ?_
    refine J_cSB (jX10_isAccount l cx n (M 42 (Int32.toNatClampNeg a)) M) ck_RX10_107 dX10_open_31 rfl ⟨rfl, rfl, by decide, by decide⟩ ⟨Nat.zero_le _, Nat.zero_le _, Nat.le_of_ble_eq_true rfl⟩ (fun r3 z4 => ?_)
    refine J_if_eq 63 dX10_open_34 rfl ?_ ?_
    · refine J_ldc dX10_open_63 wd_42 ?_
      exact J_iret dX10_open_65 rfl ⟨rfl, rfl, rfl⟩
    · refine J_ald0 dX10_open_37 ?_
      refine J_getr (q := 4) fl_RX10_25 dX10_open_38 kk_0 rfl (rf_10_3 kk_0) ?_
      refine J_getr (q := 40) fl_RX10_70 dX10_open_41 kk_4 rfl (rf_1_3 kk_4) ?_
      refine J_ild1 dX10_open_44 ?_
      refine J_ald0 dX10_open_45 ?_
      refine J_getr (q := 4) fl_RX10_25 dX10_open_46 kk_0 rfl (rf_10_3 kk_0) ?_
      refine J_getr (q := 39) fl_RX10_116 dX10_open_49 kk_4 rfl (rf_1_2 kk_4) ?_
      refine J_ild2 dX10_open_52 ?_
      refine J_aald (q := (39 + 12 + Int32.toNatClampNeg (M 42 (Int32.toNatClampNeg a)))) dX10_open_53 kk_39 (Or.inl rfl) rfl (fun g5 => (aal_15 kk_39 g5).1) (fun g5 => ?_)
      refine J_geti fl_RX10_195 dX10_open_54 (aal_15 kk_39 g5).2 rfl ?_
      refine J_cVP (jX5_openOf l cx n 40 kk_40 a (M (39 + 12 + Int32.toNatClampNeg (M 42 (Int32.toNatClampNeg a))) 12) M) ck_RX10_247 dX10_open_57 rfl kk_40 ⟨rfl, rfl, by decide, by decide⟩ ⟨Nat.zero_le _, Nat.zero_le _, Nat.le_of_ble_eq_true rfl⟩ (fun r6 => ?_)
      refine J_goto 65 dX10_open_60 rfl ?_
      exact J_iret dX10_open_65 rfl ⟨rfl, rfl, rfl⟩
  · refine J_ldc dX10_open_14 wd_42 ?_
    exact J_iret dX10_open_16 rfl ⟨rfl, rfl, rfl⟩
set_option maxRecDepth 100000 in
theorem jX10_written (l : Launch) (cx : CX) (n : Nat) (a : Int32) (b : Int32) (M : Mem) : Con l cx ({ frames := 1, cells := 0, slots := 0, locals := 24 } : Room) yX10_written cX10_written 3 (some .int) 0 0 false 0 207 (EP M) GS [.ref 0, .int a, .int b] M (mX10_written n a b M) := by
  unfold mX10_written
  refine Con.of (ls := [some (.ref 0), some (.int a), some (.int b)]) (by decide) rfl (Nat.le_of_ble_eq_true rfl) ?_
  refine J_ild1 dX10_written_0 ?_
  refine J_if_lt 16 dX10_written_1 rfl ?_ ?_
  · refine J_ldc dX10_written_16 wd_42 ?_
    exact J_iret dX10_written_18 rfl ⟨rfl, rfl, rfl⟩
  · refine J_ild2 dX10_written_4 ?_
    refine J_ild1 dX10_written_5 ?_
    refine J_ic_lt 16 dX10_written_6 rfl ?_ ?_
    · refine J_ldc dX10_written_16 wd_42 ?_
      exact J_iret dX10_written_18 rfl ⟨rfl, rfl, rfl⟩
    · refine J_ild2 dX10_written_9 ?_
      refine J_sipush (v := 3652) dX10_written_10 rfl ?_
      refine J_ic_le 19 dX10_written_13 rfl ?_ ?_
      · refine J_ald0 dX10_written_19 ?_
        refine J_getr (q := 4) fl_RX10_25 dX10_written_20 kk_0 rfl (rf_10_3 kk_0) ?_
        refine J_getr (q := 40) fl_RX10_70 dX10_written_23 kk_4 rfl (rf_1_3 kk_4) ?_
        refine J_ild1 dX10_written_26 ?_
        refine J_ild2 dX10_written_27 ?_
        refine J_cVP (jX5_sumWritten l cx n 40 kk_40 a b M) ck_RX10_250 dX10_written_28 rfl kk_40 ⟨rfl, rfl, by decide, by decide⟩ ⟨Nat.zero_le _, Nat.zero_le _, Nat.le_of_ble_eq_true rfl⟩ (fun r1 => ?_)
        exact J_iret dX10_written_31 rfl ⟨rfl, rfl, rfl⟩
      · refine J_ldc dX10_written_16 wd_42 ?_
        exact J_iret dX10_written_18 rfl ⟨rfl, rfl, rfl⟩
set_option maxRecDepth 100000 in
theorem jX10_entry (l : Launch) (cx : CX) (n : Nat) (a : Int32) (b : Int32) (M : Mem) : Con l cx ({ frames := 2, cells := 0, slots := 0, locals := 43 } : Room) yX10_entry cX10_entry 3 (some .int) 0 0 false 0 207 (EP M) GS [.ref 0, .int a, .int b] M (mX10_entry a b M) := by
  unfold mX10_entry
  refine Con.of (ls := [some (.ref 0), some (.int a), some (.int b)]) (by decide) rfl (Nat.le_of_ble_eq_true rfl) ?_
  refine J_ald0 dX10_entry_0 ?_
  refine J_getr (q := 4) fl_RX10_25 dX10_entry_1 kk_0 rfl (rf_10_3 kk_0) ?_
  refine J_getr (q := 40) fl_RX10_70 dX10_entry_4 kk_4 rfl (rf_1_3 kk_4) ?_
  refine J_ild1 dX10_entry_7 ?_
  refine J_ild2 dX10_entry_8 ?_
  refine J_cVP (jX5_tell l cx n 40 kk_40 a b M) ck_RX10_253 dX10_entry_9 rfl kk_40 ⟨rfl, rfl, by decide, by decide⟩ ⟨Nat.zero_le _, Nat.zero_le _, Nat.le_of_ble_eq_true rfl⟩ (fun r1 => ?_)
  exact J_iret dX10_entry_12 rfl ⟨rfl, rfl, rfl⟩
set_option maxRecDepth 100000 in
theorem jX10_line (l : Launch) (cx : CX) (n : Nat) (a : Int32) (b : Int32) (M : Mem) : Con l cx ({ frames := 7, cells := 0, slots := 0, locals := 225 } : Room) yX10_line cX10_line 3 (some .int) 0 0 false 0 207 EI GS [.ref 0, .int a, .int b] M (mX10_line n a b M) := by
  unfold mX10_line
  refine Con.of (ls := [some (.ref 0), some (.int a), some (.int b)]) (by decide) rfl (Nat.le_of_ble_eq_true rfl) ?_
  refine J_ald0 dX10_line_0 ?_
  refine J_getr (q := 4) fl_RX10_25 dX10_line_1 kk_0 rfl (rf_10_3 kk_0) ?_
  refine J_getr (q := 40) fl_RX10_70 dX10_line_4 kk_4 rfl (rf_1_3 kk_4) ?_
  refine J_ild1 dX10_line_7 ?_
  refine J_cVB (jX5_has l cx n 40 kk_40 a M) ck_RX10_126 dX10_line_8 rfl kk_40 ⟨rfl, rfl, by decide, by decide⟩ ⟨Nat.zero_le _, Nat.zero_le _, Nat.le_of_ble_eq_true rfl⟩ (fun r1 z2 => ?_)
  refine J_if_ne 16 dX10_line_11 rfl ?_ ?_
  · refine J_ild2 dX10_line_16 ?_
    refine J_iconst (v := -1) dX10_line_17 rfl ?_
    refine J_ic_ge 24 dX10_line_18 rfl ?_ ?_
    · refine J_ald0 dX10_line_24 ?_
      refine J_getr (q := 205) fl_RX10_54 dX10_line_25 kk_0 rfl (rf_10_9 kk_0) ?_
      refine J_ald0 dX10_line_28 ?_
      refine J_getr (q := 4) fl_RX10_25 dX10_line_29 kk_0 rfl (rf_10_3 kk_0) ?_
      refine J_getr (q := 40) fl_RX10_70 dX10_line_32 kk_4 rfl (rf_1_3 kk_4) ?_
      refine J_ild1 dX10_line_35 ?_
      refine J_cVV (jX6_write l cx n 40 kk_40 a M) ck_RX10_255 dX10_line_36 rfl kk_205 ⟨rfl, rfl, by decide, by decide⟩ ⟨Nat.zero_le _, Nat.zero_le _, Nat.le_of_ble_eq_true rfl⟩ (fun M4 => ?_)
      refine J_ild2 dX10_line_39 ?_
      refine J_iconst (v := -1) dX10_line_40 rfl ?_
      refine J_ic_ne 54 dX10_line_41 rfl ?_ ?_
      · refine J_ald0 dX10_line_54 ?_
        refine J_getr (q := 205) fl_RX10_54 dX10_line_55 kk_0 rfl (rf_10_9 kk_0) ?_
        refine J_ild2 dX10_line_58 ?_
        refine J_cVP (jX6_byteAt l cx n b M4) ck_RX10_262 dX10_line_59 rfl kk_205 ⟨rfl, rfl, by decide, by decide⟩ ⟨Nat.zero_le _, Nat.zero_le _, Nat.le_of_ble_eq_true rfl⟩ (fun r5 => ?_)
        exact J_iret dX10_line_62 rfl ⟨rfl, rfl, rfl⟩
      · refine J_ald0 dX10_line_44 ?_
        refine J_getr (q := 205) fl_RX10_54 dX10_line_45 kk_0 rfl (rf_10_9 kk_0) ?_
        refine J_geti fl_RX10_259 dX10_line_48 kk_205 rfl ?_
        refine J_goto 62 dX10_line_51 rfl ?_
        exact J_iret dX10_line_62 rfl ⟨rfl, rfl, rfl⟩
    · refine J_bipush (v := -9) dX10_line_21 rfl ?_
      exact J_iret dX10_line_23 rfl ⟨rfl, rfl, rfl⟩
  · refine J_iconst (v := -1) dX10_line_14 rfl ?_
    exact J_iret dX10_line_15 rfl ⟨rfl, rfl, rfl⟩
set_option maxRecDepth 100000 in
theorem jX10_plan (l : Launch) (cx : CX) (n : Nat) (a : Int32) (b : Int32) (M : Mem) : Con l cx ({ frames := 2, cells := 0, slots := 0, locals := 43 } : Room) yX10_plan cX10_plan 3 (some .int) 0 0 false 0 207 (EP M) GS [.ref 0, .int a, .int b] M (mX10_plan a b M) := by
  unfold mX10_plan
  refine Con.of (ls := [some (.ref 0), some (.int a), some (.int b)]) (by decide) rfl (Nat.le_of_ble_eq_true rfl) ?_
  refine J_ild1 dX10_plan_0 ?_
  refine J_cSB (jX10_isPlan l cx n a M) ck_RX10_216 dX10_plan_1 rfl ⟨rfl, rfl, by decide, by decide⟩ ⟨Nat.zero_le _, Nat.zero_le _, Nat.le_of_ble_eq_true rfl⟩ (fun r1 z2 => ?_)
  refine J_if_eq 25 dX10_plan_4 rfl ?_ ?_
  · refine J_iconst (v := -1) dX10_plan_25 rfl ?_
    exact J_iret dX10_plan_26 rfl ⟨rfl, rfl, rfl⟩
  · refine J_ald0 dX10_plan_7 ?_
    refine J_getr (q := 4) fl_RX10_25 dX10_plan_8 kk_0 rfl (rf_10_3 kk_0) ?_
    refine J_getr (q := 5) fl_RX10_83 dX10_plan_11 kk_4 rfl (rf_1_1 kk_4) ?_
    refine J_ild1 dX10_plan_14 ?_
    refine J_cVR (jX9_termsOf l cx n 5 kk_5 a M) ck_RX10_265 dX10_plan_15 rfl kk_5 ⟨rfl, rfl, by decide, by decide⟩ ⟨Nat.zero_le _, Nat.zero_le _, Nat.le_of_ble_eq_true rfl⟩ (fun r3 hr4 => ?_)
    refine J_ild2 dX10_plan_18 ?_
    refine J_cVP (jX7_tell l cx n r3 hr4 b M) ck_RX10_269 dX10_plan_19 rfl hr4 ⟨rfl, rfl, by decide, by decide⟩ ⟨Nat.zero_le _, Nat.zero_le _, Nat.le_of_ble_eq_true rfl⟩ (fun r5 => ?_)
    refine J_goto 26 dX10_plan_22 rfl ?_
    exact J_iret dX10_plan_26 rfl ⟨rfl, rfl, rfl⟩
set_option maxRecDepth 100000 in
theorem jX10_billIs (l : Launch) (cx : CX) (n : Nat) (a : Int32) (M : Mem) : Con l cx ({ frames := 2, cells := 0, slots := 0, locals := 43 } : Room) yX10_billIs cX10_billIs 2 (some .int) 0 0 false 0 207 (EP M) GS [.ref 0, .int a] M (mX10_billIs n a M) := by
  unfold mX10_billIs
  refine Con.of (ls := [some (.ref 0), some (.int a)]) (by decide) rfl (Nat.le_of_ble_eq_true rfl) ?_
  refine J_ild1 dX10_billIs_0 ?_
  refine J_swIn (v := 2) 36 dX10_billIs_1 (by decide) (by decide) rfl rfl ?_ (fun w1 => ?_)
  · refine J_ald0 dX10_billIs_36 ?_
    refine J_getr (q := 4) fl_RX10_25 dX10_billIs_37 kk_0 rfl (rf_10_3 kk_0) ?_
    refine J_geti fl_RX10_137 dX10_billIs_40 kk_4 rfl ?_
    exact J_iret dX10_billIs_43 rfl ⟨rfl, rfl, rfl⟩
  refine J_swIn (v := 3) 44 dX10_billIs_1 (by decide) (by decide) rfl rfl ?_ (fun w2 => ?_)
  · refine J_ald0 dX10_billIs_44 ?_
    refine J_getr (q := 4) fl_RX10_25 dX10_billIs_45 kk_0 rfl (rf_10_3 kk_0) ?_
    refine J_getr (q := 40) fl_RX10_70 dX10_billIs_48 kk_4 rfl (rf_1_3 kk_4) ?_
    refine J_geti fl_RX10_74 dX10_billIs_51 kk_40 rfl ?_
    exact J_iret dX10_billIs_54 rfl ⟨rfl, rfl, rfl⟩
  refine J_swIn (v := 4) 55 dX10_billIs_1 (by decide) (by decide) rfl rfl ?_ (fun w4 => ?_)
  · refine J_ald0 dX10_billIs_55 ?_
    refine J_getr (q := 4) fl_RX10_25 dX10_billIs_56 kk_0 rfl (rf_10_3 kk_0) ?_
    refine J_cVP (jX1_begunBits l cx n 4 kk_4 M) ck_RX10_272 dX10_billIs_59 rfl kk_4 ⟨rfl, rfl, by decide, by decide⟩ ⟨Nat.zero_le _, Nat.zero_le _, Nat.le_of_ble_eq_true rfl⟩ (fun r3 => ?_)
    exact J_iret dX10_billIs_62 rfl ⟨rfl, rfl, rfl⟩
  refine J_swIn (v := 5) 63 dX10_billIs_1 (by decide) (by decide) rfl rfl ?_ (fun w6 => ?_)
  · refine J_ald0 dX10_billIs_63 ?_
    refine J_getr (q := 4) fl_RX10_25 dX10_billIs_64 kk_0 rfl (rf_10_3 kk_0) ?_
    refine J_cVP (jX1_endedBits l cx n 4 kk_4 M) ck_RX10_276 dX10_billIs_67 rfl kk_4 ⟨rfl, rfl, by decide, by decide⟩ ⟨Nat.zero_le _, Nat.zero_le _, Nat.le_of_ble_eq_true rfl⟩ (fun r5 => ?_)
    exact J_iret dX10_billIs_70 rfl ⟨rfl, rfl, rfl⟩
  refine J_swIn (v := 6) 71 dX10_billIs_1 (by decide) (by decide) rfl rfl ?_ (fun w8 => ?_)
  · refine J_ald0 dX10_billIs_71 ?_
    refine J_getr (q := 4) fl_RX10_25 dX10_billIs_72 kk_0 rfl (rf_10_3 kk_0) ?_
    refine J_cVP (jX1_pausedBits l cx n 4 kk_4 M) ck_RX10_279 dX10_billIs_75 rfl kk_4 ⟨rfl, rfl, by decide, by decide⟩ ⟨Nat.zero_le _, Nat.zero_le _, Nat.le_of_ble_eq_true rfl⟩ (fun r7 => ?_)
    exact J_iret dX10_billIs_78 rfl ⟨rfl, rfl, rfl⟩
  refine J_swOut 79 dX10_billIs_1 (sw_out 5 rfl (fun k hk => sw_c5 (P := fun k => ¬ a = Int32.ofInt (2 + (k : Int))) hk w1 w2 w4 w6 w8)) rfl ?_
  refine J_ald0 dX10_billIs_79 ?_
  refine J_getr (q := 4) fl_RX10_25 dX10_billIs_80 kk_0 rfl (rf_10_3 kk_0) ?_
  refine J_getr (q := 5) fl_RX10_83 dX10_billIs_83 kk_4 rfl (rf_1_1 kk_4) ?_
  refine J_ild1 dX10_billIs_86 ?_
  refine J_cVP (jX9_tell l cx n 5 kk_5 a M) ck_RX10_282 dX10_billIs_87 rfl kk_5 ⟨rfl, rfl, by decide, by decide⟩ ⟨Nat.zero_le _, Nat.zero_le _, Nat.le_of_ble_eq_true rfl⟩ (fun r9 => ?_)
  exact J_iret dX10_billIs_90 rfl ⟨rfl, rfl, rfl⟩
set_option maxRecDepth 100000 in
theorem jX10_areUnits (l : Launch) (cx : CX) (n : Nat) (a : Int32) (M : Mem) : Con l cx ({ frames := 0, cells := 0, slots := 0, locals := 0 } : Room) yX10_areUnits cX10_areUnits 1 (some .boolean) 0 0 false 0 207 (EB M) GS [.int a] M (mX10_areUnits a) := by
  unfold mX10_areUnits
  refine Con.of (ls := [some (.int a)]) (by decide) rfl (Nat.le_of_ble_eq_true rfl) ?_
  refine J_ild0 dX10_areUnits_0 ?_
  refine J_if_lt 15 dX10_areUnits_1 rfl ?_ ?_
  · refine J_iconst (v := 0) dX10_areUnits_15 rfl ?_
    exact J_zret dX10_areUnits_16 rfl (Or.inl rfl) ⟨rfl, rfl, rfl, (Or.inl rfl)⟩
  · refine J_ild0 dX10_areUnits_4 ?_
    refine J_sipush (v := 9999) dX10_areUnits_5 rfl ?_
    refine J_ic_gt 15 dX10_areUnits_8 rfl ?_ ?_
    · refine J_iconst (v := 0) dX10_areUnits_15 rfl ?_
      exact J_zret dX10_areUnits_16 rfl (Or.inl rfl) ⟨rfl, rfl, rfl, (Or.inl rfl)⟩
    · refine J_iconst (v := 1) dX10_areUnits_11 rfl ?_
      refine J_goto 16 dX10_areUnits_12 rfl ?_
      exact J_zret dX10_areUnits_16 rfl (Or.inr rfl) ⟨rfl, rfl, rfl, (Or.inr rfl)⟩
set_option maxRecDepth 100000 in
theorem jX10_usage (l : Launch) (cx : CX) (n : Nat) (a : Int32) (b : Int32) (M : Mem) : Con l cx ({ frames := 3, cells := 0, slots := 0, locals := 70 } : Room) yX10_usage cX10_usage 3 (some .int) 0 0 false 0 207 (EP M) GS [.ref 0, .int a, .int b] M (mX10_usage n a b M) := by
  unfold mX10_usage
  refine Con.of (ls := [some (.ref 0), some (.int a), some (.int b)]) (by decide) rfl (Nat.le_of_ble_eq_true rfl) ?_
  refine J_ild1 dX10_usage_0 ?_
  refine J_cSB (jX10_isPlan l cx n a M) ck_RX10_216 dX10_usage_1 rfl ⟨rfl, rfl, by decide, by decide⟩ ⟨Nat.zero_le _, Nat.zero_le _, Nat.le_of_ble_eq_true rfl⟩ (fun r1 z2 => ?_)
  refine J_if_eq 32 dX10_usage_4 rfl ?_ ?_
  · refine J_iconst (v := -1) dX10_usage_32 rfl ?_
    exact J_iret dX10_usage_33 rfl ⟨rfl, rfl, rfl⟩
  · refine J_ild2 dX10_usage_7 ?_
    refine J_cSB (jX10_areUnits l cx n b M) ck_RX10_283 dX10_usage_8 rfl ⟨rfl, rfl, by decide, by decide⟩ ⟨Nat.zero_le _, Nat.zero_le _, Nat.le_of_ble_eq_true rfl⟩ (fun r3 z4 => ?_)
    refine J_if_eq 32 dX10_usage_11 rfl ?_ ?_
    · refine J_iconst (v := -1) dX10_usage_32 rfl ?_
      exact J_iret dX10_usage_33 rfl ⟨rfl, rfl, rfl⟩
    · refine J_ald0 dX10_usage_14 ?_
      refine J_getr (q := 4) fl_RX10_25 dX10_usage_15 kk_0 rfl (rf_10_3 kk_0) ?_
      refine J_getr (q := 5) fl_RX10_83 dX10_usage_18 kk_4 rfl (rf_1_1 kk_4) ?_
      refine J_ild1 dX10_usage_21 ?_
      refine J_cVR (jX9_termsOf l cx n 5 kk_5 a M) ck_RX10_265 dX10_usage_22 rfl kk_5 ⟨rfl, rfl, by decide, by decide⟩ ⟨Nat.zero_le _, Nat.zero_le _, Nat.le_of_ble_eq_true rfl⟩ (fun r5 hr6 => ?_)
      refine J_ild2 dX10_usage_25 ?_
      refine J_cVP (jX7_usageOf l cx n r5 hr6 b M) ck_RX10_286 dX10_usage_26 rfl hr6 ⟨rfl, rfl, by decide, by decide⟩ ⟨Nat.zero_le _, Nat.zero_le _, Nat.le_of_ble_eq_true rfl⟩ (fun r7 => ?_)
      refine J_goto 33 dX10_usage_29 rfl ?_
      exact J_iret dX10_usage_33 rfl ⟨rfl, rfl, rfl⟩
set_option maxRecDepth 100000 in
theorem jX10_units (l : Launch) (cx : CX) (n : Nat) (a : Int32) (b : Int32) (M : Mem) : Con l cx ({ frames := 3, cells := 0, slots := 0, locals := 68 } : Room) yX10_units cX10_units 3 (some .int) 0 0 false 0 207 (EP M) GS [.ref 0, .int a, .int b] M (mX10_units n a b M) := by
  unfold mX10_units
  refine Con.of (ls := [some (.ref 0), some (.int a), some (.int b)]) (by decide) rfl (Nat.le_of_ble_eq_true rfl) ?_
  refine J_ild1 dX10_units_0 ?_
  refine J_cSB (jX10_isPlan l cx n a M) ck_RX10_216 dX10_units_1 rfl ⟨rfl, rfl, by decide, by decide⟩ ⟨Nat.zero_le _, Nat.zero_le _, Nat.le_of_ble_eq_true rfl⟩ (fun r1 z2 => ?_)
  refine J_if_eq 18 dX10_units_4 rfl ?_ ?_
  · refine J_iconst (v := -1) dX10_units_18 rfl ?_
    exact J_iret dX10_units_19 rfl ⟨rfl, rfl, rfl⟩
  · refine J_ild2 dX10_units_7 ?_
    refine J_if_lt 18 dX10_units_8 rfl ?_ ?_
    · refine J_iconst (v := -1) dX10_units_18 rfl ?_
      exact J_iret dX10_units_19 rfl ⟨rfl, rfl, rfl⟩
    · refine J_ild2 dX10_units_11 ?_
      refine J_ldcw dX10_units_12 wd_43 ?_
      refine J_ic_le 20 dX10_units_15 rfl ?_ ?_
      · refine J_ald0 dX10_units_20 ?_
        refine J_getr (q := 4) fl_RX10_25 dX10_units_21 kk_0 rfl (rf_10_3 kk_0) ?_
        refine J_getr (q := 5) fl_RX10_83 dX10_units_24 kk_4 rfl (rf_1_1 kk_4) ?_
        refine J_ild1 dX10_units_27 ?_
        refine J_cVR (jX9_termsOf l cx n 5 kk_5 a M) ck_RX10_265 dX10_units_28 rfl kk_5 ⟨rfl, rfl, by decide, by decide⟩ ⟨Nat.zero_le _, Nat.zero_le _, Nat.le_of_ble_eq_true rfl⟩ (fun r3 hr4 => ?_)
        refine J_ild2 dX10_units_31 ?_
        refine J_cVP (jX7_mostUnits l cx n r3 hr4 b M) ck_RX10_290 dX10_units_32 rfl hr4 ⟨rfl, rfl, by decide, by decide⟩ ⟨Nat.zero_le _, Nat.zero_le _, Nat.le_of_ble_eq_true rfl⟩ (fun r5 => ?_)
        exact J_iret dX10_units_35 rfl ⟨rfl, rfl, rfl⟩
      · refine J_iconst (v := -1) dX10_units_18 rfl ?_
        exact J_iret dX10_units_19 rfl ⟨rfl, rfl, rfl⟩
set_option maxRecDepth 100000 in
theorem jX10_cheapest (l : Launch) (cx : CX) (n : Nat) (a : Int32) (M : Mem) : Con l cx ({ frames := 4, cells := 0, slots := 0, locals := 95 } : Room) yX10_cheapest cX10_cheapest 2 (some .int) 0 0 false 0 207 (EP M) GS [.ref 0, .int a] M (mX10_cheapest n a M) := by
  unfold mX10_cheapest
  refine Con.of (ls := [some (.ref 0), some (.int a)]) (by decide) rfl (Nat.le_of_ble_eq_true rfl) ?_
  refine J_ild1 dX10_cheapest_0 ?_
  refine J_cSB (jX10_areUnits l cx n a M) ck_RX10_283 dX10_cheapest_1 rfl ⟨rfl, rfl, by decide, by decide⟩ ⟨Nat.zero_le _, Nat.zero_le _, Nat.le_of_ble_eq_true rfl⟩ (fun r1 z2 => ?_)
  refine J_if_eq 21 dX10_cheapest_4 rfl ?_ ?_
  · refine J_iconst (v := -1) dX10_cheapest_21 rfl ?_
    exact J_iret dX10_cheapest_22 rfl ⟨rfl, rfl, rfl⟩
  · refine J_ald0 dX10_cheapest_7 ?_
    refine J_getr (q := 4) fl_RX10_25 dX10_cheapest_8 kk_0 rfl (rf_10_3 kk_0) ?_
    refine J_getr (q := 5) fl_RX10_83 dX10_cheapest_11 kk_4 rfl (rf_1_1 kk_4) ?_
    refine J_ild1 dX10_cheapest_14 ?_
    refine J_cVP (jX9_cheapestPlan l cx n 5 kk_5 a M) ck_RX10_293 dX10_cheapest_15 rfl kk_5 ⟨rfl, rfl, by decide, by decide⟩ ⟨Nat.zero_le _, Nat.zero_le _, Nat.le_of_ble_eq_true rfl⟩ (fun r3 => ?_)
    refine J_goto 22 dX10_cheapest_18 rfl ?_
    exact J_iret dX10_cheapest_22 rfl ⟨rfl, rfl, rfl⟩
set_option maxRecDepth 100000 in
theorem jX10_isDay (l : Launch) (cx : CX) (n : Nat) (a : Int32) (M : Mem) : Con l cx ({ frames := 0, cells := 0, slots := 0, locals := 0 } : Room) yX10_isDay cX10_isDay 1 (some .boolean) 0 0 false 0 207 (EB M) GS [.int a] M (mX10_isDay a) := by
  unfold mX10_isDay
  refine Con.of (ls := [some (.int a)]) (by decide) rfl (Nat.le_of_ble_eq_true rfl) ?_
  refine J_ild0 dX10_isDay_0 ?_
  refine J_if_lt 15 dX10_isDay_1 rfl ?_ ?_
  · refine J_iconst (v := 0) dX10_isDay_15 rfl ?_
    exact J_zret dX10_isDay_16 rfl (Or.inl rfl) ⟨rfl, rfl, rfl, (Or.inl rfl)⟩
  · refine J_ild0 dX10_isDay_4 ?_
    refine J_sipush (v := 3652) dX10_isDay_5 rfl ?_
    refine J_ic_gt 15 dX10_isDay_8 rfl ?_ ?_
    · refine J_iconst (v := 0) dX10_isDay_15 rfl ?_
      exact J_zret dX10_isDay_16 rfl (Or.inl rfl) ⟨rfl, rfl, rfl, (Or.inl rfl)⟩
    · refine J_iconst (v := 1) dX10_isDay_11 rfl ?_
      refine J_goto 16 dX10_isDay_12 rfl ?_
      exact J_zret dX10_isDay_16 rfl (Or.inr rfl) ⟨rfl, rfl, rfl, (Or.inr rfl)⟩
set_option maxRecDepth 100000 in
theorem jX10_part (l : Launch) (cx : CX) (n : Nat) (a : Int32) (b : Int32) (c : Int32) (d : Int32) (M : Mem) : Con l cx ({ frames := 3, cells := 0, slots := 0, locals := 69 } : Room) yX10_part cX10_part 7 (some .int) 0 0 false 0 207 (EP M) GS [.ref 0, .int a, .int b, .int c, .int d] M (mX10_part n a b c d M) := by
  unfold mX10_part
  refine Con.of (ls := [some (.ref 0), some (.int a), some (.int b), some (.int c), some (.int d), none, none]) (by decide) rfl (Nat.le_of_ble_eq_true rfl) ?_
  refine J_ild1 dX10_part_0 ?_
  refine J_if_lt 39 dX10_part_1 rfl ?_ ?_
  · refine J_iconst (v := -1) dX10_part_39 rfl ?_
    exact J_iret dX10_part_40 rfl ⟨rfl, rfl, rfl⟩
  · refine J_ild1 dX10_part_4 ?_
    refine J_ldcw dX10_part_5 wd_44 ?_
    refine J_ic_gt 39 dX10_part_8 rfl ?_ ?_
    · refine J_iconst (v := -1) dX10_part_39 rfl ?_
      exact J_iret dX10_part_40 rfl ⟨rfl, rfl, rfl⟩
    · refine J_ild2 dX10_part_11 ?_
      refine J_cSB (jX10_isAnchor l cx n b M) ck_RX10_297 dX10_part_12 rfl ⟨rfl, rfl, by decide, by decide⟩ ⟨Nat.zero_le _, Nat.zero_le _, Nat.le_of_ble_eq_true rfl⟩ (fun r1 z2 => ?_)
      refine J_if_eq 39 dX10_part_15 rfl ?_ ?_
      · refine J_iconst (v := -1) dX10_part_39 rfl ?_
        exact J_iret dX10_part_40 rfl ⟨rfl, rfl, rfl⟩
      · refine J_ild3 dX10_part_18 ?_
        refine J_cSB (jX10_isDay l cx n c M) ck_RX10_300 dX10_part_19 rfl ⟨rfl, rfl, by decide, by decide⟩ ⟨Nat.zero_le _, Nat.zero_le _, Nat.le_of_ble_eq_true rfl⟩ (fun r3 z4 => ?_)
        refine J_if_eq 39 dX10_part_22 rfl ?_ ?_
        · refine J_iconst (v := -1) dX10_part_39 rfl ?_
          exact J_iret dX10_part_40 rfl ⟨rfl, rfl, rfl⟩
        · refine J_ild4 dX10_part_25 ?_
          refine J_cSB (jX10_isDay l cx n d M) ck_RX10_300 dX10_part_27 rfl ⟨rfl, rfl, by decide, by decide⟩ ⟨Nat.zero_le _, Nat.zero_le _, Nat.le_of_ble_eq_true rfl⟩ (fun r5 z6 => ?_)
          refine J_if_eq 39 dX10_part_30 rfl ?_ ?_
          · refine J_iconst (v := -1) dX10_part_39 rfl ?_
            exact J_iret dX10_part_40 rfl ⟨rfl, rfl, rfl⟩
          · refine J_ild4 dX10_part_33 ?_
            refine J_ild3 dX10_part_35 ?_
            refine J_ic_ge 41 dX10_part_36 rfl ?_ ?_
            · refine J_ald0 dX10_part_41 ?_
              refine J_getr (q := 2) fl_RX10_16 dX10_part_42 kk_0 rfl (rf_10_2 kk_0) ?_
              refine J_ild2 dX10_part_45 ?_
              refine J_ild3 dX10_part_46 ?_
              refine J_cVP (jX3_lastTurn l cx n b c M) ck_RX10_303 dX10_part_47 rfl kk_2 ⟨rfl, rfl, by decide, by decide⟩ ⟨Nat.zero_le _, Nat.zero_le _, Nat.le_of_ble_eq_true rfl⟩ (fun r7 => ?_)
              refine J_ist5 dX10_part_50 (by decide) rfl ?_
              refine J_ald0 dX10_part_52 ?_
              refine J_getr (q := 2) fl_RX10_16 dX10_part_53 kk_0 rfl (rf_10_2 kk_0) ?_
              refine J_ild2 dX10_part_56 ?_
              refine J_ild3 dX10_part_57 ?_
              refine J_cVP (jX3_nextTurn l cx n b c M) ck_RX10_306 dX10_part_58 rfl kk_2 ⟨rfl, rfl, by decide, by decide⟩ ⟨Nat.zero_le _, Nat.zero_le _, Nat.le_of_ble_eq_true rfl⟩ (fun r8 => ?_)
              refine J_ist6 dX10_part_61 (by decide) rfl ?_
              refine J_ild4 dX10_part_63 ?_
              refine J_ild6 dX10_part_65 ?_
              refine J_ic_le 74 dX10_part_67 rfl ?_ ?_
              · refine J_ild1 dX10_part_74 ?_
                refine J_ild6 dX10_part_75 ?_
                refine J_ild5 dX10_part_77 ?_
                refine J_isub dX10_part_79 ?_
                refine J_ild3 dX10_part_80 ?_
                refine J_ild5 dX10_part_81 ?_
                refine J_isub dX10_part_83 ?_
                refine J_ild4 dX10_part_84 ?_
                refine J_ild5 dX10_part_86 ?_
                refine J_isub dX10_part_88 ?_
                refine J_cSP (jX3_slice l cx n a (r8 - r7) (c - r7) (d - r7) M) ck_RX10_309 dX10_part_89 rfl ⟨rfl, rfl, by decide, by decide⟩ ⟨Nat.zero_le _, Nat.zero_le _, Nat.le_of_ble_eq_true rfl⟩ (fun r9 => ?_)
                exact J_iret dX10_part_92 rfl ⟨rfl, rfl, rfl⟩
              · refine J_iconst (v := -1) dX10_part_70 rfl ?_
                refine J_goto 92 dX10_part_71 rfl ?_
                exact J_iret dX10_part_92 rfl ⟨rfl, rfl, rfl⟩
            · refine J_iconst (v := -1) dX10_part_39 rfl ?_
              exact J_iret dX10_part_40 rfl ⟨rfl, rfl, rfl⟩
set_option maxRecDepth 100000 in
theorem jX10_span (l : Launch) (cx : CX) (n : Nat) (a : Int32) (b : Int32) (c : Int32) (M : Mem) : Con l cx ({ frames := 3, cells := 0, slots := 0, locals := 69 } : Room) yX10_span cX10_span 6 (some .int) 0 0 false 0 207 (EP M) GS [.ref 0, .int a, .int b, .int c] M (mX10_span n a b c M) := by
  unfold mX10_span
  refine Con.of (ls := [some (.ref 0), some (.int a), some (.int b), some (.int c), none, none]) (by decide) rfl (Nat.le_of_ble_eq_true rfl) ?_
  refine J_ild1 dX10_span_0 ?_
  refine J_cSB (jX10_isAnchor l cx n a M) ck_RX10_297 dX10_span_1 rfl ⟨rfl, rfl, by decide, by decide⟩ ⟨Nat.zero_le _, Nat.zero_le _, Nat.le_of_ble_eq_true rfl⟩ (fun r1 z2 => ?_)
  refine J_if_eq 14 dX10_span_4 rfl ?_ ?_
  · refine J_iconst (v := -1) dX10_span_14 rfl ?_
    exact J_iret dX10_span_15 rfl ⟨rfl, rfl, rfl⟩
  · refine J_ild2 dX10_span_7 ?_
    refine J_cSB (jX10_isDay l cx n b M) ck_RX10_300 dX10_span_8 rfl ⟨rfl, rfl, by decide, by decide⟩ ⟨Nat.zero_le _, Nat.zero_le _, Nat.le_of_ble_eq_true rfl⟩ (fun r3 z4 => ?_)
    refine J_if_ne 16 dX10_span_11 rfl ?_ ?_
    · refine J_ald0 dX10_span_16 ?_
      refine J_getr (q := 2) fl_RX10_16 dX10_span_17 kk_0 rfl (rf_10_2 kk_0) ?_
      refine J_ild1 dX10_span_20 ?_
      refine J_ild2 dX10_span_21 ?_
      refine J_cVP (jX3_lastTurn l cx n a b M) ck_RX10_303 dX10_span_22 rfl kk_2 ⟨rfl, rfl, by decide, by decide⟩ ⟨Nat.zero_le _, Nat.zero_le _, Nat.le_of_ble_eq_true rfl⟩ (fun r5 => ?_)
      refine J_ist4 dX10_span_25 (by decide) rfl ?_
      refine J_ald0 dX10_span_27 ?_
      refine J_getr (q := 2) fl_RX10_16 dX10_span_28 kk_0 rfl (rf_10_2 kk_0) ?_
      refine J_ild1 dX10_span_31 ?_
      refine J_ild2 dX10_span_32 ?_
      refine J_cVP (jX3_nextTurn l cx n a b M) ck_RX10_306 dX10_span_33 rfl kk_2 ⟨rfl, rfl, by decide, by decide⟩ ⟨Nat.zero_le _, Nat.zero_le _, Nat.le_of_ble_eq_true rfl⟩ (fun r6 => ?_)
      refine J_ist5 dX10_span_36 (by decide) rfl ?_
      refine J_ild3 dX10_span_38 ?_
      refine J_swIn (v := 0) 64 dX10_span_39 (by decide) (by decide) rfl rfl ?_ (fun w7 => ?_)
      · refine J_ild4 dX10_span_64 ?_
        refine J_if_ge 74 dX10_span_66 rfl ?_ ?_
        · refine J_ild4 dX10_span_74 ?_
          exact J_iret dX10_span_76 rfl ⟨rfl, rfl, rfl⟩
        · refine J_bipush (v := -2) dX10_span_69 rfl ?_
          refine J_goto 76 dX10_span_71 rfl ?_
          exact J_iret dX10_span_76 rfl ⟨rfl, rfl, rfl⟩
      refine J_swIn (v := 1) 77 dX10_span_39 (by decide) (by decide) rfl rfl ?_ (fun w8 => ?_)
      · refine J_ild5 dX10_span_77 ?_
        exact J_iret dX10_span_79 rfl ⟨rfl, rfl, rfl⟩
      refine J_swIn (v := 2) 80 dX10_span_39 (by decide) (by decide) rfl rfl ?_ (fun w9 => ?_)
      · refine J_ild5 dX10_span_80 ?_
        refine J_ild4 dX10_span_82 ?_
        refine J_isub dX10_span_84 ?_
        exact J_iret dX10_span_85 rfl ⟨rfl, rfl, rfl⟩
      refine J_swOut 86 dX10_span_39 (sw_out 3 rfl (fun k hk => sw_c3 (P := fun k => ¬ c = Int32.ofInt (0 + (k : Int))) hk w7 w8 w9)) rfl ?_
      refine J_iconst (v := -1) dX10_span_86 rfl ?_
      exact J_iret dX10_span_87 rfl ⟨rfl, rfl, rfl⟩
    · refine J_iconst (v := -1) dX10_span_14 rfl ?_
      exact J_iret dX10_span_15 rfl ⟨rfl, rfl, rfl⟩
set_option maxRecDepth 100000 in
theorem jX10_date (l : Launch) (cx : CX) (n : Nat) (a : Int32) (b : Int32) (M : Mem) : Con l cx ({ frames := 3, cells := 0, slots := 0, locals := 66 } : Room) yX10_date cX10_date 3 (some .int) 0 0 false 0 207 (EP M) GS [.ref 0, .int a, .int b] M (mX10_date n a b M) := by
  unfold mX10_date
  refine Con.of (ls := [some (.ref 0), some (.int a), some (.int b)]) (by decide) rfl (Nat.le_of_ble_eq_true rfl) ?_
  refine J_ild1 dX10_date_0 ?_
  refine J_cSB (jX10_isDay l cx n a M) ck_RX10_300 dX10_date_1 rfl ⟨rfl, rfl, by decide, by decide⟩ ⟨Nat.zero_le _, Nat.zero_le _, Nat.le_of_ble_eq_true rfl⟩ (fun r1 z2 => ?_)
  refine J_if_ne 9 dX10_date_4 rfl ?_ ?_
  · refine J_ild2 dX10_date_9 ?_
    refine J_swIn (v := 0) 36 dX10_date_10 (by decide) (by decide) rfl rfl ?_ (fun w4 => ?_)
    · refine J_ald0 dX10_date_36 ?_
      refine J_getr (q := 2) fl_RX10_16 dX10_date_37 kk_0 rfl (rf_10_2 kk_0) ?_
      refine J_ild1 dX10_date_40 ?_
      refine J_cVP (jX3_yearOf l cx n a M) ck_RX10_313 dX10_date_41 rfl kk_2 ⟨rfl, rfl, by decide, by decide⟩ ⟨Nat.zero_le _, Nat.zero_le _, Nat.le_of_ble_eq_true rfl⟩ (fun r3 => ?_)
      exact J_iret dX10_date_44 rfl ⟨rfl, rfl, rfl⟩
    refine J_swIn (v := 1) 45 dX10_date_10 (by decide) (by decide) rfl rfl ?_ (fun w6 => ?_)
    · refine J_ald0 dX10_date_45 ?_
      refine J_getr (q := 2) fl_RX10_16 dX10_date_46 kk_0 rfl (rf_10_2 kk_0) ?_
      refine J_ild1 dX10_date_49 ?_
      refine J_cVP (jX3_monthOf l cx n a M) ck_RX10_316 dX10_date_50 rfl kk_2 ⟨rfl, rfl, by decide, by decide⟩ ⟨Nat.zero_le _, Nat.zero_le _, Nat.le_of_ble_eq_true rfl⟩ (fun r5 => ?_)
      exact J_iret dX10_date_53 rfl ⟨rfl, rfl, rfl⟩
    refine J_swIn (v := 2) 54 dX10_date_10 (by decide) (by decide) rfl rfl ?_ (fun w8 => ?_)
    · refine J_ald0 dX10_date_54 ?_
      refine J_getr (q := 2) fl_RX10_16 dX10_date_55 kk_0 rfl (rf_10_2 kk_0) ?_
      refine J_ild1 dX10_date_58 ?_
      refine J_cVP (jX3_dayOfMonth l cx n a M) ck_RX10_319 dX10_date_59 rfl kk_2 ⟨rfl, rfl, by decide, by decide⟩ ⟨Nat.zero_le _, Nat.zero_le _, Nat.le_of_ble_eq_true rfl⟩ (fun r7 => ?_)
      exact J_iret dX10_date_62 rfl ⟨rfl, rfl, rfl⟩
    refine J_swOut 63 dX10_date_10 (sw_out 3 rfl (fun k hk => sw_c3 (P := fun k => ¬ b = Int32.ofInt (0 + (k : Int))) hk w4 w6 w8)) rfl ?_
    refine J_iconst (v := -1) dX10_date_63 rfl ?_
    exact J_iret dX10_date_64 rfl ⟨rfl, rfl, rfl⟩
  · refine J_iconst (v := -1) dX10_date_7 rfl ?_
    exact J_iret dX10_date_8 rfl ⟨rfl, rfl, rfl⟩
set_option maxRecDepth 100000 in
theorem jX10_day (l : Launch) (cx : CX) (n : Nat) (a : Int32) (b : Int32) (c : Int32) (M : Mem) : Con l cx ({ frames := 1, cells := 0, slots := 0, locals := 24 } : Room) yX10_day cX10_day 4 (some .int) 0 0 false 0 207 (EP M) GS [.ref 0, .int a, .int b, .int c] M (mX10_day a b c M) := by
  unfold mX10_day
  refine Con.of (ls := [some (.ref 0), some (.int a), some (.int b), some (.int c)]) (by decide) rfl (Nat.le_of_ble_eq_true rfl) ?_
  refine J_ald0 dX10_day_0 ?_
  refine J_getr (q := 2) fl_RX10_16 dX10_day_1 kk_0 rfl (rf_10_2 kk_0) ?_
  refine J_ild1 dX10_day_4 ?_
  refine J_ild2 dX10_day_5 ?_
  refine J_ild3 dX10_day_6 ?_
  refine J_cVP (jX3_dayOf l cx n a b c M) ck_RX10_322 dX10_day_7 rfl kk_2 ⟨rfl, rfl, by decide, by decide⟩ ⟨Nat.zero_le _, Nat.zero_le _, Nat.le_of_ble_eq_true rfl⟩ (fun r1 => ?_)
  exact J_iret dX10_day_10 rfl ⟨rfl, rfl, rfl⟩
