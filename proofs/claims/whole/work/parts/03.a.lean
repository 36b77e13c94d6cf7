set_option maxRecDepth 100000 in
theorem jX0_copyFrom (l : Launch) (cx : CX) (n : Nat) (o : Nat) (ho : IsK GS 0 207 o 0) (a : Nat) (ha : IsK GS 0 207 a 0) (M : Mem) : Con l cx ({ frames := 0, cells := 0, slots := 0, locals := 0 } : Room) yX0_copyFrom cX0_copyFrom 2 none 0 0 false 0 207 EV GS [.ref o, .ref a] M (mX0_copyFrom o a M) := by
  unfold mX0_copyFrom
  refine Con.of (ls := [some (.ref o), some (.ref a)]) (by decide) rfl (Nat.le_of_ble_eq_true rfl) ?_
  refine J_ald0 dX0_copyFrom_0 ?_
  refine J_ald1 dX0_copyFrom_1 ?_
  refine J_geti fl_RX0_15 dX0_copyFrom_2 ha rfl ?_
  refine J_putz fl_RX0_15 dX0_copyFrom_5 ho rfl (by decide) ?_
  refine J_ald0 dX0_copyFrom_8 ?_
  refine J_ald1 dX0_copyFrom_9 ?_
  refine J_geti fl_RX0_19 dX0_copyFrom_10 ha rfl ?_
  refine J_putz fl_RX0_19 dX0_copyFrom_13 ho rfl (by decide) ?_
  refine J_ald0 dX0_copyFrom_16 ?_
  refine J_ald1 dX0_copyFrom_17 ?_
  refine J_geti fl_RX0_22 dX0_copyFrom_18 ha rfl ?_
  refine J_putz fl_RX0_22 dX0_copyFrom_21 ho rfl (by decide) ?_
  refine J_lt (fun M1 => ?_)
  refine J_ald0 dX0_copyFrom_24 ?_
  refine J_ald1 dX0_copyFrom_25 ?_
  refine J_geti fl_RX0_25 dX0_copyFrom_26 ha rfl ?_
  refine J_puti fl_RX0_25 dX0_copyFrom_29 ho rfl (by decide) ?_
  refine J_ald0 dX0_copyFrom_32 ?_
  refine J_ald1 dX0_copyFrom_33 ?_
  refine J_geti fl_RX0_28 dX0_copyFrom_34 ha rfl ?_
  refine J_puti fl_RX0_28 dX0_copyFrom_37 ho rfl (by decide) ?_
  refine J_ald0 dX0_copyFrom_40 ?_
  refine J_ald1 dX0_copyFrom_41 ?_
  refine J_geti fl_RX0_31 dX0_copyFrom_42 ha rfl ?_
  refine J_puti fl_RX0_31 dX0_copyFrom_45 ho rfl (by decide) ?_
  refine J_lt (fun M2 => ?_)
  refine J_ald0 dX0_copyFrom_48 ?_
  refine J_ald1 dX0_copyFrom_49 ?_
  refine J_geti fl_RX0_34 dX0_copyFrom_50 ha rfl ?_
  refine J_puti fl_RX0_34 dX0_copyFrom_53 ho rfl (by decide) ?_
  refine J_ald0 dX0_copyFrom_56 ?_
  refine J_ald1 dX0_copyFrom_57 ?_
  refine J_geti fl_RX0_37 dX0_copyFrom_58 ha rfl ?_
  refine J_puti fl_RX0_37 dX0_copyFrom_61 ho rfl (by decide) ?_
  refine J_ald0 dX0_copyFrom_64 ?_
  refine J_ald1 dX0_copyFrom_65 ?_
  refine J_geti fl_RX0_40 dX0_copyFrom_66 ha rfl ?_
  refine J_puti fl_RX0_40 dX0_copyFrom_69 ho rfl (by decide) ?_
  refine J_lt (fun M3 => ?_)
  refine J_ald0 dX0_copyFrom_72 ?_
  refine J_ald1 dX0_copyFrom_73 ?_
  refine J_geti fl_RX0_43 dX0_copyFrom_74 ha rfl ?_
  refine J_puti fl_RX0_43 dX0_copyFrom_77 ho rfl (by decide) ?_
  refine J_ald0 dX0_copyFrom_80 ?_
  refine J_ald1 dX0_copyFrom_81 ?_
  refine J_geti fl_RX0_46 dX0_copyFrom_82 ha rfl ?_
  refine J_puti fl_RX0_46 dX0_copyFrom_85 ho rfl (by decide) ?_
  refine J_ald0 dX0_copyFrom_88 ?_
  refine J_ald1 dX0_copyFrom_89 ?_
  refine J_geti fl_RX0_49 dX0_copyFrom_90 ha rfl ?_
  refine J_puti fl_RX0_49 dX0_copyFrom_93 ho rfl (by decide) ?_
  refine J_lt (fun M4 => ?_)
  refine J_ald0 dX0_copyFrom_96 ?_
  refine J_ald1 dX0_copyFrom_97 ?_
  refine J_geti fl_RX0_52 dX0_copyFrom_98 ha rfl ?_
  refine J_puti fl_RX0_52 dX0_copyFrom_101 ho rfl (by decide) ?_
  exact J_vret dX0_copyFrom_104 rfl ⟨rfl, rfl, rfl⟩
set_option maxRecDepth 100000 in
theorem jX3_slice (l : Launch) (cx : CX) (n : Nat) (a : Int32) (b : Int32) (c : Int32) (d : Int32) (M : Mem) : Con l cx ({ frames := 0, cells := 0, slots := 0, locals := 0 } : Room) yX3_slice cX3_slice 4 (some .int) 0 0 false 0 207 (EP M) GS [.int a, .int b, .int c, .int d] M (mX3_slice a b c d) := by
  unfold mX3_slice
  refine Con.of (ls := [some (.int a), some (.int b), some (.int c), some (.int d)]) (by decide) rfl (Nat.le_of_ble_eq_true rfl) ?_
  refine J_ild1 dX3_slice_0 ?_
  refine J_iconst (v := 1) dX3_slice_1 rfl ?_
  refine J_ic_ge 9 dX3_slice_2 rfl ?_ ?_
  · refine J_ild0 dX3_slice_9 ?_
    refine J_ild3 dX3_slice_10 ?_
    refine J_imul dX3_slice_11 ?_
    refine J_ild1 dX3_slice_12 ?_
    refine J_idiv dX3_slice_13 ?_
    refine J_ild0 dX3_slice_14 ?_
    refine J_ild2 dX3_slice_15 ?_
    refine J_imul dX3_slice_16 ?_
    refine J_ild1 dX3_slice_17 ?_
    refine J_idiv dX3_slice_18 ?_
    refine J_isub dX3_slice_19 ?_
    exact J_iret dX3_slice_20 rfl ⟨rfl, rfl, rfl⟩
  · refine J_iconst (v := 0) dX3_slice_5 rfl ?_
    refine J_goto 20 dX3_slice_6 rfl ?_
    exact J_iret dX3_slice_20 rfl ⟨rfl, rfl, rfl⟩
set_option maxRecDepth 100000 in
theorem jX0_partToEnd (l : Launch) (cx : CX) (n : Nat) (o : Nat) (ho : IsK GS 0 207 o 0) (a : Int32) (b : Int32) (M : Mem) : Con l cx ({ frames := 1, cells := 0, slots := 0, locals := 23 } : Room) yX0_partToEnd cX0_partToEnd 3 (some .int) 0 0 false 0 207 (EP M) GS [.ref o, .int a, .int b] M (mX0_partToEnd o a b M) := by
  unfold mX0_partToEnd
  refine Con.of (ls := [some (.ref o), some (.int a), some (.int b)]) (by decide) rfl (Nat.le_of_ble_eq_true rfl) ?_
  refine J_ild1 dX0_partToEnd_0 ?_
  refine J_ald0 dX0_partToEnd_1 ?_
  refine J_geti fl_RX0_40 dX0_partToEnd_2 ho rfl ?_
  refine J_ald0 dX0_partToEnd_5 ?_
  refine J_geti fl_RX0_43 dX0_partToEnd_6 ho rfl ?_
  refine J_isub dX0_partToEnd_9 ?_
  refine J_ild2 dX0_partToEnd_10 ?_
  refine J_ald0 dX0_partToEnd_11 ?_
  refine J_geti fl_RX0_43 dX0_partToEnd_12 ho rfl ?_
  refine J_isub dX0_partToEnd_15 ?_
  refine J_ald0 dX0_partToEnd_16 ?_
  refine J_geti fl_RX0_40 dX0_partToEnd_17 ho rfl ?_
  refine J_ald0 dX0_partToEnd_20 ?_
  refine J_geti fl_RX0_43 dX0_partToEnd_21 ho rfl ?_
  refine J_isub dX0_partToEnd_24 ?_
  refine J_cSP (jX3_slice l cx n a ((M o 9) - (M o 10)) (b - (M o 10)) ((M o 9) - (M o 10)) M) ck_RX0_55 dX0_partToEnd_25 rfl ⟨rfl, rfl, by decide, by decide⟩ ⟨Nat.zero_le _, Nat.zero_le _, Nat.le_of_ble_eq_true rfl⟩ (fun r1 => ?_)
  exact J_iret dX0_partToEnd_28 rfl ⟨rfl, rfl, rfl⟩
set_option maxRecDepth 100000 in
theorem jX0_tell (l : Launch) (cx : CX) (n : Nat) (o : Nat) (ho : IsK GS 0 207 o 0) (a : Int32) (M : Mem) : Con l cx ({ frames := 0, cells := 0, slots := 0, locals := 0 } : Room) yX0_tell cX0_tell 2 (some .int) 0 0 false 0 207 (EP M) GS [.ref o, .int a] M (mX0_tell o a M) := by
  unfold mX0_tell
  refine Con.of (ls := [some (.ref o), some (.int a)]) (by decide) rfl (Nat.le_of_ble_eq_true rfl) ?_
  refine J_ild1 dX0_tell_0 ?_
  refine J_swIn (v := 0) 96 dX0_tell_1 (by decide) (by decide) rfl rfl ?_ (fun w1 => ?_)
  · refine J_ald0 dX0_tell_96 ?_
    refine J_geti fl_RX0_25 dX0_tell_97 ho rfl ?_
    exact J_iret dX0_tell_100 rfl ⟨rfl, rfl, rfl⟩
  refine J_swIn (v := 1) 101 dX0_tell_1 (by decide) (by decide) rfl rfl ?_ (fun w2 => ?_)
  · refine J_ald0 dX0_tell_101 ?_
    refine J_geti fl_RX0_28 dX0_tell_102 ho rfl ?_
    exact J_iret dX0_tell_105 rfl ⟨rfl, rfl, rfl⟩
  refine J_swIn (v := 2) 106 dX0_tell_1 (by decide) (by decide) rfl rfl ?_ (fun w3 => ?_)
  · refine J_ald0 dX0_tell_106 ?_
    refine J_geti fl_RX0_34 dX0_tell_107 ho rfl ?_
    exact J_iret dX0_tell_110 rfl ⟨rfl, rfl, rfl⟩
  refine J_swIn (v := 3) 111 dX0_tell_1 (by decide) (by decide) rfl rfl ?_ (fun w4 => ?_)
  · refine J_ald0 dX0_tell_111 ?_
    refine J_geti fl_RX0_37 dX0_tell_112 ho rfl ?_
    exact J_iret dX0_tell_115 rfl ⟨rfl, rfl, rfl⟩
  refine J_swIn (v := 4) 116 dX0_tell_1 (by decide) (by decide) rfl rfl ?_ (fun w5 => ?_)
  · refine J_ald0 dX0_tell_116 ?_
    refine J_geti fl_RX0_40 dX0_tell_117 ho rfl ?_
    exact J_iret dX0_tell_120 rfl ⟨rfl, rfl, rfl⟩
  refine J_swIn (v := 5) 121 dX0_tell_1 (by decide) (by decide) rfl rfl ?_ (fun w6 => ?_)
  · refine J_ald0 dX0_tell_121 ?_
    refine J_geti fl_RX0_40 dX0_tell_122 ho rfl ?_
    refine J_ald0 dX0_tell_125 ?_
    refine J_geti fl_RX0_43 dX0_tell_126 ho rfl ?_
    refine J_isub dX0_tell_129 ?_
    exact J_iret dX0_tell_130 rfl ⟨rfl, rfl, rfl⟩
  refine J_swIn (v := 6) 177 dX0_tell_1 (by decide) (by decide) rfl rfl ?_ (fun w7 => ?_)
  · refine J_ldc dX0_tell_177 wd_0 ?_
    exact J_iret dX0_tell_179 rfl ⟨rfl, rfl, rfl⟩
  refine J_swIn (v := 7) 131 dX0_tell_1 (by decide) (by decide) rfl rfl ?_ (fun w8 => ?_)
  · refine J_ald0 dX0_tell_131 ?_
    refine J_geti fl_RX0_46 dX0_tell_132 ho rfl ?_
    exact J_iret dX0_tell_135 rfl ⟨rfl, rfl, rfl⟩
  refine J_swIn (v := 8) 136 dX0_tell_1 (by decide) (by decide) rfl rfl ?_ (fun w9 => ?_)
  · refine J_ald0 dX0_tell_136 ?_
    refine J_geti fl_RX0_52 dX0_tell_137 ho rfl ?_
    exact J_iret dX0_tell_140 rfl ⟨rfl, rfl, rfl⟩
  refine J_swIn (v := 9) 141 dX0_tell_1 (by decide) (by decide) rfl rfl ?_ (fun w10 => ?_)
  · refine J_ald0 dX0_tell_141 ?_
    refine J_geti fl_RX0_22 dX0_tell_142 ho rfl ?_
    refine J_if_eq 152 dX0_tell_145 rfl ?_ ?_
    · refine J_iconst (v := 0) dX0_tell_152 rfl ?_
      exact J_iret dX0_tell_153 rfl ⟨rfl, rfl, rfl⟩
    · refine J_iconst (v := 1) dX0_tell_148 rfl ?_
      refine J_goto 153 dX0_tell_149 rfl ?_
      exact J_iret dX0_tell_153 rfl ⟨rfl, rfl, rfl⟩
  refine J_swIn (v := 10) 154 dX0_tell_1 (by decide) (by decide) rfl rfl ?_ (fun w11 => ?_)
  · refine J_ald0 dX0_tell_154 ?_
    refine J_geti fl_RX0_19 dX0_tell_155 ho rfl ?_
    refine J_if_eq 165 dX0_tell_158 rfl ?_ ?_
    · refine J_iconst (v := 0) dX0_tell_165 rfl ?_
      exact J_iret dX0_tell_166 rfl ⟨rfl, rfl, rfl⟩
    · refine J_iconst (v := 1) dX0_tell_161 rfl ?_
      refine J_goto 166 dX0_tell_162 rfl ?_
      exact J_iret dX0_tell_166 rfl ⟨rfl, rfl, rfl⟩
  refine J_swIn (v := 11) 177 dX0_tell_1 (by decide) (by decide) rfl rfl ?_ (fun w12 => ?_)
  · refine J_ldc dX0_tell_177 wd_0 ?_
    exact J_iret dX0_tell_179 rfl ⟨rfl, rfl, rfl⟩
  refine J_swIn (v := 12) 177 dX0_tell_1 (by decide) (by decide) rfl rfl ?_ (fun w13 => ?_)
  · refine J_ldc dX0_tell_177 wd_0 ?_
    exact J_iret dX0_tell_179 rfl ⟨rfl, rfl, rfl⟩
  refine J_swIn (v := 13) 177 dX0_tell_1 (by decide) (by decide) rfl rfl ?_ (fun w14 => ?_)
  · refine J_ldc dX0_tell_177 wd_0 ?_
    exact J_iret dX0_tell_179 rfl ⟨rfl, rfl, rfl⟩
  refine J_swIn (v := 14) 177 dX0_tell_1 (by decide) (by decide) rfl rfl ?_ (fun w15 => ?_)
  · refine J_ldc dX0_tell_177 wd_0 ?_
    exact J_iret dX0_tell_179 rfl ⟨rfl, rfl, rfl⟩
  refine J_swIn (v := 15) 177 dX0_tell_1 (by decide) (by decide) rfl rfl ?_ (fun w16 => ?_)
  · refine J_ldc dX0_tell_177 wd_0 ?_
    exact J_iret dX0_tell_179 rfl ⟨rfl, rfl, rfl⟩
  refine J_swIn (v := 16) 177 dX0_tell_1 (by decide) (by decide) rfl rfl ?_ (fun w17 => ?_)
  · refine J_ldc dX0_tell_177 wd_0 ?_
    exact J_iret dX0_tell_179 rfl ⟨rfl, rfl, rfl⟩
  refine J_swIn (v := 17) 177 dX0_tell_1 (by decide) (by decide) rfl rfl ?_ (fun w18 => ?_)
  · refine J_ldc dX0_tell_177 wd_0 ?_
    exact J_iret dX0_tell_179 rfl ⟨rfl, rfl, rfl⟩
  refine J_swIn (v := 18) 167 dX0_tell_1 (by decide) (by decide) rfl rfl ?_ (fun w19 => ?_)
  · refine J_ald0 dX0_tell_167 ?_
    refine J_geti fl_RX0_49 dX0_tell_168 ho rfl ?_
    exact J_iret dX0_tell_171 rfl ⟨rfl, rfl, rfl⟩
  refine J_swIn (v := 19) 172 dX0_tell_1 (by decide) (by decide) rfl rfl ?_ (fun w20 => ?_)
  · refine J_ald0 dX0_tell_172 ?_
    refine J_geti fl_RX0_31 dX0_tell_173 ho rfl ?_
    exact J_iret dX0_tell_176 rfl ⟨rfl, rfl, rfl⟩
  refine J_swOut 177 dX0_tell_1 (sw_out 20 rfl (fun k hk => sw_c20 (P := fun k => ¬ a = Int32.ofInt (0 + (k : Int))) hk w1 w2 w3 w4 w5 w6 w7 w8 w9 w10 w11 w12 w13 w14 w15 w16 w17 w18 w19 w20)) rfl ?_
  refine J_ldc dX0_tell_177 wd_0 ?_
  exact J_iret dX0_tell_179 rfl ⟨rfl, rfl, rfl⟩
set_option maxRecDepth 100000 in
theorem jX7_copyFrom (l : Launch) (cx : CX) (n : Nat) (o : Nat) (ho : IsK GS 0 207 o 7) (a : Nat) (ha : IsK GS 0 207 a 7) (M : Mem) : Con l cx ({ frames := 1, cells := 0, slots := 0, locals := 49 } : Room) yX7_copyFrom cX7_copyFrom 2 none 0 0 false 0 207 EV GS [.ref o, .ref a] M (mX7_copyFrom o a M) := by
  unfold mX7_copyFrom
  refine Con.of (ls := [some (.ref o), some (.ref a)]) (by decide) rfl (Nat.le_of_ble_eq_true rfl) ?_
  refine J_ald0 dX7_copyFrom_0 ?_
  refine J_ald1 dX7_copyFrom_1 ?_
  refine J_geti fl_RX7_24 dX7_copyFrom_2 ha rfl ?_
  refine J_puti fl_RX7_24 dX7_copyFrom_5 ho rfl (by decide) ?_
  refine J_ald0 dX7_copyFrom_8 ?_
  refine J_ald1 dX7_copyFrom_9 ?_
  refine J_geti fl_RX7_28 dX7_copyFrom_10 ha rfl ?_
  refine J_puti fl_RX7_28 dX7_copyFrom_13 ho rfl (by decide) ?_
  refine J_ald0 dX7_copyFrom_16 ?_
  refine J_ald1 dX7_copyFrom_17 ?_
  refine J_geti fl_RX7_31 dX7_copyFrom_18 ha rfl ?_
  refine J_puti fl_RX7_31 dX7_copyFrom_21 ho rfl (by decide) ?_
  refine J_lt (fun M1 => ?_)
  refine J_ald1 dX7_copyFrom_24 ?_
  refine J_getr (q := (a + 1)) fl_RX7_11 dX7_copyFrom_25 ha rfl (rf_7_3 ha) ?_
  refine J_iconst (v := 0) dX7_copyFrom_28 rfl ?_
  refine J_ald0 dX7_copyFrom_29 ?_
  refine J_getr (q := (o + 1)) fl_RX7_11 dX7_copyFrom_30 ho rfl (rf_7_3 ho) ?_
  refine J_iconst (v := 0) dX7_copyFrom_33 rfl ?_
  refine J_iconst (v := 4) dX7_copyFrom_34 rfl ?_
  refine J_cpy ⟨wd_1, wd_2, wd_3, wd_4⟩ dX7_copyFrom_35 (kf_7_3 ha) (kf_7_3 ho) (ln_7_3 ha) (ln_7_3 ho) (by decide) (Nat.le_of_ble_eq_true rfl) ?_
  refine J_lt (fun M2 => ?_)
  refine J_ald1 dX7_copyFrom_38 ?_
  refine J_getr (q := (a + 2)) fl_RX7_15 dX7_copyFrom_39 ha rfl (rf_7_4 ha) ?_
  refine J_iconst (v := 0) dX7_copyFrom_42 rfl ?_
  refine J_ald0 dX7_copyFrom_43 ?_
  refine J_getr (q := (o + 2)) fl_RX7_15 dX7_copyFrom_44 ho rfl (rf_7_4 ho) ?_
  refine J_iconst (v := 0) dX7_copyFrom_47 rfl ?_
  refine J_iconst (v := 4) dX7_copyFrom_48 rfl ?_
  refine J_cpy ⟨wd_1, wd_2, wd_3, wd_4⟩ dX7_copyFrom_49 (kf_7_4 ha) (kf_7_4 ho) (ln_7_4 ha) (ln_7_4 ho) (by decide) (Nat.le_of_ble_eq_true rfl) ?_
  refine J_lt (fun M3 => ?_)
  refine J_ald0 dX7_copyFrom_52 ?_
  refine J_ald1 dX7_copyFrom_53 ?_
  refine J_geti fl_RX7_34 dX7_copyFrom_54 ha rfl ?_
  refine J_puti fl_RX7_34 dX7_copyFrom_57 ho rfl (by decide) ?_
  refine J_ald0 dX7_copyFrom_60 ?_
  refine J_ald1 dX7_copyFrom_61 ?_
  refine J_geti fl_RX7_37 dX7_copyFrom_62 ha rfl ?_
  refine J_putz fl_RX7_37 dX7_copyFrom_65 ho rfl (by decide) ?_
  refine J_ald0 dX7_copyFrom_68 ?_
  refine J_ald1 dX7_copyFrom_69 ?_
  refine J_geti fl_RX7_41 dX7_copyFrom_70 ha rfl ?_
  refine J_puti fl_RX7_41 dX7_copyFrom_73 ho rfl (by decide) ?_
  refine J_lt (fun M4 => ?_)
  refine J_ald0 dX7_copyFrom_76 ?_
  refine J_ald1 dX7_copyFrom_77 ?_
  refine J_geti fl_RX7_44 dX7_copyFrom_78 ha rfl ?_
  refine J_puti fl_RX7_44 dX7_copyFrom_81 ho rfl (by decide) ?_
  refine J_ald1 dX7_copyFrom_84 ?_
  refine J_getr (q := (a + 3)) fl_RX7_18 dX7_copyFrom_85 ha rfl (rf_7_9 ha) ?_
  refine J_iconst (v := 0) dX7_copyFrom_88 rfl ?_
  refine J_ald0 dX7_copyFrom_89 ?_
  refine J_getr (q := (o + 3)) fl_RX7_18 dX7_copyFrom_90 ho rfl (rf_7_9 ho) ?_
  refine J_iconst (v := 0) dX7_copyFrom_93 rfl ?_
  refine J_iconst (v := 3) dX7_copyFrom_94 rfl ?_
  refine J_cpy ⟨wd_1, wd_2, wd_3, wd_4⟩ dX7_copyFrom_95 (kf_7_9 ha) (kf_7_9 ho) (ln_7_9 ha) (ln_7_9 ho) (by decide) (Nat.le_of_ble_eq_true rfl) ?_
  refine J_lt (fun M5 => ?_)
  refine J_ald1 dX7_copyFrom_98 ?_
  refine J_getr (q := (a + 4)) fl_RX7_21 dX7_copyFrom_99 ha rfl (rf_7_10 ha) ?_
  refine J_iconst (v := 0) dX7_copyFrom_102 rfl ?_
  refine J_ald0 dX7_copyFrom_103 ?_
  refine J_getr (q := (o + 4)) fl_RX7_21 dX7_copyFrom_104 ho rfl (rf_7_10 ho) ?_
  refine J_iconst (v := 0) dX7_copyFrom_107 rfl ?_
  refine J_iconst (v := 3) dX7_copyFrom_108 rfl ?_
  refine J_cpy ⟨wd_1, wd_2, wd_3, wd_4⟩ dX7_copyFrom_109 (kf_7_10 ha) (kf_7_10 ho) (ln_7_10 ha) (ln_7_10 ho) (by decide) (Nat.le_of_ble_eq_true rfl) ?_
  refine J_lt (fun M6 => ?_)
  exact J_vret dX7_copyFrom_112 rfl ⟨rfl, rfl, rfl⟩
set_option maxRecDepth 100000 in
theorem jX9_copyFrom_c2 {l : Launch} {cx : CX} {n : Nat} : ∀ (f : Nat) {v0 : Nat} {v1 : Nat} {v2 : Int32} {M : Mem} (h0 : IsK GS 0 207 v0 9) (h1 : IsK GS 0 207 v1 9), JO l cx ({ frames := 2, cells := 0, slots := 0, locals := 70 } : Room) yX9_copyFrom cX9_copyFrom 3 none 0 0 false 0 207 EV GS 0 0 2 [some (.ref v0), some (.ref v1), some (.int v2)] [] M (mX9_copyFrom_c2 n f v0 v1 v2 M) := by
  intro f
  induction f with
  | zero =>
    intros
    exact J_none
  | succ f ih =>
    intro v0 v1 v2 M h0 h1
    unfold mX9_copyFrom_c2
    refine J_ild2 dX9_copyFrom_2 ?_
    refine J_bipush (v := 6) dX9_copyFrom_3 rfl ?_
    refine J_ic_ge 29 dX9_copyFrom_5 rfl ?_ ?_
    · refine J_ald0 dX9_copyFrom_29 ?_
      refine J_ald1 dX9_copyFrom_30 ?_
      refine J_geti fl_RX9_28 dX9_copyFrom_31 h1 rfl ?_
      refine J_puti fl_RX9_28 dX9_copyFrom_34 h0 rfl (by decide) ?_
      refine J_ald0 dX9_copyFrom_37 ?_
      refine J_ald1 dX9_copyFrom_38 ?_
      refine J_geti fl_RX9_32 dX9_copyFrom_39 h1 rfl ?_
      refine J_puti fl_RX9_32 dX9_copyFrom_42 h0 rfl (by decide) ?_
      refine J_ald0 dX9_copyFrom_45 ?_
      refine J_ald1 dX9_copyFrom_46 ?_
      refine J_geti fl_RX9_35 dX9_copyFrom_47 h1 rfl ?_
      refine J_puti fl_RX9_35 dX9_copyFrom_50 h0 rfl (by decide) ?_
      refine J_lt (fun M1 => ?_)
      refine J_ald0 dX9_copyFrom_53 ?_
      refine J_ald1 dX9_copyFrom_54 ?_
      refine J_geti fl_RX9_38 dX9_copyFrom_55 h1 rfl ?_
      refine J_puti fl_RX9_38 dX9_copyFrom_58 h0 rfl (by decide) ?_
      refine J_ald1 dX9_copyFrom_61 ?_
      refine J_getr (q := (v1 + 2)) fl_RX9_17 dX9_copyFrom_62 h1 rfl (rf_9_5 h1) ?_
      refine J_iconst (v := 0) dX9_copyFrom_65 rfl ?_
      refine J_ald0 dX9_copyFrom_66 ?_
      refine J_getr (q := (v0 + 2)) fl_RX9_17 dX9_copyFrom_67 h0 rfl (rf_9_5 h0) ?_
      refine J_iconst (v := 0) dX9_copyFrom_70 rfl ?_
      refine J_iconst (v := 4) dX9_copyFrom_71 rfl ?_
      refine J_cpy ⟨wd_5, wd_2, wd_3, wd_4⟩ dX9_copyFrom_72 (kf_9_5 h1) (kf_9_5 h0) (ln_9_5 h1) (ln_9_5 h0) (by decide) (Nat.le_of_ble_eq_true rfl) ?_
      refine J_lt (fun M2 => ?_)
      refine J_ald1 dX9_copyFrom_75 ?_
      refine J_getr (q := (v1 + 3)) fl_RX9_21 dX9_copyFrom_76 h1 rfl (rf_9_6 h1) ?_
      refine J_iconst (v := 0) dX9_copyFrom_79 rfl ?_
      refine J_ald0 dX9_copyFrom_80 ?_
      refine J_getr (q := (v0 + 3)) fl_RX9_21 dX9_copyFrom_81 h0 rfl (rf_9_6 h0) ?_
      refine J_iconst (v := 0) dX9_copyFrom_84 rfl ?_
      refine J_iconst (v := 4) dX9_copyFrom_85 rfl ?_
      refine J_cpy ⟨wd_5, wd_2, wd_3, wd_4⟩ dX9_copyFrom_86 (kf_9_6 h1) (kf_9_6 h0) (ln_9_6 h1) (ln_9_6 h0) (by decide) (Nat.le_of_ble_eq_true rfl) ?_
      refine J_lt (fun M3 => ?_)
      refine J_ald0 dX9_copyFrom_89 ?_
      refine J_ald1 dX9_copyFrom_90 ?_
      refine J_geti fl_RX9_41 dX9_copyFrom_91 h1 rfl ?_
      refine J_puti fl_RX9_41 dX9_copyFrom_94 h0 rfl (by decide) ?_
      exact J_vret dX9_copyFrom_97 rfl ⟨rfl, rfl, rfl⟩
    · refine J_ald0 dX9_copyFrom_8 ?_
      refine J_getr (q := (v0 + 1)) fl_RX9_11 dX9_copyFrom_9 h0 rfl (rf_9_0 h0) ?_
      refine J_ild2 dX9_copyFrom_12 ?_
      refine J_aald (q := ((v0 + 1) + 3 + 5 * Int32.toNatClampNeg v2)) dX9_copyFrom_13 (kf_9_0 h0) (Or.inr rfl) (ln_9_0 h0) (fun g4 => (aal_16 (kf_9_0 h0) g4).1) (fun g4 => ?_)
      refine J_ald1 dX9_copyFrom_14 ?_
      refine J_getr (q := (v1 + 1)) fl_RX9_11 dX9_copyFrom_15 h1 rfl (rf_9_0 h1) ?_
      refine J_ild2 dX9_copyFrom_18 ?_
      refine J_aald (q := ((v1 + 1) + 3 + 5 * Int32.toNatClampNeg v2)) dX9_copyFrom_19 (kf_9_0 h1) (Or.inr rfl) (ln_9_0 h1) (fun g5 => (aal_16 (kf_9_0 h1) g5).1) (fun g5 => ?_)
      refine J_cVV (jX7_copyFrom l cx n ((v0 + 1) + 3 + 5 * Int32.toNatClampNeg v2) (aal_16 (kf_9_0 h0) g4).2 ((v1 + 1) + 3 + 5 * Int32.toNatClampNeg v2) (aal_16 (kf_9_0 h1) g5).2 M) ck_RX9_44 dX9_copyFrom_20 rfl (aal_16 (kf_9_0 h0) g4).2 ⟨rfl, rfl, by decide, by decide⟩ ⟨Nat.zero_le _, Nat.zero_le _, Nat.le_of_ble_eq_true rfl⟩ (fun M7 => ?_)
      refine J_iinc2 (w := (v2 + (1 : Int32))) dX9_copyFrom_23 (by decide) rfl rfl ?_
      refine J_goto 2 dX9_copyFrom_26 rfl ?_
      exact J_wk (wk_s (wk_s (wk_s wk_0))) (ih h0 h1)
set_option maxRecDepth 100000 in
theorem jX9_copyFrom (l : Launch) (cx : CX) (n : Nat) (o : Nat) (ho : IsK GS 0 207 o 9) (a : Nat) (ha : IsK GS 0 207 a 9) (M : Mem) : Con l cx ({ frames := 2, cells := 0, slots := 0, locals := 70 } : Room) yX9_copyFrom cX9_copyFrom 3 none 0 0 false 0 207 EV GS [.ref o, .ref a] M (mX9_copyFrom n o a M) := by
  unfold mX9_copyFrom
  refine Con.of (ls := [some (.ref o), some (.ref a), none]) (by decide) rfl (Nat.le_of_ble_eq_true rfl) ?_
  refine J_iconst (v := 0) dX9_copyFrom_0 rfl ?_
  refine J_ist2 dX9_copyFrom_1 (by decide) rfl ?_
  exact J_wk (wk_s (wk_s (wk_s wk_0))) (jX9_copyFrom_c2 (n := n) n ho ha)
set_option maxRecDepth 100000 in
theorem jX5_copyFrom (l : Launch) (cx : CX) (n : Nat) (o : Nat) (ho : IsK GS 0 207 o 5) (a : Nat) (ha : IsK GS 0 207 a 5) (M : Mem) : Con l cx ({ frames := 1, cells := 0, slots := 0, locals := 49 } : Room) yX5_copyFrom cX5_copyFrom 2 none 0 0 false 0 207 EV GS [.ref o, .ref a] M (mX5_copyFrom o a M) := by
  unfold mX5_copyFrom
  refine Con.of (ls := [some (.ref o), some (.ref a)]) (by decide) rfl (Nat.le_of_ble_eq_true rfl) ?_
  refine J_ald0 dX5_copyFrom_0 ?_
  refine J_iconst (v := 0) dX5_copyFrom_1 rfl ?_
  refine J_ald1 dX5_copyFrom_2 ?_
  refine J_geti fl_RX5_42 dX5_copyFrom_3 ha rfl ?_
  refine J_sipush (v := 400) dX5_copyFrom_6 rfl ?_
  refine J_mmin ⟨wd_6, wd_7, wd_8, wd_9⟩ dX5_copyFrom_9 ⟨by decide, Nat.le_of_ble_eq_true rfl, Nat.zero_le _, Nat.zero_le _⟩ ?_
  refine J_mmax ⟨wd_10, wd_11, wd_8, wd_12⟩ dX5_copyFrom_12 ⟨by decide, Nat.le_of_ble_eq_true rfl, Nat.zero_le _, Nat.zero_le _⟩ ?_
  refine J_puti fl_RX5_42 dX5_copyFrom_15 ho rfl (by decide) ?_
  refine J_lt (fun M1 => ?_)
  refine J_ald1 dX5_copyFrom_18 ?_
  refine J_getr (q := (a + 1)) fl_RX5_9 dX5_copyFrom_19 ha rfl (rf_5_1 ha) ?_
  refine J_iconst (v := 0) dX5_copyFrom_22 rfl ?_
  refine J_ald0 dX5_copyFrom_23 ?_
  refine J_getr (q := (o + 1)) fl_RX5_9 dX5_copyFrom_24 ho rfl (rf_5_1 ho) ?_
  refine J_iconst (v := 0) dX5_copyFrom_27 rfl ?_
  refine J_ald0 dX5_copyFrom_28 ?_
  refine J_geti fl_RX5_42 dX5_copyFrom_29 ho rfl ?_
  refine J_cpy ⟨wd_13, wd_2, wd_3, wd_4⟩ dX5_copyFrom_32 (kf_5_1 ha) (kf_5_1 ho) (ln_5_1 ha) (ln_5_1 ho) (by decide) (Nat.le_of_ble_eq_true rfl) ?_
  refine J_lt (fun M2 => ?_)
  refine J_ald1 dX5_copyFrom_35 ?_
  refine J_getr (q := (a + 2)) fl_RX5_15 dX5_copyFrom_36 ha rfl (rf_5_2 ha) ?_
  refine J_iconst (v := 0) dX5_copyFrom_39 rfl ?_
  refine J_ald0 dX5_copyFrom_40 ?_
  refine J_getr (q := (o + 2)) fl_RX5_15 dX5_copyFrom_41 ho rfl (rf_5_2 ho) ?_
  refine J_iconst (v := 0) dX5_copyFrom_44 rfl ?_
  refine J_ald0 dX5_copyFrom_45 ?_
  refine J_geti fl_RX5_42 dX5_copyFrom_46 ho rfl ?_
  refine J_cpy ⟨wd_13, wd_2, wd_3, wd_4⟩ dX5_copyFrom_49 (kf_5_2 ha) (kf_5_2 ho) (ln_5_2 ha) (ln_5_2 ho) (by decide) (Nat.le_of_ble_eq_true rfl) ?_
  refine J_lt (fun M3 => ?_)
  refine J_ald1 dX5_copyFrom_52 ?_
  refine J_getr (q := (a + 3)) fl_RX5_18 dX5_copyFrom_53 ha rfl (rf_5_3 ha) ?_
  refine J_iconst (v := 0) dX5_copyFrom_56 rfl ?_
  refine J_ald0 dX5_copyFrom_57 ?_
  refine J_getr (q := (o + 3)) fl_RX5_18 dX5_copyFrom_58 ho rfl (rf_5_3 ho) ?_
  refine J_iconst (v := 0) dX5_copyFrom_61 rfl ?_
  refine J_ald0 dX5_copyFrom_62 ?_
  refine J_geti fl_RX5_42 dX5_copyFrom_63 ho rfl ?_
  refine J_cpy ⟨wd_13, wd_2, wd_3, wd_4⟩ dX5_copyFrom_66 (kf_5_3 ha) (kf_5_3 ho) (ln_5_3 ha) (ln_5_3 ho) (by decide) (Nat.le_of_ble_eq_true rfl) ?_
  refine J_lt (fun M4 => ?_)
  refine J_ald1 dX5_copyFrom_69 ?_
  refine J_getr (q := (a + 4)) fl_RX5_21 dX5_copyFrom_70 ha rfl (rf_5_4 ha) ?_
  refine J_iconst (v := 0) dX5_copyFrom_73 rfl ?_
  refine J_ald0 dX5_copyFrom_74 ?_
  refine J_getr (q := (o + 4)) fl_RX5_21 dX5_copyFrom_75 ho rfl (rf_5_4 ho) ?_
  refine J_iconst (v := 0) dX5_copyFrom_78 rfl ?_
  refine J_ald0 dX5_copyFrom_79 ?_
  refine J_geti fl_RX5_42 dX5_copyFrom_80 ho rfl ?_
  refine J_cpy ⟨wd_13, wd_2, wd_3, wd_4⟩ dX5_copyFrom_83 (kf_5_4 ha) (kf_5_4 ho) (ln_5_4 ha) (ln_5_4 ho) (by decide) (Nat.le_of_ble_eq_true rfl) ?_
  refine J_lt (fun M5 => ?_)
  refine J_ald1 dX5_copyFrom_86 ?_
  refine J_getr (q := (a + 5)) fl_RX5_24 dX5_copyFrom_87 ha rfl (rf_5_5 ha) ?_
  refine J_iconst (v := 0) dX5_copyFrom_90 rfl ?_
  refine J_ald0 dX5_copyFrom_91 ?_
  refine J_getr (q := (o + 5)) fl_RX5_24 dX5_copyFrom_92 ho rfl (rf_5_5 ho) ?_
  refine J_iconst (v := 0) dX5_copyFrom_95 rfl ?_
  refine J_ald0 dX5_copyFrom_96 ?_
  refine J_geti fl_RX5_42 dX5_copyFrom_97 ho rfl ?_
  refine J_cpy ⟨wd_13, wd_2, wd_3, wd_4⟩ dX5_copyFrom_100 (kf_5_5 ha) (kf_5_5 ho) (ln_5_5 ha) (ln_5_5 ho) (by decide) (Nat.le_of_ble_eq_true rfl) ?_
  refine J_lt (fun M6 => ?_)
  refine J_ald1 dX5_copyFrom_103 ?_
  refine J_getr (q := (a + 6)) fl_RX5_27 dX5_copyFrom_104 ha rfl (rf_5_6 ha) ?_
  refine J_iconst (v := 0) dX5_copyFrom_107 rfl ?_
  refine J_ald0 dX5_copyFrom_108 ?_
  refine J_getr (q := (o + 6)) fl_RX5_27 dX5_copyFrom_109 ho rfl (rf_5_6 ho) ?_
  refine J_iconst (v := 0) dX5_copyFrom_112 rfl ?_
  refine J_ald0 dX5_copyFrom_113 ?_
  refine J_geti fl_RX5_42 dX5_copyFrom_114 ho rfl ?_
  refine J_cpy ⟨wd_13, wd_2, wd_3, wd_4⟩ dX5_copyFrom_117 (kf_5_6 ha) (kf_5_6 ho) (ln_5_6 ha) (ln_5_6 ho) (by decide) (Nat.le_of_ble_eq_true rfl) ?_
  refine J_lt (fun M7 => ?_)
  refine J_ald1 dX5_copyFrom_120 ?_
  refine J_getr (q := (a + 7)) fl_RX5_30 dX5_copyFrom_121 ha rfl (rf_5_7 ha) ?_
  refine J_iconst (v := 0) dX5_copyFrom_124 rfl ?_
  refine J_ald0 dX5_copyFrom_125 ?_
  refine J_getr (q := (o + 7)) fl_RX5_30 dX5_copyFrom_126 ho rfl (rf_5_7 ho) ?_
  refine J_iconst (v := 0) dX5_copyFrom_129 rfl ?_
  refine J_ald0 dX5_copyFrom_130 ?_
  refine J_geti fl_RX5_42 dX5_copyFrom_131 ho rfl ?_
  refine J_cpy ⟨wd_13, wd_2, wd_3, wd_4⟩ dX5_copyFrom_134 (kf_5_7 ha) (kf_5_7 ho) (ln_5_7 ha) (ln_5_7 ho) (by decide) (Nat.le_of_ble_eq_true rfl) ?_
  refine J_lt (fun M8 => ?_)
  refine J_ald1 dX5_copyFrom_137 ?_
  refine J_getr (q := (a + 8)) fl_RX5_33 dX5_copyFrom_138 ha rfl (rf_5_8 ha) ?_
  refine J_iconst (v := 0) dX5_copyFrom_141 rfl ?_
  refine J_ald0 dX5_copyFrom_142 ?_
  refine J_getr (q := (o + 8)) fl_RX5_33 dX5_copyFrom_143 ho rfl (rf_5_8 ho) ?_
  refine J_iconst (v := 0) dX5_copyFrom_146 rfl ?_
  refine J_ald0 dX5_copyFrom_147 ?_
  refine J_geti fl_RX5_42 dX5_copyFrom_148 ho rfl ?_
  refine J_cpy ⟨wd_13, wd_2, wd_3, wd_4⟩ dX5_copyFrom_151 (kf_5_8 ha) (kf_5_8 ho) (ln_5_8 ha) (ln_5_8 ho) (by decide) (Nat.le_of_ble_eq_true rfl) ?_
  refine J_lt (fun M9 => ?_)
  refine J_ald1 dX5_copyFrom_154 ?_
  refine J_getr (q := (a + 9)) fl_RX5_36 dX5_copyFrom_155 ha rfl (rf_5_9 ha) ?_
  refine J_iconst (v := 0) dX5_copyFrom_158 rfl ?_
  refine J_ald0 dX5_copyFrom_159 ?_
  refine J_getr (q := (o + 9)) fl_RX5_36 dX5_copyFrom_160 ho rfl (rf_5_9 ho) ?_
  refine J_iconst (v := 0) dX5_copyFrom_163 rfl ?_
  refine J_ald0 dX5_copyFrom_164 ?_
  refine J_geti fl_RX5_42 dX5_copyFrom_165 ho rfl ?_
  refine J_cpy ⟨wd_13, wd_2, wd_3, wd_4⟩ dX5_copyFrom_168 (kf_5_9 ha) (kf_5_9 ho) (ln_5_9 ha) (ln_5_9 ho) (by decide) (Nat.le_of_ble_eq_true rfl) ?_
  refine J_lt (fun M10 => ?_)
  refine J_ald1 dX5_copyFrom_171 ?_
  refine J_getr (q := (a + 10)) fl_RX5_39 dX5_copyFrom_172 ha rfl (rf_5_10 ha) ?_
  refine J_iconst (v := 0) dX5_copyFrom_175 rfl ?_
  refine J_ald0 dX5_copyFrom_176 ?_
  refine J_getr (q := (o + 10)) fl_RX5_39 dX5_copyFrom_177 ho rfl (rf_5_10 ho) ?_
  refine J_iconst (v := 0) dX5_copyFrom_180 rfl ?_
  refine J_ald0 dX5_copyFrom_181 ?_
  refine J_geti fl_RX5_42 dX5_copyFrom_182 ho rfl ?_
  refine J_cpy ⟨wd_13, wd_2, wd_3, wd_4⟩ dX5_copyFrom_185 (kf_5_10 ha) (kf_5_10 ho) (ln_5_10 ha) (ln_5_10 ho) (by decide) (Nat.le_of_ble_eq_true rfl) ?_
  refine J_lt (fun M11 => ?_)
  exact J_vret dX5_copyFrom_188 rfl ⟨rfl, rfl, rfl⟩
set_option maxRecDepth 100000 in
theorem jX1_copyFrom_c13 {l : Launch} {cx : CX} {n : Nat} : ∀ (f : Nat) {v0 : Nat} {v1 : Nat} {v2 : Int32} {M : Mem} (h0 : IsK GS 0 207 v0 1) (h1 : IsK GS 0 207 v1 1), JO l cx ({ frames := 3, cells := 0, slots := 0, locals := 92 } : Room) yX1_copyFrom cX1_copyFrom 3 none 0 0 false 0 207 EV GS 0 0 13 [some (.ref v0), some (.ref v1), some (.int v2)] [] M (mX1_copyFrom_c13 n f v0 v1 v2 M) := by
  intro f
  induction f with
  | zero =>
    intros
    exact J_none
  | succ f ih =>
    intro v0 v1 v2 M h0 h1
    unfold mX1_copyFrom_c13
    refine J_ild2 dX1_copyFrom_13 ?_
    refine J_bipush (v := 6) dX1_copyFrom_14 rfl ?_
    refine J_ic_ge 40 dX1_copyFrom_16 rfl ?_ ?_
    · refine J_ald0 dX1_copyFrom_40 ?_
      refine J_getr (q := (v0 + 36)) fl_RX1_27 dX1_copyFrom_41 h0 rfl (rf_1_3 h0) ?_
      refine J_ald1 dX1_copyFrom_44 ?_
      refine J_getr (q := (v1 + 36)) fl_RX1_27 dX1_copyFrom_45 h1 rfl (rf_1_3 h1) ?_
      refine J_cVV (jX5_copyFrom l cx n (v0 + 36) (kf_1_3 h0) (v1 + 36) (kf_1_3 h1) M) ck_RX1_45 dX1_copyFrom_48 rfl (kf_1_3 h0) ⟨rfl, rfl, by decide, by decide⟩ ⟨Nat.zero_le _, Nat.zero_le _, Nat.le_of_ble_eq_true rfl⟩ (fun M2 => ?_)
      refine J_ald0 dX1_copyFrom_51 ?_
      refine J_ald1 dX1_copyFrom_52 ?_
      refine J_geti fl_RX1_48 dX1_copyFrom_53 h1 rfl ?_
      refine J_puti fl_RX1_48 dX1_copyFrom_56 h0 rfl (by decide) ?_
      exact J_vret dX1_copyFrom_59 rfl ⟨rfl, rfl, rfl⟩
    · refine J_ald0 dX1_copyFrom_19 ?_
      refine J_getr (q := (v0 + 35)) fl_RX1_20 dX1_copyFrom_20 h0 rfl (rf_1_2 h0) ?_
      refine J_ild2 dX1_copyFrom_23 ?_
      refine J_aald (q := ((v0 + 35) + 12 + Int32.toNatClampNeg v2)) dX1_copyFrom_24 (kf_1_2 h0) (Or.inl rfl) (ln_1_2 h0) (fun g3 => (aal_15 (kf_1_2 h0) g3).1) (fun g3 => ?_)
      refine J_ald1 dX1_copyFrom_25 ?_
      refine J_getr (q := (v1 + 35)) fl_RX1_20 dX1_copyFrom_26 h1 rfl (rf_1_2 h1) ?_
      refine J_ild2 dX1_copyFrom_29 ?_
      refine J_aald (q := ((v1 + 35) + 12 + Int32.toNatClampNeg v2)) dX1_copyFrom_30 (kf_1_2 h1) (Or.inl rfl) (ln_1_2 h1) (fun g4 => (aal_15 (kf_1_2 h1) g4).1) (fun g4 => ?_)
      refine J_cVV (jX0_copyFrom l cx n ((v0 + 35) + 12 + Int32.toNatClampNeg v2) (aal_15 (kf_1_2 h0) g3).2 ((v1 + 35) + 12 + Int32.toNatClampNeg v2) (aal_15 (kf_1_2 h1) g4).2 M) ck_RX1_42 dX1_copyFrom_31 rfl (aal_15 (kf_1_2 h0) g3).2 ⟨rfl, rfl, by decide, by decide⟩ ⟨Nat.zero_le _, Nat.zero_le _, Nat.le_of_ble_eq_true rfl⟩ (fun M6 => ?_)
      refine J_iinc2 (w := (v2 + (1 : Int32))) dX1_copyFrom_34 (by decide) rfl rfl ?_
      refine J_goto 13 dX1_copyFrom_37 rfl ?_
      exact J_wk (wk_s (wk_s (wk_s wk_0))) (ih h0 h1)
set_option maxRecDepth 100000 in
theorem jX1_copyFrom (l : Launch) (cx : CX) (n : Nat) (o : Nat) (ho : IsK GS 0 207 o 1) (a : Nat) (ha : IsK GS 0 207 a 1) (M : Mem) : Con l cx ({ frames := 3, cells := 0, slots := 0, locals := 92 } : Room) yX1_copyFrom cX1_copyFrom 3 none 0 0 false 0 207 EV GS [.ref o, .ref a] M (mX1_copyFrom n o a M) := by
  unfold mX1_copyFrom
  refine Con.of (ls := [some (.ref o), some (.ref a), none]) (by decide) rfl (Nat.le_of_ble_eq_true rfl) ?_
  refine J_ald0 dX1_copyFrom_0 ?_
  refine J_getr (q := (o + 1)) fl_RX1_12 dX1_copyFrom_1 ho rfl (rf_1_1 ho) ?_
  refine J_ald1 dX1_copyFrom_4 ?_
  refine J_getr (q := (a + 1)) fl_RX1_12 dX1_copyFrom_5 ha rfl (rf_1_1 ha) ?_
  refine J_cVV (jX9_copyFrom l cx n (o + 1) (kf_1_1 ho) (a + 1) (kf_1_1 ha) M) ck_RX1_38 dX1_copyFrom_8 rfl (kf_1_1 ho) ⟨rfl, rfl, by decide, by decide⟩ ⟨Nat.zero_le _, Nat.zero_le _, Nat.le_of_ble_eq_true rfl⟩ (fun M8 => ?_)
  refine J_iconst (v := 0) dX1_copyFrom_11 rfl ?_
  refine J_ist2 dX1_copyFrom_12 (by decide) rfl ?_
  exact J_wk (wk_s (wk_s (wk_s wk_0))) (jX1_copyFrom_c13 (n := n) n ho ha)
set_option maxRecDepth 100000 in
theorem jX10_isAccount (l : Launch) (cx : CX) (n : Nat) (a : Int32) (M : Mem) : Con l cx ({ frames := 0, cells := 0, slots := 0, locals := 0 } : Room) yX10_isAccount cX10_isAccount 1 (some .boolean) 0 0 false 0 207 (EB M) GS [.int a] M (mX10_isAccount a) := by
  unfold mX10_isAccount
  refine Con.of (ls := [some (.int a)]) (by decide) rfl (Nat.le_of_ble_eq_true rfl) ?_
  refine J_ild0 dX10_isAccount_0 ?_
  refine J_if_lt 14 dX10_isAccount_1 rfl ?_ ?_
  · refine J_iconst (v := 0) dX10_isAccount_14 rfl ?_
    exact J_zret dX10_isAccount_15 rfl (Or.inl rfl) ⟨rfl, rfl, rfl, (Or.inl rfl)⟩
  · refine J_ild0 dX10_isAccount_4 ?_
    refine J_bipush (v := 6) dX10_isAccount_5 rfl ?_
    refine J_ic_ge 14 dX10_isAccount_7 rfl ?_ ?_
    · refine J_iconst (v := 0) dX10_isAccount_14 rfl ?_
      exact J_zret dX10_isAccount_15 rfl (Or.inl rfl) ⟨rfl, rfl, rfl, (Or.inl rfl)⟩
    · refine J_iconst (v := 1) dX10_isAccount_10 rfl ?_
      refine J_goto 15 dX10_isAccount_11 rfl ?_
      exact J_zret dX10_isAccount_15 rfl (Or.inr rfl) ⟨rfl, rfl, rfl, (Or.inr rfl)⟩
set_option maxRecDepth 100000 in
theorem jX1_hasBegun (l : Launch) (cx : CX) (n : Nat) (o : Nat) (ho : IsK GS 0 207 o 1) (a : Int32) (M : Mem) : Con l cx ({ frames := 1, cells := 0, slots := 0, locals := 20 } : Room) yX1_hasBegun cX1_hasBegun 2 (some .boolean) 0 0 false 0 207 (EB M) GS [.ref o, .int a] M (mX1_hasBegun o a M) := by
  unfold mX1_hasBegun
  refine Con.of (ls := [some (.ref o), some (.int a)]) (by decide) rfl (Nat.le_of_ble_eq_true rfl) ?_
  refine J_ild1 dX1_hasBegun_0 ?_
  refine J_cSB (jX10_isAccount l cx n a M) ck_RX1_52 dX1_hasBegun_1 rfl ⟨rfl, rfl, by decide, by decide⟩ ⟨Nat.zero_le _, Nat.zero_le _, Nat.le_of_ble_eq_true rfl⟩ (fun r1 z2 => ?_)
  refine J_if_eq 23 dX1_hasBegun_4 rfl ?_ ?_
  · refine J_iconst (v := 0) dX1_hasBegun_23 rfl ?_
    exact J_zret dX1_hasBegun_24 rfl (Or.inl rfl) ⟨rfl, rfl, rfl, (Or.inl rfl)⟩
  · refine J_ald0 dX1_hasBegun_7 ?_
    refine J_getr (q := (o + 35)) fl_RX1_20 dX1_hasBegun_8 ho rfl (rf_1_2 ho) ?_
    refine J_ild1 dX1_hasBegun_11 ?_
    refine J_aald (q := ((o + 35) + 12 + Int32.toNatClampNeg a)) dX1_hasBegun_12 (kf_1_2 ho) (Or.inl rfl) (ln_1_2 ho) (fun g3 => (aal_15 (kf_1_2 ho) g3).1) (fun g3 => ?_)
    refine J_geti fl_RX1_56 dX1_hasBegun_13 (aal_15 (kf_1_2 ho) g3).2 rfl ?_
    refine J_if_eq 23 dX1_hasBegun_16 rfl ?_ ?_
    · refine J_iconst (v := 0) dX1_hasBegun_23 rfl ?_
      exact J_zret dX1_hasBegun_24 rfl (Or.inl rfl) ⟨rfl, rfl, rfl, (Or.inl rfl)⟩
    · refine J_iconst (v := 1) dX1_hasBegun_19 rfl ?_
      refine J_goto 24 dX1_hasBegun_20 rfl ?_
      exact J_zret dX1_hasBegun_24 rfl (Or.inr rfl) ⟨rfl, rfl, rfl, (Or.inr rfl)⟩
set_option maxRecDepth 100000 in
theorem jX1_isRunning (l : Launch) (cx : CX) (n : Nat) (o : Nat) (ho : IsK GS 0 207 o 1) (a : Int32) (M : Mem) : Con l cx ({ frames := 2, cells := 0, slots := 0, locals := 41 } : Room) yX1_isRunning cX1_isRunning 2 (some .boolean) 0 0 false 0 207 (EB M) GS [.ref o, .int a] M (mX1_isRunning o a M) := by
  unfold mX1_isRunning
  refine Con.of (ls := [some (.ref o), some (.int a)]) (by decide) rfl (Nat.le_of_ble_eq_true rfl) ?_
  refine J_ald0 dX1_isRunning_0 ?_
  refine J_ild1 dX1_isRunning_1 ?_
  refine J_cVB (jX1_hasBegun l cx n o ho a M) ck_RX1_60 dX1_isRunning_2 rfl ho ⟨rfl, rfl, by decide, by decide⟩ ⟨Nat.zero_le _, Nat.zero_le _, Nat.le_of_ble_eq_true rfl⟩ (fun r1 z2 => ?_)
  refine J_if_eq 24 dX1_isRunning_5 rfl ?_ ?_
  · refine J_iconst (v := 0) dX1_isRunning_24 rfl ?_
    exact J_zret dX1_isRunning_25 rfl (Or.inl rfl) ⟨rfl, rfl, rfl, (Or.inl rfl)⟩
  · refine J_ald0 dX1_isRunning_8 ?_
    refine J_getr (q := (o + 35)) fl_RX1_20 dX1_isRunning_9 ho rfl (rf_1_2 ho) ?_
    refine J_ild1 dX1_isRunning_12 ?_
    refine J_aald (q := ((o + 35) + 12 + Int32.toNatClampNeg a)) dX1_isRunning_13 (kf_1_2 ho) (Or.inl rfl) (ln_1_2 ho) (fun g3 => (aal_15 (kf_1_2 ho) g3).1) (fun g3 => ?_)
    refine J_geti fl_RX1_63 dX1_isRunning_14 (aal_15 (kf_1_2 ho) g3).2 rfl ?_
    refine J_if_ne 24 dX1_isRunning_17 rfl ?_ ?_
    · refine J_iconst (v := 0) dX1_isRunning_24 rfl ?_
      exact J_zret dX1_isRunning_25 rfl (Or.inl rfl) ⟨rfl, rfl, rfl, (Or.inl rfl)⟩
    · refine J_iconst (v := 1) dX1_isRunning_20 rfl ?_
      refine J_goto 25 dX1_isRunning_21 rfl ?_
      exact J_zret dX1_isRunning_25 rfl (Or.inr rfl) ⟨rfl, rfl, rfl, (Or.inr rfl)⟩
set_option maxRecDepth 100000 in
theorem jX5_add (l : Launch) (cx : CX) (n : Nat) (o : Nat) (ho : IsK GS 0 207 o 5) (a : Int32) (b : Int32) (c : Int32) (d : Int32) (M : Mem) : Con l cx ({ frames := 0, cells := 0, slots := 0, locals := 0 } : Room) yX5_add cX5_add 6 (some .int) 0 0 false 0 207 EI GS [.ref o, .int a, .int b, .int c, .int d] M (mX5_add o a b c d M) := by
  unfold mX5_add
  refine Con.of (ls := [some (.ref o), some (.int a), some (.int b), some (.int c), some (.int d), none]) (by decide) rfl (Nat.le_of_ble_eq_true rfl) ?_
  refine J_ald0 dX5_add_0 ?_
  refine J_geti fl_RX5_42 dX5_add_1 ho rfl ?_
  refine J_ist5 dX5_add_4 (by decide) rfl ?_
  refine J_ild5 dX5_add_6 ?_
  refine J_if_lt 19 dX5_add_8 rfl ?_ ?_
  · refine J_iconst (v := -1) dX5_add_19 rfl ?_
    exact J_iret dX5_add_20 rfl ⟨rfl, rfl, rfl⟩
  · refine J_ild5 dX5_add_11 ?_
    refine J_sipush (v := 400) dX5_add_13 rfl ?_
    refine J_ic_lt 21 dX5_add_16 rfl ?_ ?_
    · refine J_ald0 dX5_add_21 ?_
      refine J_getr (q := (o + 1)) fl_RX5_9 dX5_add_22 ho rfl (rf_5_1 ho) ?_
      refine J_ild5 dX5_add_25 ?_
      refine J_ild1 dX5_add_27 ?_
      refine J_iast dX5_add_28 (kf_5_1 ho) (ln_5_1 ho) ?_
      refine J_ald0 dX5_add_29 ?_
      refine J_getr (q := (o + 2)) fl_RX5_15 dX5_add_30 ho rfl (rf_5_2 ho) ?_
      refine J_ild5 dX5_add_33 ?_
      refine J_ild2 dX5_add_35 ?_
      refine J_iast dX5_add_36 (kf_5_2 ho) (ln_5_2 ho) ?_
      refine J_lt (fun M1 => ?_)
      refine J_ald0 dX5_add_37 ?_
      refine J_getr (q := (o + 3)) fl_RX5_18 dX5_add_38 ho rfl (rf_5_3 ho) ?_
      refine J_ild5 dX5_add_41 ?_
      refine J_ild3 dX5_add_43 ?_
      refine J_iast dX5_add_44 (kf_5_3 ho) (ln_5_3 ho) ?_
      refine J_ald0 dX5_add_45 ?_
      refine J_getr (q := (o + 8)) fl_RX5_33 dX5_add_46 ho rfl (rf_5_8 ho) ?_
      refine J_ild5 dX5_add_49 ?_
      refine J_ild4 dX5_add_51 ?_
      refine J_iast dX5_add_53 (kf_5_8 ho) (ln_5_8 ho) ?_
      refine J_lt (fun M2 => ?_)
      refine J_ald0 dX5_add_54 ?_
      refine J_getr (q := (o + 9)) fl_RX5_36 dX5_add_55 ho rfl (rf_5_9 ho) ?_
      refine J_ild5 dX5_add_58 ?_
      refine J_bipush (v := -2) dX5_add_60 rfl ?_
      refine J_iast dX5_add_62 (kf_5_9 ho) (ln_5_9 ho) ?_
      refine J_ald0 dX5_add_63 ?_
      refine J_getr (q := (o + 10)) fl_RX5_39 dX5_add_64 ho rfl (rf_5_10 ho) ?_
      refine J_ild5 dX5_add_67 ?_
      refine J_bipush (v := -2) dX5_add_69 rfl ?_
      refine J_iast dX5_add_71 (kf_5_10 ho) (ln_5_10 ho) ?_
      refine J_lt (fun M3 => ?_)
      refine J_ald0 dX5_add_72 ?_
      refine J_dup_r dX5_add_73 ?_
      refine J_geti fl_RX5_42 dX5_add_74 ho rfl ?_
      refine J_iconst (v := 1) dX5_add_77 rfl ?_
      refine J_iadd dX5_add_78 ?_
      refine J_puti fl_RX5_42 dX5_add_79 ho rfl (by decide) ?_
      refine J_ild5 dX5_add_82 ?_
      exact J_iret dX5_add_84 rfl ⟨rfl, rfl, rfl⟩
    · refine J_iconst (v := -1) dX5_add_19 rfl ?_
      exact J_iret dX5_add_20 rfl ⟨rfl, rfl, rfl⟩
set_option maxRecDepth 100000 in
theorem jX5_describe (l : Launch) (cx : CX) (n : Nat) (o : Nat) (ho : IsK GS 0 207 o 5) (a : Int32) (b : Int32) (c : Int32) (d : Int32) (e0 : Int32) (M : Mem) : Con l cx ({ frames := 0, cells := 0, slots := 0, locals := 0 } : Room) yX5_describe cX5_describe 6 none 0 0 false 0 207 EV GS [.ref o, .int a, .int b, .int c, .int d, .int e0] M (mX5_describe o a b c d e0 M) := by
  unfold mX5_describe
  refine Con.of (ls := [some (.ref o), some (.int a), some (.int b), some (.int c), some (.int d), some (.int e0)]) (by decide) rfl (Nat.le_of_ble_eq_true rfl) ?_
  refine J_ild1 dX5_describe_0 ?_
  refine J_if_lt 41 dX5_describe_1 rfl ?_ ?_
  · exact J_vret dX5_describe_41 rfl ⟨rfl, rfl, rfl⟩
  · refine J_ild1 dX5_describe_4 ?_
    refine J_sipush (v := 400) dX5_describe_5 rfl ?_
    refine J_ic_ge 41 dX5_describe_8 rfl ?_ ?_
    · exact J_vret dX5_describe_41 rfl ⟨rfl, rfl, rfl⟩
    · refine J_ald0 dX5_describe_11 ?_
      refine J_getr (q := (o + 4)) fl_RX5_21 dX5_describe_12 ho rfl (rf_5_4 ho) ?_
      refine J_ild1 dX5_describe_15 ?_
      refine J_ild2 dX5_describe_16 ?_
      refine J_iast dX5_describe_17 (kf_5_4 ho) (ln_5_4 ho) ?_
      refine J_ald0 dX5_describe_18 ?_
      refine J_getr (q := (o + 7)) fl_RX5_30 dX5_describe_19 ho rfl (rf_5_7 ho) ?_
      refine J_ild1 dX5_describe_22 ?_
      refine J_ild3 dX5_describe_23 ?_
      refine J_iast dX5_describe_24 (kf_5_7 ho) (ln_5_7 ho) ?_
      refine J_ald0 dX5_describe_25 ?_
      refine J_getr (q := (o + 5)) fl_RX5_24 dX5_describe_26 ho rfl (rf_5_5 ho) ?_
      refine J_ild1 dX5_describe_29 ?_
      refine J_ild4 dX5_describe_30 ?_
      refine J_iast dX5_describe_32 (kf_5_5 ho) (ln_5_5 ho) ?_
      refine J_lt (fun M1 => ?_)
      refine J_ald0 dX5_describe_33 ?_
      refine J_getr (q := (o + 6)) fl_RX5_27 dX5_describe_34 ho rfl (rf_5_6 ho) ?_
      refine J_ild1 dX5_describe_37 ?_
      refine J_ild5 dX5_describe_38 ?_
      refine J_iast dX5_describe_40 (kf_5_6 ho) (ln_5_6 ho) ?_
      exact J_vret dX5_describe_41 rfl ⟨rfl, rfl, rfl⟩
set_option maxRecDepth 100000 in
theorem jX1_write (l : Launch) (cx : CX) (n : Nat) (o : Nat) (ho : IsK GS 0 207 o 1) (a : Nat) (ha : IsK GS 0 207 a 0) (b : Int32) (c : Int32) (d : Int32) (e0 : Int32) (M : Mem) : Con l cx ({ frames := 1, cells := 0, slots := 0, locals := 25 } : Room) yX1_write cX1_write 7 (some .int) 0 0 false 0 207 EI GS [.ref o, .ref a, .int b, .int c, .int d, .int e0] M (mX1_write o a b c d e0 M) := by
  unfold mX1_write
  refine Con.of (ls := [some (.ref o), some (.ref a), some (.int b), some (.int c), some (.int d), some (.int e0), none]) (by decide) rfl (Nat.le_of_ble_eq_true rfl) ?_
  refine J_ald0 dX1_write_0 ?_
  refine J_getr (q := (o + 36)) fl_RX1_27 dX1_write_1 ho rfl (rf_1_3 ho) ?_
  refine J_ild2 dX1_write_4 ?_
  refine J_ald1 dX1_write_5 ?_
  refine J_geti fl_RX1_66 dX1_write_6 ha rfl ?_
  refine J_ald0 dX1_write_9 ?_
  refine J_geti fl_RX1_48 dX1_write_10 ho rfl ?_
  refine J_ild5 dX1_write_13 ?_
  refine J_cVI (jX5_add l cx n (o + 36) (kf_1_3 ho) b (M a 0) (M o 4) e0 M) ck_RX1_69 dX1_write_15 rfl (kf_1_3 ho) ⟨rfl, rfl, by decide, by decide⟩ ⟨Nat.zero_le _, Nat.zero_le _, Nat.le_of_ble_eq_true rfl⟩ (fun r1 M2 => ?_)
  refine J_ist6 dX1_write_18 (by decide) rfl ?_
  refine J_ald0 dX1_write_20 ?_
  refine J_getr (q := (o + 36)) fl_RX1_27 dX1_write_21 ho rfl (rf_1_3 ho) ?_
  refine J_ild6 dX1_write_24 ?_
  refine J_ald1 dX1_write_26 ?_
  refine J_geti fl_RX1_73 dX1_write_27 ha rfl ?_
  refine J_ald1 dX1_write_30 ?_
  refine J_geti fl_RX1_76 dX1_write_31 ha rfl ?_
  refine J_ild3 dX1_write_34 ?_
  refine J_ild4 dX1_write_35 ?_
  refine J_cVV (jX5_describe l cx n (o + 36) (kf_1_3 ho) r1 (M2 a 7) (M2 a 4) c d M2) ck_RX1_79 dX1_write_37 rfl (kf_1_3 ho) ⟨rfl, rfl, by decide, by decide⟩ ⟨Nat.zero_le _, Nat.zero_le _, Nat.le_of_ble_eq_true rfl⟩ (fun M4 => ?_)
  refine J_ald1 dX1_write_40 ?_
  refine J_dup_r dX1_write_41 ?_
  refine J_geti fl_RX1_83 dX1_write_42 ha rfl ?_
  refine J_ild5 dX1_write_45 ?_
  refine J_iadd dX1_write_47 ?_
  refine J_puti fl_RX1_83 dX1_write_48 ha rfl (by decide) ?_
  refine J_ild5 dX1_write_51 ?_
  exact J_iret dX1_write_53 rfl ⟨rfl, rfl, rfl⟩
set_option maxRecDepth 100000 in
theorem jX9_termsOf (l : Launch) (cx : CX) (n : Nat) (o : Nat) (ho : IsK GS 0 207 o 9) (a : Int32) (M : Mem) : Con l cx ({ frames := 0, cells := 0, slots := 0, locals := 0 } : Room) yX9_termsOf cX9_termsOf 2 (some (.object "SlicedBills$PlanTerms")) 0 0 false 0 207 (ER M) GS [.ref o, .int a] M (mX9_termsOf o a) := by
  unfold mX9_termsOf
  refine Con.of (ls := [some (.ref o), some (.int a)]) (by decide) rfl (Nat.le_of_ble_eq_true rfl) ?_
  refine J_ild1 dX9_termsOf_0 ?_
  refine J_if_lt 19 dX9_termsOf_1 rfl ?_ ?_
  · refine J_ald0 dX9_termsOf_19 ?_
    refine J_getr (q := (o + 1)) fl_RX9_11 dX9_termsOf_20 ho rfl (rf_9_0 ho) ?_
    refine J_iconst (v := 0) dX9_termsOf_23 rfl ?_
    refine J_aald (q := ((o + 1) + 3 + 5 * Int32.toNatClampNeg (0 : Int32))) dX9_termsOf_24 (kf_9_0 ho) (Or.inr rfl) (ln_9_0 ho) (fun g1 => (aal_16 (kf_9_0 ho) g1).1) (fun g1 => ?_)
    exact J_aret dX9_termsOf_25 rfl ⟨rfl, rfl, rfl, (aal_16 (kf_9_0 ho) g1).2⟩
  · refine J_ild1 dX9_termsOf_4 ?_
    refine J_bipush (v := 6) dX9_termsOf_5 rfl ?_
    refine J_ic_ge 19 dX9_termsOf_7 rfl ?_ ?_
    · refine J_ald0 dX9_termsOf_19 ?_
      refine J_getr (q := (o + 1)) fl_RX9_11 dX9_termsOf_20 ho rfl (rf_9_0 ho) ?_
      refine J_iconst (v := 0) dX9_termsOf_23 rfl ?_
      refine J_aald (q := ((o + 1) + 3 + 5 * Int32.toNatClampNeg (0 : Int32))) dX9_termsOf_24 (kf_9_0 ho) (Or.inr rfl) (ln_9_0 ho) (fun g2 => (aal_16 (kf_9_0 ho) g2).1) (fun g2 => ?_)
      exact J_aret dX9_termsOf_25 rfl ⟨rfl, rfl, rfl, (aal_16 (kf_9_0 ho) g2).2⟩
    · refine J_ald0 dX9_termsOf_10 ?_
      refine J_getr (q := (o + 1)) fl_RX9_11 dX9_termsOf_11 ho rfl (rf_9_0 ho) ?_
      refine J_ild1 dX9_termsOf_14 ?_
      refine J_aald (q := ((o + 1) + 3 + 5 * Int32.toNatClampNeg a)) dX9_termsOf_15 (kf_9_0 ho) (Or.inr rfl) (ln_9_0 ho) (fun g3 => (aal_16 (kf_9_0 ho) g3).1) (fun g3 => ?_)
      refine J_goto 25 dX9_termsOf_16 rfl ?_
      exact J_aret dX9_termsOf_25 rfl ⟨rfl, rfl, rfl, (aal_16 (kf_9_0 ho) g3).2⟩
set_option maxRecDepth 100000 in
theorem jX7_priceOf_c4 {l : Launch} {cx : CX} {n : Nat} {M : Mem} : ∀ (f : Nat) {v0 : Nat} {v1 : Int32} {v2 : Int32} {v3 : Int32} (h0 : IsK GS 0 207 v0 7), JO l cx ({ frames := 0, cells := 0, slots := 0, locals := 0 } : Room) yX7_priceOf cX7_priceOf 4 (some .int) 0 0 false 0 207 (EP M) GS 0 0 4 [some (.ref v0), some (.int v1), some (.int v2), some (.int v3)] [] M (mX7_priceOf_c4 n f v0 v1 v2 v3 M) := by
  intro f
  induction f with
  | zero =>
    intros
    exact J_none
  | succ f ih =>
    intro v0 v1 v2 v3 h0
    unfold mX7_priceOf_c4
    refine J_ild3 dX7_priceOf_4 ?_
    refine J_ald0 dX7_priceOf_5 ?_
    refine J_geti fl_RX7_44 dX7_priceOf_6 h0 rfl ?_
    refine J_ic_ge 40 dX7_priceOf_9 rfl ?_ ?_
    · refine J_ald0 dX7_priceOf_40 ?_
      refine J_geti fl_RX7_24 dX7_priceOf_41 h0 rfl ?_
      refine J_ild1 dX7_priceOf_44 ?_
      refine J_imul dX7_priceOf_45 ?_
      refine J_ist3 dX7_priceOf_46 (by decide) rfl ?_
      refine J_ild3 dX7_priceOf_47 ?_
      refine J_ild3 dX7_priceOf_48 ?_
      refine J_ild2 dX7_priceOf_49 ?_
      refine J_imul dX7_priceOf_50 ?_
      refine J_bipush (v := 100) dX7_priceOf_51 rfl ?_
      refine J_idivK dX7_priceOf_53 (by decide) ?_
      refine J_isub dX7_priceOf_54 ?_
      exact J_iret dX7_priceOf_55 rfl ⟨rfl, rfl, rfl⟩
    · refine J_ild3 dX7_priceOf_12 ?_
      refine J_iconst (v := 3) dX7_priceOf_13 rfl ?_
      refine J_ic_ge 40 dX7_priceOf_14 rfl ?_ ?_
      · refine J_ald0 dX7_priceOf_40 ?_
        refine J_geti fl_RX7_24 dX7_priceOf_41 h0 rfl ?_
        refine J_ild1 dX7_priceOf_44 ?_
        refine J_imul dX7_priceOf_45 ?_
        refine J_ist3 dX7_priceOf_46 (by decide) rfl ?_
        refine J_ild3 dX7_priceOf_47 ?_
        refine J_ild3 dX7_priceOf_48 ?_
        refine J_ild2 dX7_priceOf_49 ?_
        refine J_imul dX7_priceOf_50 ?_
        refine J_bipush (v := 100) dX7_priceOf_51 rfl ?_
        refine J_idivK dX7_priceOf_53 (by decide) ?_
        refine J_isub dX7_priceOf_54 ?_
        exact J_iret dX7_priceOf_55 rfl ⟨rfl, rfl, rfl⟩
      · refine J_ald0 dX7_priceOf_17 ?_
        refine J_getr (q := (v0 + 3)) fl_RX7_18 dX7_priceOf_18 h0 rfl (rf_7_9 h0) ?_
        refine J_ild3 dX7_priceOf_21 ?_
        refine J_iald dX7_priceOf_22 (kf_7_9 h0) (ln_7_9 h0) ?_
        refine J_ild1 dX7_priceOf_23 ?_
        refine J_ic_gt 34 dX7_priceOf_24 rfl ?_ ?_
        · refine J_iinc3 (w := (v3 + (1 : Int32))) dX7_priceOf_34 (by decide) rfl rfl ?_
          refine J_goto 4 dX7_priceOf_37 rfl ?_
          exact J_wk (wk_s (wk_s (wk_s (wk_s wk_0)))) (ih h0)
        · refine J_ald0 dX7_priceOf_27 ?_
          refine J_getr (q := (v0 + 4)) fl_RX7_21 dX7_priceOf_28 h0 rfl (rf_7_10 h0) ?_
          refine J_ild3 dX7_priceOf_31 ?_
          refine J_iald dX7_priceOf_32 (kf_7_10 h0) (ln_7_10 h0) ?_
          refine J_ist2 dX7_priceOf_33 (by decide) rfl ?_
          refine J_iinc3 (w := (v3 + (1 : Int32))) dX7_priceOf_34 (by decide) rfl rfl ?_
          refine J_goto 4 dX7_priceOf_37 rfl ?_
          exact J_wk (wk_s (wk_s (wk_s (wk_s wk_0)))) (ih h0)
set_option maxRecDepth 100000 in
theorem jX7_priceOf (l : Launch) (cx : CX) (n : Nat) (o : Nat) (ho : IsK GS 0 207 o 7) (a : Int32) (M : Mem) : Con l cx ({ frames := 0, cells := 0, slots := 0, locals := 0 } : Room) yX7_priceOf cX7_priceOf 4 (some .int) 0 0 false 0 207 (EP M) GS [.ref o, .int a] M (mX7_priceOf n o a M) := by
  unfold mX7_priceOf
  refine Con.of (ls := [some (.ref o), some (.int a), none, none]) (by decide) rfl (Nat.le_of_ble_eq_true rfl) ?_
  refine J_iconst (v := 0) dX7_priceOf_0 rfl ?_
  refine J_ist2 dX7_priceOf_1 (by decide) rfl ?_
  refine J_iconst (v := 0) dX7_priceOf_2 rfl ?_
  refine J_ist3 dX7_priceOf_3 (by decide) rfl ?_
  exact J_wk (wk_s (wk_s (wk_s (wk_s wk_0)))) (jX7_priceOf_c4 (n := n) n ho)
set_option maxRecDepth 100000 in
theorem jX9_worth (l : Launch) (cx : CX) (n : Nat) (o : Nat) (ho : IsK GS 0 207 o 9) (a : Int32) (b : Nat) (hb : IsK GS 0 207 b 0) (M : Mem) : Con l cx ({ frames := 1, cells := 0, slots := 0, locals := 23 } : Room) yX9_worth cX9_worth 5 (some .int) 0 0 false 0 207 (EP M) GS [.ref o, .int a, .ref b] M (mX9_worth n o a b M) := by
  unfold mX9_worth
  refine Con.of (ls := [some (.ref o), some (.int a), some (.ref b), none, none]) (by decide) rfl (Nat.le_of_ble_eq_true rfl) ?_
  refine J_ald0 dX9_worth_0 ?_
  refine J_ild1 dX9_worth_1 ?_
  refine J_cVR (jX9_termsOf l cx n o ho a M) ck_RX9_54 dX9_worth_2 rfl ho ⟨rfl, rfl, by decide, by decide⟩ ⟨Nat.zero_le _, Nat.zero_le _, Nat.le_of_ble_eq_true rfl⟩ (fun r1 hr2 => ?_)
  refine J_ast3 dX9_worth_5 (by decide) rfl ?_
  refine J_ald3 dX9_worth_6 ?_
  refine J_ald2 dX9_worth_7 ?_
  refine J_geti fl_RX9_58 dX9_worth_8 hb rfl ?_
  refine J_cVP (jX7_priceOf l cx n r1 hr2 (M b 6) M) ck_RX9_63 dX9_worth_11 rfl hr2 ⟨rfl, rfl, by decide, by decide⟩ ⟨Nat.zero_le _, Nat.zero_le _, Nat.le_of_ble_eq_true rfl⟩ (fun r3 => ?_)
  refine J_ist4 dX9_worth_14 (by decide) rfl ?_
  refine J_ald2 dX9_worth_16 ?_
  refine J_geti fl_RX9_67 dX9_worth_17 hb rfl ?_
  refine J_ald0 dX9_worth_20 ?_
  refine J_geti fl_RX9_32 dX9_worth_21 ho rfl ?_
  refine J_ic_ge 42 dX9_worth_24 rfl ?_ ?_
  · refine J_ald2 dX9_worth_42 ?_
    refine J_geti fl_RX9_70 dX9_worth_43 hb rfl ?_
    refine J_if_eq 62 dX9_worth_46 rfl ?_ ?_
    · refine J_ild4 dX9_worth_62 ?_
      exact J_iret dX9_worth_64 rfl ⟨rfl, rfl, rfl⟩
    · refine J_ild4 dX9_worth_49 ?_
      refine J_ald3 dX9_worth_51 ?_
      refine J_geti fl_RX9_74 dX9_worth_52 hr2 rfl ?_
      refine J_imul dX9_worth_55 ?_
      refine J_bipush (v := 100) dX9_worth_56 rfl ?_
      refine J_idivK dX9_worth_58 (by decide) ?_
      refine J_goto 64 dX9_worth_59 rfl ?_
      exact J_iret dX9_worth_64 rfl ⟨rfl, rfl, rfl⟩
  · refine J_ild4 dX9_worth_27 ?_
    refine J_ild4 dX9_worth_29 ?_
    refine J_ald0 dX9_worth_31 ?_
    refine J_geti fl_RX9_28 dX9_worth_32 ho rfl ?_
    refine J_imul dX9_worth_35 ?_
    refine J_bipush (v := 100) dX9_worth_36 rfl ?_
    refine J_idivK dX9_worth_38 (by decide) ?_
    refine J_isub dX9_worth_39 ?_
    refine J_ist4 dX9_worth_40 (by decide) rfl ?_
    refine J_ald2 dX9_worth_42 ?_
    refine J_geti fl_RX9_70 dX9_worth_43 hb rfl ?_
    refine J_if_eq 62 dX9_worth_46 rfl ?_ ?_
    · refine J_ild4 dX9_worth_62 ?_
      exact J_iret dX9_worth_64 rfl ⟨rfl, rfl, rfl⟩
    · refine J_ild4 dX9_worth_49 ?_
      refine J_ald3 dX9_worth_51 ?_
      refine J_geti fl_RX9_74 dX9_worth_52 hr2 rfl ?_
      refine J_imul dX9_worth_55 ?_
      refine J_bipush (v := 100) dX9_worth_56 rfl ?_
      refine J_idivK dX9_worth_58 (by decide) ?_
      refine J_goto 64 dX9_worth_59 rfl ?_
      exact J_iret dX9_worth_64 rfl ⟨rfl, rfl, rfl⟩
set_option maxRecDepth 100000 in
theorem jX1_writeCredit (l : Launch) (cx : CX) (n : Nat) (o : Nat) (ho : IsK GS 0 207 o 1) (a : Nat) (ha : IsK GS 0 207 a 0) (M : Mem) : Con l cx ({ frames := 2, cells := 0, slots := 0, locals := 51 } : Room) yX1_writeCredit cX1_writeCredit 2 (some .int) 0 0 false 0 207 EI GS [.ref o, .ref a] M (mX1_writeCredit n o a M) := by
  unfold mX1_writeCredit
  refine Con.of (ls := [some (.ref o), some (.ref a)]) (by decide) rfl (Nat.le_of_ble_eq_true rfl) ?_
  refine J_ald0 dX1_writeCredit_0 ?_
  refine J_ald1 dX1_writeCredit_1 ?_
  refine J_iconst (v := 1) dX1_writeCredit_2 rfl ?_
  refine J_ald0 dX1_writeCredit_3 ?_
  refine J_geti fl_RX1_48 dX1_writeCredit_4 ho rfl ?_
  refine J_ald1 dX1_writeCredit_7 ?_
  refine J_geti fl_RX1_86 dX1_writeCredit_8 ha rfl ?_
  refine J_ald1 dX1_writeCredit_11 ?_
  refine J_ald0 dX1_writeCredit_12 ?_
  refine J_getr (q := (o + 1)) fl_RX1_12 dX1_writeCredit_13 ho rfl (rf_1_1 ho) ?_
  refine J_ald1 dX1_writeCredit_16 ?_
  refine J_geti fl_RX1_76 dX1_writeCredit_17 ha rfl ?_
  refine J_ald1 dX1_writeCredit_20 ?_
  refine J_cVP (jX9_worth l cx n (o + 1) (kf_1_1 ho) (M a 4) a ha M) ck_RX1_89 dX1_writeCredit_21 rfl (kf_1_1 ho) ⟨rfl, rfl, by decide, by decide⟩ ⟨Nat.zero_le _, Nat.zero_le _, Nat.le_of_ble_eq_true rfl⟩ (fun r1 => ?_)
  refine J_ald0 dX1_writeCredit_24 ?_
  refine J_geti fl_RX1_48 dX1_writeCredit_25 ho rfl ?_
  refine J_cVP (jX0_partToEnd l cx n a ha r1 (M o 4) M) ck_RX1_93 dX1_writeCredit_28 rfl ha ⟨rfl, rfl, by decide, by decide⟩ ⟨Nat.zero_le _, Nat.zero_le _, Nat.le_of_ble_eq_true rfl⟩ (fun r2 => ?_)
  refine J_ineg dX1_writeCredit_31 ?_
  refine J_cVI (jX1_write l cx n o ho a ha (1 : Int32) (M o 4) (M a 9) (-r2) M) ck_RX1_97 dX1_writeCredit_32 rfl ho ⟨rfl, rfl, by decide, by decide⟩ ⟨Nat.zero_le _, Nat.zero_le _, Nat.le_of_ble_eq_true rfl⟩ (fun r3 M4 => ?_)
  exact J_iret dX1_writeCredit_35 rfl ⟨rfl, rfl, rfl⟩
set_option maxRecDepth 100000 in
theorem jX1_writeCharge (l : Launch) (cx : CX) (n : Nat) (o : Nat) (ho : IsK GS 0 207 o 1) (a : Nat) (ha : IsK GS 0 207 a 0) (M : Mem) : Con l cx ({ frames := 2, cells := 0, slots := 0, locals := 51 } : Room) yX1_writeCharge cX1_writeCharge 2 (some .int) 0 0 false 0 207 EI GS [.ref o, .ref a] M (mX1_writeCharge n o a M) := by
  unfold mX1_writeCharge
  refine Con.of (ls := [some (.ref o), some (.ref a)]) (by decide) rfl (Nat.le_of_ble_eq_true rfl) ?_
  refine J_ald0 dX1_writeCharge_0 ?_
  refine J_ald1 dX1_writeCharge_1 ?_
  refine J_iconst (v := 0) dX1_writeCharge_2 rfl ?_
  refine J_ald0 dX1_writeCharge_3 ?_
  refine J_geti fl_RX1_48 dX1_writeCharge_4 ho rfl ?_
  refine J_ald1 dX1_writeCharge_7 ?_
  refine J_geti fl_RX1_86 dX1_writeCharge_8 ha rfl ?_
  refine J_ald1 dX1_writeCharge_11 ?_
  refine J_ald0 dX1_writeCharge_12 ?_
  refine J_getr (q := (o + 1)) fl_RX1_12 dX1_writeCharge_13 ho rfl (rf_1_1 ho) ?_
  refine J_ald1 dX1_writeCharge_16 ?_
  refine J_geti fl_RX1_76 dX1_writeCharge_17 ha rfl ?_
  refine J_ald1 dX1_writeCharge_20 ?_
  refine J_cVP (jX9_worth l cx n (o + 1) (kf_1_1 ho) (M a 4) a ha M) ck_RX1_89 dX1_writeCharge_21 rfl (kf_1_1 ho) ⟨rfl, rfl, by decide, by decide⟩ ⟨Nat.zero_le _, Nat.zero_le _, Nat.le_of_ble_eq_true rfl⟩ (fun r1 => ?_)
  refine J_ald0 dX1_writeCharge_24 ?_
  refine J_geti fl_RX1_48 dX1_writeCharge_25 ho rfl ?_
  refine J_cVP (jX0_partToEnd l cx n a ha r1 (M o 4) M) ck_RX1_93 dX1_writeCharge_28 rfl ha ⟨rfl, rfl, by decide, by decide⟩ ⟨Nat.zero_le _, Nat.zero_le _, Nat.le_of_ble_eq_true rfl⟩ (fun r2 => ?_)
  refine J_cVI (jX1_write l cx n o ho a ha (0 : Int32) (M o 4) (M a 9) r2 M) ck_RX1_97 dX1_writeCharge_31 rfl ho ⟨rfl, rfl, by decide, by decide⟩ ⟨Nat.zero_le _, Nat.zero_le _, Nat.le_of_ble_eq_true rfl⟩ (fun r3 M4 => ?_)
  exact J_iret dX1_writeCharge_34 rfl ⟨rfl, rfl, rfl⟩
set_option maxRecDepth 100000 in
theorem jX7_wholeUsage_c2 {l : Launch} {cx : CX} {n : Nat} {M : Mem} : ∀ (f : Nat) {v0 : Nat} {v1 : Int32} {v2 : Int32} (h0 : IsK GS 0 207 v0 7), JO l cx ({ frames := 0, cells := 0, slots := 0, locals := 0 } : Room) yX7_wholeUsage cX7_wholeUsage 3 (some .int) 0 0 false 0 207 (EP M) GS 0 0 2 [some (.ref v0), some (.int v1), some (.int v2)] [] M (mX7_wholeUsage_c2 n f v0 v1 v2 M) := by
  intro f
  induction f with
  | zero =>
    intros
    exact J_none
  | succ f ih =>
    intro v0 v1 v2 h0
    unfold mX7_wholeUsage_c2
    refine J_ild2 dX7_wholeUsage_2 ?_
    refine J_ald0 dX7_wholeUsage_3 ?_
    refine J_geti fl_RX7_31 dX7_wholeUsage_4 h0 rfl ?_
    refine J_ic_ge 40 dX7_wholeUsage_7 rfl ?_ ?_
    · refine J_ild1 dX7_wholeUsage_40 ?_
      refine J_ald0 dX7_wholeUsage_41 ?_
      refine J_geti fl_RX7_34 dX7_wholeUsage_42 h0 rfl ?_
      refine J_imul dX7_wholeUsage_45 ?_
      exact J_iret dX7_wholeUsage_46 rfl ⟨rfl, rfl, rfl⟩
    · refine J_ild2 dX7_wholeUsage_10 ?_
      refine J_iconst (v := 4) dX7_wholeUsage_11 rfl ?_
      refine J_ic_ge 40 dX7_wholeUsage_12 rfl ?_ ?_
      · refine J_ild1 dX7_wholeUsage_40 ?_
        refine J_ald0 dX7_wholeUsage_41 ?_
        refine J_geti fl_RX7_34 dX7_wholeUsage_42 h0 rfl ?_
        refine J_imul dX7_wholeUsage_45 ?_
        exact J_iret dX7_wholeUsage_46 rfl ⟨rfl, rfl, rfl⟩
      · refine J_ald0 dX7_wholeUsage_15 ?_
        refine J_getr (q := (v0 + 1)) fl_RX7_11 dX7_wholeUsage_16 h0 rfl (rf_7_3 h0) ?_
        refine J_ild2 dX7_wholeUsage_19 ?_
        refine J_iald dX7_wholeUsage_20 (kf_7_3 h0) (ln_7_3 h0) ?_
        refine J_ild1 dX7_wholeUsage_21 ?_
        refine J_ic_lt 34 dX7_wholeUsage_22 rfl ?_ ?_
        · refine J_iinc2 (w := (v2 + (1 : Int32))) dX7_wholeUsage_34 (by decide) rfl rfl ?_
          refine J_goto 2 dX7_wholeUsage_37 rfl ?_
          exact J_wk (wk_s (wk_s (wk_s wk_0))) (ih h0)
        · refine J_ild1 dX7_wholeUsage_25 ?_
          refine J_ald0 dX7_wholeUsage_26 ?_
          refine J_getr (q := (v0 + 2)) fl_RX7_15 dX7_wholeUsage_27 h0 rfl (rf_7_4 h0) ?_
          refine J_ild2 dX7_wholeUsage_30 ?_
          refine J_iald dX7_wholeUsage_31 (kf_7_4 h0) (ln_7_4 h0) ?_
          refine J_imul dX7_wholeUsage_32 ?_
          exact J_iret dX7_wholeUsage_33 rfl ⟨rfl, rfl, rfl⟩
set_option maxRecDepth 100000 in
theorem jX7_wholeUsage (l : Launch) (cx : CX) (n : Nat) (o : Nat) (ho : IsK GS 0 207 o 7) (a : Int32) (M : Mem) : Con l cx ({ frames := 0, cells := 0, slots := 0, locals := 0 } : Room) yX7_wholeUsage cX7_wholeUsage 3 (some .int) 0 0 false 0 207 (EP M) GS [.ref o, .int a] M (mX7_wholeUsage n o a M) := by
  unfold mX7_wholeUsage
  refine Con.of (ls := [some (.ref o), some (.int a), none]) (by decide) rfl (Nat.le_of_ble_eq_true rfl) ?_
  refine J_iconst (v := 0) dX7_wholeUsage_0 rfl ?_
  refine J_ist2 dX7_wholeUsage_1 (by decide) rfl ?_
  exact J_wk (wk_s (wk_s (wk_s wk_0))) (jX7_wholeUsage_c2 (n := n) n ho)
set_option maxRecDepth 100000 in
theorem jX7_addedUsage_c7 {l : Launch} {cx : CX} {n : Nat} {M : Mem} : ∀ (f : Nat) {v0 : Nat} {v1 : Int32} {v2 : Int32} {v3 : Int32} {v4 : Int32} (h0 : IsK GS 0 207 v0 7), JO l cx ({ frames := 1, cells := 0, slots := 0, locals := 23 } : Room) yX7_addedUsage cX7_addedUsage 6 (some .int) 0 0 false 0 207 (EP M) GS 0 0 7 [some (.ref v0), some (.int v1), some (.int v2), some (.int v3), some (.int v4), none] [] M (mX7_addedUsage_c7 n f v0 v1 v2 v3 v4 M) := by
  intro f
  induction f with
  | zero =>
    intros
    exact J_none
  | succ f ih =>
    intro v0 v1 v2 v3 v4 h0
    unfold mX7_addedUsage_c7
    refine J_ild4 dX7_addedUsage_7 ?_
    refine J_ald0 dX7_addedUsage_9 ?_
    refine J_geti fl_RX7_31 dX7_addedUsage_10 h0 rfl ?_
    refine J_ic_ge 59 dX7_addedUsage_13 rfl ?_ ?_
    · refine J_ild2 dX7_addedUsage_59 ?_
      refine J_ild1 dX7_addedUsage_60 ?_
      refine J_ild3 dX7_addedUsage_61 ?_
      refine J_isub dX7_addedUsage_62 ?_
      refine J_ald0 dX7_addedUsage_63 ?_
      refine J_geti fl_RX7_34 dX7_addedUsage_64 h0 rfl ?_
      refine J_imul dX7_addedUsage_67 ?_
      refine J_iadd dX7_addedUsage_68 ?_
      exact J_iret dX7_addedUsage_69 rfl ⟨rfl, rfl, rfl⟩
    · refine J_ild4 dX7_addedUsage_16 ?_
      refine J_iconst (v := 4) dX7_addedUsage_18 rfl ?_
      refine J_ic_ge 59 dX7_addedUsage_19 rfl ?_ ?_
      · refine J_ild2 dX7_addedUsage_59 ?_
        refine J_ild1 dX7_addedUsage_60 ?_
        refine J_ild3 dX7_addedUsage_61 ?_
        refine J_isub dX7_addedUsage_62 ?_
        refine J_ald0 dX7_addedUsage_63 ?_
        refine J_geti fl_RX7_34 dX7_addedUsage_64 h0 rfl ?_
        refine J_imul dX7_addedUsage_67 ?_
        refine J_iadd dX7_addedUsage_68 ?_
        exact J_iret dX7_addedUsage_69 rfl ⟨rfl, rfl, rfl⟩
      · refine J_ild1 dX7_addedUsage_22 ?_
        refine J_ald0 dX7_addedUsage_23 ?_
        refine J_getr (q := (v0 + 1)) fl_RX7_11 dX7_addedUsage_24 h0 rfl (rf_7_3 h0) ?_
        refine J_ild4 dX7_addedUsage_27 ?_
        refine J_iald dX7_addedUsage_29 (kf_7_3 h0) (ln_7_3 h0) ?_
        refine J_mmin ⟨wd_14, wd_7, wd_8, wd_9⟩ dX7_addedUsage_30 ⟨by decide, Nat.le_of_ble_eq_true rfl, Nat.zero_le _, Nat.zero_le _⟩ ?_
        refine J_ist5 dX7_addedUsage_33 (by decide) rfl ?_
        refine J_ild2 dX7_addedUsage_35 ?_
        refine J_ild5 dX7_addedUsage_36 ?_
        refine J_ild3 dX7_addedUsage_38 ?_
        refine J_isub dX7_addedUsage_39 ?_
        refine J_ald0 dX7_addedUsage_40 ?_
        refine J_getr (q := (v0 + 2)) fl_RX7_15 dX7_addedUsage_41 h0 rfl (rf_7_4 h0) ?_
        refine J_ild4 dX7_addedUsage_44 ?_
        refine J_iald dX7_addedUsage_46 (kf_7_4 h0) (ln_7_4 h0) ?_
        refine J_imul dX7_addedUsage_47 ?_
        refine J_iadd dX7_addedUsage_48 ?_
        refine J_ist2 dX7_addedUsage_49 (by decide) rfl ?_
        refine J_ild5 dX7_addedUsage_50 ?_
        refine J_ist3 dX7_addedUsage_52 (by decide) rfl ?_
        refine J_iinc4 (w := (v4 + (1 : Int32))) dX7_addedUsage_53 (by decide) rfl rfl ?_
        refine J_goto 7 dX7_addedUsage_56 rfl ?_
        exact J_wk (wk_s (wk_s (wk_s (wk_s (wk_s (wk_n wk_0)))))) (ih h0)
set_option maxRecDepth 100000 in
theorem jX7_addedUsage (l : Launch) (cx : CX) (n : Nat) (o : Nat) (ho : IsK GS 0 207 o 7) (a : Int32) (M : Mem) : Con l cx ({ frames := 1, cells := 0, slots := 0, locals := 23 } : Room) yX7_addedUsage cX7_addedUsage 6 (some .int) 0 0 false 0 207 (EP M) GS [.ref o, .int a] M (mX7_addedUsage n o a M) := by
  unfold mX7_addedUsage
  refine Con.of (ls := [some (.ref o), some (.int a), none, none, none, none]) (by decide) rfl (Nat.le_of_ble_eq_true rfl) ?_
  refine J_iconst (v := 0) dX7_addedUsage_0 rfl ?_
  refine J_ist2 dX7_addedUsage_1 (by decide) rfl ?_
  refine J_iconst (v := 0) dX7_addedUsage_2 rfl ?_
  refine J_ist3 dX7_addedUsage_3 (by decide) rfl ?_
  refine J_iconst (v := 0) dX7_addedUsage_4 rfl ?_
  refine J_ist4 dX7_addedUsage_5 (by decide) rfl ?_
  exact J_wk (wk_s (wk_s (wk_s (wk_s (wk_s (wk_n wk_0)))))) (jX7_addedUsage_c7 (n := n) n ho)
set_option maxRecDepth 100000 in
theorem jX7_usageOf (l : Launch) (cx : CX) (n : Nat) (o : Nat) (ho : IsK GS 0 207 o 7) (a : Int32) (M : Mem) : Con l cx ({ frames := 2, cells := 0, slots := 0, locals := 48 } : Room) yX7_usageOf cX7_usageOf 3 (some .int) 0 0 false 0 207 (EP M) GS [.ref o, .int a] M (mX7_usageOf n o a M) := by
  unfold mX7_usageOf
  refine Con.of (ls := [some (.ref o), some (.int a), none]) (by decide) rfl (Nat.le_of_ble_eq_true rfl) ?_
  refine J_iconst (v := 0) dX7_usageOf_0 rfl ?_
  refine J_ild1 dX7_usageOf_1 ?_
  refine J_ald0 dX7_usageOf_2 ?_
  refine J_geti fl_RX7_28 dX7_usageOf_3 ho rfl ?_
  refine J_isub dX7_usageOf_6 ?_
  refine J_mmax ⟨wd_15, wd_11, wd_8, wd_12⟩ dX7_usageOf_7 ⟨by decide, Nat.le_of_ble_eq_true rfl, Nat.zero_le _, Nat.zero_le _⟩ ?_
  refine J_ist2 dX7_usageOf_10 (by decide) rfl ?_
  refine J_ald0 dX7_usageOf_11 ?_
  refine J_geti fl_RX7_37 dX7_usageOf_12 ho rfl ?_
  refine J_if_eq 26 dX7_usageOf_15 rfl ?_ ?_
  · refine J_ald0 dX7_usageOf_26 ?_
    refine J_ild2 dX7_usageOf_27 ?_
    refine J_cVP (jX7_addedUsage l cx n o ho (if (0 : Int32) < (a - (M o 1)) then (a - (M o 1)) else (0 : Int32)) M) ck_RX7_63 dX7_usageOf_28 rfl ho ⟨rfl, rfl, by decide, by decide⟩ ⟨Nat.zero_le _, Nat.zero_le _, Nat.le_of_ble_eq_true rfl⟩ (fun r1 => ?_)
    exact J_iret dX7_usageOf_31 rfl ⟨rfl, rfl, rfl⟩
  · refine J_ald0 dX7_usageOf_18 ?_
    refine J_ild2 dX7_usageOf_19 ?_
    refine J_cVP (jX7_wholeUsage l cx n o ho (if (0 : Int32) < (a - (M o 1)) then (a - (M o 1)) else (0 : Int32)) M) ck_RX7_59 dX7_usageOf_20 rfl ho ⟨rfl, rfl, by decide, by decide⟩ ⟨Nat.zero_le _, Nat.zero_le _, Nat.le_of_ble_eq_true rfl⟩ (fun r2 => ?_)
    refine J_goto 31 dX7_usageOf_23 rfl ?_
    exact J_iret dX7_usageOf_31 rfl ⟨rfl, rfl, rfl⟩
set_option maxRecDepth 100000 in
theorem jX1_writeUsage (l : Launch) (cx : CX) (n : Nat) (o : Nat) (ho : IsK GS 0 207 o 1) (a : Nat) (ha : IsK GS 0 207 a 0) (M : Mem) : Con l cx ({ frames := 3, cells := 0, slots := 0, locals := 70 } : Room) yX1_writeUsage cX1_writeUsage 3 (some .int) 0 0 false 0 207 EI GS [.ref o, .ref a] M (mX1_writeUsage n o a M) := by
  unfold mX1_writeUsage
  refine Con.of (ls := [some (.ref o), some (.ref a), none]) (by decide) rfl (Nat.le_of_ble_eq_true rfl) ?_
  refine J_ald0 dX1_writeUsage_0 ?_
  refine J_getr (q := (o + 1)) fl_RX1_12 dX1_writeUsage_1 ho rfl (rf_1_1 ho) ?_
  refine J_ald1 dX1_writeUsage_4 ?_
  refine J_geti fl_RX1_76 dX1_writeUsage_5 ha rfl ?_
  refine J_cVR (jX9_termsOf l cx n (o + 1) (kf_1_1 ho) (M a 4) M) ck_RX1_101 dX1_writeUsage_8 rfl (kf_1_1 ho) ⟨rfl, rfl, by decide, by decide⟩ ⟨Nat.zero_le _, Nat.zero_le _, Nat.le_of_ble_eq_true rfl⟩ (fun r1 hr2 => ?_)
  refine J_ald1 dX1_writeUsage_11 ?_
  refine J_geti fl_RX1_105 dX1_writeUsage_12 ha rfl ?_
  refine J_cVP (jX7_usageOf l cx n r1 hr2 (M a 11) M) ck_RX1_108 dX1_writeUsage_15 rfl hr2 ⟨rfl, rfl, by decide, by decide⟩ ⟨Nat.zero_le _, Nat.zero_le _, Nat.le_of_ble_eq_true rfl⟩ (fun r3 => ?_)
  refine J_ist2 dX1_writeUsage_18 (by decide) rfl ?_
  refine J_ald1 dX1_writeUsage_19 ?_
  refine J_iconst (v := 0) dX1_writeUsage_20 rfl ?_
  refine J_puti fl_RX1_105 dX1_writeUsage_21 ha rfl (by decide) ?_
  refine J_ald0 dX1_writeUsage_24 ?_
  refine J_ald1 dX1_writeUsage_25 ?_
  refine J_iconst (v := 2) dX1_writeUsage_26 rfl ?_
  refine J_ald1 dX1_writeUsage_27 ?_
  refine J_geti fl_RX1_114 dX1_writeUsage_28 ha rfl ?_
  refine J_ald0 dX1_writeUsage_31 ?_
  refine J_geti fl_RX1_48 dX1_writeUsage_32 ho rfl ?_
  refine J_ild2 dX1_writeUsage_35 ?_
  refine J_cVI (jX1_write l cx n o ho a ha (2 : Int32) ((upd2 M a 11 (0 : Int32)) a 8) ((upd2 M a 11 (0 : Int32)) o 4) r3 (upd2 M a 11 (0 : Int32))) ck_RX1_97 dX1_writeUsage_36 rfl ho ⟨rfl, rfl, by decide, by decide⟩ ⟨Nat.zero_le _, Nat.zero_le _, Nat.le_of_ble_eq_true rfl⟩ (fun r4 M5 => ?_)
  exact J_iret dX1_writeUsage_39 rfl ⟨rfl, rfl, rfl⟩
set_option maxRecDepth 100000 in
theorem jX3_monthWith_c11 {l : Launch} {cx : CX} {n : Nat} {M : Mem} : ∀ (f : Nat) {v1 : Int32} {v2 : Int32}, JO l cx ({ frames := 1, cells := 0, slots := 0, locals := 23 } : Room) yX3_monthWith cX3_monthWith 3 (some .int) 0 0 false 0 207 (EP M) GS 0 0 11 [some (.ref 2), some (.int v1), some (.int v2)] [] M (mX3_monthWith_c11 n f v1 v2 M) := by
  intro f
  induction f with
  | zero =>
    intros
    exact J_none
  | succ f ih =>
    intro v1 v2
    unfold mX3_monthWith_c11
    refine J_ild2 dX3_monthWith_11 ?_
    refine J_iconst (v := 2) dX3_monthWith_12 rfl ?_
    refine J_iadd dX3_monthWith_13 ?_
    refine J_ald0 dX3_monthWith_14 ?_
    refine J_getr (q := 3) fl_RX3_11 dX3_monthWith_15 kk_2 rfl (rf_3_0 kk_2) ?_
    refine J_alen (v := (123 : Int32)) dX3_monthWith_18 kk_3 (Or.inl rfl) rfl rfl ?_
    refine J_ic_ge 40 dX3_monthWith_19 rfl ?_ ?_
    · refine J_ild2 dX3_monthWith_40 ?_
      refine J_bipush (v := 121) dX3_monthWith_41 rfl ?_
      refine J_mmin ⟨wd_16, wd_7, wd_8, wd_9⟩ dX3_monthWith_43 ⟨by decide, Nat.le_of_ble_eq_true rfl, Nat.zero_le _, Nat.zero_le _⟩ ?_
      exact J_iret dX3_monthWith_46 rfl ⟨rfl, rfl, rfl⟩
    · refine J_ald0 dX3_monthWith_22 ?_
      refine J_getr (q := 3) fl_RX3_11 dX3_monthWith_23 kk_2 rfl (rf_3_0 kk_2) ?_
      refine J_ild2 dX3_monthWith_26 ?_
      refine J_iconst (v := 1) dX3_monthWith_27 rfl ?_
      refine J_iadd dX3_monthWith_28 ?_
      refine J_iald dX3_monthWith_29 kk_3 rfl ?_
      refine J_ild1 dX3_monthWith_30 ?_
      refine J_ic_gt 40 dX3_monthWith_31 rfl ?_ ?_
      · refine J_ild2 dX3_monthWith_40 ?_
        refine J_bipush (v := 121) dX3_monthWith_41 rfl ?_
        refine J_mmin ⟨wd_16, wd_7, wd_8, wd_9⟩ dX3_monthWith_43 ⟨by decide, Nat.le_of_ble_eq_true rfl, Nat.zero_le _, Nat.zero_le _⟩ ?_
        exact J_iret dX3_monthWith_46 rfl ⟨rfl, rfl, rfl⟩
      · refine J_iinc2 (w := (v2 + (1 : Int32))) dX3_monthWith_34 (by decide) rfl rfl ?_
        refine J_goto 11 dX3_monthWith_37 rfl ?_
        exact J_wk (wk_s (wk_s (wk_s wk_0))) (ih)
set_option maxRecDepth 100000 in
theorem jX3_monthWith (l : Launch) (cx : CX) (n : Nat) (a : Int32) (M : Mem) : Con l cx ({ frames := 1, cells := 0, slots := 0, locals := 23 } : Room) yX3_monthWith cX3_monthWith 3 (some .int) 0 0 false 0 207 (EP M) GS [.ref 2, .int a] M (mX3_monthWith n a M) := by
  unfold mX3_monthWith
  refine Con.of (ls := [some (.ref 2), some (.int a), none]) (by decide) rfl (Nat.le_of_ble_eq_true rfl) ?_
  refine J_iconst (v := 0) dX3_monthWith_0 rfl ?_
  refine J_ild1 dX3_monthWith_1 ?_
  refine J_bipush (v := 31) dX3_monthWith_2 rfl ?_
  refine J_idivK dX3_monthWith_4 (by decide) ?_
  refine J_iconst (v := 1) dX3_monthWith_5 rfl ?_
  refine J_iadd dX3_monthWith_6 ?_
  refine J_mmax ⟨wd_17, wd_11, wd_8, wd_12⟩ dX3_monthWith_7 ⟨by decide, Nat.le_of_ble_eq_true rfl, Nat.zero_le _, Nat.zero_le _⟩ ?_
  refine J_ist2 dX3_monthWith_10 (by decide) rfl ?_
  exact J_wk (wk_s (wk_s (wk_s wk_0))) (jX3_monthWith_c11 (n := n) n)
set_option maxRecDepth 100000 in
theorem jX3_turnIn (l : Launch) (cx : CX) (n : Nat) (a : Int32) (b : Int32) (M : Mem) : Con l cx ({ frames := 1, cells := 0, slots := 0, locals := 23 } : Room) yX3_turnIn cX3_turnIn 3 (some .int) 0 0 false 0 207 (EP M) GS [.ref 2, .int a, .int b] M (mX3_turnIn a b M) := by
  unfold mX3_turnIn
  refine Con.of (ls := [some (.ref 2), some (.int a), some (.int b)]) (by decide) rfl (Nat.le_of_ble_eq_true rfl) ?_
  refine J_ild2 dX3_turnIn_0 ?_
  refine J_if_lt 15 dX3_turnIn_1 rfl ?_ ?_
  · refine J_iconst (v := 0) dX3_turnIn_15 rfl ?_
    exact J_iret dX3_turnIn_16 rfl ⟨rfl, rfl, rfl⟩
  · refine J_ild2 dX3_turnIn_4 ?_
    refine J_iconst (v := 1) dX3_turnIn_5 rfl ?_
    refine J_iadd dX3_turnIn_6 ?_
    refine J_ald0 dX3_turnIn_7 ?_
    refine J_getr (q := 3) fl_RX3_11 dX3_turnIn_8 kk_2 rfl (rf_3_0 kk_2) ?_
    refine J_alen (v := (123 : Int32)) dX3_turnIn_11 kk_3 (Or.inl rfl) rfl rfl ?_
    refine J_ic_lt 17 dX3_turnIn_12 rfl ?_ ?_
    · refine J_ald0 dX3_turnIn_17 ?_
      refine J_getr (q := 3) fl_RX3_11 dX3_turnIn_18 kk_2 rfl (rf_3_0 kk_2) ?_
      refine J_ild2 dX3_turnIn_21 ?_
      refine J_iald dX3_turnIn_22 kk_3 rfl ?_
      refine J_ild1 dX3_turnIn_23 ?_
      refine J_ald0 dX3_turnIn_24 ?_
      refine J_getr (q := 3) fl_RX3_11 dX3_turnIn_25 kk_2 rfl (rf_3_0 kk_2) ?_
      refine J_ild2 dX3_turnIn_28 ?_
      refine J_iconst (v := 1) dX3_turnIn_29 rfl ?_
      refine J_iadd dX3_turnIn_30 ?_
      refine J_iald dX3_turnIn_31 kk_3 rfl ?_
      refine J_ald0 dX3_turnIn_32 ?_
      refine J_getr (q := 3) fl_RX3_11 dX3_turnIn_33 kk_2 rfl (rf_3_0 kk_2) ?_
      refine J_ild2 dX3_turnIn_36 ?_
      refine J_iald dX3_turnIn_37 kk_3 rfl ?_
      refine J_isub dX3_turnIn_38 ?_
      refine J_mmin ⟨wd_16, wd_7, wd_8, wd_9⟩ dX3_turnIn_39 ⟨by decide, Nat.le_of_ble_eq_true rfl, Nat.zero_le _, Nat.zero_le _⟩ ?_
      refine J_iadd dX3_turnIn_42 ?_
      refine J_iconst (v := 1) dX3_turnIn_43 rfl ?_
      refine J_isub dX3_turnIn_44 ?_
      exact J_iret dX3_turnIn_45 rfl ⟨rfl, rfl, rfl⟩
    · refine J_iconst (v := 0) dX3_turnIn_15 rfl ?_
      exact J_iret dX3_turnIn_16 rfl ⟨rfl, rfl, rfl⟩
set_option maxRecDepth 100000 in
theorem jX3_lastTurn (l : Launch) (cx : CX) (n : Nat) (a : Int32) (b : Int32) (M : Mem) : Con l cx ({ frames := 2, cells := 0, slots := 0, locals := 45 } : Room) yX3_lastTurn cX3_lastTurn 5 (some .int) 0 0 false 0 207 (EP M) GS [.ref 2, .int a, .int b] M (mX3_lastTurn n a b M) := by
  unfold mX3_lastTurn
  refine Con.of (ls := [some (.ref 2), some (.int a), some (.int b), none, none]) (by decide) rfl (Nat.le_of_ble_eq_true rfl) ?_
  refine J_ald0 dX3_lastTurn_0 ?_
  refine J_ild2 dX3_lastTurn_1 ?_
  refine J_cVP (jX3_monthWith l cx n b M) ck_RX3_28 dX3_lastTurn_2 rfl kk_2 ⟨rfl, rfl, by decide, by decide⟩ ⟨Nat.zero_le _, Nat.zero_le _, Nat.le_of_ble_eq_true rfl⟩ (fun r1 => ?_)
  refine J_ist3 dX3_lastTurn_5 (by decide) rfl ?_
  refine J_ald0 dX3_lastTurn_6 ?_
  refine J_ild1 dX3_lastTurn_7 ?_
  refine J_ild3 dX3_lastTurn_8 ?_
  refine J_cVP (jX3_turnIn l cx n a r1 M) ck_RX3_31 dX3_lastTurn_9 rfl kk_2 ⟨rfl, rfl, by decide, by decide⟩ ⟨Nat.zero_le _, Nat.zero_le _, Nat.le_of_ble_eq_true rfl⟩ (fun r2 => ?_)
  refine J_ist4 dX3_lastTurn_12 (by decide) rfl ?_
  refine J_ild4 dX3_lastTurn_14 ?_
  refine J_ild2 dX3_lastTurn_16 ?_
  refine J_ic_gt 25 dX3_lastTurn_17 rfl ?_ ?_
  · refine J_ald0 dX3_lastTurn_25 ?_
    refine J_ild1 dX3_lastTurn_26 ?_
    refine J_ild3 dX3_lastTurn_27 ?_
    refine J_iconst (v := 1) dX3_lastTurn_28 rfl ?_
    refine J_isub dX3_lastTurn_29 ?_
    refine J_cVP (jX3_turnIn l cx n a (r1 - (1 : Int32)) M) ck_RX3_31 dX3_lastTurn_30 rfl kk_2 ⟨rfl, rfl, by decide, by decide⟩ ⟨Nat.zero_le _, Nat.zero_le _, Nat.le_of_ble_eq_true rfl⟩ (fun r3 => ?_)
    exact J_iret dX3_lastTurn_33 rfl ⟨rfl, rfl, rfl⟩
  · refine J_ild4 dX3_lastTurn_20 ?_
    refine J_goto 33 dX3_lastTurn_22 rfl ?_
    exact J_iret dX3_lastTurn_33 rfl ⟨rfl, rfl, rfl⟩
set_option maxRecDepth 100000 in
theorem jX3_nextTurn (l : Launch) (cx : CX) (n : Nat) (a : Int32) (b : Int32) (M : Mem) : Con l cx ({ frames := 2, cells := 0, slots := 0, locals := 45 } : Room) yX3_nextTurn cX3_nextTurn 5 (some .int) 0 0 false 0 207 (EP M) GS [.ref 2, .int a, .int b] M (mX3_nextTurn n a b M) := by
  unfold mX3_nextTurn
  refine Con.of (ls := [some (.ref 2), some (.int a), some (.int b), none, none]) (by decide) rfl (Nat.le_of_ble_eq_true rfl) ?_
  refine J_ald0 dX3_nextTurn_0 ?_
  refine J_ild2 dX3_nextTurn_1 ?_
  refine J_cVP (jX3_monthWith l cx n b M) ck_RX3_28 dX3_nextTurn_2 rfl kk_2 ⟨rfl, rfl, by decide, by decide⟩ ⟨Nat.zero_le _, Nat.zero_le _, Nat.le_of_ble_eq_true rfl⟩ (fun r1 => ?_)
  refine J_ist3 dX3_nextTurn_5 (by decide) rfl ?_
  refine J_ald0 dX3_nextTurn_6 ?_
  refine J_ild1 dX3_nextTurn_7 ?_
  refine J_ild3 dX3_nextTurn_8 ?_
  refine J_cVP (jX3_turnIn l cx n a r1 M) ck_RX3_31 dX3_nextTurn_9 rfl kk_2 ⟨rfl, rfl, by decide, by decide⟩ ⟨Nat.zero_le _, Nat.zero_le _, Nat.le_of_ble_eq_true rfl⟩ (fun r2 => ?_)
  refine J_ist4 dX3_nextTurn_12 (by decide) rfl ?_
  refine J_ild4 dX3_nextTurn_14 ?_
  refine J_ild2 dX3_nextTurn_16 ?_
  refine J_ic_le 25 dX3_nextTurn_17 rfl ?_ ?_
  · refine J_ald0 dX3_nextTurn_25 ?_
    refine J_ild1 dX3_nextTurn_26 ?_
    refine J_ild3 dX3_nextTurn_27 ?_
    refine J_iconst (v := 1) dX3_nextTurn_28 rfl ?_
    refine J_iadd dX3_nextTurn_29 ?_
    refine J_cVP (jX3_turnIn l cx n a (r1 + (1 : Int32)) M) ck_RX3_31 dX3_nextTurn_30 rfl kk_2 ⟨rfl, rfl, by decide, by decide⟩ ⟨Nat.zero_le _, Nat.zero_le _, Nat.le_of_ble_eq_true rfl⟩ (fun r3 => ?_)
    exact J_iret dX3_nextTurn_33 rfl ⟨rfl, rfl, rfl⟩
  · refine J_ild4 dX3_nextTurn_20 ?_
    refine J_goto 33 dX3_nextTurn_22 rfl ?_
    exact J_iret dX3_nextTurn_33 rfl ⟨rfl, rfl, rfl⟩
set_option maxRecDepth 100000 in
theorem jX1_startPeriod (l : Launch) (cx : CX) (n : Nat) (o : Nat) (ho : IsK GS 0 207 o 1) (a : Nat) (ha : IsK GS 0 207 a 0) (b : Int32) (M : Mem) : Con l cx ({ frames := 3, cells := 0, slots := 0, locals := 69 } : Room) yX1_startPeriod cX1_startPeriod 3 none 0 0 false 0 207 EV GS [.ref o, .ref a, .int b] M (mX1_startPeriod n o a b M) := by
  unfold mX1_startPeriod
  refine Con.of (ls := [some (.ref o), some (.ref a), some (.int b)]) (by decide) rfl (Nat.le_of_ble_eq_true rfl) ?_
  refine J_ald1 dX1_startPeriod_0 ?_
  refine J_ild2 dX1_startPeriod_1 ?_
  refine J_puti fl_RX1_73 dX1_startPeriod_2 ha rfl (by decide) ?_
  refine J_ald1 dX1_startPeriod_5 ?_
  refine J_ald0 dX1_startPeriod_6 ?_
  refine J_geti fl_RX1_48 dX1_startPeriod_7 ho rfl ?_
  refine J_puti fl_RX1_114 dX1_startPeriod_10 ha rfl (by decide) ?_
  refine J_ald1 dX1_startPeriod_13 ?_
  refine J_ald0 dX1_startPeriod_14 ?_
  refine J_getr (q := 2) fl_RX1_31 dX1_startPeriod_15 ho rfl (rf_1_0 ho) ?_
  refine J_ald1 dX1_startPeriod_18 ?_
  refine J_geti fl_RX1_117 dX1_startPeriod_19 ha rfl ?_
  refine J_ald0 dX1_startPeriod_22 ?_
  refine J_geti fl_RX1_48 dX1_startPeriod_23 ho rfl ?_
  refine J_cVP (jX3_lastTurn l cx n ((upd2 (upd2 M a 7 b) a 8 ((upd2 M a 7 b) o 4)) a 5) ((upd2 (upd2 M a 7 b) a 8 ((upd2 M a 7 b) o 4)) o 4) (upd2 (upd2 M a 7 b) a 8 ((upd2 M a 7 b) o 4))) ck_RX1_120 dX1_startPeriod_26 rfl kk_2 ⟨rfl, rfl, by decide, by decide⟩ ⟨Nat.zero_le _, Nat.zero_le _, Nat.le_of_ble_eq_true rfl⟩ (fun r1 => ?_)
  refine J_puti fl_RX1_125 dX1_startPeriod_29 ha rfl (by decide) ?_
  refine J_ald1 dX1_startPeriod_32 ?_
  refine J_ald0 dX1_startPeriod_33 ?_
  refine J_getr (q := 2) fl_RX1_31 dX1_startPeriod_34 ho rfl (rf_1_0 ho) ?_
  refine J_ald1 dX1_startPeriod_37 ?_
  refine J_geti fl_RX1_117 dX1_startPeriod_38 ha rfl ?_
  refine J_ald0 dX1_startPeriod_41 ?_
  refine J_geti fl_RX1_48 dX1_startPeriod_42 ho rfl ?_
  refine J_cVP (jX3_nextTurn l cx n ((upd2 (upd2 (upd2 M a 7 b) a 8 ((upd2 M a 7 b) o 4)) a 10 r1) a 5) ((upd2 (upd2 (upd2 M a 7 b) a 8 ((upd2 M a 7 b) o 4)) a 10 r1) o 4) (upd2 (upd2 (upd2 M a 7 b) a 8 ((upd2 M a 7 b) o 4)) a 10 r1)) ck_RX1_128 dX1_startPeriod_45 rfl kk_2 ⟨rfl, rfl, by decide, by decide⟩ ⟨Nat.zero_le _, Nat.zero_le _, Nat.le_of_ble_eq_true rfl⟩ (fun r2 => ?_)
  refine J_puti fl_RX1_86 dX1_startPeriod_48 ha rfl (by decide) ?_
  exact J_vret dX1_startPeriod_51 rfl ⟨rfl, rfl, rfl⟩
set_option maxRecDepth 100000 in
theorem jX10_isPlan (l : Launch) (cx : CX) (n : Nat) (a : Int32) (M : Mem) : Con l cx ({ frames := 0, cells := 0, slots := 0, locals := 0 } : Room) yX10_isPlan cX10_isPlan 1 (some .boolean) 0 0 false 0 207 (EB M) GS [.int a] M (mX10_isPlan a) := by
  unfold mX10_isPlan
  refine Con.of (ls := [some (.int a)]) (by decide) rfl (Nat.le_of_ble_eq_true rfl) ?_
  refine J_ild0 dX10_isPlan_0 ?_
  refine J_if_lt 14 dX10_isPlan_1 rfl ?_ ?_
  · refine J_iconst (v := 0) dX10_isPlan_14 rfl ?_
    exact J_zret dX10_isPlan_15 rfl (Or.inl rfl) ⟨rfl, rfl, rfl, (Or.inl rfl)⟩
  · refine J_ild0 dX10_isPlan_4 ?_
    refine J_bipush (v := 6) dX10_isPlan_5 rfl ?_
    refine J_ic_ge 14 dX10_isPlan_7 rfl ?_ ?_
    · refine J_iconst (v := 0) dX10_isPlan_14 rfl ?_
      exact J_zret dX10_isPlan_15 rfl (Or.inl rfl) ⟨rfl, rfl, rfl, (Or.inl rfl)⟩
    · refine J_iconst (v := 1) dX10_isPlan_10 rfl ?_
      refine J_goto 15 dX10_isPlan_11 rfl ?_
      exact J_zret dX10_isPlan_15 rfl (Or.inr rfl) ⟨rfl, rfl, rfl, (Or.inr rfl)⟩
set_option maxRecDepth 100000 in
theorem jX10_isAnchor (l : Launch) (cx : CX) (n : Nat) (a : Int32) (M : Mem) : Con l cx ({ frames := 0, cells := 0, slots := 0, locals := 0 } : Room) yX10_isAnchor cX10_isAnchor 1 (some .boolean) 0 0 false 0 207 (EB M) GS [.int a] M (mX10_isAnchor a) := by
  unfold mX10_isAnchor
  refine Con.of (ls := [some (.int a)]) (by decide) rfl (Nat.le_of_ble_eq_true rfl) ?_
  refine J_ild0 dX10_isAnchor_0 ?_
  refine J_iconst (v := 1) dX10_isAnchor_1 rfl ?_
  refine J_ic_lt 15 dX10_isAnchor_2 rfl ?_ ?_
  · refine J_iconst (v := 0) dX10_isAnchor_15 rfl ?_
    exact J_zret dX10_isAnchor_16 rfl (Or.inl rfl) ⟨rfl, rfl, rfl, (Or.inl rfl)⟩
  · refine J_ild0 dX10_isAnchor_5 ?_
    refine J_bipush (v := 31) dX10_isAnchor_6 rfl ?_
    refine J_ic_gt 15 dX10_isAnchor_8 rfl ?_ ?_
    · refine J_iconst (v := 0) dX10_isAnchor_15 rfl ?_
      exact J_zret dX10_isAnchor_16 rfl (Or.inl rfl) ⟨rfl, rfl, rfl, (Or.inl rfl)⟩
    · refine J_iconst (v := 1) dX10_isAnchor_11 rfl ?_
      refine J_goto 16 dX10_isAnchor_12 rfl ?_
      exact J_zret dX10_isAnchor_16 rfl (Or.inr rfl) ⟨rfl, rfl, rfl, (Or.inr rfl)⟩
set_option maxRecDepth 100000 in
theorem jX5_haveRoom (l : Launch) (cx : CX) (n : Nat) (o : Nat) (ho : IsK GS 0 207 o 5) (a : Int32) (M : Mem) : Con l cx ({ frames := 0, cells := 0, slots := 0, locals := 0 } : Room) yX5_haveRoom cX5_haveRoom 2 (some .boolean) 0 0 false 0 207 (EB M) GS [.ref o, .int a] M (mX5_haveRoom o a M) := by
  unfold mX5_haveRoom
  refine Con.of (ls := [some (.ref o), some (.int a)]) (by decide) rfl (Nat.le_of_ble_eq_true rfl) ?_
  refine J_ald0 dX5_haveRoom_0 ?_
  refine J_geti fl_RX5_42 dX5_haveRoom_1 ho rfl ?_
  refine J_ild1 dX5_haveRoom_4 ?_
  refine J_iadd dX5_haveRoom_5 ?_
  refine J_sipush (v := 400) dX5_haveRoom_6 rfl ?_
  refine J_ic_gt 16 dX5_haveRoom_9 rfl ?_ ?_
  · refine J_iconst (v := 0) dX5_haveRoom_16 rfl ?_
    exact J_zret dX5_haveRoom_17 rfl (Or.inl rfl) ⟨rfl, rfl, rfl, (Or.inl rfl)⟩
  · refine J_iconst (v := 1) dX5_haveRoom_12 rfl ?_
    refine J_goto 17 dX5_haveRoom_13 rfl ?_
    exact J_zret dX5_haveRoom_17 rfl (Or.inr rfl) ⟨rfl, rfl, rfl, (Or.inr rfl)⟩
set_option maxRecDepth 100000 in
theorem jX1_startAccount (l : Launch) (cx : CX) (n : Nat) (o : Nat) (ho : IsK GS 0 207 o 1) (a : Int32) (b : Int32) (c : Int32) (M : Mem) : Con l cx ({ frames := 4, cells := 0, slots := 0, locals := 91 } : Room) yX1_startAccount cX1_startAccount 5 (some .int) 0 0 false 0 207 EI GS [.ref o, .int a, .int b, .int c] M (mX1_startAccount n o a b c M) := by
  unfold mX1_startAccount
  refine Con.of (ls := [some (.ref o), some (.int a), some (.int b), some (.int c), none]) (by decide) rfl (Nat.le_of_ble_eq_true rfl) ?_
  refine J_ild1 dX1_startAccount_0 ?_
  refine J_cSB (jX10_isAccount l cx n a M) ck_RX1_52 dX1_startAccount_1 rfl ⟨rfl, rfl, by decide, by decide⟩ ⟨Nat.zero_le _, Nat.zero_le _, Nat.le_of_ble_eq_true rfl⟩ (fun r1 z2 => ?_)
  refine J_if_eq 21 dX1_startAccount_4 rfl ?_ ?_
  · refine J_iconst (v := -1) dX1_startAccount_21 rfl ?_
    exact J_iret dX1_startAccount_22 rfl ⟨rfl, rfl, rfl⟩
  · refine J_ild2 dX1_startAccount_7 ?_
    refine J_cSB (jX10_isPlan l cx n b M) ck_RX1_131 dX1_startAccount_8 rfl ⟨rfl, rfl, by decide, by decide⟩ ⟨Nat.zero_le _, Nat.zero_le _, Nat.le_of_ble_eq_true rfl⟩ (fun r3 z4 => ?_)
    refine J_if_eq 21 dX1_startAccount_11 rfl ?_ ?_
    · refine J_iconst (v := -1) dX1_startAccount_21 rfl ?_
      exact J_iret dX1_startAccount_22 rfl ⟨rfl, rfl, rfl⟩
    · refine J_ild3 dX1_startAccount_14 ?_
      refine J_cSB (jX10_isAnchor l cx n c M) ck_RX1_134 dX1_startAccount_15 rfl ⟨rfl, rfl, by decide, by decide⟩ ⟨Nat.zero_le _, Nat.zero_le _, Nat.le_of_ble_eq_true rfl⟩ (fun r5 z6 => ?_)
      refine J_if_ne 23 dX1_startAccount_18 rfl ?_ ?_
      · refine J_ald0 dX1_startAccount_23 ?_
        refine J_getr (q := (o + 36)) fl_RX1_27 dX1_startAccount_24 ho rfl (rf_1_3 ho) ?_
        refine J_iconst (v := 1) dX1_startAccount_27 rfl ?_
        refine J_cVB (jX5_haveRoom l cx n (o + 36) (kf_1_3 ho) (1 : Int32) M) ck_RX1_137 dX1_startAccount_28 rfl (kf_1_3 ho) ⟨rfl, rfl, by decide, by decide⟩ ⟨Nat.zero_le _, Nat.zero_le _, Nat.le_of_ble_eq_true rfl⟩ (fun r7 z8 => ?_)
        refine J_if_ne 37 dX1_startAccount_31 rfl ?_ ?_
        · refine J_ald0 dX1_startAccount_37 ?_
          refine J_getr (q := (o + 35)) fl_RX1_20 dX1_startAccount_38 ho rfl (rf_1_2 ho) ?_
          refine J_ild1 dX1_startAccount_41 ?_
          refine J_aald (q := ((o + 35) + 12 + Int32.toNatClampNeg a)) dX1_startAccount_42 (kf_1_2 ho) (Or.inl rfl) (ln_1_2 ho) (fun g9 => (aal_15 (kf_1_2 ho) g9).1) (fun g9 => ?_)
          refine J_ast4 dX1_startAccount_43 (by decide) rfl ?_
          refine J_ald4 dX1_startAccount_45 ?_
          refine J_geti fl_RX1_56 dX1_startAccount_47 (aal_15 (kf_1_2 ho) g9).2 rfl ?_
          refine J_if_eq 56 dX1_startAccount_50 rfl ?_ ?_
          · refine J_ald0 dX1_startAccount_56 ?_
            refine J_getr (q := 2) fl_RX1_31 dX1_startAccount_57 ho rfl (rf_1_0 ho) ?_
            refine J_ild3 dX1_startAccount_60 ?_
            refine J_ald0 dX1_startAccount_61 ?_
            refine J_geti fl_RX1_48 dX1_startAccount_62 ho rfl ?_
            refine J_cVP (jX3_nextTurn l cx n c (M o 4) M) ck_RX1_128 dX1_startAccount_65 rfl kk_2 ⟨rfl, rfl, by decide, by decide⟩ ⟨Nat.zero_le _, Nat.zero_le _, Nat.le_of_ble_eq_true rfl⟩ (fun r10 => ?_)
            refine J_sipush (v := 3652) dX1_startAccount_68 rfl ?_
            refine J_ic_le 77 dX1_startAccount_71 rfl ?_ ?_
            · refine J_ald4 dX1_startAccount_77 ?_
              refine J_iconst (v := 1) dX1_startAccount_79 rfl ?_
              refine J_putzK fl_RX1_56 dX1_startAccount_80 (aal_15 (kf_1_2 ho) g9).2 rfl (by decide) (Or.inr rfl) ?_
              refine J_ald4 dX1_startAccount_83 ?_
              refine J_ild2 dX1_startAccount_85 ?_
              refine J_puti fl_RX1_76 dX1_startAccount_86 (aal_15 (kf_1_2 ho) g9).2 rfl (by decide) ?_
              refine J_lt (fun M11 => ?_)
              refine J_ald4 dX1_startAccount_89 ?_
              refine J_ild3 dX1_startAccount_91 ?_
              refine J_puti fl_RX1_117 dX1_startAccount_92 (aal_15 (kf_1_2 ho) g9).2 rfl (by decide) ?_
              refine J_ald4 dX1_startAccount_95 ?_
              refine J_iconst (v := 1) dX1_startAccount_97 rfl ?_
              refine J_puti fl_RX1_140 dX1_startAccount_98 (aal_15 (kf_1_2 ho) g9).2 rfl (by decide) ?_
              refine J_lt (fun M12 => ?_)
              refine J_ald0 dX1_startAccount_101 ?_
              refine J_ald4 dX1_startAccount_102 ?_
              refine J_iconst (v := 0) dX1_startAccount_104 rfl ?_
              refine J_cVV (jX1_startPeriod l cx n o ho ((o + 35) + 12 + Int32.toNatClampNeg a) (aal_15 (kf_1_2 ho) g9).2 (0 : Int32) M12) ck_RX1_143 dX1_startAccount_105 rfl ho ⟨rfl, rfl, by decide, by decide⟩ ⟨Nat.zero_le _, Nat.zero_le _, Nat.le_of_ble_eq_true rfl⟩ (fun M14 => ?_)
              refine J_ald0 dX1_startAccount_108 ?_
              refine J_ald4 dX1_startAccount_109 ?_
              refine J_cVI (jX1_writeCharge l cx n o ho ((o + 35) + 12 + Int32.toNatClampNeg a) (aal_15 (kf_1_2 ho) g9).2 M14) ck_RX1_147 dX1_startAccount_111 rfl ho ⟨rfl, rfl, by decide, by decide⟩ ⟨Nat.zero_le _, Nat.zero_le _, Nat.le_of_ble_eq_true rfl⟩ (fun r15 M16 => ?_)
              exact J_iret dX1_startAccount_114 rfl ⟨rfl, rfl, rfl⟩
            · refine J_bipush (v := -5) dX1_startAccount_74 rfl ?_
              exact J_iret dX1_startAccount_76 rfl ⟨rfl, rfl, rfl⟩
          · refine J_bipush (v := -4) dX1_startAccount_53 rfl ?_
            exact J_iret dX1_startAccount_55 rfl ⟨rfl, rfl, rfl⟩
        · refine J_bipush (v := -3) dX1_startAccount_34 rfl ?_
          exact J_iret dX1_startAccount_36 rfl ⟨rfl, rfl, rfl⟩
      · refine J_iconst (v := -1) dX1_startAccount_21 rfl ?_
        exact J_iret dX1_startAccount_22 rfl ⟨rfl, rfl, rfl⟩
set_option maxRecDepth 100000 in
theorem jX1_putPlan (l : Launch) (cx : CX) (n : Nat) (o : Nat) (ho : IsK GS 0 207 o 1) (a : Int32) (b : Int32) (M : Mem) : Con l cx ({ frames := 3, cells := 0, slots := 0, locals := 72 } : Room) yX1_putPlan cX1_putPlan 5 (some .int) 0 0 false 0 207 EI GS [.ref o, .int a, .int b] M (mX1_putPlan n o a b M) := by
  unfold mX1_putPlan
  refine Con.of (ls := [some (.ref o), some (.int a), some (.int b), none, none]) (by decide) rfl (Nat.le_of_ble_eq_true rfl) ?_
  refine J_ald0 dX1_putPlan_0 ?_
  refine J_ild1 dX1_putPlan_1 ?_
  refine J_cVB (jX1_isRunning l cx n o ho a M) ck_RX1_151 dX1_putPlan_2 rfl ho ⟨rfl, rfl, by decide, by decide⟩ ⟨Nat.zero_le _, Nat.zero_le _, Nat.le_of_ble_eq_true rfl⟩ (fun r1 z2 => ?_)
  refine J_if_eq 28 dX1_putPlan_5 rfl ?_ ?_
  · refine J_ldc dX1_putPlan_28 wd_18 ?_
    exact J_iret dX1_putPlan_30 rfl ⟨rfl, rfl, rfl⟩
  · refine J_ild2 dX1_putPlan_8 ?_
    refine J_cSB (jX10_isPlan l cx n b M) ck_RX1_131 dX1_putPlan_9 rfl ⟨rfl, rfl, by decide, by decide⟩ ⟨Nat.zero_le _, Nat.zero_le _, Nat.le_of_ble_eq_true rfl⟩ (fun r3 z4 => ?_)
    refine J_if_eq 28 dX1_putPlan_12 rfl ?_ ?_
    · refine J_ldc dX1_putPlan_28 wd_18 ?_
      exact J_iret dX1_putPlan_30 rfl ⟨rfl, rfl, rfl⟩
    · refine J_ald0 dX1_putPlan_15 ?_
      refine J_getr (q := (o + 35)) fl_RX1_20 dX1_putPlan_16 ho rfl (rf_1_2 ho) ?_
      refine J_ild1 dX1_putPlan_19 ?_
      refine J_aald (q := ((o + 35) + 12 + Int32.toNatClampNeg a)) dX1_putPlan_20 (kf_1_2 ho) (Or.inl rfl) (ln_1_2 ho) (fun g5 => (aal_15 (kf_1_2 ho) g5).1) (fun g5 => ?_)
      refine J_geti fl_RX1_76 dX1_putPlan_21 (aal_15 (kf_1_2 ho) g5).2 rfl ?_
      refine J_ild2 dX1_putPlan_24 ?_
      refine J_ic_ne 31 dX1_putPlan_25 rfl ?_ ?_
      · refine J_ald0 dX1_putPlan_31 ?_
        refine J_getr (q := (o + 36)) fl_RX1_27 dX1_putPlan_32 ho rfl (rf_1_3 ho) ?_
        refine J_iconst (v := 2) dX1_putPlan_35 rfl ?_
        refine J_cVB (jX5_haveRoom l cx n (o + 36) (kf_1_3 ho) (2 : Int32) M) ck_RX1_137 dX1_putPlan_36 rfl (kf_1_3 ho) ⟨rfl, rfl, by decide, by decide⟩ ⟨Nat.zero_le _, Nat.zero_le _, Nat.le_of_ble_eq_true rfl⟩ (fun r6 z7 => ?_)
        refine J_if_ne 45 dX1_putPlan_39 rfl ?_ ?_
        · refine J_ald0 dX1_putPlan_45 ?_
          refine J_getr (q := (o + 35)) fl_RX1_20 dX1_putPlan_46 ho rfl (rf_1_2 ho) ?_
          refine J_ild1 dX1_putPlan_49 ?_
          refine J_aald (q := ((o + 35) + 12 + Int32.toNatClampNeg a)) dX1_putPlan_50 (kf_1_2 ho) (Or.inl rfl) (ln_1_2 ho) (fun g8 => (aal_15 (kf_1_2 ho) g8).1) (fun g8 => ?_)
          refine J_ast3 dX1_putPlan_51 (by decide) rfl ?_
          refine J_ald0 dX1_putPlan_52 ?_
          refine J_ald3 dX1_putPlan_53 ?_
          refine J_cVI (jX1_writeCredit l cx n o ho ((o + 35) + 12 + Int32.toNatClampNeg a) (aal_15 (kf_1_2 ho) g8).2 M) ck_RX1_156 dX1_putPlan_54 rfl ho ⟨rfl, rfl, by decide, by decide⟩ ⟨Nat.zero_le _, Nat.zero_le _, Nat.le_of_ble_eq_true rfl⟩ (fun r9 M10 => ?_)
          refine J_ist4 dX1_putPlan_57 (by decide) rfl ?_
          refine J_ald3 dX1_putPlan_59 ?_
          refine J_ild2 dX1_putPlan_60 ?_
          refine J_puti fl_RX1_76 dX1_putPlan_61 (aal_15 (kf_1_2 ho) g8).2 rfl (by decide) ?_
          refine J_ild4 dX1_putPlan_64 ?_
          refine J_ald0 dX1_putPlan_66 ?_
          refine J_ald3 dX1_putPlan_67 ?_
          refine J_cVI (jX1_writeCharge l cx n o ho ((o + 35) + 12 + Int32.toNatClampNeg a) (aal_15 (kf_1_2 ho) g8).2 (upd2 M10 ((o + 35) + 12 + Int32.toNatClampNeg a) 4 b)) ck_RX1_147 dX1_putPlan_68 rfl ho ⟨rfl, rfl, by decide, by decide⟩ ⟨Nat.zero_le _, Nat.zero_le _, Nat.le_of_ble_eq_true rfl⟩ (fun r11 M12 => ?_)
          refine J_iadd dX1_putPlan_71 ?_
          exact J_iret dX1_putPlan_72 rfl ⟨rfl, rfl, rfl⟩
        · refine J_ldc dX1_putPlan_42 wd_19 ?_
          exact J_iret dX1_putPlan_44 rfl ⟨rfl, rfl, rfl⟩
      · refine J_ldc dX1_putPlan_28 wd_18 ?_
        exact J_iret dX1_putPlan_30 rfl ⟨rfl, rfl, rfl⟩
set_option maxRecDepth 100000 in
theorem jX1_putSeats (l : Launch) (cx : CX) (n : Nat) (o : Nat) (ho : IsK GS 0 207 o 1) (a : Int32) (b : Int32) (M : Mem) : Con l cx ({ frames := 3, cells := 0, slots := 0, locals := 72 } : Room) yX1_putSeats cX1_putSeats 5 (some .int) 0 0 false 0 207 EI GS [.ref o, .int a, .int b] M (mX1_putSeats n o a b M) := by
  unfold mX1_putSeats
  refine Con.of (ls := [some (.ref o), some (.int a), some (.int b), none, none]) (by decide) rfl (Nat.le_of_ble_eq_true rfl) ?_
  refine J_ald0 dX1_putSeats_0 ?_
  refine J_ild1 dX1_putSeats_1 ?_
  refine J_cVB (jX1_isRunning l cx n o ho a M) ck_RX1_151 dX1_putSeats_2 rfl ho ⟨rfl, rfl, by decide, by decide⟩ ⟨Nat.zero_le _, Nat.zero_le _, Nat.le_of_ble_eq_true rfl⟩ (fun r1 z2 => ?_)
  refine J_if_eq 32 dX1_putSeats_5 rfl ?_ ?_
  · refine J_ldc dX1_putSeats_32 wd_18 ?_
    exact J_iret dX1_putSeats_34 rfl ⟨rfl, rfl, rfl⟩
  · refine J_ild2 dX1_putSeats_8 ?_
    refine J_iconst (v := 1) dX1_putSeats_9 rfl ?_
    refine J_ic_lt 32 dX1_putSeats_10 rfl ?_ ?_
    · refine J_ldc dX1_putSeats_32 wd_18 ?_
      exact J_iret dX1_putSeats_34 rfl ⟨rfl, rfl, rfl⟩
    · refine J_ild2 dX1_putSeats_13 ?_
      refine J_bipush (v := 9) dX1_putSeats_14 rfl ?_
      refine J_ic_gt 32 dX1_putSeats_16 rfl ?_ ?_
      · refine J_ldc dX1_putSeats_32 wd_18 ?_
        exact J_iret dX1_putSeats_34 rfl ⟨rfl, rfl, rfl⟩
      · refine J_ald0 dX1_putSeats_19 ?_
        refine J_getr (q := (o + 35)) fl_RX1_20 dX1_putSeats_20 ho rfl (rf_1_2 ho) ?_
        refine J_ild1 dX1_putSeats_23 ?_
        refine J_aald (q := ((o + 35) + 12 + Int32.toNatClampNeg a)) dX1_putSeats_24 (kf_1_2 ho) (Or.inl rfl) (ln_1_2 ho) (fun g3 => (aal_15 (kf_1_2 ho) g3).1) (fun g3 => ?_)
        refine J_geti fl_RX1_140 dX1_putSeats_25 (aal_15 (kf_1_2 ho) g3).2 rfl ?_
        refine J_ild2 dX1_putSeats_28 ?_
        refine J_ic_ne 35 dX1_putSeats_29 rfl ?_ ?_
        · refine J_ald0 dX1_putSeats_35 ?_
          refine J_getr (q := (o + 36)) fl_RX1_27 dX1_putSeats_36 ho rfl (rf_1_3 ho) ?_
          refine J_iconst (v := 2) dX1_putSeats_39 rfl ?_
          refine J_cVB (jX5_haveRoom l cx n (o + 36) (kf_1_3 ho) (2 : Int32) M) ck_RX1_137 dX1_putSeats_40 rfl (kf_1_3 ho) ⟨rfl, rfl, by decide, by decide⟩ ⟨Nat.zero_le _, Nat.zero_le _, Nat.le_of_ble_eq_true rfl⟩ (fun r4 z5 => ?_)
          refine J_if_ne 49 dX1_putSeats_43 rfl ?_ ?_
          · refine J_ald0 dX1_putSeats_49 ?_
            refine J_getr (q := (o + 35)) fl_RX1_20 dX1_putSeats_50 ho rfl (rf_1_2 ho) ?_
            refine J_ild1 dX1_putSeats_53 ?_
            refine J_aald (q := ((o + 35) + 12 + Int32.toNatClampNeg a)) dX1_putSeats_54 (kf_1_2 ho) (Or.inl rfl) (ln_1_2 ho) (fun g6 => (aal_15 (kf_1_2 ho) g6).1) (fun g6 => ?_)
            refine J_ast3 dX1_putSeats_55 (by decide) rfl ?_
            refine J_ald0 dX1_putSeats_56 ?_
            refine J_ald3 dX1_putSeats_57 ?_
            refine J_cVI (jX1_writeCredit l cx n o ho ((o + 35) + 12 + Int32.toNatClampNeg a) (aal_15 (kf_1_2 ho) g6).2 M) ck_RX1_156 dX1_putSeats_58 rfl ho ⟨rfl, rfl, by decide, by decide⟩ ⟨Nat.zero_le _, Nat.zero_le _, Nat.le_of_ble_eq_true rfl⟩ (fun r7 M8 => ?_)
            refine J_ist4 dX1_putSeats_61 (by decide) rfl ?_
            refine J_ald3 dX1_putSeats_63 ?_
            refine J_ild2 dX1_putSeats_64 ?_
            refine J_puti fl_RX1_140 dX1_putSeats_65 (aal_15 (kf_1_2 ho) g6).2 rfl (by decide) ?_
            refine J_ild4 dX1_putSeats_68 ?_
            refine J_ald0 dX1_putSeats_70 ?_
            refine J_ald3 dX1_putSeats_71 ?_
            refine J_cVI (jX1_writeCharge l cx n o ho ((o + 35) + 12 + Int32.toNatClampNeg a) (aal_15 (kf_1_2 ho) g6).2 (upd2 M8 ((o + 35) + 12 + Int32.toNatClampNeg a) 6 b)) ck_RX1_147 dX1_putSeats_72 rfl ho ⟨rfl, rfl, by decide, by decide⟩ ⟨Nat.zero_le _, Nat.zero_le _, Nat.le_of_ble_eq_true rfl⟩ (fun r9 M10 => ?_)
            refine J_iadd dX1_putSeats_75 ?_
            exact J_iret dX1_putSeats_76 rfl ⟨rfl, rfl, rfl⟩
          · refine J_ldc dX1_putSeats_46 wd_19 ?_
            exact J_iret dX1_putSeats_48 rfl ⟨rfl, rfl, rfl⟩
        · refine J_ldc dX1_putSeats_32 wd_18 ?_
          exact J_iret dX1_putSeats_34 rfl ⟨rfl, rfl, rfl⟩
set_option maxRecDepth 100000 in
theorem jX1_putPaused (l : Launch) (cx : CX) (n : Nat) (o : Nat) (ho : IsK GS 0 207 o 1) (a : Int32) (b : Int32) (zb : b = 0 ∨ b = 1) (M : Mem) : Con l cx ({ frames := 3, cells := 0, slots := 0, locals := 72 } : Room) yX1_putPaused cX1_putPaused 5 (some .int) 0 0 false 0 207 EI GS [.ref o, .int a, .int b] M (mX1_putPaused n o a b M) := by
  unfold mX1_putPaused
  refine Con.of (ls := [some (.ref o), some (.int a), some (.int b), none, none]) (by decide) rfl (Nat.le_of_ble_eq_true rfl) ?_
  refine J_ald0 dX1_putPaused_0 ?_
  refine J_ild1 dX1_putPaused_1 ?_
  refine J_cVB (jX1_isRunning l cx n o ho a M) ck_RX1_151 dX1_putPaused_2 rfl ho ⟨rfl, rfl, by decide, by decide⟩ ⟨Nat.zero_le _, Nat.zero_le _, Nat.le_of_ble_eq_true rfl⟩ (fun r1 z2 => ?_)
  refine J_if_eq 21 dX1_putPaused_5 rfl ?_ ?_
  · refine J_ldc dX1_putPaused_21 wd_18 ?_
    exact J_iret dX1_putPaused_23 rfl ⟨rfl, rfl, rfl⟩
  · refine J_ald0 dX1_putPaused_8 ?_
    refine J_getr (q := (o + 35)) fl_RX1_20 dX1_putPaused_9 ho rfl (rf_1_2 ho) ?_
    refine J_ild1 dX1_putPaused_12 ?_
    refine J_aald (q := ((o + 35) + 12 + Int32.toNatClampNeg a)) dX1_putPaused_13 (kf_1_2 ho) (Or.inl rfl) (ln_1_2 ho) (fun g3 => (aal_15 (kf_1_2 ho) g3).1) (fun g3 => ?_)
    refine J_geti fl_RX1_159 dX1_putPaused_14 (aal_15 (kf_1_2 ho) g3).2 rfl ?_
    refine J_ild2 dX1_putPaused_17 ?_
    refine J_ic_ne 24 dX1_putPaused_18 rfl ?_ ?_
    · refine J_ald0 dX1_putPaused_24 ?_
      refine J_getr (q := (o + 36)) fl_RX1_27 dX1_putPaused_25 ho rfl (rf_1_3 ho) ?_
      refine J_iconst (v := 2) dX1_putPaused_28 rfl ?_
      refine J_cVB (jX5_haveRoom l cx n (o + 36) (kf_1_3 ho) (2 : Int32) M) ck_RX1_137 dX1_putPaused_29 rfl (kf_1_3 ho) ⟨rfl, rfl, by decide, by decide⟩ ⟨Nat.zero_le _, Nat.zero_le _, Nat.le_of_ble_eq_true rfl⟩ (fun r4 z5 => ?_)
      refine J_if_ne 38 dX1_putPaused_32 rfl ?_ ?_
      · refine J_ald0 dX1_putPaused_38 ?_
        refine J_getr (q := (o + 35)) fl_RX1_20 dX1_putPaused_39 ho rfl (rf_1_2 ho) ?_
        refine J_ild1 dX1_putPaused_42 ?_
        refine J_aald (q := ((o + 35) + 12 + Int32.toNatClampNeg a)) dX1_putPaused_43 (kf_1_2 ho) (Or.inl rfl) (ln_1_2 ho) (fun g6 => (aal_15 (kf_1_2 ho) g6).1) (fun g6 => ?_)
        refine J_ast3 dX1_putPaused_44 (by decide) rfl ?_
        refine J_ald0 dX1_putPaused_45 ?_
        refine J_ald3 dX1_putPaused_46 ?_
        refine J_cVI (jX1_writeCredit l cx n o ho ((o + 35) + 12 + Int32.toNatClampNeg a) (aal_15 (kf_1_2 ho) g6).2 M) ck_RX1_156 dX1_putPaused_47 rfl ho ⟨rfl, rfl, by decide, by decide⟩ ⟨Nat.zero_le _, Nat.zero_le _, Nat.le_of_ble_eq_true rfl⟩ (fun r7 M8 => ?_)
        refine J_ist4 dX1_putPaused_50 (by decide) rfl ?_
        refine J_ald3 dX1_putPaused_52 ?_
        refine J_ild2 dX1_putPaused_53 ?_
        refine J_putzK fl_RX1_159 dX1_putPaused_54 (aal_15 (kf_1_2 ho) g6).2 rfl (by decide) zb ?_
        refine J_ild4 dX1_putPaused_57 ?_
        refine J_ald0 dX1_putPaused_59 ?_
        refine J_ald3 dX1_putPaused_60 ?_
        refine J_cVI (jX1_writeCharge l cx n o ho ((o + 35) + 12 + Int32.toNatClampNeg a) (aal_15 (kf_1_2 ho) g6).2 (upd2 M8 ((o + 35) + 12 + Int32.toNatClampNeg a) 3 b)) ck_RX1_147 dX1_putPaused_61 rfl ho ⟨rfl, rfl, by decide, by decide⟩ ⟨Nat.zero_le _, Nat.zero_le _, Nat.le_of_ble_eq_true rfl⟩ (fun r9 M10 => ?_)
        refine J_iadd dX1_putPaused_64 ?_
        exact J_iret dX1_putPaused_65 rfl ⟨rfl, rfl, rfl⟩
      · refine J_ldc dX1_putPaused_35 wd_19 ?_
        exact J_iret dX1_putPaused_37 rfl ⟨rfl, rfl, rfl⟩
    · refine J_ldc dX1_putPaused_21 wd_18 ?_
      exact J_iret dX1_putPaused_23 rfl ⟨rfl, rfl, rfl⟩
set_option maxRecDepth 100000 in
theorem jX1_endAccount (l : Launch) (cx : CX) (n : Nat) (o : Nat) (ho : IsK GS 0 207 o 1) (a : Int32) (M : Mem) : Con l cx ({ frames := 4, cells := 0, slots := 0, locals := 92 } : Room) yX1_endAccount cX1_endAccount 4 (some .int) 0 0 false 0 207 EI GS [.ref o, .int a] M (mX1_endAccount n o a M) := by
  unfold mX1_endAccount
  refine Con.of (ls := [some (.ref o), some (.int a), none, none]) (by decide) rfl (Nat.le_of_ble_eq_true rfl) ?_
  refine J_ald0 dX1_endAccount_0 ?_
  refine J_ild1 dX1_endAccount_1 ?_
  refine J_cVB (jX1_isRunning l cx n o ho a M) ck_RX1_151 dX1_endAccount_2 rfl ho ⟨rfl, rfl, by decide, by decide⟩ ⟨Nat.zero_le _, Nat.zero_le _, Nat.le_of_ble_eq_true rfl⟩ (fun r1 z2 => ?_)
  refine J_if_ne 11 dX1_endAccount_5 rfl ?_ ?_
  · refine J_ald0 dX1_endAccount_11 ?_
    refine J_getr (q := (o + 36)) fl_RX1_27 dX1_endAccount_12 ho rfl (rf_1_3 ho) ?_
    refine J_iconst (v := 2) dX1_endAccount_15 rfl ?_
    refine J_cVB (jX5_haveRoom l cx n (o + 36) (kf_1_3 ho) (2 : Int32) M) ck_RX1_137 dX1_endAccount_16 rfl (kf_1_3 ho) ⟨rfl, rfl, by decide, by decide⟩ ⟨Nat.zero_le _, Nat.zero_le _, Nat.le_of_ble_eq_true rfl⟩ (fun r3 z4 => ?_)
    refine J_if_ne 25 dX1_endAccount_19 rfl ?_ ?_
    · refine J_ald0 dX1_endAccount_25 ?_
      refine J_getr (q := (o + 35)) fl_RX1_20 dX1_endAccount_26 ho rfl (rf_1_2 ho) ?_
      refine J_ild1 dX1_endAccount_29 ?_
      refine J_aald (q := ((o + 35) + 12 + Int32.toNatClampNeg a)) dX1_endAccount_30 (kf_1_2 ho) (Or.inl rfl) (ln_1_2 ho) (fun g5 => (aal_15 (kf_1_2 ho) g5).1) (fun g5 => ?_)
      refine J_ast2 dX1_endAccount_31 (by decide) rfl ?_
      refine J_ald0 dX1_endAccount_32 ?_
      refine J_ald2 dX1_endAccount_33 ?_
      refine J_cVI (jX1_writeCredit l cx n o ho ((o + 35) + 12 + Int32.toNatClampNeg a) (aal_15 (kf_1_2 ho) g5).2 M) ck_RX1_156 dX1_endAccount_34 rfl ho ⟨rfl, rfl, by decide, by decide⟩ ⟨Nat.zero_le _, Nat.zero_le _, Nat.le_of_ble_eq_true rfl⟩ (fun r6 M7 => ?_)
      refine J_ist3 dX1_endAccount_37 (by decide) rfl ?_
      refine J_ald2 dX1_endAccount_38 ?_
      refine J_iconst (v := 1) dX1_endAccount_39 rfl ?_
      refine J_putzK fl_RX1_63 dX1_endAccount_40 (aal_15 (kf_1_2 ho) g5).2 rfl (by decide) (Or.inr rfl) ?_
      refine J_ild3 dX1_endAccount_43 ?_
      refine J_ald0 dX1_endAccount_44 ?_
      refine J_ald2 dX1_endAccount_45 ?_
      refine J_cVI (jX1_writeUsage l cx n o ho ((o + 35) + 12 + Int32.toNatClampNeg a) (aal_15 (kf_1_2 ho) g5).2 (upd2 M7 ((o + 35) + 12 + Int32.toNatClampNeg a) 2 (1 : Int32))) ck_RX1_162 dX1_endAccount_46 rfl ho ⟨rfl, rfl, by decide, by decide⟩ ⟨Nat.zero_le _, Nat.zero_le _, Nat.le_of_ble_eq_true rfl⟩ (fun r8 M9 => ?_)
      refine J_iadd dX1_endAccount_49 ?_
      exact J_iret dX1_endAccount_50 rfl ⟨rfl, rfl, rfl⟩
    · refine J_ldc dX1_endAccount_22 wd_19 ?_
      exact J_iret dX1_endAccount_24 rfl ⟨rfl, rfl, rfl⟩
  · refine J_ldc dX1_endAccount_8 wd_18 ?_
    exact J_iret dX1_endAccount_10 rfl ⟨rfl, rfl, rfl⟩
set_option maxRecDepth 100000 in
theorem jX1_putAnchor (l : Launch) (cx : CX) (n : Nat) (o : Nat) (ho : IsK GS 0 207 o 1) (a : Int32) (b : Int32) (M : Mem) : Con l cx ({ frames := 4, cells := 0, slots := 0, locals := 92 } : Room) yX1_putAnchor cX1_putAnchor 6 (some .int) 0 0 false 0 207 EI GS [.ref o, .int a, .int b] M (mX1_putAnchor n o a b M) := by
  unfold mX1_putAnchor
  refine Con.of (ls := [some (.ref o), some (.int a), some (.int b), none, none, none]) (by decide) rfl (Nat.le_of_ble_eq_true rfl) ?_
  refine J_ald0 dX1_putAnchor_0 ?_
  refine J_ild1 dX1_putAnchor_1 ?_
  refine J_cVB (jX1_isRunning l cx n o ho a M) ck_RX1_151 dX1_putAnchor_2 rfl ho ⟨rfl, rfl, by decide, by decide⟩ ⟨Nat.zero_le _, Nat.zero_le _, Nat.le_of_ble_eq_true rfl⟩ (fun r1 z2 => ?_)
  refine J_if_eq 28 dX1_putAnchor_5 rfl ?_ ?_
  · refine J_ldc dX1_putAnchor_28 wd_18 ?_
    exact J_iret dX1_putAnchor_30 rfl ⟨rfl, rfl, rfl⟩
  · refine J_ild2 dX1_putAnchor_8 ?_
    refine J_cSB (jX10_isAnchor l cx n b M) ck_RX1_134 dX1_putAnchor_9 rfl ⟨rfl, rfl, by decide, by decide⟩ ⟨Nat.zero_le _, Nat.zero_le _, Nat.le_of_ble_eq_true rfl⟩ (fun r3 z4 => ?_)
    refine J_if_eq 28 dX1_putAnchor_12 rfl ?_ ?_
    · refine J_ldc dX1_putAnchor_28 wd_18 ?_
      exact J_iret dX1_putAnchor_30 rfl ⟨rfl, rfl, rfl⟩
    · refine J_ald0 dX1_putAnchor_15 ?_
      refine J_getr (q := (o + 35)) fl_RX1_20 dX1_putAnchor_16 ho rfl (rf_1_2 ho) ?_
      refine J_ild1 dX1_putAnchor_19 ?_
      refine J_aald (q := ((o + 35) + 12 + Int32.toNatClampNeg a)) dX1_putAnchor_20 (kf_1_2 ho) (Or.inl rfl) (ln_1_2 ho) (fun g5 => (aal_15 (kf_1_2 ho) g5).1) (fun g5 => ?_)
      refine J_geti fl_RX1_117 dX1_putAnchor_21 (aal_15 (kf_1_2 ho) g5).2 rfl ?_
      refine J_ild2 dX1_putAnchor_24 ?_
      refine J_ic_ne 31 dX1_putAnchor_25 rfl ?_ ?_
      · refine J_ald0 dX1_putAnchor_31 ?_
        refine J_getr (q := (o + 36)) fl_RX1_27 dX1_putAnchor_32 ho rfl (rf_1_3 ho) ?_
        refine J_iconst (v := 3) dX1_putAnchor_35 rfl ?_
        refine J_cVB (jX5_haveRoom l cx n (o + 36) (kf_1_3 ho) (3 : Int32) M) ck_RX1_137 dX1_putAnchor_36 rfl (kf_1_3 ho) ⟨rfl, rfl, by decide, by decide⟩ ⟨Nat.zero_le _, Nat.zero_le _, Nat.le_of_ble_eq_true rfl⟩ (fun r6 z7 => ?_)
        refine J_if_ne 45 dX1_putAnchor_39 rfl ?_ ?_
        · refine J_ald0 dX1_putAnchor_45 ?_
          refine J_getr (q := 2) fl_RX1_31 dX1_putAnchor_46 ho rfl (rf_1_0 ho) ?_
          refine J_ild2 dX1_putAnchor_49 ?_
          refine J_ald0 dX1_putAnchor_50 ?_
          refine J_geti fl_RX1_48 dX1_putAnchor_51 ho rfl ?_
          refine J_cVP (jX3_nextTurn l cx n b (M o 4) M) ck_RX1_128 dX1_putAnchor_54 rfl kk_2 ⟨rfl, rfl, by decide, by decide⟩ ⟨Nat.zero_le _, Nat.zero_le _, Nat.le_of_ble_eq_true rfl⟩ (fun r8 => ?_)
          refine J_sipush (v := 3652) dX1_putAnchor_57 rfl ?_
          refine J_ic_le 66 dX1_putAnchor_60 rfl ?_ ?_
          · refine J_ald0 dX1_putAnchor_66 ?_
            refine J_getr (q := (o + 35)) fl_RX1_20 dX1_putAnchor_67 ho rfl (rf_1_2 ho) ?_
            refine J_ild1 dX1_putAnchor_70 ?_
            refine J_aald (q := ((o + 35) + 12 + Int32.toNatClampNeg a)) dX1_putAnchor_71 (kf_1_2 ho) (Or.inl rfl) (ln_1_2 ho) (fun g9 => (aal_15 (kf_1_2 ho) g9).1) (fun g9 => ?_)
            refine J_ast3 dX1_putAnchor_72 (by decide) rfl ?_
            refine J_ald0 dX1_putAnchor_73 ?_
            refine J_ald3 dX1_putAnchor_74 ?_
            refine J_cVI (jX1_writeCredit l cx n o ho ((o + 35) + 12 + Int32.toNatClampNeg a) (aal_15 (kf_1_2 ho) g9).2 M) ck_RX1_156 dX1_putAnchor_75 rfl ho ⟨rfl, rfl, by decide, by decide⟩ ⟨Nat.zero_le _, Nat.zero_le _, Nat.le_of_ble_eq_true rfl⟩ (fun r10 M11 => ?_)
            refine J_ist4 dX1_putAnchor_78 (by decide) rfl ?_
            refine J_ald0 dX1_putAnchor_80 ?_
            refine J_ald3 dX1_putAnchor_81 ?_
            refine J_cVI (jX1_writeUsage l cx n o ho ((o + 35) + 12 + Int32.toNatClampNeg a) (aal_15 (kf_1_2 ho) g9).2 M11) ck_RX1_162 dX1_putAnchor_82 rfl ho ⟨rfl, rfl, by decide, by decide⟩ ⟨Nat.zero_le _, Nat.zero_le _, Nat.le_of_ble_eq_true rfl⟩ (fun r12 M13 => ?_)
            refine J_ist5 dX1_putAnchor_85 (by decide) rfl ?_
            refine J_ald3 dX1_putAnchor_87 ?_
            refine J_ild2 dX1_putAnchor_88 ?_
            refine J_puti fl_RX1_117 dX1_putAnchor_89 (aal_15 (kf_1_2 ho) g9).2 rfl (by decide) ?_
            refine J_ald0 dX1_putAnchor_92 ?_
            refine J_ald3 dX1_putAnchor_93 ?_
            refine J_ald3 dX1_putAnchor_94 ?_
            refine J_geti fl_RX1_73 dX1_putAnchor_95 (aal_15 (kf_1_2 ho) g9).2 rfl ?_
            refine J_iconst (v := 1) dX1_putAnchor_98 rfl ?_
            refine J_iadd dX1_putAnchor_99 ?_
            refine J_cVV (jX1_startPeriod l cx n o ho ((o + 35) + 12 + Int32.toNatClampNeg a) (aal_15 (kf_1_2 ho) g9).2 (((upd2 M13 ((o + 35) + 12 + Int32.toNatClampNeg a) 5 b) ((o + 35) + 12 + Int32.toNatClampNeg a) 7) + (1 : Int32)) (upd2 M13 ((o + 35) + 12 + Int32.toNatClampNeg a) 5 b)) ck_RX1_143 dX1_putAnchor_100 rfl ho ⟨rfl, rfl, by decide, by decide⟩ ⟨Nat.zero_le _, Nat.zero_le _, Nat.le_of_ble_eq_true rfl⟩ (fun M15 => ?_)
            refine J_ild4 dX1_putAnchor_103 ?_
            refine J_ild5 dX1_putAnchor_105 ?_
            refine J_iadd dX1_putAnchor_107 ?_
            refine J_ald0 dX1_putAnchor_108 ?_
            refine J_ald3 dX1_putAnchor_109 ?_
            refine J_cVI (jX1_writeCharge l cx n o ho ((o + 35) + 12 + Int32.toNatClampNeg a) (aal_15 (kf_1_2 ho) g9).2 M15) ck_RX1_147 dX1_putAnchor_110 rfl ho ⟨rfl, rfl, by decide, by decide⟩ ⟨Nat.zero_le _, Nat.zero_le _, Nat.le_of_ble_eq_true rfl⟩ (fun r16 M17 => ?_)
            refine J_iadd dX1_putAnchor_113 ?_
            exact J_iret dX1_putAnchor_114 rfl ⟨rfl, rfl, rfl⟩
          · refine J_ldc dX1_putAnchor_63 wd_20 ?_
            exact J_iret dX1_putAnchor_65 rfl ⟨rfl, rfl, rfl⟩
        · refine J_ldc dX1_putAnchor_42 wd_19 ?_
          exact J_iret dX1_putAnchor_44 rfl ⟨rfl, rfl, rfl⟩
      · refine J_ldc dX1_putAnchor_28 wd_18 ?_
        exact J_iret dX1_putAnchor_30 rfl ⟨rfl, rfl, rfl⟩
