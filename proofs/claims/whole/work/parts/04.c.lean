set_option maxRecDepth 100000 in
theorem jX11_isEntry (l : Launch) (cx : CX) (n : Nat) (a : Int32) (M : Mem) : Con l cx ({ frames := 1, cells := 0, slots := 0, locals := 22 } : Room) yX11_isEntry cX11_isEntry 2 (some .boolean) 0 0 false 207 218 (EB M) GS [.ref 207, .int a] M (mX11_isEntry a M) := by
  unfold mX11_isEntry
  refine Con.of (ls := [some (.ref 207), some (.int a)]) (by decide) rfl (Nat.le_of_ble_eq_true rfl) ?_
  refine J_ild1 dX11_isEntry_0 ?_
  refine J_iconst (v := 0) dX11_isEntry_1 rfl ?_
  refine J_ald0 dX11_isEntry_2 ?_
  refine J_getr (q := 209) fl_RX11_13 dX11_isEntry_3 kk_207 rfl (rf_11_1 kk_207) ?_
  refine J_iconst (v := 1) dX11_isEntry_6 rfl ?_
  refine J_iald dX11_isEntry_7 kk_209 rfl ?_
  refine J_iconst (v := 1) dX11_isEntry_8 rfl ?_
  refine J_isub dX11_isEntry_9 ?_
  refine J_cSB (jX11_in l cx n a (0 : Int32) ((M 209 (Int32.toNatClampNeg (1 : Int32))) - (1 : Int32)) M) ck_RX11_56 dX11_isEntry_10 rfl ⟨rfl, rfl, by decide, by decide⟩ ⟨Nat.zero_le _, Nat.zero_le _, Nat.le_of_ble_eq_true rfl⟩ (fun r1 z2 => ?_)
  exact J_zret dX11_isEntry_13 rfl z2 ⟨rfl, rfl, rfl, z2⟩
set_option maxRecDepth 100000 in
theorem jX11_turn_c81 {l : Launch} {cx : CX} {n : Nat} : ∀ (f : Nat) {v1 : Int32} {v2 : Int32} {v3 : Int32} {M : Mem}, JO l cx ({ frames := 2, cells := 0, slots := 0, locals := 45 } : Room) yX11_turn cX11_turn 4 (some .int) 0 0 false 207 218 EI GS 0 0 81 [some (.ref 207), some (.int v1), some (.int v2), some (.int v3)] [] M (mX11_turn_c81 n f v1 v2 v3 M) := by
  intro f
  induction f with
  | zero =>
    intros
    exact J_none
  | succ f ih =>
    intro v1 v2 v3 M
    unfold mX11_turn_c81
    refine J_ild3 dX11_turn_81 ?_
    refine J_bipush (v := 10) dX11_turn_82 rfl ?_
    refine J_ic_ge 114 dX11_turn_84 rfl ?_ ?_
    · refine J_ald0 dX11_turn_114 ?_
      refine J_getr (q := 209) fl_RX11_13 dX11_turn_115 kk_207 rfl (rf_11_1 kk_207) ?_
      refine J_sipush (v := 250) dX11_turn_118 rfl ?_
      refine J_bipush (v := 10) dX11_turn_121 rfl ?_
      refine J_ild2 dX11_turn_123 ?_
      refine J_imul dX11_turn_124 ?_
      refine J_iadd dX11_turn_125 ?_
      refine J_iconst (v := 4) dX11_turn_126 rfl ?_
      refine J_iast dX11_turn_127 kk_209 rfl ?_
      refine J_ald0 dX11_turn_128 ?_
      refine J_getr (q := 209) fl_RX11_13 dX11_turn_129 kk_207 rfl (rf_11_1 kk_207) ?_
      refine J_sipush (v := 250) dX11_turn_132 rfl ?_
      refine J_bipush (v := 10) dX11_turn_135 rfl ?_
      refine J_ild2 dX11_turn_137 ?_
      refine J_imul dX11_turn_138 ?_
      refine J_iadd dX11_turn_139 ?_
      refine J_iconst (v := 2) dX11_turn_140 rfl ?_
      refine J_iadd dX11_turn_141 ?_
      refine J_ald0 dX11_turn_142 ?_
      refine J_getr (q := 209) fl_RX11_13 dX11_turn_143 kk_207 rfl (rf_11_1 kk_207) ?_
      refine J_iconst (v := 0) dX11_turn_146 rfl ?_
      refine J_iald dX11_turn_147 kk_209 rfl ?_
      refine J_iast dX11_turn_148 kk_209 rfl ?_
      refine J_lt (fun M1 => ?_)
      refine J_ald0 dX11_turn_149 ?_
      refine J_getr (q := 209) fl_RX11_13 dX11_turn_150 kk_207 rfl (rf_11_1 kk_207) ?_
      refine J_sipush (v := 250) dX11_turn_153 rfl ?_
      refine J_bipush (v := 10) dX11_turn_156 rfl ?_
      refine J_ild2 dX11_turn_158 ?_
      refine J_imul dX11_turn_159 ?_
      refine J_iadd dX11_turn_160 ?_
      refine J_bipush (v := 7) dX11_turn_161 rfl ?_
      refine J_iadd dX11_turn_163 ?_
      refine J_ald0 dX11_turn_164 ?_
      refine J_ild1 dX11_turn_165 ?_
      refine J_bipush (v := 7) dX11_turn_166 rfl ?_
      refine J_cVP (jX11_entryOf l cx n v1 (7 : Int32) M1) ck_RX11_219 dX11_turn_168 rfl kk_207 ⟨rfl, rfl, by decide, by decide⟩ ⟨Nat.zero_le _, Nat.zero_le _, Nat.le_of_ble_eq_true rfl⟩ (fun r2 => ?_)
      refine J_ineg dX11_turn_171 ?_
      refine J_iast dX11_turn_172 kk_209 rfl ?_
      refine J_lt (fun M3 => ?_)
      refine J_ald0 dX11_turn_173 ?_
      refine J_getr (q := 209) fl_RX11_13 dX11_turn_174 kk_207 rfl (rf_11_1 kk_207) ?_
      refine J_sipush (v := 250) dX11_turn_177 rfl ?_
      refine J_bipush (v := 10) dX11_turn_180 rfl ?_
      refine J_ild2 dX11_turn_182 ?_
      refine J_imul dX11_turn_183 ?_
      refine J_iadd dX11_turn_184 ?_
      refine J_bipush (v := 8) dX11_turn_185 rfl ?_
      refine J_iadd dX11_turn_187 ?_
      refine J_ild1 dX11_turn_188 ?_
      refine J_iast dX11_turn_189 kk_209 rfl ?_
      refine J_lt (fun M4 => ?_)
      refine J_ald0 dX11_turn_190 ?_
      refine J_getr (q := 209) fl_RX11_13 dX11_turn_191 kk_207 rfl (rf_11_1 kk_207) ?_
      refine J_sipush (v := 250) dX11_turn_194 rfl ?_
      refine J_bipush (v := 10) dX11_turn_197 rfl ?_
      refine J_ild1 dX11_turn_199 ?_
      refine J_imul dX11_turn_200 ?_
      refine J_iadd dX11_turn_201 ?_
      refine J_bipush (v := 9) dX11_turn_202 rfl ?_
      refine J_iadd dX11_turn_204 ?_
      refine J_ild2 dX11_turn_205 ?_
      refine J_iast dX11_turn_206 kk_209 rfl ?_
      refine J_lt (fun M5 => ?_)
      refine J_ald0 dX11_turn_207 ?_
      refine J_getr (q := 209) fl_RX11_13 dX11_turn_208 kk_207 rfl (rf_11_1 kk_207) ?_
      refine J_iconst (v := 1) dX11_turn_211 rfl ?_
      refine J_ild2 dX11_turn_212 ?_
      refine J_iconst (v := 1) dX11_turn_213 rfl ?_
      refine J_iadd dX11_turn_214 ?_
      refine J_iast dX11_turn_215 kk_209 rfl ?_
      refine J_ild2 dX11_turn_216 ?_
      exact J_iret dX11_turn_217 rfl ⟨rfl, rfl, rfl⟩
    · refine J_ald0 dX11_turn_87 ?_
      refine J_getr (q := 209) fl_RX11_13 dX11_turn_88 kk_207 rfl (rf_11_1 kk_207) ?_
      refine J_sipush (v := 250) dX11_turn_91 rfl ?_
      refine J_bipush (v := 10) dX11_turn_94 rfl ?_
      refine J_ild2 dX11_turn_96 ?_
      refine J_imul dX11_turn_97 ?_
      refine J_iadd dX11_turn_98 ?_
      refine J_ild3 dX11_turn_99 ?_
      refine J_iadd dX11_turn_100 ?_
      refine J_ald0 dX11_turn_101 ?_
      refine J_ild1 dX11_turn_102 ?_
      refine J_ild3 dX11_turn_103 ?_
      refine J_cVP (jX11_entryOf l cx n v1 v3 M) ck_RX11_219 dX11_turn_104 rfl kk_207 ⟨rfl, rfl, by decide, by decide⟩ ⟨Nat.zero_le _, Nat.zero_le _, Nat.le_of_ble_eq_true rfl⟩ (fun r6 => ?_)
      refine J_iast dX11_turn_107 kk_209 rfl ?_
      refine J_iinc3 (w := (v3 + (1 : Int32))) dX11_turn_108 (by decide) rfl rfl ?_
      refine J_goto 81 dX11_turn_111 rfl ?_
      exact J_wk (wk_s (wk_s (wk_s (wk_s wk_0)))) (ih)
set_option maxRecDepth 100000 in
theorem jX11_turn (l : Launch) (cx : CX) (n : Nat) (a : Int32) (M : Mem) : Con l cx ({ frames := 2, cells := 0, slots := 0, locals := 45 } : Room) yX11_turn cX11_turn 4 (some .int) 0 0 false 207 218 EI GS [.ref 207, .int a] M (mX11_turn n a M) := by
  unfold mX11_turn
  refine Con.of (ls := [some (.ref 207), some (.int a), none, none]) (by decide) rfl (Nat.le_of_ble_eq_true rfl) ?_
  refine J_ald0 dX11_turn_0 ?_
  refine J_ild1 dX11_turn_1 ?_
  refine J_cVB (jX11_isEntry l cx n a M) ck_RX11_268 dX11_turn_2 rfl kk_207 ⟨rfl, rfl, by decide, by decide⟩ ⟨Nat.zero_le _, Nat.zero_le _, Nat.le_of_ble_eq_true rfl⟩ (fun r7 z8 => ?_)
  refine J_if_ne 10 dX11_turn_5 rfl ?_ ?_
  · refine J_ald0 dX11_turn_10 ?_
    refine J_ild1 dX11_turn_11 ?_
    refine J_iconst (v := 0) dX11_turn_12 rfl ?_
    refine J_cVP (jX11_entryOf l cx n a (0 : Int32) M) ck_RX11_219 dX11_turn_13 rfl kk_207 ⟨rfl, rfl, by decide, by decide⟩ ⟨Nat.zero_le _, Nat.zero_le _, Nat.le_of_ble_eq_true rfl⟩ (fun r9 => ?_)
    refine J_iconst (v := 4) dX11_turn_16 rfl ?_
    refine J_ic_eq 30 dX11_turn_17 rfl ?_ ?_
    · refine J_bipush (v := -2) dX11_turn_30 rfl ?_
      exact J_iret dX11_turn_32 rfl ⟨rfl, rfl, rfl⟩
    · refine J_ald0 dX11_turn_20 ?_
      refine J_ild1 dX11_turn_21 ?_
      refine J_bipush (v := 9) dX11_turn_22 rfl ?_
      refine J_cVP (jX11_entryOf l cx n a (9 : Int32) M) ck_RX11_219 dX11_turn_24 rfl kk_207 ⟨rfl, rfl, by decide, by decide⟩ ⟨Nat.zero_le _, Nat.zero_le _, Nat.le_of_ble_eq_true rfl⟩ (fun r10 => ?_)
      refine J_if_lt 33 dX11_turn_27 rfl ?_ ?_
      · refine J_ald0 dX11_turn_33 ?_
        refine J_getr (q := 209) fl_RX11_13 dX11_turn_34 kk_207 rfl (rf_11_1 kk_207) ?_
        refine J_iconst (v := 1) dX11_turn_37 rfl ?_
        refine J_iald dX11_turn_38 kk_209 rfl ?_
        refine J_sipush (v := 400) dX11_turn_39 rfl ?_
        refine J_ic_ne 48 dX11_turn_42 rfl ?_ ?_
        · refine J_ald0 dX11_turn_48 ?_
          refine J_ald0 dX11_turn_49 ?_
          refine J_ild1 dX11_turn_50 ?_
          refine J_iconst (v := 1) dX11_turn_51 rfl ?_
          refine J_cVP (jX11_entryOf l cx n a (1 : Int32) M) ck_RX11_219 dX11_turn_52 rfl kk_207 ⟨rfl, rfl, by decide, by decide⟩ ⟨Nat.zero_le _, Nat.zero_le _, Nat.le_of_ble_eq_true rfl⟩ (fun r11 => ?_)
          refine J_cVP (jX11_allOf l cx n r11 M) ck_RX11_265 dX11_turn_55 rfl kk_207 ⟨rfl, rfl, by decide, by decide⟩ ⟨Nat.zero_le _, Nat.zero_le _, Nat.le_of_ble_eq_true rfl⟩ (fun r12 => ?_)
          refine J_ald0 dX11_turn_58 ?_
          refine J_ild1 dX11_turn_59 ?_
          refine J_bipush (v := 7) dX11_turn_60 rfl ?_
          refine J_cVP (jX11_entryOf l cx n a (7 : Int32) M) ck_RX11_219 dX11_turn_62 rfl kk_207 ⟨rfl, rfl, by decide, by decide⟩ ⟨Nat.zero_le _, Nat.zero_le _, Nat.le_of_ble_eq_true rfl⟩ (fun r13 => ?_)
          refine J_isub dX11_turn_65 ?_
          refine J_if_ge 72 dX11_turn_66 rfl ?_ ?_
          · refine J_ald0 dX11_turn_72 ?_
            refine J_getr (q := 209) fl_RX11_13 dX11_turn_73 kk_207 rfl (rf_11_1 kk_207) ?_
            refine J_iconst (v := 1) dX11_turn_76 rfl ?_
            refine J_iald dX11_turn_77 kk_209 rfl ?_
            refine J_ist2 dX11_turn_78 (by decide) rfl ?_
            refine J_iconst (v := 0) dX11_turn_79 rfl ?_
            refine J_ist3 dX11_turn_80 (by decide) rfl ?_
            exact J_wk (wk_s (wk_s (wk_s (wk_s wk_0)))) (jX11_turn_c81 (n := n) n)
          · refine J_bipush (v := -4) dX11_turn_69 rfl ?_
            exact J_iret dX11_turn_71 rfl ⟨rfl, rfl, rfl⟩
        · refine J_bipush (v := -3) dX11_turn_45 rfl ?_
          exact J_iret dX11_turn_47 rfl ⟨rfl, rfl, rfl⟩
      · refine J_bipush (v := -2) dX11_turn_30 rfl ?_
        exact J_iret dX11_turn_32 rfl ⟨rfl, rfl, rfl⟩
  · refine J_iconst (v := -1) dX11_turn_8 rfl ?_
    exact J_iret dX11_turn_9 rfl ⟨rfl, rfl, rfl⟩
set_option maxRecDepth 100000 in
theorem jX11_readsAccount (l : Launch) (cx : CX) (n : Nat) (M : Mem) : Con l cx ({ frames := 2, cells := 0, slots := 0, locals := 43 } : Room) yX11_readsAccount cX11_readsAccount 1 (some .boolean) 0 0 false 207 218 EZ GS [.ref 207] M (mX11_readsAccount M) := by
  unfold mX11_readsAccount
  refine Con.of (ls := [some (.ref 207)]) (by decide) rfl (Nat.le_of_ble_eq_true rfl) ?_
  refine J_ald0 dX11_readsAccount_0 ?_
  refine J_bipush (v := 32) dX11_readsAccount_1 rfl ?_
  refine J_cVZ (jX11_takesSign l cx n (32 : Int32) M) ck_RX11_122 dX11_readsAccount_3 rfl kk_207 ⟨rfl, rfl, by decide, by decide⟩ ⟨Nat.zero_le _, Nat.zero_le _, Nat.le_of_ble_eq_true rfl⟩ (fun r1 M2 z3 => ?_)
  refine J_if_ne 11 dX11_readsAccount_6 rfl ?_ ?_
  · refine J_ald0 dX11_readsAccount_11 ?_
    refine J_cVP (jX11_here l cx n  M2) ck_RX11_101 dX11_readsAccount_12 rfl kk_207 ⟨rfl, rfl, by decide, by decide⟩ ⟨Nat.zero_le _, Nat.zero_le _, Nat.le_of_ble_eq_true rfl⟩ (fun r4 => ?_)
    refine J_cSB (jX11_isDigit l cx n r4 M2) ck_RX11_125 dX11_readsAccount_15 rfl ⟨rfl, rfl, by decide, by decide⟩ ⟨Nat.zero_le _, Nat.zero_le _, Nat.le_of_ble_eq_true rfl⟩ (fun r5 z6 => ?_)
    refine J_if_ne 31 dX11_readsAccount_18 rfl ?_ ?_
    · refine J_ald0 dX11_readsAccount_31 ?_
      refine J_cVP (jX11_here l cx n  M2) ck_RX11_101 dX11_readsAccount_32 rfl kk_207 ⟨rfl, rfl, by decide, by decide⟩ ⟨Nat.zero_le _, Nat.zero_le _, Nat.le_of_ble_eq_true rfl⟩ (fun r7 => ?_)
      refine J_bipush (v := 53) dX11_readsAccount_35 rfl ?_
      refine J_ic_le 50 dX11_readsAccount_37 rfl ?_ ?_
      · refine J_ald0 dX11_readsAccount_50 ?_
        refine J_ald0 dX11_readsAccount_51 ?_
        refine J_cVP (jX11_here l cx n  M2) ck_RX11_101 dX11_readsAccount_52 rfl kk_207 ⟨rfl, rfl, by decide, by decide⟩ ⟨Nat.zero_le _, Nat.zero_le _, Nat.le_of_ble_eq_true rfl⟩ (fun r8 => ?_)
        refine J_bipush (v := 48) dX11_readsAccount_55 rfl ?_
        refine J_isub dX11_readsAccount_57 ?_
        refine J_puti fl_RX11_128 dX11_readsAccount_58 kk_207 rfl (by decide) ?_
        refine J_ald0 dX11_readsAccount_61 ?_
        refine J_ald0 dX11_readsAccount_62 ?_
        refine J_geti fl_RX11_92 dX11_readsAccount_63 kk_207 rfl ?_
        refine J_iconst (v := 1) dX11_readsAccount_66 rfl ?_
        refine J_iadd dX11_readsAccount_67 ?_
        refine J_puti fl_RX11_92 dX11_readsAccount_68 kk_207 rfl (by decide) ?_
        refine J_lt (fun M9 => ?_)
        refine J_iconst (v := 1) dX11_readsAccount_71 rfl ?_
        exact J_zret dX11_readsAccount_72 rfl (Or.inr rfl) ⟨rfl, rfl, rfl, (Or.inr rfl)⟩
      · refine J_ald0 dX11_readsAccount_40 ?_
        refine J_iconst (v := 3) dX11_readsAccount_41 rfl ?_
        refine J_ald0 dX11_readsAccount_42 ?_
        refine J_geti fl_RX11_92 dX11_readsAccount_43 kk_207 rfl ?_
        refine J_cVZ (jX11_wrongAt l cx n (3 : Int32) (M2 207 5) M2) ck_RX11_105 dX11_readsAccount_46 rfl kk_207 ⟨rfl, rfl, by decide, by decide⟩ ⟨Nat.zero_le _, Nat.zero_le _, Nat.le_of_ble_eq_true rfl⟩ (fun r10 M11 z12 => ?_)
        exact J_zret dX11_readsAccount_49 rfl z12 ⟨rfl, rfl, rfl, z12⟩
    · refine J_ald0 dX11_readsAccount_21 ?_
      refine J_iconst (v := 1) dX11_readsAccount_22 rfl ?_
      refine J_ald0 dX11_readsAccount_23 ?_
      refine J_geti fl_RX11_92 dX11_readsAccount_24 kk_207 rfl ?_
      refine J_cVZ (jX11_wrongAt l cx n (1 : Int32) (M2 207 5) M2) ck_RX11_105 dX11_readsAccount_27 rfl kk_207 ⟨rfl, rfl, by decide, by decide⟩ ⟨Nat.zero_le _, Nat.zero_le _, Nat.le_of_ble_eq_true rfl⟩ (fun r13 M14 z15 => ?_)
      exact J_zret dX11_readsAccount_30 rfl z15 ⟨rfl, rfl, rfl, z15⟩
  · refine J_iconst (v := 0) dX11_readsAccount_9 rfl ?_
    exact J_zret dX11_readsAccount_10 rfl (Or.inl rfl) ⟨rfl, rfl, rfl, (Or.inl rfl)⟩
set_option maxRecDepth 100000 in
theorem jX11_readsRest_c16 {l : Launch} {cx : CX} {n : Nat} {M : Mem} : JO l cx ({ frames := 3, cells := 0, slots := 0, locals := 66 } : Room) yX11_readsRest cX11_readsRest 3 (some .boolean) 0 0 false 207 218 EZ GS 0 0 16 [some (.ref 207), none, none] [] M (mX11_readsRest_c16 n M) := by
  unfold mX11_readsRest_c16
  refine J_ald0 dX11_readsRest_16 ?_
  refine J_iconst (v := 0) dX11_readsRest_17 rfl ?_
  refine J_ldc dX11_readsRest_18 wd_61 ?_
  refine J_cVZ (jX11_readsNumber l cx n (0 : Int32) (99999 : Int32) M) ck_RX11_131 dX11_readsRest_20 rfl kk_207 ⟨rfl, rfl, by decide, by decide⟩ ⟨Nat.zero_le _, Nat.zero_le _, Nat.le_of_ble_eq_true rfl⟩ (fun r1 M2 z3 => ?_)
  refine J_if_ne 28 dX11_readsRest_23 rfl ?_ ?_
  · refine J_ald0 dX11_readsRest_28 ?_
    refine J_getr (q := 213) fl_RX11_27 dX11_readsRest_29 kk_207 rfl (rf_11_14 kk_207) ?_
    refine J_ald0 dX11_readsRest_32 ?_
    refine J_geti fl_RX11_275 dX11_readsRest_33 kk_207 rfl ?_
    refine J_ald0 dX11_readsRest_36 ?_
    refine J_geti fl_RX11_128 dX11_readsRest_37 kk_207 rfl ?_
    refine J_iast dX11_readsRest_40 kk_213 rfl ?_
    refine J_iconst (v := 1) dX11_readsRest_41 rfl ?_
    exact J_zret dX11_readsRest_42 rfl (Or.inr rfl) ⟨rfl, rfl, rfl, (Or.inr rfl)⟩
  · refine J_iconst (v := 0) dX11_readsRest_26 rfl ?_
    exact J_zret dX11_readsRest_27 rfl (Or.inl rfl) ⟨rfl, rfl, rfl, (Or.inl rfl)⟩
set_option maxRecDepth 100000 in
theorem jX11_readsRest_c103 {l : Launch} {cx : CX} {n : Nat} {v1 : Int64} {M : Mem} : JO l cx ({ frames := 3, cells := 0, slots := 0, locals := 66 } : Room) yX11_readsRest cX11_readsRest 3 (some .boolean) 0 0 false 207 218 EZ GS 0 0 103 [some (.ref 207), some (.long v1), none] [] M (mX11_readsRest_c103 n v1 M) := by
  unfold mX11_readsRest_c103
  refine J_lld1 dX11_readsRest_103 ?_
  refine J_ldc2 dX11_readsRest_104 wd_66 ?_
  refine J_lcmp dX11_readsRest_107 ?_
  refine J_if_eq 143 dX11_readsRest_108 rfl ?_ ?_
  · refine J_iconst (v := 1) dX11_readsRest_143 rfl ?_
    exact J_zret dX11_readsRest_144 rfl (Or.inr rfl) ⟨rfl, rfl, rfl, (Or.inr rfl)⟩
  · refine J_lld1 dX11_readsRest_111 ?_
    refine J_ldc2 dX11_readsRest_112 wd_67 ?_
    refine J_lcmp dX11_readsRest_115 ?_
    refine J_if_eq 143 dX11_readsRest_116 rfl ?_ ?_
    · refine J_iconst (v := 1) dX11_readsRest_143 rfl ?_
      exact J_zret dX11_readsRest_144 rfl (Or.inr rfl) ⟨rfl, rfl, rfl, (Or.inr rfl)⟩
    · refine J_lld1 dX11_readsRest_119 ?_
      refine J_ldc2 dX11_readsRest_120 wd_68 ?_
      refine J_lcmp dX11_readsRest_123 ?_
      refine J_if_eq 143 dX11_readsRest_124 rfl ?_ ?_
      · refine J_iconst (v := 1) dX11_readsRest_143 rfl ?_
        exact J_zret dX11_readsRest_144 rfl (Or.inr rfl) ⟨rfl, rfl, rfl, (Or.inr rfl)⟩
      · refine J_lld1 dX11_readsRest_127 ?_
        refine J_ldc2 dX11_readsRest_128 wd_69 ?_
        refine J_lcmp dX11_readsRest_131 ?_
        refine J_if_eq 143 dX11_readsRest_132 rfl ?_ ?_
        · refine J_iconst (v := 1) dX11_readsRest_143 rfl ?_
          exact J_zret dX11_readsRest_144 rfl (Or.inr rfl) ⟨rfl, rfl, rfl, (Or.inr rfl)⟩
        · refine J_lld1 dX11_readsRest_135 ?_
          refine J_ldc2 dX11_readsRest_136 wd_70 ?_
          refine J_lcmp dX11_readsRest_139 ?_
          refine J_if_ne 145 dX11_readsRest_140 rfl ?_ ?_
          · refine J_ald0 dX11_readsRest_145 ?_
            refine J_iconst (v := 0) dX11_readsRest_146 rfl ?_
            refine J_ldc dX11_readsRest_147 wd_61 ?_
            refine J_cVZ (jX11_readsNumber l cx n (0 : Int32) (99999 : Int32) M) ck_RX11_131 dX11_readsRest_149 rfl kk_207 ⟨rfl, rfl, by decide, by decide⟩ ⟨Nat.zero_le _, Nat.zero_le _, Nat.le_of_ble_eq_true rfl⟩ (fun r4 M5 z6 => ?_)
            refine J_if_ne 157 dX11_readsRest_152 rfl ?_ ?_
            · refine J_ald0 dX11_readsRest_157 ?_
              refine J_getr (q := 215) fl_RX11_33 dX11_readsRest_158 kk_207 rfl (rf_11_16 kk_207) ?_
              refine J_ald0 dX11_readsRest_161 ?_
              refine J_geti fl_RX11_275 dX11_readsRest_162 kk_207 rfl ?_
              refine J_ald0 dX11_readsRest_165 ?_
              refine J_geti fl_RX11_128 dX11_readsRest_166 kk_207 rfl ?_
              refine J_iast dX11_readsRest_169 kk_215 rfl ?_
              refine J_iconst (v := 1) dX11_readsRest_170 rfl ?_
              exact J_zret dX11_readsRest_171 rfl (Or.inr rfl) ⟨rfl, rfl, rfl, (Or.inr rfl)⟩
            · refine J_iconst (v := 0) dX11_readsRest_155 rfl ?_
              exact J_zret dX11_readsRest_156 rfl (Or.inl rfl) ⟨rfl, rfl, rfl, (Or.inl rfl)⟩
          · refine J_iconst (v := 1) dX11_readsRest_143 rfl ?_
            exact J_zret dX11_readsRest_144 rfl (Or.inr rfl) ⟨rfl, rfl, rfl, (Or.inr rfl)⟩
set_option maxRecDepth 100000 in
theorem jX11_readsRest (l : Launch) (cx : CX) (n : Nat) (a : Int64) (M : Mem) : Con l cx ({ frames := 3, cells := 0, slots := 0, locals := 66 } : Room) yX11_readsRest cX11_readsRest 3 (some .boolean) 0 0 false 207 218 EZ GS [.ref 207, .long a] M (mX11_readsRest n a M) := by
  unfold mX11_readsRest
  refine Con.of (ls := [some (.ref 207), some (.long a), none]) (by decide) rfl (Nat.le_of_ble_eq_true rfl) ?_
  refine J_lld1 dX11_readsRest_0 ?_
  refine J_ldc2 dX11_readsRest_1 wd_71 ?_
  refine J_lcmp dX11_readsRest_4 ?_
  refine J_if_eq 16 dX11_readsRest_5 rfl ?_ ?_
  · exact J_wk (wk_s (wk_n (wk_n wk_0))) (jX11_readsRest_c16 (n := n))
  · refine J_lld1 dX11_readsRest_8 ?_
    refine J_ldc2 dX11_readsRest_9 wd_72 ?_
    refine J_lcmp dX11_readsRest_12 ?_
    refine J_if_ne 43 dX11_readsRest_13 rfl ?_ ?_
    · refine J_ald0 dX11_readsRest_43 ?_
      refine J_cVZ (jX11_readsAccount l cx n  M) ck_RX11_278 dX11_readsRest_44 rfl kk_207 ⟨rfl, rfl, by decide, by decide⟩ ⟨Nat.zero_le _, Nat.zero_le _, Nat.le_of_ble_eq_true rfl⟩ (fun r7 M8 z9 => ?_)
      refine J_if_ne 52 dX11_readsRest_47 rfl ?_ ?_
      · refine J_ald0 dX11_readsRest_52 ?_
        refine J_getr (q := 213) fl_RX11_27 dX11_readsRest_53 kk_207 rfl (rf_11_14 kk_207) ?_
        refine J_ald0 dX11_readsRest_56 ?_
        refine J_geti fl_RX11_275 dX11_readsRest_57 kk_207 rfl ?_
        refine J_ald0 dX11_readsRest_60 ?_
        refine J_geti fl_RX11_128 dX11_readsRest_61 kk_207 rfl ?_
        refine J_iast dX11_readsRest_64 kk_213 rfl ?_
        refine J_lld1 dX11_readsRest_65 ?_
        refine J_ldc2 dX11_readsRest_66 wd_73 ?_
        refine J_lcmp dX11_readsRest_69 ?_
        refine J_if_eq 81 dX11_readsRest_70 rfl ?_ ?_
        · refine J_ald0 dX11_readsRest_81 ?_
          refine J_cVZ (jX11_readsPlan l cx n  (upd2 M8 213 (Int32.toNatClampNeg (M8 207 17)) (M8 207 8))) ck_RX11_181 dX11_readsRest_82 rfl kk_207 ⟨rfl, rfl, by decide, by decide⟩ ⟨Nat.zero_le _, Nat.zero_le _, Nat.le_of_ble_eq_true rfl⟩ (fun r10 M11 z12 => ?_)
          refine J_if_ne 90 dX11_readsRest_85 rfl ?_ ?_
          · refine J_ald0 dX11_readsRest_90 ?_
            refine J_getr (q := 214) fl_RX11_30 dX11_readsRest_91 kk_207 rfl (rf_11_15 kk_207) ?_
            refine J_ald0 dX11_readsRest_94 ?_
            refine J_geti fl_RX11_275 dX11_readsRest_95 kk_207 rfl ?_
            refine J_ald0 dX11_readsRest_98 ?_
            refine J_geti fl_RX11_128 dX11_readsRest_99 kk_207 rfl ?_
            refine J_iast dX11_readsRest_102 kk_214 rfl ?_
            exact J_wk (wk_s (wk_s (wk_n wk_0))) (jX11_readsRest_c103 (n := n))
          · refine J_iconst (v := 0) dX11_readsRest_88 rfl ?_
            exact J_zret dX11_readsRest_89 rfl (Or.inl rfl) ⟨rfl, rfl, rfl, (Or.inl rfl)⟩
        · refine J_lld1 dX11_readsRest_73 ?_
          refine J_ldc2 dX11_readsRest_74 wd_66 ?_
          refine J_lcmp dX11_readsRest_77 ?_
          refine J_if_ne 103 dX11_readsRest_78 rfl ?_ ?_
          · exact J_wk (wk_s (wk_s (wk_n wk_0))) (jX11_readsRest_c103 (n := n))
          · refine J_ald0 dX11_readsRest_81 ?_
            refine J_cVZ (jX11_readsPlan l cx n  (upd2 M8 213 (Int32.toNatClampNeg (M8 207 17)) (M8 207 8))) ck_RX11_181 dX11_readsRest_82 rfl kk_207 ⟨rfl, rfl, by decide, by decide⟩ ⟨Nat.zero_le _, Nat.zero_le _, Nat.le_of_ble_eq_true rfl⟩ (fun r13 M14 z15 => ?_)
            refine J_if_ne 90 dX11_readsRest_85 rfl ?_ ?_
            · refine J_ald0 dX11_readsRest_90 ?_
              refine J_getr (q := 214) fl_RX11_30 dX11_readsRest_91 kk_207 rfl (rf_11_15 kk_207) ?_
              refine J_ald0 dX11_readsRest_94 ?_
              refine J_geti fl_RX11_275 dX11_readsRest_95 kk_207 rfl ?_
              refine J_ald0 dX11_readsRest_98 ?_
              refine J_geti fl_RX11_128 dX11_readsRest_99 kk_207 rfl ?_
              refine J_iast dX11_readsRest_102 kk_214 rfl ?_
              exact J_wk (wk_s (wk_s (wk_n wk_0))) (jX11_readsRest_c103 (n := n))
            · refine J_iconst (v := 0) dX11_readsRest_88 rfl ?_
              exact J_zret dX11_readsRest_89 rfl (Or.inl rfl) ⟨rfl, rfl, rfl, (Or.inl rfl)⟩
      · refine J_iconst (v := 0) dX11_readsRest_50 rfl ?_
        exact J_zret dX11_readsRest_51 rfl (Or.inl rfl) ⟨rfl, rfl, rfl, (Or.inl rfl)⟩
    · exact J_wk (wk_s (wk_n (wk_n wk_0))) (jX11_readsRest_c16 (n := n))
set_option maxRecDepth 100000 in
theorem jX11_isDeed (l : Launch) (cx : CX) (n : Nat) (a : Int64) (M : Mem) : Con l cx ({ frames := 0, cells := 0, slots := 0, locals := 0 } : Room) yX11_isDeed cX11_isDeed 2 (some .boolean) 0 0 false 207 218 (EB M) GS [.long a] M (mX11_isDeed a) := by
  unfold mX11_isDeed
  refine Con.of (ls := [some (.long a), none]) (by decide) rfl (Nat.le_of_ble_eq_true rfl) ?_
  refine J_lld0 dX11_isDeed_0 ?_
  refine J_ldc2 dX11_isDeed_1 wd_73 ?_
  refine J_lcmp dX11_isDeed_4 ?_
  refine J_if_eq 104 dX11_isDeed_5 rfl ?_ ?_
  · refine J_iconst (v := 1) dX11_isDeed_104 rfl ?_
    refine J_goto 109 dX11_isDeed_105 rfl ?_
    exact J_zret dX11_isDeed_109 rfl (Or.inr rfl) ⟨rfl, rfl, rfl, (Or.inr rfl)⟩
  · refine J_lld0 dX11_isDeed_8 ?_
    refine J_ldc2 dX11_isDeed_9 wd_66 ?_
    refine J_lcmp dX11_isDeed_12 ?_
    refine J_if_eq 104 dX11_isDeed_13 rfl ?_ ?_
    · refine J_iconst (v := 1) dX11_isDeed_104 rfl ?_
      refine J_goto 109 dX11_isDeed_105 rfl ?_
      exact J_zret dX11_isDeed_109 rfl (Or.inr rfl) ⟨rfl, rfl, rfl, (Or.inr rfl)⟩
    · refine J_lld0 dX11_isDeed_16 ?_
      refine J_ldc2 dX11_isDeed_17 wd_67 ?_
      refine J_lcmp dX11_isDeed_20 ?_
      refine J_if_eq 104 dX11_isDeed_21 rfl ?_ ?_
      · refine J_iconst (v := 1) dX11_isDeed_104 rfl ?_
        refine J_goto 109 dX11_isDeed_105 rfl ?_
        exact J_zret dX11_isDeed_109 rfl (Or.inr rfl) ⟨rfl, rfl, rfl, (Or.inr rfl)⟩
      · refine J_lld0 dX11_isDeed_24 ?_
        refine J_ldc2 dX11_isDeed_25 wd_68 ?_
        refine J_lcmp dX11_isDeed_28 ?_
        refine J_if_eq 104 dX11_isDeed_29 rfl ?_ ?_
        · refine J_iconst (v := 1) dX11_isDeed_104 rfl ?_
          refine J_goto 109 dX11_isDeed_105 rfl ?_
          exact J_zret dX11_isDeed_109 rfl (Or.inr rfl) ⟨rfl, rfl, rfl, (Or.inr rfl)⟩
        · refine J_lld0 dX11_isDeed_32 ?_
          refine J_ldc2 dX11_isDeed_33 wd_69 ?_
          refine J_lcmp dX11_isDeed_36 ?_
          refine J_if_eq 104 dX11_isDeed_37 rfl ?_ ?_
          · refine J_iconst (v := 1) dX11_isDeed_104 rfl ?_
            refine J_goto 109 dX11_isDeed_105 rfl ?_
            exact J_zret dX11_isDeed_109 rfl (Or.inr rfl) ⟨rfl, rfl, rfl, (Or.inr rfl)⟩
          · refine J_lld0 dX11_isDeed_40 ?_
            refine J_ldc2 dX11_isDeed_41 wd_74 ?_
            refine J_lcmp dX11_isDeed_44 ?_
            refine J_if_eq 104 dX11_isDeed_45 rfl ?_ ?_
            · refine J_iconst (v := 1) dX11_isDeed_104 rfl ?_
              refine J_goto 109 dX11_isDeed_105 rfl ?_
              exact J_zret dX11_isDeed_109 rfl (Or.inr rfl) ⟨rfl, rfl, rfl, (Or.inr rfl)⟩
            · refine J_lld0 dX11_isDeed_48 ?_
              refine J_ldc2 dX11_isDeed_49 wd_71 ?_
              refine J_lcmp dX11_isDeed_52 ?_
              refine J_if_eq 104 dX11_isDeed_53 rfl ?_ ?_
              · refine J_iconst (v := 1) dX11_isDeed_104 rfl ?_
                refine J_goto 109 dX11_isDeed_105 rfl ?_
                exact J_zret dX11_isDeed_109 rfl (Or.inr rfl) ⟨rfl, rfl, rfl, (Or.inr rfl)⟩
              · refine J_lld0 dX11_isDeed_56 ?_
                refine J_ldc2 dX11_isDeed_57 wd_75 ?_
                refine J_lcmp dX11_isDeed_60 ?_
                refine J_if_eq 104 dX11_isDeed_61 rfl ?_ ?_
                · refine J_iconst (v := 1) dX11_isDeed_104 rfl ?_
                  refine J_goto 109 dX11_isDeed_105 rfl ?_
                  exact J_zret dX11_isDeed_109 rfl (Or.inr rfl) ⟨rfl, rfl, rfl, (Or.inr rfl)⟩
                · refine J_lld0 dX11_isDeed_64 ?_
                  refine J_ldc2 dX11_isDeed_65 wd_76 ?_
                  refine J_lcmp dX11_isDeed_68 ?_
                  refine J_if_eq 104 dX11_isDeed_69 rfl ?_ ?_
                  · refine J_iconst (v := 1) dX11_isDeed_104 rfl ?_
                    refine J_goto 109 dX11_isDeed_105 rfl ?_
                    exact J_zret dX11_isDeed_109 rfl (Or.inr rfl) ⟨rfl, rfl, rfl, (Or.inr rfl)⟩
                  · refine J_lld0 dX11_isDeed_72 ?_
                    refine J_ldc2 dX11_isDeed_73 wd_72 ?_
                    refine J_lcmp dX11_isDeed_76 ?_
                    refine J_if_eq 104 dX11_isDeed_77 rfl ?_ ?_
                    · refine J_iconst (v := 1) dX11_isDeed_104 rfl ?_
                      refine J_goto 109 dX11_isDeed_105 rfl ?_
                      exact J_zret dX11_isDeed_109 rfl (Or.inr rfl) ⟨rfl, rfl, rfl, (Or.inr rfl)⟩
                    · refine J_lld0 dX11_isDeed_80 ?_
                      refine J_ldc2 dX11_isDeed_81 wd_77 ?_
                      refine J_lcmp dX11_isDeed_84 ?_
                      refine J_if_eq 104 dX11_isDeed_85 rfl ?_ ?_
                      · refine J_iconst (v := 1) dX11_isDeed_104 rfl ?_
                        refine J_goto 109 dX11_isDeed_105 rfl ?_
                        exact J_zret dX11_isDeed_109 rfl (Or.inr rfl) ⟨rfl, rfl, rfl, (Or.inr rfl)⟩
                      · refine J_lld0 dX11_isDeed_88 ?_
                        refine J_ldc2 dX11_isDeed_89 wd_78 ?_
                        refine J_lcmp dX11_isDeed_92 ?_
                        refine J_if_eq 104 dX11_isDeed_93 rfl ?_ ?_
                        · refine J_iconst (v := 1) dX11_isDeed_104 rfl ?_
                          refine J_goto 109 dX11_isDeed_105 rfl ?_
                          exact J_zret dX11_isDeed_109 rfl (Or.inr rfl) ⟨rfl, rfl, rfl, (Or.inr rfl)⟩
                        · refine J_lld0 dX11_isDeed_96 ?_
                          refine J_ldc2 dX11_isDeed_97 wd_70 ?_
                          refine J_lcmp dX11_isDeed_100 ?_
                          refine J_if_ne 108 dX11_isDeed_101 rfl ?_ ?_
                          · refine J_iconst (v := 0) dX11_isDeed_108 rfl ?_
                            exact J_zret dX11_isDeed_109 rfl (Or.inl rfl) ⟨rfl, rfl, rfl, (Or.inl rfl)⟩
                          · refine J_iconst (v := 1) dX11_isDeed_104 rfl ?_
                            refine J_goto 109 dX11_isDeed_105 rfl ?_
                            exact J_zret dX11_isDeed_109 rfl (Or.inr rfl) ⟨rfl, rfl, rfl, (Or.inr rfl)⟩
set_option maxRecDepth 100000 in
theorem jX11_readsStep (l : Launch) (cx : CX) (n : Nat) (M : Mem) : Con l cx ({ frames := 4, cells := 0, slots := 0, locals := 88 } : Room) yX11_readsStep cX11_readsStep 1 (some .boolean) 0 0 false 207 218 EZ GS [.ref 207] M (mX11_readsStep n M) := by
  unfold mX11_readsStep
  refine Con.of (ls := [some (.ref 207)]) (by decide) rfl (Nat.le_of_ble_eq_true rfl) ?_
  refine J_ald0 dX11_readsStep_0 ?_
  refine J_geti fl_RX11_275 dX11_readsStep_1 kk_207 rfl ?_
  refine J_bipush (v := 24) dX11_readsStep_4 rfl ?_
  refine J_ic_ne 19 dX11_readsStep_6 rfl ?_ ?_
  · refine J_ald0 dX11_readsStep_19 ?_
    refine J_cVV (jX11_readsWord l cx n  M) ck_RX11_134 dX11_readsStep_20 rfl kk_207 ⟨rfl, rfl, by decide, by decide⟩ ⟨Nat.zero_le _, Nat.zero_le _, Nat.le_of_ble_eq_true rfl⟩ (fun M2 => ?_)
    refine J_ald0 dX11_readsStep_23 ?_
    refine J_getl fl_RX11_112 dX11_readsStep_24 kk_207 rfl ?_
    refine J_cSB (jX11_isDeed l cx n (lcb (M2 207 10) (M2 207 (10 + HI))) M2) ck_RX11_303 dX11_readsStep_27 rfl ⟨rfl, rfl, by decide, by decide⟩ ⟨Nat.zero_le _, Nat.zero_le _, Nat.le_of_ble_eq_true rfl⟩ (fun r3 z4 => ?_)
    refine J_if_ne 43 dX11_readsStep_30 rfl ?_ ?_
    · refine J_ald0 dX11_readsStep_43 ?_
      refine J_getr (q := 212) fl_RX11_23 dX11_readsStep_44 kk_207 rfl (rf_11_13 kk_207) ?_
      refine J_ald0 dX11_readsStep_47 ?_
      refine J_geti fl_RX11_275 dX11_readsStep_48 kk_207 rfl ?_
      refine J_ald0 dX11_readsStep_51 ?_
      refine J_getl fl_RX11_112 dX11_readsStep_52 kk_207 rfl ?_
      refine J_last dX11_readsStep_55 kk_212 rfl ?_
      refine J_lt (fun M5 => ?_)
      refine J_ald0 dX11_readsStep_56 ?_
      refine J_ald0 dX11_readsStep_57 ?_
      refine J_getl fl_RX11_112 dX11_readsStep_58 kk_207 rfl ?_
      refine J_cVZ (jX11_readsRest l cx n (lcb (M5 207 10) (M5 207 (10 + HI))) M5) ck_RX11_306 dX11_readsStep_61 rfl kk_207 ⟨rfl, rfl, by decide, by decide⟩ ⟨Nat.zero_le _, Nat.zero_le _, Nat.le_of_ble_eq_true rfl⟩ (fun r6 M7 z8 => ?_)
      refine J_if_ne 69 dX11_readsStep_64 rfl ?_ ?_
      · refine J_ald0 dX11_readsStep_69 ?_
        refine J_ald0 dX11_readsStep_70 ?_
        refine J_geti fl_RX11_275 dX11_readsStep_71 kk_207 rfl ?_
        refine J_iconst (v := 1) dX11_readsStep_74 rfl ?_
        refine J_iadd dX11_readsStep_75 ?_
        refine J_puti fl_RX11_275 dX11_readsStep_76 kk_207 rfl (by decide) ?_
        refine J_iconst (v := 1) dX11_readsStep_79 rfl ?_
        exact J_zret dX11_readsStep_80 rfl (Or.inr rfl) ⟨rfl, rfl, rfl, (Or.inr rfl)⟩
      · refine J_iconst (v := 0) dX11_readsStep_67 rfl ?_
        exact J_zret dX11_readsStep_68 rfl (Or.inl rfl) ⟨rfl, rfl, rfl, (Or.inl rfl)⟩
    · refine J_ald0 dX11_readsStep_33 ?_
      refine J_iconst (v := 1) dX11_readsStep_34 rfl ?_
      refine J_ald0 dX11_readsStep_35 ?_
      refine J_geti fl_RX11_109 dX11_readsStep_36 kk_207 rfl ?_
      refine J_cVZ (jX11_wrongAt l cx n (1 : Int32) (M2 207 9) M2) ck_RX11_105 dX11_readsStep_39 rfl kk_207 ⟨rfl, rfl, by decide, by decide⟩ ⟨Nat.zero_le _, Nat.zero_le _, Nat.le_of_ble_eq_true rfl⟩ (fun r9 M10 z11 => ?_)
      exact J_zret dX11_readsStep_42 rfl z11 ⟨rfl, rfl, rfl, z11⟩
  · refine J_ald0 dX11_readsStep_9 ?_
    refine J_iconst (v := 4) dX11_readsStep_10 rfl ?_
    refine J_ald0 dX11_readsStep_11 ?_
    refine J_geti fl_RX11_92 dX11_readsStep_12 kk_207 rfl ?_
    refine J_cVZ (jX11_wrongAt l cx n (4 : Int32) (M 207 5) M) ck_RX11_105 dX11_readsStep_15 rfl kk_207 ⟨rfl, rfl, by decide, by decide⟩ ⟨Nat.zero_le _, Nat.zero_le _, Nat.le_of_ble_eq_true rfl⟩ (fun r12 M13 z14 => ?_)
    exact J_zret dX11_readsStep_18 rfl z14 ⟨rfl, rfl, rfl, z14⟩
set_option maxRecDepth 100000 in
theorem jX11_readsDeeds_c25 {l : Launch} {cx : CX} {n : Nat} : ∀ (f : Nat) {v2 : Int32} {M : Mem} (z2 : v2 = 0 ∨ v2 = 1), JO l cx ({ frames := 5, cells := 0, slots := 0, locals := 108 } : Room) yX11_readsDeeds cX11_readsDeeds 3 (some .boolean) 0 0 false 207 218 EZ GS 0 0 25 [some (.ref 207), none, some (.int v2)] [] M (mX11_readsDeeds_c25 n f v2 M) := by
  intro f
  induction f with
  | zero =>
    intros
    exact J_none
  | succ f ih =>
    intro v2 M z2
    unfold mX11_readsDeeds_c25
    refine J_ild2 dX11_readsDeeds_25 ?_
    refine J_if_eq 65 dX11_readsDeeds_26 rfl ?_ ?_
    · refine J_ild2 dX11_readsDeeds_65 ?_
      exact J_zret dX11_readsDeeds_66 rfl z2 ⟨rfl, rfl, rfl, z2⟩
    · refine J_ald0 dX11_readsDeeds_29 ?_
      refine J_geti fl_RX11_92 dX11_readsDeeds_30 kk_207 rfl ?_
      refine J_ald0 dX11_readsDeeds_33 ?_
      refine J_geti fl_RX11_95 dX11_readsDeeds_34 kk_207 rfl ?_
      refine J_ic_ge 65 dX11_readsDeeds_37 rfl ?_ ?_
      · refine J_ild2 dX11_readsDeeds_65 ?_
        exact J_zret dX11_readsDeeds_66 rfl z2 ⟨rfl, rfl, rfl, z2⟩
      · refine J_ald0 dX11_readsDeeds_40 ?_
        refine J_bipush (v := 59) dX11_readsDeeds_41 rfl ?_
        refine J_cVZ (jX11_takesSign l cx n (59 : Int32) M) ck_RX11_122 dX11_readsDeeds_43 rfl kk_207 ⟨rfl, rfl, by decide, by decide⟩ ⟨Nat.zero_le _, Nat.zero_le _, Nat.le_of_ble_eq_true rfl⟩ (fun r1 M2 z3 => ?_)
        refine J_if_eq 60 dX11_readsDeeds_46 rfl ?_ ?_
        · refine J_iconst (v := 0) dX11_readsDeeds_60 rfl ?_
          refine J_ist2 dX11_readsDeeds_61 (by decide) rfl ?_
          refine J_goto 25 dX11_readsDeeds_62 rfl ?_
          exact J_wk (wk_s (wk_n (wk_s wk_0))) (ih (Or.inl rfl))
        · refine J_ald0 dX11_readsDeeds_49 ?_
          refine J_cVZ (jX11_readsStep l cx n  M2) ck_RX11_309 dX11_readsDeeds_50 rfl kk_207 ⟨rfl, rfl, by decide, by decide⟩ ⟨Nat.zero_le _, Nat.zero_le _, Nat.le_of_ble_eq_true rfl⟩ (fun r4 M5 z6 => ?_)
          refine J_if_eq 60 dX11_readsDeeds_53 rfl ?_ ?_
          · refine J_iconst (v := 0) dX11_readsDeeds_60 rfl ?_
            refine J_ist2 dX11_readsDeeds_61 (by decide) rfl ?_
            refine J_goto 25 dX11_readsDeeds_62 rfl ?_
            exact J_wk (wk_s (wk_n (wk_s wk_0))) (ih (Or.inl rfl))
          · refine J_iconst (v := 1) dX11_readsDeeds_56 rfl ?_
            refine J_goto 61 dX11_readsDeeds_57 rfl ?_
            refine J_ist2 dX11_readsDeeds_61 (by decide) rfl ?_
            refine J_goto 25 dX11_readsDeeds_62 rfl ?_
            exact J_wk (wk_s (wk_n (wk_s wk_0))) (ih (Or.inr rfl))
set_option maxRecDepth 100000 in
theorem jX11_readsDeeds (l : Launch) (cx : CX) (n : Nat) (a : Int32) (M : Mem) : Con l cx ({ frames := 5, cells := 0, slots := 0, locals := 108 } : Room) yX11_readsDeeds cX11_readsDeeds 3 (some .boolean) 0 0 false 207 218 EZ GS [.ref 207, .int a] M (mX11_readsDeeds n a M) := by
  unfold mX11_readsDeeds
  refine Con.of (ls := [some (.ref 207), some (.int a), none]) (by decide) rfl (Nat.le_of_ble_eq_true rfl) ?_
  refine J_ald0 dX11_readsDeeds_0 ?_
  refine J_iconst (v := 0) dX11_readsDeeds_1 rfl ?_
  refine J_puti fl_RX11_92 dX11_readsDeeds_2 kk_207 rfl (by decide) ?_
  refine J_ald0 dX11_readsDeeds_5 ?_
  refine J_ild1 dX11_readsDeeds_6 ?_
  refine J_puti fl_RX11_95 dX11_readsDeeds_7 kk_207 rfl (by decide) ?_
  refine J_ald0 dX11_readsDeeds_10 ?_
  refine J_iconst (v := 0) dX11_readsDeeds_11 rfl ?_
  refine J_puti fl_RX11_84 dX11_readsDeeds_12 kk_207 rfl (by decide) ?_
  refine J_ald0 dX11_readsDeeds_15 ?_
  refine J_iconst (v := 0) dX11_readsDeeds_16 rfl ?_
  refine J_puti fl_RX11_275 dX11_readsDeeds_17 kk_207 rfl (by decide) ?_
  refine J_lt (fun M7 => ?_)
  refine J_ald0 dX11_readsDeeds_20 ?_
  refine J_cVZ (jX11_readsStep l cx n  M7) ck_RX11_309 dX11_readsDeeds_21 rfl kk_207 ⟨rfl, rfl, by decide, by decide⟩ ⟨Nat.zero_le _, Nat.zero_le _, Nat.le_of_ble_eq_true rfl⟩ (fun r8 M9 z10 => ?_)
  refine J_ist2 dX11_readsDeeds_24 (by decide) rfl ?_
  exact J_wk (wk_s (wk_n (wk_s wk_0))) (jX11_readsDeeds_c25 (n := n) n z10)
set_option maxRecDepth 100000 in
theorem jX11_pay (l : Launch) (cx : CX) (n : Nat) (a : Int32) (b : Int32) (M : Mem) : Con l cx ({ frames := 3, cells := 0, slots := 0, locals := 63 } : Room) yX11_pay cX11_pay 3 (some .int) 0 0 false 207 218 EI GS [.ref 207, .int a, .int b] M (mX11_pay a b M) := by
  unfold mX11_pay
  refine Con.of (ls := [some (.ref 207), some (.int a), some (.int b)]) (by decide) rfl (Nat.le_of_ble_eq_true rfl) ?_
  refine J_ald0 dX11_pay_0 ?_
  refine J_ild1 dX11_pay_1 ?_
  refine J_cVB (jX11_isBegun l cx n a M) ck_RX11_216 dX11_pay_2 rfl kk_207 ⟨rfl, rfl, by decide, by decide⟩ ⟨Nat.zero_le _, Nat.zero_le _, Nat.le_of_ble_eq_true rfl⟩ (fun r1 z2 => ?_)
  refine J_if_eq 32 dX11_pay_5 rfl ?_ ?_
  · refine J_iconst (v := -1) dX11_pay_32 rfl ?_
    exact J_iret dX11_pay_33 rfl ⟨rfl, rfl, rfl⟩
  · refine J_ild2 dX11_pay_8 ?_
    refine J_iconst (v := 1) dX11_pay_9 rfl ?_
    refine J_ldc dX11_pay_10 wd_45 ?_
    refine J_cSB (jX11_in l cx n b (1 : Int32) (999999 : Int32) M) ck_RX11_56 dX11_pay_12 rfl ⟨rfl, rfl, by decide, by decide⟩ ⟨Nat.zero_le _, Nat.zero_le _, Nat.le_of_ble_eq_true rfl⟩ (fun r3 z4 => ?_)
    refine J_if_eq 32 dX11_pay_15 rfl ?_ ?_
    · refine J_iconst (v := -1) dX11_pay_32 rfl ?_
      exact J_iret dX11_pay_33 rfl ⟨rfl, rfl, rfl⟩
    · refine J_ild2 dX11_pay_18 ?_
      refine J_ldc dX11_pay_19 wd_62 ?_
      refine J_ald0 dX11_pay_21 ?_
      refine J_ild1 dX11_pay_22 ?_
      refine J_bipush (v := 9) dX11_pay_23 rfl ?_
      refine J_cVP (jX11_of l cx n a (9 : Int32) M) ck_RX11_213 dX11_pay_25 rfl kk_207 ⟨rfl, rfl, by decide, by decide⟩ ⟨Nat.zero_le _, Nat.zero_le _, Nat.le_of_ble_eq_true rfl⟩ (fun r5 => ?_)
      refine J_isub dX11_pay_28 ?_
      refine J_ic_le 34 dX11_pay_29 rfl ?_ ?_
      · refine J_ald0 dX11_pay_34 ?_
        refine J_ild1 dX11_pay_35 ?_
        refine J_bipush (v := 9) dX11_pay_36 rfl ?_
        refine J_ald0 dX11_pay_38 ?_
        refine J_ild1 dX11_pay_39 ?_
        refine J_bipush (v := 9) dX11_pay_40 rfl ?_
        refine J_cVP (jX11_of l cx n a (9 : Int32) M) ck_RX11_213 dX11_pay_42 rfl kk_207 ⟨rfl, rfl, by decide, by decide⟩ ⟨Nat.zero_le _, Nat.zero_le _, Nat.le_of_ble_eq_true rfl⟩ (fun r6 => ?_)
        refine J_ild2 dX11_pay_45 ?_
        refine J_iadd dX11_pay_46 ?_
        refine J_cVV (jX11_sets l cx n a (9 : Int32) (r6 + b) M) ck_RX11_233 dX11_pay_47 rfl kk_207 ⟨rfl, rfl, by decide, by decide⟩ ⟨Nat.zero_le _, Nat.zero_le _, Nat.le_of_ble_eq_true rfl⟩ (fun M8 => ?_)
        refine J_ald0 dX11_pay_50 ?_
        refine J_ild1 dX11_pay_51 ?_
        refine J_bipush (v := 9) dX11_pay_52 rfl ?_
        refine J_cVP (jX11_of l cx n a (9 : Int32) M8) ck_RX11_213 dX11_pay_54 rfl kk_207 ⟨rfl, rfl, by decide, by decide⟩ ⟨Nat.zero_le _, Nat.zero_le _, Nat.le_of_ble_eq_true rfl⟩ (fun r9 => ?_)
        exact J_iret dX11_pay_57 rfl ⟨rfl, rfl, rfl⟩
      · refine J_iconst (v := -1) dX11_pay_32 rfl ?_
        exact J_iret dX11_pay_33 rfl ⟨rfl, rfl, rfl⟩
set_option maxRecDepth 100000 in
theorem jX11_covers_c67 {l : Launch} {cx : CX} {n : Nat} : ∀ (f : Nat) {v1 : Int32} {v2 : Int32} {M : Mem}, JO l cx ({ frames := 1, cells := 0, slots := 0, locals := 22 } : Room) yX11_covers cX11_covers 4 none 0 0 false 207 218 EV GS 0 0 67 [some (.ref 207), some (.int v1), some (.int v2), none] [] M (mX11_covers_c67 n f v1 v2 M) := by
  intro f
  induction f with
  | zero =>
    intros
    exact J_none
  | succ f ih =>
    intro v1 v2 M
    unfold mX11_covers_c67
    refine J_ild2 dX11_covers_67 ?_
    refine J_ald0 dX11_covers_68 ?_
    refine J_getr (q := 209) fl_RX11_13 dX11_covers_69 kk_207 rfl (rf_11_1 kk_207) ?_
    refine J_iconst (v := 1) dX11_covers_72 rfl ?_
    refine J_iald dX11_covers_73 kk_209 rfl ?_
    refine J_ic_ge 153 dX11_covers_74 rfl ?_ ?_
    · exact J_vret dX11_covers_153 rfl ⟨rfl, rfl, rfl⟩
    · refine J_ald0 dX11_covers_77 ?_
      refine J_getr (q := 217) fl_RX11_39 dX11_covers_78 kk_207 rfl (rf_11_20 kk_207) ?_
      refine J_ild2 dX11_covers_81 ?_
      refine J_iconst (v := 0) dX11_covers_82 rfl ?_
      refine J_iast dX11_covers_83 kk_217 rfl ?_
      refine J_ald0 dX11_covers_84 ?_
      refine J_ild2 dX11_covers_85 ?_
      refine J_iconst (v := 1) dX11_covers_86 rfl ?_
      refine J_cVP (jX11_entryOf l cx n v2 (1 : Int32) (upd2 M 217 (Int32.toNatClampNeg v2) (0 : Int32))) ck_RX11_219 dX11_covers_87 rfl kk_207 ⟨rfl, rfl, by decide, by decide⟩ ⟨Nat.zero_le _, Nat.zero_le _, Nat.le_of_ble_eq_true rfl⟩ (fun r1 => ?_)
      refine J_ild1 dX11_covers_90 ?_
      refine J_ic_ne 147 dX11_covers_91 rfl ?_ ?_
      · refine J_iinc2 (w := (v2 + (1 : Int32))) dX11_covers_147 (by decide) rfl rfl ?_
        refine J_goto 67 dX11_covers_150 rfl ?_
        exact J_wk (wk_s (wk_s (wk_s (wk_n wk_0)))) (ih)
      · refine J_ald0 dX11_covers_94 ?_
        refine J_ild2 dX11_covers_95 ?_
        refine J_bipush (v := 7) dX11_covers_96 rfl ?_
        refine J_cVP (jX11_entryOf l cx n v2 (7 : Int32) (upd2 M 217 (Int32.toNatClampNeg v2) (0 : Int32))) ck_RX11_219 dX11_covers_98 rfl kk_207 ⟨rfl, rfl, by decide, by decide⟩ ⟨Nat.zero_le _, Nat.zero_le _, Nat.le_of_ble_eq_true rfl⟩ (fun r2 => ?_)
        refine J_if_gt 107 dX11_covers_101 rfl ?_ ?_
        · refine J_ald0 dX11_covers_107 ?_
          refine J_geti fl_RX11_408 dX11_covers_108 kk_207 rfl ?_
          refine J_ald0 dX11_covers_111 ?_
          refine J_ild2 dX11_covers_112 ?_
          refine J_bipush (v := 7) dX11_covers_113 rfl ?_
          refine J_cVP (jX11_entryOf l cx n v2 (7 : Int32) (upd2 M 217 (Int32.toNatClampNeg v2) (0 : Int32))) ck_RX11_219 dX11_covers_115 rfl kk_207 ⟨rfl, rfl, by decide, by decide⟩ ⟨Nat.zero_le _, Nat.zero_le _, Nat.le_of_ble_eq_true rfl⟩ (fun r3 => ?_)
          refine J_cSP (jX11_min l cx n ((upd2 M 217 (Int32.toNatClampNeg v2) (0 : Int32)) 207 21) r3 (upd2 M 217 (Int32.toNatClampNeg v2) (0 : Int32))) ck_RX11_46 dX11_covers_118 rfl ⟨rfl, rfl, by decide, by decide⟩ ⟨Nat.zero_le _, Nat.zero_le _, Nat.le_of_ble_eq_true rfl⟩ (fun r4 => ?_)
          refine J_ist3 dX11_covers_121 (by decide) rfl ?_
          refine J_ald0 dX11_covers_122 ?_
          refine J_getr (q := 217) fl_RX11_39 dX11_covers_123 kk_207 rfl (rf_11_20 kk_207) ?_
          refine J_ild2 dX11_covers_126 ?_
          refine J_ald0 dX11_covers_127 ?_
          refine J_ild2 dX11_covers_128 ?_
          refine J_bipush (v := 7) dX11_covers_129 rfl ?_
          refine J_cVP (jX11_entryOf l cx n v2 (7 : Int32) (upd2 M 217 (Int32.toNatClampNeg v2) (0 : Int32))) ck_RX11_219 dX11_covers_131 rfl kk_207 ⟨rfl, rfl, by decide, by decide⟩ ⟨Nat.zero_le _, Nat.zero_le _, Nat.le_of_ble_eq_true rfl⟩ (fun r5 => ?_)
          refine J_ild3 dX11_covers_134 ?_
          refine J_isub dX11_covers_135 ?_
          refine J_iast dX11_covers_136 kk_217 rfl ?_
          refine J_lt (fun M6 => ?_)
          refine J_ald0 dX11_covers_137 ?_
          refine J_ald0 dX11_covers_138 ?_
          refine J_geti fl_RX11_408 dX11_covers_139 kk_207 rfl ?_
          refine J_ild3 dX11_covers_142 ?_
          refine J_isub dX11_covers_143 ?_
          refine J_puti fl_RX11_408 dX11_covers_144 kk_207 rfl (by decide) ?_
          refine J_iinc2 (w := (v2 + (1 : Int32))) dX11_covers_147 (by decide) rfl rfl ?_
          refine J_goto 67 dX11_covers_150 rfl ?_
          exact J_wk (wk_s (wk_s (wk_s (wk_n wk_0)))) (ih)
        · refine J_goto 147 dX11_covers_104 rfl ?_
          refine J_iinc2 (w := (v2 + (1 : Int32))) dX11_covers_147 (by decide) rfl rfl ?_
          refine J_goto 67 dX11_covers_150 rfl ?_
          exact J_wk (wk_s (wk_s (wk_s (wk_n wk_0)))) (ih)
set_option maxRecDepth 100000 in
theorem jX11_covers_c13 {l : Launch} {cx : CX} {n : Nat} : ∀ (f : Nat) {v1 : Int32} {v2 : Int32} {M : Mem}, JO l cx ({ frames := 1, cells := 0, slots := 0, locals := 22 } : Room) yX11_covers cX11_covers 4 none 0 0 false 207 218 EV GS 0 0 13 [some (.ref 207), some (.int v1), some (.int v2), none] [] M (mX11_covers_c13 n f v1 v2 M) := by
  intro f
  induction f with
  | zero =>
    intros
    exact J_none
  | succ f ih =>
    intro v1 v2 M
    unfold mX11_covers_c13
    refine J_ild2 dX11_covers_13 ?_
    refine J_ald0 dX11_covers_14 ?_
    refine J_getr (q := 209) fl_RX11_13 dX11_covers_15 kk_207 rfl (rf_11_1 kk_207) ?_
    refine J_iconst (v := 1) dX11_covers_18 rfl ?_
    refine J_iald dX11_covers_19 kk_209 rfl ?_
    refine J_ic_ge 65 dX11_covers_20 rfl ?_ ?_
    · refine J_iconst (v := 0) dX11_covers_65 rfl ?_
      refine J_ist2 dX11_covers_66 (by decide) rfl ?_
      exact J_wk (wk_s (wk_s (wk_s (wk_n wk_0)))) (jX11_covers_c67 (n := n) n)
    · refine J_ald0 dX11_covers_23 ?_
      refine J_ild2 dX11_covers_24 ?_
      refine J_iconst (v := 1) dX11_covers_25 rfl ?_
      refine J_cVP (jX11_entryOf l cx n v2 (1 : Int32) M) ck_RX11_219 dX11_covers_26 rfl kk_207 ⟨rfl, rfl, by decide, by decide⟩ ⟨Nat.zero_le _, Nat.zero_le _, Nat.le_of_ble_eq_true rfl⟩ (fun r7 => ?_)
      refine J_ild1 dX11_covers_29 ?_
      refine J_ic_ne 59 dX11_covers_30 rfl ?_ ?_
      · refine J_iinc2 (w := (v2 + (1 : Int32))) dX11_covers_59 (by decide) rfl rfl ?_
        refine J_goto 13 dX11_covers_62 rfl ?_
        exact J_wk (wk_s (wk_s (wk_s (wk_n wk_0)))) (ih)
      · refine J_ald0 dX11_covers_33 ?_
        refine J_ild2 dX11_covers_34 ?_
        refine J_bipush (v := 7) dX11_covers_35 rfl ?_
        refine J_cVP (jX11_entryOf l cx n v2 (7 : Int32) M) ck_RX11_219 dX11_covers_37 rfl kk_207 ⟨rfl, rfl, by decide, by decide⟩ ⟨Nat.zero_le _, Nat.zero_le _, Nat.le_of_ble_eq_true rfl⟩ (fun r8 => ?_)
        refine J_if_ge 59 dX11_covers_40 rfl ?_ ?_
        · refine J_iinc2 (w := (v2 + (1 : Int32))) dX11_covers_59 (by decide) rfl rfl ?_
          refine J_goto 13 dX11_covers_62 rfl ?_
          exact J_wk (wk_s (wk_s (wk_s (wk_n wk_0)))) (ih)
        · refine J_ald0 dX11_covers_43 ?_
          refine J_ald0 dX11_covers_44 ?_
          refine J_geti fl_RX11_408 dX11_covers_45 kk_207 rfl ?_
          refine J_ald0 dX11_covers_48 ?_
          refine J_ild2 dX11_covers_49 ?_
          refine J_bipush (v := 7) dX11_covers_50 rfl ?_
          refine J_cVP (jX11_entryOf l cx n v2 (7 : Int32) M) ck_RX11_219 dX11_covers_52 rfl kk_207 ⟨rfl, rfl, by decide, by decide⟩ ⟨Nat.zero_le _, Nat.zero_le _, Nat.le_of_ble_eq_true rfl⟩ (fun r9 => ?_)
          refine J_isub dX11_covers_55 ?_
          refine J_puti fl_RX11_408 dX11_covers_56 kk_207 rfl (by decide) ?_
          refine J_iinc2 (w := (v2 + (1 : Int32))) dX11_covers_59 (by decide) rfl rfl ?_
          refine J_goto 13 dX11_covers_62 rfl ?_
          exact J_wk (wk_s (wk_s (wk_s (wk_n wk_0)))) (ih)
set_option maxRecDepth 100000 in
theorem jX11_covers (l : Launch) (cx : CX) (n : Nat) (a : Int32) (M : Mem) : Con l cx ({ frames := 1, cells := 0, slots := 0, locals := 22 } : Room) yX11_covers cX11_covers 4 none 0 0 false 207 218 EV GS [.ref 207, .int a] M (mX11_covers n a M) := by
  unfold mX11_covers
  refine Con.of (ls := [some (.ref 207), some (.int a), none, none]) (by decide) rfl (Nat.le_of_ble_eq_true rfl) ?_
  refine J_ald0 dX11_covers_0 ?_
  refine J_ald0 dX11_covers_1 ?_
  refine J_ild1 dX11_covers_2 ?_
  refine J_bipush (v := 9) dX11_covers_3 rfl ?_
  refine J_cVP (jX11_of l cx n a (9 : Int32) M) ck_RX11_213 dX11_covers_5 rfl kk_207 ⟨rfl, rfl, by decide, by decide⟩ ⟨Nat.zero_le _, Nat.zero_le _, Nat.le_of_ble_eq_true rfl⟩ (fun r10 => ?_)
  refine J_puti fl_RX11_408 dX11_covers_8 kk_207 rfl (by decide) ?_
  refine J_iconst (v := 0) dX11_covers_11 rfl ?_
  refine J_ist2 dX11_covers_12 (by decide) rfl ?_
  exact J_wk (wk_s (wk_s (wk_s (wk_n wk_0)))) (jX11_covers_c13 (n := n) n)
set_option maxRecDepth 100000 in
theorem jX11_lateOn_c10 {l : Launch} {cx : CX} {n : Nat} : ∀ (f : Nat) {v1 : Int32} {v2 : Int32} {v3 : Int32} {v4 : Int32} {M : Mem}, JO l cx ({ frames := 2, cells := 0, slots := 0, locals := 45 } : Room) yX11_lateOn cX11_lateOn 5 (some .int) 0 0 false 207 218 EI GS 0 0 10 [some (.ref 207), some (.int v1), some (.int v2), some (.int v3), some (.int v4)] [] M (mX11_lateOn_c10 n f v1 v2 v3 v4 M) := by
  intro f
  induction f with
  | zero =>
    intros
    exact J_none
  | succ f ih =>
    intro v1 v2 v3 v4 M
    unfold mX11_lateOn_c10
    refine J_ild4 dX11_lateOn_10 ?_
    refine J_ald0 dX11_lateOn_12 ?_
    refine J_getr (q := 209) fl_RX11_13 dX11_lateOn_13 kk_207 rfl (rf_11_1 kk_207) ?_
    refine J_iconst (v := 1) dX11_lateOn_16 rfl ?_
    refine J_iald dX11_lateOn_17 kk_209 rfl ?_
    refine J_ic_ge 62 dX11_lateOn_18 rfl ?_ ?_
    · refine J_ild3 dX11_lateOn_62 ?_
      exact J_iret dX11_lateOn_63 rfl ⟨rfl, rfl, rfl⟩
    · refine J_ald0 dX11_lateOn_21 ?_
      refine J_ild4 dX11_lateOn_22 ?_
      refine J_iconst (v := 1) dX11_lateOn_24 rfl ?_
      refine J_cVP (jX11_entryOf l cx n v4 (1 : Int32) M) ck_RX11_219 dX11_lateOn_25 rfl kk_207 ⟨rfl, rfl, by decide, by decide⟩ ⟨Nat.zero_le _, Nat.zero_le _, Nat.le_of_ble_eq_true rfl⟩ (fun r1 => ?_)
      refine J_ild1 dX11_lateOn_28 ?_
      refine J_ic_ne 56 dX11_lateOn_29 rfl ?_ ?_
      · refine J_iinc4 (w := (v4 + (1 : Int32))) dX11_lateOn_56 (by decide) rfl rfl ?_
        refine J_goto 10 dX11_lateOn_59 rfl ?_
        exact J_wk (wk_s (wk_s (wk_s (wk_s (wk_s wk_0))))) (ih)
      · refine J_ald0 dX11_lateOn_32 ?_
        refine J_ild4 dX11_lateOn_33 ?_
        refine J_iconst (v := 2) dX11_lateOn_35 rfl ?_
        refine J_cVP (jX11_entryOf l cx n v4 (2 : Int32) M) ck_RX11_219 dX11_lateOn_36 rfl kk_207 ⟨rfl, rfl, by decide, by decide⟩ ⟨Nat.zero_le _, Nat.zero_le _, Nat.le_of_ble_eq_true rfl⟩ (fun r2 => ?_)
        refine J_bipush (v := 14) dX11_lateOn_39 rfl ?_
        refine J_iadd dX11_lateOn_41 ?_
        refine J_ild2 dX11_lateOn_42 ?_
        refine J_ic_ge 56 dX11_lateOn_43 rfl ?_ ?_
        · refine J_iinc4 (w := (v4 + (1 : Int32))) dX11_lateOn_56 (by decide) rfl rfl ?_
          refine J_goto 10 dX11_lateOn_59 rfl ?_
          exact J_wk (wk_s (wk_s (wk_s (wk_s (wk_s wk_0))))) (ih)
        · refine J_ild3 dX11_lateOn_46 ?_
          refine J_ald0 dX11_lateOn_47 ?_
          refine J_getr (q := 217) fl_RX11_39 dX11_lateOn_48 kk_207 rfl (rf_11_20 kk_207) ?_
          refine J_ild4 dX11_lateOn_51 ?_
          refine J_iald dX11_lateOn_53 kk_217 rfl ?_
          refine J_iadd dX11_lateOn_54 ?_
          refine J_ist3 dX11_lateOn_55 (by decide) rfl ?_
          refine J_iinc4 (w := (v4 + (1 : Int32))) dX11_lateOn_56 (by decide) rfl rfl ?_
          refine J_goto 10 dX11_lateOn_59 rfl ?_
          exact J_wk (wk_s (wk_s (wk_s (wk_s (wk_s wk_0))))) (ih)
set_option maxRecDepth 100000 in
theorem jX11_lateOn (l : Launch) (cx : CX) (n : Nat) (a : Int32) (b : Int32) (M : Mem) : Con l cx ({ frames := 2, cells := 0, slots := 0, locals := 45 } : Room) yX11_lateOn cX11_lateOn 5 (some .int) 0 0 false 207 218 EI GS [.ref 207, .int a, .int b] M (mX11_lateOn n a b M) := by
  unfold mX11_lateOn
  refine Con.of (ls := [some (.ref 207), some (.int a), some (.int b), none, none]) (by decide) rfl (Nat.le_of_ble_eq_true rfl) ?_
  refine J_ald0 dX11_lateOn_0 ?_
  refine J_ild1 dX11_lateOn_1 ?_
  refine J_cVV (jX11_covers l cx n a M) ck_RX11_411 dX11_lateOn_2 rfl kk_207 ⟨rfl, rfl, by decide, by decide⟩ ⟨Nat.zero_le _, Nat.zero_le _, Nat.le_of_ble_eq_true rfl⟩ (fun M4 => ?_)
  refine J_iconst (v := 0) dX11_lateOn_5 rfl ?_
  refine J_ist3 dX11_lateOn_6 (by decide) rfl ?_
  refine J_iconst (v := 0) dX11_lateOn_7 rfl ?_
  refine J_ist4 dX11_lateOn_8 (by decide) rfl ?_
  exact J_wk (wk_s (wk_s (wk_s (wk_s (wk_s wk_0))))) (jX11_lateOn_c10 (n := n) n)
set_option maxRecDepth 100000 in
theorem jX11_isRemindedToday_c2 {l : Launch} {cx : CX} {n : Nat} {M : Mem} : ∀ (f : Nat) {v1 : Int32} {v2 : Int32}, JO l cx ({ frames := 1, cells := 0, slots := 0, locals := 22 } : Room) yX11_isRemindedToday cX11_isRemindedToday 3 (some .boolean) 0 0 false 207 218 (EB M) GS 0 0 2 [some (.ref 207), some (.int v1), some (.int v2)] [] M (mX11_isRemindedToday_c2 n f v1 v2 M) := by
  intro f
  induction f with
  | zero =>
    intros
    exact J_none
  | succ f ih =>
    intro v1 v2
    unfold mX11_isRemindedToday_c2
    refine J_ild2 dX11_isRemindedToday_2 ?_
    refine J_ald0 dX11_isRemindedToday_3 ?_
    refine J_getr (q := 209) fl_RX11_13 dX11_isRemindedToday_4 kk_207 rfl (rf_11_1 kk_207) ?_
    refine J_iconst (v := 1) dX11_isRemindedToday_7 rfl ?_
    refine J_iald dX11_isRemindedToday_8 kk_209 rfl ?_
    refine J_ic_ge 55 dX11_isRemindedToday_9 rfl ?_ ?_
    · refine J_iconst (v := 0) dX11_isRemindedToday_55 rfl ?_
      exact J_zret dX11_isRemindedToday_56 rfl (Or.inl rfl) ⟨rfl, rfl, rfl, (Or.inl rfl)⟩
    · refine J_ald0 dX11_isRemindedToday_12 ?_
      refine J_ild2 dX11_isRemindedToday_13 ?_
      refine J_iconst (v := 1) dX11_isRemindedToday_14 rfl ?_
      refine J_cVP (jX11_entryOf l cx n v2 (1 : Int32) M) ck_RX11_219 dX11_isRemindedToday_15 rfl kk_207 ⟨rfl, rfl, by decide, by decide⟩ ⟨Nat.zero_le _, Nat.zero_le _, Nat.le_of_ble_eq_true rfl⟩ (fun r1 => ?_)
      refine J_ild1 dX11_isRemindedToday_18 ?_
      refine J_ic_ne 49 dX11_isRemindedToday_19 rfl ?_ ?_
      · refine J_iinc2 (w := (v2 + (1 : Int32))) dX11_isRemindedToday_49 (by decide) rfl rfl ?_
        refine J_goto 2 dX11_isRemindedToday_52 rfl ?_
        exact J_wk (wk_s (wk_s (wk_s wk_0))) (ih)
      · refine J_ald0 dX11_isRemindedToday_22 ?_
        refine J_ild2 dX11_isRemindedToday_23 ?_
        refine J_iconst (v := 0) dX11_isRemindedToday_24 rfl ?_
        refine J_cVP (jX11_entryOf l cx n v2 (0 : Int32) M) ck_RX11_219 dX11_isRemindedToday_25 rfl kk_207 ⟨rfl, rfl, by decide, by decide⟩ ⟨Nat.zero_le _, Nat.zero_le _, Nat.le_of_ble_eq_true rfl⟩ (fun r2 => ?_)
        refine J_iconst (v := 5) dX11_isRemindedToday_28 rfl ?_
        refine J_ic_ne 49 dX11_isRemindedToday_29 rfl ?_ ?_
        · refine J_iinc2 (w := (v2 + (1 : Int32))) dX11_isRemindedToday_49 (by decide) rfl rfl ?_
          refine J_goto 2 dX11_isRemindedToday_52 rfl ?_
          exact J_wk (wk_s (wk_s (wk_s wk_0))) (ih)
        · refine J_ald0 dX11_isRemindedToday_32 ?_
          refine J_ild2 dX11_isRemindedToday_33 ?_
          refine J_iconst (v := 2) dX11_isRemindedToday_34 rfl ?_
          refine J_cVP (jX11_entryOf l cx n v2 (2 : Int32) M) ck_RX11_219 dX11_isRemindedToday_35 rfl kk_207 ⟨rfl, rfl, by decide, by decide⟩ ⟨Nat.zero_le _, Nat.zero_le _, Nat.le_of_ble_eq_true rfl⟩ (fun r3 => ?_)
          refine J_ald0 dX11_isRemindedToday_38 ?_
          refine J_getr (q := 209) fl_RX11_13 dX11_isRemindedToday_39 kk_207 rfl (rf_11_1 kk_207) ?_
          refine J_iconst (v := 0) dX11_isRemindedToday_42 rfl ?_
          refine J_iald dX11_isRemindedToday_43 kk_209 rfl ?_
          refine J_ic_ne 49 dX11_isRemindedToday_44 rfl ?_ ?_
          · refine J_iinc2 (w := (v2 + (1 : Int32))) dX11_isRemindedToday_49 (by decide) rfl rfl ?_
            refine J_goto 2 dX11_isRemindedToday_52 rfl ?_
            exact J_wk (wk_s (wk_s (wk_s wk_0))) (ih)
          · refine J_iconst (v := 1) dX11_isRemindedToday_47 rfl ?_
            exact J_zret dX11_isRemindedToday_48 rfl (Or.inr rfl) ⟨rfl, rfl, rfl, (Or.inr rfl)⟩
set_option maxRecDepth 100000 in
theorem jX11_isRemindedToday (l : Launch) (cx : CX) (n : Nat) (a : Int32) (M : Mem) : Con l cx ({ frames := 1, cells := 0, slots := 0, locals := 22 } : Room) yX11_isRemindedToday cX11_isRemindedToday 3 (some .boolean) 0 0 false 207 218 (EB M) GS [.ref 207, .int a] M (mX11_isRemindedToday n a M) := by
  unfold mX11_isRemindedToday
  refine Con.of (ls := [some (.ref 207), some (.int a), none]) (by decide) rfl (Nat.le_of_ble_eq_true rfl) ?_
  refine J_iconst (v := 0) dX11_isRemindedToday_0 rfl ?_
  refine J_ist2 dX11_isRemindedToday_1 (by decide) rfl ?_
  exact J_wk (wk_s (wk_s (wk_s wk_0))) (jX11_isRemindedToday_c2 (n := n) n)
set_option maxRecDepth 100000 in
theorem jX11_remind (l : Launch) (cx : CX) (n : Nat) (a : Int32) (M : Mem) : Con l cx ({ frames := 3, cells := 0, slots := 0, locals := 69 } : Room) yX11_remind cX11_remind 3 (some .int) 0 0 false 207 218 EI GS [.ref 207, .int a] M (mX11_remind n a M) := by
  unfold mX11_remind
  refine Con.of (ls := [some (.ref 207), some (.int a), none]) (by decide) rfl (Nat.le_of_ble_eq_true rfl) ?_
  refine J_ald0 dX11_remind_0 ?_
  refine J_ild1 dX11_remind_1 ?_
  refine J_cVB (jX11_isBegun l cx n a M) ck_RX11_216 dX11_remind_2 rfl kk_207 ⟨rfl, rfl, by decide, by decide⟩ ⟨Nat.zero_le _, Nat.zero_le _, Nat.le_of_ble_eq_true rfl⟩ (fun r1 z2 => ?_)
  refine J_if_ne 10 dX11_remind_5 rfl ?_ ?_
  · refine J_ald0 dX11_remind_10 ?_
    refine J_ild1 dX11_remind_11 ?_
    refine J_ald0 dX11_remind_12 ?_
    refine J_getr (q := 209) fl_RX11_13 dX11_remind_13 kk_207 rfl (rf_11_1 kk_207) ?_
    refine J_iconst (v := 0) dX11_remind_16 rfl ?_
    refine J_iald dX11_remind_17 kk_209 rfl ?_
    refine J_cVI (jX11_lateOn l cx n a (M 209 (Int32.toNatClampNeg (0 : Int32))) M) ck_RX11_414 dX11_remind_18 rfl kk_207 ⟨rfl, rfl, by decide, by decide⟩ ⟨Nat.zero_le _, Nat.zero_le _, Nat.le_of_ble_eq_true rfl⟩ (fun r3 M4 => ?_)
    refine J_ist2 dX11_remind_21 (by decide) rfl ?_
    refine J_ild2 dX11_remind_22 ?_
    refine J_if_ne 29 dX11_remind_23 rfl ?_ ?_
    · refine J_ald0 dX11_remind_29 ?_
      refine J_getr (q := 209) fl_RX11_13 dX11_remind_30 kk_207 rfl (rf_11_1 kk_207) ?_
      refine J_iconst (v := 1) dX11_remind_33 rfl ?_
      refine J_iald dX11_remind_34 kk_209 rfl ?_
      refine J_sipush (v := 400) dX11_remind_35 rfl ?_
      refine J_ic_ne 44 dX11_remind_38 rfl ?_ ?_
      · refine J_ald0 dX11_remind_44 ?_
        refine J_ild1 dX11_remind_45 ?_
        refine J_cVB (jX11_isRemindedToday l cx n a M4) ck_RX11_417 dX11_remind_46 rfl kk_207 ⟨rfl, rfl, by decide, by decide⟩ ⟨Nat.zero_le _, Nat.zero_le _, Nat.le_of_ble_eq_true rfl⟩ (fun r5 z6 => ?_)
        refine J_if_eq 55 dX11_remind_49 rfl ?_ ?_
        · refine J_ald0 dX11_remind_55 ?_
          refine J_iconst (v := 5) dX11_remind_56 rfl ?_
          refine J_ild1 dX11_remind_57 ?_
          refine J_ald0 dX11_remind_58 ?_
          refine J_getr (q := 209) fl_RX11_13 dX11_remind_59 kk_207 rfl (rf_11_1 kk_207) ?_
          refine J_iconst (v := 0) dX11_remind_62 rfl ?_
          refine J_iald dX11_remind_63 kk_209 rfl ?_
          refine J_ald0 dX11_remind_64 ?_
          refine J_getr (q := 209) fl_RX11_13 dX11_remind_65 kk_207 rfl (rf_11_1 kk_207) ?_
          refine J_iconst (v := 0) dX11_remind_68 rfl ?_
          refine J_iald dX11_remind_69 kk_209 rfl ?_
          refine J_ldc dX11_remind_70 wd_61 ?_
          refine J_ild2 dX11_remind_72 ?_
          refine J_i2l dX11_remind_73 ?_
          refine J_ald0 dX11_remind_74 ?_
          refine J_getr (q := 209) fl_RX11_13 dX11_remind_75 kk_207 rfl (rf_11_1 kk_207) ?_
          refine J_iconst (v := 5) dX11_remind_78 rfl ?_
          refine J_iald dX11_remind_79 kk_209 rfl ?_
          refine J_i2l dX11_remind_80 ?_
          refine J_lmul dX11_remind_81 ?_
          refine J_ldc2 dX11_remind_82 wd_79 ?_
          refine J_ldivK dX11_remind_85 (by decide) ?_
          refine J_l2i dX11_remind_86 ?_
          refine J_cSP (jX11_min l cx n (99999 : Int32) (Int64.toInt32 (((Int32.toInt64 r3) * (Int32.toInt64 (M4 209 (Int32.toNatClampNeg (5 : Int32))))) / (100 : Int64))) M4) ck_RX11_46 dX11_remind_87 rfl ⟨rfl, rfl, by decide, by decide⟩ ⟨Nat.zero_le _, Nat.zero_le _, Nat.le_of_ble_eq_true rfl⟩ (fun r7 => ?_)
          refine J_cVI (jX11_writes l cx n (5 : Int32) a (M4 209 (Int32.toNatClampNeg (0 : Int32))) (M4 209 (Int32.toNatClampNeg (0 : Int32))) r7 M4) ck_RX11_229 dX11_remind_90 rfl kk_207 ⟨rfl, rfl, by decide, by decide⟩ ⟨Nat.zero_le _, Nat.zero_le _, Nat.le_of_ble_eq_true rfl⟩ (fun r8 M9 => ?_)
          exact J_iret dX11_remind_93 rfl ⟨rfl, rfl, rfl⟩
        · refine J_bipush (v := -4) dX11_remind_52 rfl ?_
          exact J_iret dX11_remind_54 rfl ⟨rfl, rfl, rfl⟩
      · refine J_bipush (v := -3) dX11_remind_41 rfl ?_
        exact J_iret dX11_remind_43 rfl ⟨rfl, rfl, rfl⟩
    · refine J_bipush (v := -2) dX11_remind_26 rfl ?_
      exact J_iret dX11_remind_28 rfl ⟨rfl, rfl, rfl⟩
  · refine J_iconst (v := -1) dX11_remind_8 rfl ?_
    exact J_iret dX11_remind_9 rfl ⟨rfl, rfl, rfl⟩
set_option maxRecDepth 100000 in
theorem jX11_does_c180 {l : Launch} {cx : CX} {n : Nat} {v2 : Int64} {v4 : Int32} {M : Mem} : JO l cx ({ frames := 8, cells := 0, slots := 0, locals := 180 } : Room) yX11_does cX11_does 5 (some .boolean) 0 0 false 207 218 EZ GS 0 0 180 [some (.ref 207), none, some (.long v2), none, some (.int v4)] [] M (mX11_does_c180 n v2 v4 M) := by
  unfold mX11_does_c180
  refine J_ald0 dX11_does_180 ?_
  refine J_ild4 dX11_does_181 ?_
  refine J_lld2 dX11_does_183 ?_
  refine J_ldc2 dX11_does_184 wd_67 ?_
  refine J_lcmp dX11_does_187 ?_
  refine J_if_ne 195 dX11_does_188 rfl ?_ ?_
  · refine J_iconst (v := 0) dX11_does_195 rfl ?_
    refine J_cVI (jX11_pause l cx n v4 (0 : Int32) (Or.inl rfl) M) ck_RX11_327 dX11_does_196 rfl kk_207 ⟨rfl, rfl, by decide, by decide⟩ ⟨Nat.zero_le _, Nat.zero_le _, Nat.le_of_ble_eq_true rfl⟩ (fun r1 M2 => ?_)
    refine J_ldc dX11_does_199 wd_63 ?_
    refine J_ic_le 208 dX11_does_201 rfl ?_ ?_
    · refine J_iconst (v := 0) dX11_does_208 rfl ?_
      exact J_zret dX11_does_209 rfl (Or.inl rfl) ⟨rfl, rfl, rfl, (Or.inl rfl)⟩
    · refine J_iconst (v := 1) dX11_does_204 rfl ?_
      refine J_goto 209 dX11_does_205 rfl ?_
      exact J_zret dX11_does_209 rfl (Or.inr rfl) ⟨rfl, rfl, rfl, (Or.inr rfl)⟩
  · refine J_iconst (v := 1) dX11_does_191 rfl ?_
    refine J_goto 196 dX11_does_192 rfl ?_
    refine J_cVI (jX11_pause l cx n v4 (1 : Int32) (Or.inr rfl) M) ck_RX11_327 dX11_does_196 rfl kk_207 ⟨rfl, rfl, by decide, by decide⟩ ⟨Nat.zero_le _, Nat.zero_le _, Nat.le_of_ble_eq_true rfl⟩ (fun r3 M4 => ?_)
    refine J_ldc dX11_does_199 wd_63 ?_
    refine J_ic_le 208 dX11_does_201 rfl ?_ ?_
    · refine J_iconst (v := 0) dX11_does_208 rfl ?_
      exact J_zret dX11_does_209 rfl (Or.inl rfl) ⟨rfl, rfl, rfl, (Or.inl rfl)⟩
    · refine J_iconst (v := 1) dX11_does_204 rfl ?_
      refine J_goto 209 dX11_does_205 rfl ?_
      exact J_zret dX11_does_209 rfl (Or.inr rfl) ⟨rfl, rfl, rfl, (Or.inr rfl)⟩
set_option maxRecDepth 100000 in
theorem jX11_does (l : Launch) (cx : CX) (n : Nat) (a : Int32) (M : Mem) : Con l cx ({ frames := 8, cells := 0, slots := 0, locals := 180 } : Room) yX11_does cX11_does 5 (some .boolean) 0 0 false 207 218 EZ GS [.ref 207, .int a] M (mX11_does n a M) := by
  unfold mX11_does
  refine Con.of (ls := [some (.ref 207), some (.int a), none, none, none]) (by decide) rfl (Nat.le_of_ble_eq_true rfl) ?_
  refine J_ald0 dX11_does_0 ?_
  refine J_getr (q := 212) fl_RX11_23 dX11_does_1 kk_207 rfl (rf_11_13 kk_207) ?_
  refine J_ild1 dX11_does_4 ?_
  refine J_lald dX11_does_5 kk_212 rfl ?_
  refine J_lst2 dX11_does_6 (by decide) rfl ?_
  refine J_ald0 dX11_does_7 ?_
  refine J_getr (q := 213) fl_RX11_27 dX11_does_8 kk_207 rfl (rf_11_14 kk_207) ?_
  refine J_ild1 dX11_does_11 ?_
  refine J_iald dX11_does_12 kk_213 rfl ?_
  refine J_ist4 dX11_does_13 (by decide) rfl ?_
  refine J_lld2 dX11_does_15 ?_
  refine J_ldc2 dX11_does_16 wd_73 ?_
  refine J_lcmp dX11_does_19 ?_
  refine J_if_ne 50 dX11_does_20 rfl ?_ ?_
  · refine J_lld2 dX11_does_50 ?_
    refine J_ldc2 dX11_does_51 wd_66 ?_
    refine J_lcmp dX11_does_54 ?_
    refine J_if_ne 81 dX11_does_55 rfl ?_ ?_
    · refine J_lld2 dX11_does_81 ?_
      refine J_ldc2 dX11_does_82 wd_77 ?_
      refine J_lcmp dX11_does_85 ?_
      refine J_if_ne 112 dX11_does_86 rfl ?_ ?_
      · refine J_lld2 dX11_does_112 ?_
        refine J_ldc2 dX11_does_113 wd_78 ?_
        refine J_lcmp dX11_does_116 ?_
        refine J_if_ne 141 dX11_does_117 rfl ?_ ?_
        · refine J_lld2 dX11_does_141 ?_
          refine J_ldc2 dX11_does_142 wd_70 ?_
          refine J_lcmp dX11_does_145 ?_
          refine J_if_ne 164 dX11_does_146 rfl ?_ ?_
          · refine J_lld2 dX11_does_164 ?_
            refine J_ldc2 dX11_does_165 wd_67 ?_
            refine J_lcmp dX11_does_168 ?_
            refine J_if_eq 180 dX11_does_169 rfl ?_ ?_
            · exact J_wk (wk_s (wk_n (wk_s (wk_n (wk_s wk_0))))) (jX11_does_c180 (n := n))
            · refine J_lld2 dX11_does_172 ?_
              refine J_ldc2 dX11_does_173 wd_68 ?_
              refine J_lcmp dX11_does_176 ?_
              refine J_if_ne 210 dX11_does_177 rfl ?_ ?_
              · refine J_lld2 dX11_does_210 ?_
                refine J_ldc2 dX11_does_211 wd_69 ?_
                refine J_lcmp dX11_does_214 ?_
                refine J_if_ne 235 dX11_does_215 rfl ?_ ?_
                · refine J_lld2 dX11_does_235 ?_
                  refine J_ldc2 dX11_does_236 wd_74 ?_
                  refine J_lcmp dX11_does_239 ?_
                  refine J_if_ne 264 dX11_does_240 rfl ?_ ?_
                  · refine J_lld2 dX11_does_264 ?_
                    refine J_ldc2 dX11_does_265 wd_71 ?_
                    refine J_lcmp dX11_does_268 ?_
                    refine J_if_ne 287 dX11_does_269 rfl ?_ ?_
                    · refine J_lld2 dX11_does_287 ?_
                      refine J_ldc2 dX11_does_288 wd_75 ?_
                      refine J_lcmp dX11_does_291 ?_
                      refine J_if_ne 318 dX11_does_292 rfl ?_ ?_
                      · refine J_lld2 dX11_does_318 ?_
                        refine J_ldc2 dX11_does_319 wd_76 ?_
                        refine J_lcmp dX11_does_322 ?_
                        refine J_if_ne 351 dX11_does_323 rfl ?_ ?_
                        · refine J_ald0 dX11_does_351 ?_
                          refine J_ild4 dX11_does_352 ?_
                          refine J_cVI (jX11_turn l cx n (M 213 (Int32.toNatClampNeg a)) M) ck_RX11_346 dX11_does_354 rfl kk_207 ⟨rfl, rfl, by decide, by decide⟩ ⟨Nat.zero_le _, Nat.zero_le _, Nat.le_of_ble_eq_true rfl⟩ (fun r5 M6 => ?_)
                          refine J_if_lt 364 dX11_does_357 rfl ?_ ?_
                          · refine J_iconst (v := 0) dX11_does_364 rfl ?_
                            exact J_zret dX11_does_365 rfl (Or.inl rfl) ⟨rfl, rfl, rfl, (Or.inl rfl)⟩
                          · refine J_iconst (v := 1) dX11_does_360 rfl ?_
                            refine J_goto 365 dX11_does_361 rfl ?_
                            exact J_zret dX11_does_365 rfl (Or.inr rfl) ⟨rfl, rfl, rfl, (Or.inr rfl)⟩
                        · refine J_ald0 dX11_does_326 ?_
                          refine J_ild4 dX11_does_327 ?_
                          refine J_ald0 dX11_does_329 ?_
                          refine J_getr (q := 215) fl_RX11_33 dX11_does_330 kk_207 rfl (rf_11_16 kk_207) ?_
                          refine J_ild1 dX11_does_333 ?_
                          refine J_iald dX11_does_334 kk_215 rfl ?_
                          refine J_cVI (jX11_move l cx n (M 213 (Int32.toNatClampNeg a)) (M 215 (Int32.toNatClampNeg a)) M) ck_RX11_343 dX11_does_335 rfl kk_207 ⟨rfl, rfl, by decide, by decide⟩ ⟨Nat.zero_le _, Nat.zero_le _, Nat.le_of_ble_eq_true rfl⟩ (fun r7 M8 => ?_)
                          refine J_ldc dX11_does_338 wd_63 ?_
                          refine J_ic_le 347 dX11_does_340 rfl ?_ ?_
                          · refine J_iconst (v := 0) dX11_does_347 rfl ?_
                            refine J_goto 365 dX11_does_348 rfl ?_
                            exact J_zret dX11_does_365 rfl (Or.inl rfl) ⟨rfl, rfl, rfl, (Or.inl rfl)⟩
                          · refine J_iconst (v := 1) dX11_does_343 rfl ?_
                            refine J_goto 365 dX11_does_344 rfl ?_
                            exact J_zret dX11_does_365 rfl (Or.inr rfl) ⟨rfl, rfl, rfl, (Or.inr rfl)⟩
                      · refine J_ald0 dX11_does_295 ?_
                        refine J_ild4 dX11_does_296 ?_
                        refine J_ald0 dX11_does_298 ?_
                        refine J_getr (q := 215) fl_RX11_33 dX11_does_299 kk_207 rfl (rf_11_16 kk_207) ?_
                        refine J_ild1 dX11_does_302 ?_
                        refine J_iald dX11_does_303 kk_215 rfl ?_
                        refine J_cVI (jX11_favour l cx n (M 213 (Int32.toNatClampNeg a)) (M 215 (Int32.toNatClampNeg a)) M) ck_RX11_340 dX11_does_304 rfl kk_207 ⟨rfl, rfl, by decide, by decide⟩ ⟨Nat.zero_le _, Nat.zero_le _, Nat.le_of_ble_eq_true rfl⟩ (fun r9 M10 => ?_)
                        refine J_ldc dX11_does_307 wd_63 ?_
                        refine J_ic_le 316 dX11_does_309 rfl ?_ ?_
                        · refine J_iconst (v := 0) dX11_does_316 rfl ?_
                          exact J_zret dX11_does_317 rfl (Or.inl rfl) ⟨rfl, rfl, rfl, (Or.inl rfl)⟩
                        · refine J_iconst (v := 1) dX11_does_312 rfl ?_
                          refine J_goto 317 dX11_does_313 rfl ?_
                          exact J_zret dX11_does_317 rfl (Or.inr rfl) ⟨rfl, rfl, rfl, (Or.inr rfl)⟩
                    · refine J_ald0 dX11_does_272 ?_
                      refine J_ild4 dX11_does_273 ?_
                      refine J_cVI (jX11_days l cx n (M 213 (Int32.toNatClampNeg a)) M) ck_RX11_337 dX11_does_275 rfl kk_207 ⟨rfl, rfl, by decide, by decide⟩ ⟨Nat.zero_le _, Nat.zero_le _, Nat.le_of_ble_eq_true rfl⟩ (fun r11 M12 => ?_)
                      refine J_if_lt 285 dX11_does_278 rfl ?_ ?_
                      · refine J_iconst (v := 0) dX11_does_285 rfl ?_
                        exact J_zret dX11_does_286 rfl (Or.inl rfl) ⟨rfl, rfl, rfl, (Or.inl rfl)⟩
                      · refine J_iconst (v := 1) dX11_does_281 rfl ?_
                        refine J_goto 286 dX11_does_282 rfl ?_
                        exact J_zret dX11_does_286 rfl (Or.inr rfl) ⟨rfl, rfl, rfl, (Or.inr rfl)⟩
                  · refine J_ald0 dX11_does_243 ?_
                    refine J_ild4 dX11_does_244 ?_
                    refine J_ald0 dX11_does_246 ?_
                    refine J_getr (q := 215) fl_RX11_33 dX11_does_247 kk_207 rfl (rf_11_16 kk_207) ?_
                    refine J_ild1 dX11_does_250 ?_
                    refine J_iald dX11_does_251 kk_215 rfl ?_
                    refine J_cVI (jX11_use l cx n (M 213 (Int32.toNatClampNeg a)) (M 215 (Int32.toNatClampNeg a)) M) ck_RX11_334 dX11_does_252 rfl kk_207 ⟨rfl, rfl, by decide, by decide⟩ ⟨Nat.zero_le _, Nat.zero_le _, Nat.le_of_ble_eq_true rfl⟩ (fun r13 M14 => ?_)
                    refine J_if_lt 262 dX11_does_255 rfl ?_ ?_
                    · refine J_iconst (v := 0) dX11_does_262 rfl ?_
                      exact J_zret dX11_does_263 rfl (Or.inl rfl) ⟨rfl, rfl, rfl, (Or.inl rfl)⟩
                    · refine J_iconst (v := 1) dX11_does_258 rfl ?_
                      refine J_goto 263 dX11_does_259 rfl ?_
                      exact J_zret dX11_does_263 rfl (Or.inr rfl) ⟨rfl, rfl, rfl, (Or.inr rfl)⟩
                · refine J_ald0 dX11_does_218 ?_
                  refine J_ild4 dX11_does_219 ?_
                  refine J_cVI (jX11_giveUp l cx n (M 213 (Int32.toNatClampNeg a)) M) ck_RX11_331 dX11_does_221 rfl kk_207 ⟨rfl, rfl, by decide, by decide⟩ ⟨Nat.zero_le _, Nat.zero_le _, Nat.le_of_ble_eq_true rfl⟩ (fun r15 M16 => ?_)
                  refine J_ldc dX11_does_224 wd_63 ?_
                  refine J_ic_le 233 dX11_does_226 rfl ?_ ?_
                  · refine J_iconst (v := 0) dX11_does_233 rfl ?_
                    exact J_zret dX11_does_234 rfl (Or.inl rfl) ⟨rfl, rfl, rfl, (Or.inl rfl)⟩
                  · refine J_iconst (v := 1) dX11_does_229 rfl ?_
                    refine J_goto 234 dX11_does_230 rfl ?_
                    exact J_zret dX11_does_234 rfl (Or.inr rfl) ⟨rfl, rfl, rfl, (Or.inr rfl)⟩
              · exact J_wk (wk_s (wk_n (wk_s (wk_n (wk_s wk_0))))) (jX11_does_c180 (n := n))
          · refine J_ald0 dX11_does_149 ?_
            refine J_ild4 dX11_does_150 ?_
            refine J_cVI (jX11_remind l cx n (M 213 (Int32.toNatClampNeg a)) M) ck_RX11_324 dX11_does_152 rfl kk_207 ⟨rfl, rfl, by decide, by decide⟩ ⟨Nat.zero_le _, Nat.zero_le _, Nat.le_of_ble_eq_true rfl⟩ (fun r17 M18 => ?_)
            refine J_if_lt 162 dX11_does_155 rfl ?_ ?_
            · refine J_iconst (v := 0) dX11_does_162 rfl ?_
              exact J_zret dX11_does_163 rfl (Or.inl rfl) ⟨rfl, rfl, rfl, (Or.inl rfl)⟩
            · refine J_iconst (v := 1) dX11_does_158 rfl ?_
              refine J_goto 163 dX11_does_159 rfl ?_
              exact J_zret dX11_does_163 rfl (Or.inr rfl) ⟨rfl, rfl, rfl, (Or.inr rfl)⟩
        · refine J_ald0 dX11_does_120 ?_
          refine J_ild4 dX11_does_121 ?_
          refine J_ald0 dX11_does_123 ?_
          refine J_getr (q := 215) fl_RX11_33 dX11_does_124 kk_207 rfl (rf_11_16 kk_207) ?_
          refine J_ild1 dX11_does_127 ?_
          refine J_iald dX11_does_128 kk_215 rfl ?_
          refine J_cVI (jX11_pay l cx n (M 213 (Int32.toNatClampNeg a)) (M 215 (Int32.toNatClampNeg a)) M) ck_RX11_321 dX11_does_129 rfl kk_207 ⟨rfl, rfl, by decide, by decide⟩ ⟨Nat.zero_le _, Nat.zero_le _, Nat.le_of_ble_eq_true rfl⟩ (fun r19 M20 => ?_)
          refine J_if_lt 139 dX11_does_132 rfl ?_ ?_
          · refine J_iconst (v := 0) dX11_does_139 rfl ?_
            exact J_zret dX11_does_140 rfl (Or.inl rfl) ⟨rfl, rfl, rfl, (Or.inl rfl)⟩
          · refine J_iconst (v := 1) dX11_does_135 rfl ?_
            refine J_goto 140 dX11_does_136 rfl ?_
            exact J_zret dX11_does_140 rfl (Or.inr rfl) ⟨rfl, rfl, rfl, (Or.inr rfl)⟩
      · refine J_ald0 dX11_does_89 ?_
        refine J_ild4 dX11_does_90 ?_
        refine J_ald0 dX11_does_92 ?_
        refine J_getr (q := 215) fl_RX11_33 dX11_does_93 kk_207 rfl (rf_11_16 kk_207) ?_
        refine J_ild1 dX11_does_96 ?_
        refine J_iald dX11_does_97 kk_215 rfl ?_
        refine J_cVI (jX11_seats l cx n (M 213 (Int32.toNatClampNeg a)) (M 215 (Int32.toNatClampNeg a)) M) ck_RX11_318 dX11_does_98 rfl kk_207 ⟨rfl, rfl, by decide, by decide⟩ ⟨Nat.zero_le _, Nat.zero_le _, Nat.le_of_ble_eq_true rfl⟩ (fun r21 M22 => ?_)
        refine J_ldc dX11_does_101 wd_63 ?_
        refine J_ic_le 110 dX11_does_103 rfl ?_ ?_
        · refine J_iconst (v := 0) dX11_does_110 rfl ?_
          exact J_zret dX11_does_111 rfl (Or.inl rfl) ⟨rfl, rfl, rfl, (Or.inl rfl)⟩
        · refine J_iconst (v := 1) dX11_does_106 rfl ?_
          refine J_goto 111 dX11_does_107 rfl ?_
          exact J_zret dX11_does_111 rfl (Or.inr rfl) ⟨rfl, rfl, rfl, (Or.inr rfl)⟩
    · refine J_ald0 dX11_does_58 ?_
      refine J_ild4 dX11_does_59 ?_
      refine J_ald0 dX11_does_61 ?_
      refine J_getr (q := 214) fl_RX11_30 dX11_does_62 kk_207 rfl (rf_11_15 kk_207) ?_
      refine J_ild1 dX11_does_65 ?_
      refine J_iald dX11_does_66 kk_214 rfl ?_
      refine J_cVI (jX11_change l cx n (M 213 (Int32.toNatClampNeg a)) (M 214 (Int32.toNatClampNeg a)) M) ck_RX11_315 dX11_does_67 rfl kk_207 ⟨rfl, rfl, by decide, by decide⟩ ⟨Nat.zero_le _, Nat.zero_le _, Nat.le_of_ble_eq_true rfl⟩ (fun r23 M24 => ?_)
      refine J_ldc dX11_does_70 wd_63 ?_
      refine J_ic_le 79 dX11_does_72 rfl ?_ ?_
      · refine J_iconst (v := 0) dX11_does_79 rfl ?_
        exact J_zret dX11_does_80 rfl (Or.inl rfl) ⟨rfl, rfl, rfl, (Or.inl rfl)⟩
      · refine J_iconst (v := 1) dX11_does_75 rfl ?_
        refine J_goto 80 dX11_does_76 rfl ?_
        exact J_zret dX11_does_80 rfl (Or.inr rfl) ⟨rfl, rfl, rfl, (Or.inr rfl)⟩
  · refine J_ald0 dX11_does_23 ?_
    refine J_ild4 dX11_does_24 ?_
    refine J_ald0 dX11_does_26 ?_
    refine J_getr (q := 214) fl_RX11_30 dX11_does_27 kk_207 rfl (rf_11_15 kk_207) ?_
    refine J_ild1 dX11_does_30 ?_
    refine J_iald dX11_does_31 kk_214 rfl ?_
    refine J_ald0 dX11_does_32 ?_
    refine J_getr (q := 215) fl_RX11_33 dX11_does_33 kk_207 rfl (rf_11_16 kk_207) ?_
    refine J_ild1 dX11_does_36 ?_
    refine J_iald dX11_does_37 kk_215 rfl ?_
    refine J_cVI (jX11_begin l cx n (M 213 (Int32.toNatClampNeg a)) (M 214 (Int32.toNatClampNeg a)) (M 215 (Int32.toNatClampNeg a)) M) ck_RX11_312 dX11_does_38 rfl kk_207 ⟨rfl, rfl, by decide, by decide⟩ ⟨Nat.zero_le _, Nat.zero_le _, Nat.le_of_ble_eq_true rfl⟩ (fun r25 M26 => ?_)
    refine J_if_lt 48 dX11_does_41 rfl ?_ ?_
    · refine J_iconst (v := 0) dX11_does_48 rfl ?_
      exact J_zret dX11_does_49 rfl (Or.inl rfl) ⟨rfl, rfl, rfl, (Or.inl rfl)⟩
    · refine J_iconst (v := 1) dX11_does_44 rfl ?_
      refine J_goto 49 dX11_does_45 rfl ?_
      exact J_zret dX11_does_49 rfl (Or.inr rfl) ⟨rfl, rfl, rfl, (Or.inr rfl)⟩
set_option maxRecDepth 100000 in
theorem jX11_doesAll_c2 {l : Launch} {cx : CX} {n : Nat} : ∀ (f : Nat) {v1 : Int32} {M : Mem}, JO l cx ({ frames := 9, cells := 0, slots := 0, locals := 204 } : Room) yX11_doesAll cX11_doesAll 2 (some .int) 0 0 false 207 218 EI GS 0 0 2 [some (.ref 207), some (.int v1)] [] M (mX11_doesAll_c2 n f v1 M) := by
  intro f
  induction f with
  | zero =>
    intros
    exact J_none
  | succ f ih =>
    intro v1 M
    unfold mX11_doesAll_c2
    refine J_ild1 dX11_doesAll_2 ?_
    refine J_ald0 dX11_doesAll_3 ?_
    refine J_geti fl_RX11_275 dX11_doesAll_4 kk_207 rfl ?_
    refine J_ic_ge 25 dX11_doesAll_7 rfl ?_ ?_
    · refine J_ild1 dX11_doesAll_25 ?_
      exact J_iret dX11_doesAll_26 rfl ⟨rfl, rfl, rfl⟩
    · refine J_ald0 dX11_doesAll_10 ?_
      refine J_ild1 dX11_doesAll_11 ?_
      refine J_cVZ (jX11_does l cx n v1 M) ck_RX11_349 dX11_doesAll_12 rfl kk_207 ⟨rfl, rfl, by decide, by decide⟩ ⟨Nat.zero_le _, Nat.zero_le _, Nat.le_of_ble_eq_true rfl⟩ (fun r1 M2 z3 => ?_)
      refine J_if_eq 25 dX11_doesAll_15 rfl ?_ ?_
      · refine J_ild1 dX11_doesAll_25 ?_
        exact J_iret dX11_doesAll_26 rfl ⟨rfl, rfl, rfl⟩
      · refine J_ild1 dX11_doesAll_18 ?_
        refine J_iconst (v := 1) dX11_doesAll_19 rfl ?_
        refine J_iadd dX11_doesAll_20 ?_
        refine J_ist1 dX11_doesAll_21 (by decide) rfl ?_
        refine J_goto 2 dX11_doesAll_22 rfl ?_
        exact J_wk (wk_s (wk_s wk_0)) (ih)
set_option maxRecDepth 100000 in
theorem jX11_doesAll (l : Launch) (cx : CX) (n : Nat) (M : Mem) : Con l cx ({ frames := 9, cells := 0, slots := 0, locals := 204 } : Room) yX11_doesAll cX11_doesAll 2 (some .int) 0 0 false 207 218 EI GS [.ref 207] M (mX11_doesAll n M) := by
  unfold mX11_doesAll
  refine Con.of (ls := [some (.ref 207), none]) (by decide) rfl (Nat.le_of_ble_eq_true rfl) ?_
  refine J_iconst (v := 0) dX11_doesAll_0 rfl ?_
  refine J_ist1 dX11_doesAll_1 (by decide) rfl ?_
  exact J_wk (wk_s (wk_s wk_0)) (jX11_doesAll_c2 (n := n) n)
set_option maxRecDepth 100000 in
theorem jX11_isLong (l : Launch) (cx : CX) (n : Nat) (a : Int32) (M : Mem) : Con l cx ({ frames := 1, cells := 0, slots := 0, locals := 22 } : Room) yX11_isLong cX11_isLong 2 (some .boolean) 0 0 false 207 218 (EB M) GS [.ref 207, .int a] M (mX11_isLong a M) := by
  unfold mX11_isLong
  refine Con.of (ls := [some (.ref 207), some (.int a)]) (by decide) rfl (Nat.le_of_ble_eq_true rfl) ?_
  refine J_ild1 dX11_isLong_0 ?_
  refine J_iconst (v := 1) dX11_isLong_1 rfl ?_
  refine J_sipush (v := 200) dX11_isLong_2 rfl ?_
  refine J_cSB (jX11_in l cx n a (1 : Int32) (200 : Int32) M) ck_RX11_56 dX11_isLong_5 rfl ⟨rfl, rfl, by decide, by decide⟩ ⟨Nat.zero_le _, Nat.zero_le _, Nat.le_of_ble_eq_true rfl⟩ (fun r1 z2 => ?_)
  refine J_if_eq 23 dX11_isLong_8 rfl ?_ ?_
  · refine J_iconst (v := 0) dX11_isLong_23 rfl ?_
    exact J_zret dX11_isLong_24 rfl (Or.inl rfl) ⟨rfl, rfl, rfl, (Or.inl rfl)⟩
  · refine J_ild1 dX11_isLong_11 ?_
    refine J_ald0 dX11_isLong_12 ?_
    refine J_geti fl_RX11_84 dX11_isLong_13 kk_207 rfl ?_
    refine J_ic_gt 23 dX11_isLong_16 rfl ?_ ?_
    · refine J_iconst (v := 0) dX11_isLong_23 rfl ?_
      exact J_zret dX11_isLong_24 rfl (Or.inl rfl) ⟨rfl, rfl, rfl, (Or.inl rfl)⟩
    · refine J_iconst (v := 1) dX11_isLong_19 rfl ?_
      refine J_goto 24 dX11_isLong_20 rfl ?_
      exact J_zret dX11_isLong_24 rfl (Or.inr rfl) ⟨rfl, rfl, rfl, (Or.inr rfl)⟩
set_option maxRecDepth 100000 in
theorem jX11_deeds (l : Launch) (cx : CX) (n : Nat) (a : Int32) (M : Mem) : Con l cx ({ frames := 10, cells := 0, slots := 0, locals := 225 } : Room) yX11_deeds cX11_deeds 2 (some .int) 0 0 false 207 218 EI GS [.ref 207, .int a] M (mX11_deeds n a M) := by
  unfold mX11_deeds
  refine Con.of (ls := [some (.ref 207), some (.int a)]) (by decide) rfl (Nat.le_of_ble_eq_true rfl) ?_
  refine J_ald0 dX11_deeds_0 ?_
  refine J_ild1 dX11_deeds_1 ?_
  refine J_cVB (jX11_isLong l cx n a M) ck_RX11_352 dX11_deeds_2 rfl kk_207 ⟨rfl, rfl, by decide, by decide⟩ ⟨Nat.zero_le _, Nat.zero_le _, Nat.le_of_ble_eq_true rfl⟩ (fun r1 z2 => ?_)
  refine J_if_ne 10 dX11_deeds_5 rfl ?_ ?_
  · refine J_ald0 dX11_deeds_10 ?_
    refine J_ild1 dX11_deeds_11 ?_
    refine J_cVZ (jX11_readsDeeds l cx n a M) ck_RX11_355 dX11_deeds_12 rfl kk_207 ⟨rfl, rfl, by decide, by decide⟩ ⟨Nat.zero_le _, Nat.zero_le _, Nat.le_of_ble_eq_true rfl⟩ (fun r3 M4 z5 => ?_)
    refine J_if_eq 25 dX11_deeds_15 rfl ?_ ?_
    · refine J_ald0 dX11_deeds_25 ?_
      refine J_geti fl_RX11_98 dX11_deeds_26 kk_207 rfl ?_
      exact J_iret dX11_deeds_29 rfl ⟨rfl, rfl, rfl⟩
    · refine J_ald0 dX11_deeds_18 ?_
      refine J_cVI (jX11_doesAll l cx n  M4) ck_RX11_358 dX11_deeds_19 rfl kk_207 ⟨rfl, rfl, by decide, by decide⟩ ⟨Nat.zero_le _, Nat.zero_le _, Nat.le_of_ble_eq_true rfl⟩ (fun r6 M7 => ?_)
      refine J_goto 29 dX11_deeds_22 rfl ?_
      exact J_iret dX11_deeds_29 rfl ⟨rfl, rfl, rfl⟩
  · refine J_iconst (v := -1) dX11_deeds_8 rfl ?_
    exact J_iret dX11_deeds_9 rfl ⟨rfl, rfl, rfl⟩
set_option maxRecDepth 100000 in
theorem jX11_tried (l : Launch) (cx : CX) (n : Nat) (a : Int32) (b : Int32) (M : Mem) : Con l cx ({ frames := 10, cells := 0, slots := 0, locals := 225 } : Room) yX11_tried cX11_tried 4 (some .int) 0 0 false 207 218 EI GS [.ref 207, .int a, .int b] M (mX11_tried n a b M) := by
  unfold mX11_tried
  refine Con.of (ls := [some (.ref 207), some (.int a), some (.int b), none]) (by decide) rfl (Nat.le_of_ble_eq_true rfl) ?_
  refine J_ald0 dX11_tried_0 ?_
  refine J_ild1 dX11_tried_1 ?_
  refine J_cVB (jX11_isLong l cx n a M) ck_RX11_352 dX11_tried_2 rfl kk_207 ⟨rfl, rfl, by decide, by decide⟩ ⟨Nat.zero_le _, Nat.zero_le _, Nat.le_of_ble_eq_true rfl⟩ (fun r1 z2 => ?_)
  refine J_if_eq 15 dX11_tried_5 rfl ?_ ?_
  · refine J_iconst (v := -1) dX11_tried_15 rfl ?_
    exact J_iret dX11_tried_16 rfl ⟨rfl, rfl, rfl⟩
  · refine J_ild2 dX11_tried_8 ?_
    refine J_cSB (jX11_isNumber l cx n b M) ck_RX11_210 dX11_tried_9 rfl ⟨rfl, rfl, by decide, by decide⟩ ⟨Nat.zero_le _, Nat.zero_le _, Nat.le_of_ble_eq_true rfl⟩ (fun r3 z4 => ?_)
    refine J_if_ne 17 dX11_tried_12 rfl ?_ ?_
    · refine J_ald0 dX11_tried_17 ?_
      refine J_ild1 dX11_tried_18 ?_
      refine J_cVZ (jX11_readsDeeds l cx n a M) ck_RX11_355 dX11_tried_19 rfl kk_207 ⟨rfl, rfl, by decide, by decide⟩ ⟨Nat.zero_le _, Nat.zero_le _, Nat.le_of_ble_eq_true rfl⟩ (fun r5 M6 z7 => ?_)
      refine J_if_ne 30 dX11_tried_22 rfl ?_ ?_
      · refine J_ald0 dX11_tried_30 ?_
        refine J_iconst (v := 0) dX11_tried_31 rfl ?_
        refine J_iconst (v := 2) dX11_tried_32 rfl ?_
        refine J_cVV (jX11_copies l cx n (0 : Int32) (2 : Int32) M6) ck_RX11_361 dX11_tried_33 rfl kk_207 ⟨rfl, rfl, by decide, by decide⟩ ⟨Nat.zero_le _, Nat.zero_le _, Nat.le_of_ble_eq_true rfl⟩ (fun M9 => ?_)
        refine J_ald0 dX11_tried_36 ?_
        refine J_cVI (jX11_doesAll l cx n  M9) ck_RX11_358 dX11_tried_37 rfl kk_207 ⟨rfl, rfl, by decide, by decide⟩ ⟨Nat.zero_le _, Nat.zero_le _, Nat.le_of_ble_eq_true rfl⟩ (fun r10 M11 => ?_)
        refine J_pop_i dX11_tried_40 ?_
        refine J_ald0 dX11_tried_41 ?_
        refine J_ild2 dX11_tried_42 ?_
        refine J_cVB (jX11_isBegun l cx n b M11) ck_RX11_216 dX11_tried_43 rfl kk_207 ⟨rfl, rfl, by decide, by decide⟩ ⟨Nat.zero_le _, Nat.zero_le _, Nat.le_of_ble_eq_true rfl⟩ (fun r12 z13 => ?_)
        refine J_if_eq 57 dX11_tried_46 rfl ?_ ?_
        · refine J_ldc dX11_tried_57 wd_63 ?_
          refine J_ist3 dX11_tried_59 (by decide) rfl ?_
          refine J_ald0 dX11_tried_60 ?_
          refine J_iconst (v := 2) dX11_tried_61 rfl ?_
          refine J_iconst (v := 0) dX11_tried_62 rfl ?_
          refine J_cVV (jX11_copies l cx n (2 : Int32) (0 : Int32) M11) ck_RX11_361 dX11_tried_63 rfl kk_207 ⟨rfl, rfl, by decide, by decide⟩ ⟨Nat.zero_le _, Nat.zero_le _, Nat.le_of_ble_eq_true rfl⟩ (fun M15 => ?_)
          refine J_ild3 dX11_tried_66 ?_
          exact J_iret dX11_tried_67 rfl ⟨rfl, rfl, rfl⟩
        · refine J_ald0 dX11_tried_49 ?_
          refine J_ild2 dX11_tried_50 ?_
          refine J_cVP (jX11_allOf l cx n b M11) ck_RX11_265 dX11_tried_51 rfl kk_207 ⟨rfl, rfl, by decide, by decide⟩ ⟨Nat.zero_le _, Nat.zero_le _, Nat.le_of_ble_eq_true rfl⟩ (fun r16 => ?_)
          refine J_goto 59 dX11_tried_54 rfl ?_
          refine J_ist3 dX11_tried_59 (by decide) rfl ?_
          refine J_ald0 dX11_tried_60 ?_
          refine J_iconst (v := 2) dX11_tried_61 rfl ?_
          refine J_iconst (v := 0) dX11_tried_62 rfl ?_
          refine J_cVV (jX11_copies l cx n (2 : Int32) (0 : Int32) M11) ck_RX11_361 dX11_tried_63 rfl kk_207 ⟨rfl, rfl, by decide, by decide⟩ ⟨Nat.zero_le _, Nat.zero_le _, Nat.le_of_ble_eq_true rfl⟩ (fun M18 => ?_)
          refine J_ild3 dX11_tried_66 ?_
          exact J_iret dX11_tried_67 rfl ⟨rfl, rfl, rfl⟩
      · refine J_ald0 dX11_tried_25 ?_
        refine J_geti fl_RX11_98 dX11_tried_26 kk_207 rfl ?_
        exact J_iret dX11_tried_29 rfl ⟨rfl, rfl, rfl⟩
    · refine J_iconst (v := -1) dX11_tried_15 rfl ?_
      exact J_iret dX11_tried_16 rfl ⟨rfl, rfl, rfl⟩
set_option maxRecDepth 100000 in
theorem jX11_bitsOf_c4 {l : Launch} {cx : CX} {n : Nat} {M : Mem} : ∀ (f : Nat) {v1 : Int32} {v2 : Int32} {v3 : Int32}, JO l cx ({ frames := 1, cells := 0, slots := 0, locals := 22 } : Room) yX11_bitsOf cX11_bitsOf 4 (some .int) 0 0 false 207 218 (EP M) GS 0 0 4 [some (.ref 207), some (.int v1), some (.int v2), some (.int v3)] [] M (mX11_bitsOf_c4 n f v1 v2 v3 M) := by
  intro f
  induction f with
  | zero =>
    intros
    exact J_none
  | succ f ih =>
    intro v1 v2 v3
    unfold mX11_bitsOf_c4
    refine J_ild3 dX11_bitsOf_4 ?_
    refine J_bipush (v := 6) dX11_bitsOf_5 rfl ?_
    refine J_ic_ge 42 dX11_bitsOf_7 rfl ?_ ?_
    · refine J_ild2 dX11_bitsOf_42 ?_
      exact J_iret dX11_bitsOf_43 rfl ⟨rfl, rfl, rfl⟩
    · refine J_ald0 dX11_bitsOf_10 ?_
      refine J_ild3 dX11_bitsOf_11 ?_
      refine J_iconst (v := 0) dX11_bitsOf_12 rfl ?_
      refine J_cVP (jX11_of l cx n v3 (0 : Int32) M) ck_RX11_213 dX11_bitsOf_13 rfl kk_207 ⟨rfl, rfl, by decide, by decide⟩ ⟨Nat.zero_le _, Nat.zero_le _, Nat.le_of_ble_eq_true rfl⟩ (fun r1 => ?_)
      refine J_iconst (v := 1) dX11_bitsOf_16 rfl ?_
      refine J_ic_ne 36 dX11_bitsOf_17 rfl ?_ ?_
      · refine J_iinc3 (w := (v3 + (1 : Int32))) dX11_bitsOf_36 (by decide) rfl rfl ?_
        refine J_goto 4 dX11_bitsOf_39 rfl ?_
        exact J_wk (wk_s (wk_s (wk_s (wk_s wk_0)))) (ih)
      · refine J_ald0 dX11_bitsOf_20 ?_
        refine J_ild3 dX11_bitsOf_21 ?_
        refine J_ild1 dX11_bitsOf_22 ?_
        refine J_cVP (jX11_of l cx n v3 v1 M) ck_RX11_213 dX11_bitsOf_23 rfl kk_207 ⟨rfl, rfl, by decide, by decide⟩ ⟨Nat.zero_le _, Nat.zero_le _, Nat.le_of_ble_eq_true rfl⟩ (fun r2 => ?_)
        refine J_iconst (v := 1) dX11_bitsOf_26 rfl ?_
        refine J_ic_ne 36 dX11_bitsOf_27 rfl ?_ ?_
        · refine J_iinc3 (w := (v3 + (1 : Int32))) dX11_bitsOf_36 (by decide) rfl rfl ?_
          refine J_goto 4 dX11_bitsOf_39 rfl ?_
          exact J_wk (wk_s (wk_s (wk_s (wk_s wk_0)))) (ih)
        · refine J_ild2 dX11_bitsOf_30 ?_
          refine J_iconst (v := 1) dX11_bitsOf_31 rfl ?_
          refine J_ild3 dX11_bitsOf_32 ?_
          refine J_ishl dX11_bitsOf_33 ?_
          refine J_ior dX11_bitsOf_34 ?_
          refine J_ist2 dX11_bitsOf_35 (by decide) rfl ?_
          refine J_iinc3 (w := (v3 + (1 : Int32))) dX11_bitsOf_36 (by decide) rfl rfl ?_
          refine J_goto 4 dX11_bitsOf_39 rfl ?_
          exact J_wk (wk_s (wk_s (wk_s (wk_s wk_0)))) (ih)
set_option maxRecDepth 100000 in
theorem jX11_bitsOf (l : Launch) (cx : CX) (n : Nat) (a : Int32) (M : Mem) : Con l cx ({ frames := 1, cells := 0, slots := 0, locals := 22 } : Room) yX11_bitsOf cX11_bitsOf 4 (some .int) 0 0 false 207 218 (EP M) GS [.ref 207, .int a] M (mX11_bitsOf n a M) := by
  unfold mX11_bitsOf
  refine Con.of (ls := [some (.ref 207), some (.int a), none, none]) (by decide) rfl (Nat.le_of_ble_eq_true rfl) ?_
  refine J_iconst (v := 0) dX11_bitsOf_0 rfl ?_
  refine J_ist2 dX11_bitsOf_1 (by decide) rfl ?_
  refine J_iconst (v := 0) dX11_bitsOf_2 rfl ?_
  refine J_ist3 dX11_bitsOf_3 (by decide) rfl ?_
  exact J_wk (wk_s (wk_s (wk_s (wk_s wk_0)))) (jX11_bitsOf_c4 (n := n) n)
set_option maxRecDepth 100000 in
theorem jX11_billIs_c22 {l : Launch} {cx : CX} {n : Nat} {M : Mem} {v1 : Int32} : JO l cx ({ frames := 2, cells := 0, slots := 0, locals := 45 } : Room) yX11_billIs cX11_billIs 2 (some .int) 0 0 false 207 218 (EP M) GS 0 0 22 [some (.ref 207), some (.int v1)] [] M (mX11_billIs_c22 n v1 M) := by
  unfold mX11_billIs_c22
  refine J_ild1 dX11_billIs_22 ?_
  refine J_bipush (v := 10) dX11_billIs_23 rfl ?_
  refine J_iremK dX11_billIs_25 (by decide) ?_
  refine J_ald0 dX11_billIs_26 ?_
  refine J_getr (q := 209) fl_RX11_13 dX11_billIs_27 kk_207 rfl (rf_11_1 kk_207) ?_
  refine J_bipush (v := 6) dX11_billIs_30 rfl ?_
  refine J_iald dX11_billIs_32 kk_209 rfl ?_
  refine J_ic_lt 41 dX11_billIs_33 rfl ?_ ?_
  · refine J_ald0 dX11_billIs_41 ?_
    refine J_getr (q := 209) fl_RX11_13 dX11_billIs_42 kk_207 rfl (rf_11_1 kk_207) ?_
    refine J_ild1 dX11_billIs_45 ?_
    refine J_bipush (v := 20) dX11_billIs_46 rfl ?_
    refine J_ic_ge 56 dX11_billIs_48 rfl ?_ ?_
    · refine J_bipush (v := 11) dX11_billIs_56 rfl ?_
      refine J_ild1 dX11_billIs_58 ?_
      refine J_bipush (v := 10) dX11_billIs_59 rfl ?_
      refine J_iremK dX11_billIs_61 (by decide) ?_
      refine J_iadd dX11_billIs_62 ?_
      refine J_iald dX11_billIs_63 kk_209 rfl ?_
      exact J_iret dX11_billIs_64 rfl ⟨rfl, rfl, rfl⟩
    · refine J_bipush (v := 7) dX11_billIs_51 rfl ?_
      refine J_goto 58 dX11_billIs_53 rfl ?_
      refine J_ild1 dX11_billIs_58 ?_
      refine J_bipush (v := 10) dX11_billIs_59 rfl ?_
      refine J_iremK dX11_billIs_61 (by decide) ?_
      refine J_iadd dX11_billIs_62 ?_
      refine J_iald dX11_billIs_63 kk_209 rfl ?_
      exact J_iret dX11_billIs_64 rfl ⟨rfl, rfl, rfl⟩
  · refine J_bipush (v := -2) dX11_billIs_36 rfl ?_
    refine J_goto 64 dX11_billIs_38 rfl ?_
    exact J_iret dX11_billIs_64 rfl ⟨rfl, rfl, rfl⟩
set_option maxRecDepth 100000 in
theorem jX11_billIs (l : Launch) (cx : CX) (n : Nat) (a : Int32) (M : Mem) : Con l cx ({ frames := 2, cells := 0, slots := 0, locals := 45 } : Room) yX11_billIs cX11_billIs 2 (some .int) 0 0 false 207 218 (EP M) GS [.ref 207, .int a] M (mX11_billIs n a M) := by
  unfold mX11_billIs
  refine Con.of (ls := [some (.ref 207), some (.int a)]) (by decide) rfl (Nat.le_of_ble_eq_true rfl) ?_
  refine J_ild1 dX11_billIs_0 ?_
  refine J_bipush (v := 10) dX11_billIs_1 rfl ?_
  refine J_bipush (v := 13) dX11_billIs_3 rfl ?_
  refine J_cSB (jX11_in l cx n a (10 : Int32) (13 : Int32) M) ck_RX11_56 dX11_billIs_5 rfl ⟨rfl, rfl, by decide, by decide⟩ ⟨Nat.zero_le _, Nat.zero_le _, Nat.le_of_ble_eq_true rfl⟩ (fun r1 z2 => ?_)
  refine J_if_ne 22 dX11_billIs_8 rfl ?_ ?_
  · exact J_wk (wk_s (wk_s wk_0)) (jX11_billIs_c22 (n := n))
  · refine J_ild1 dX11_billIs_11 ?_
    refine J_bipush (v := 20) dX11_billIs_12 rfl ?_
    refine J_bipush (v := 23) dX11_billIs_14 rfl ?_
    refine J_cSB (jX11_in l cx n a (20 : Int32) (23 : Int32) M) ck_RX11_56 dX11_billIs_16 rfl ⟨rfl, rfl, by decide, by decide⟩ ⟨Nat.zero_le _, Nat.zero_le _, Nat.le_of_ble_eq_true rfl⟩ (fun r3 z4 => ?_)
    refine J_if_eq 65 dX11_billIs_19 rfl ?_ ?_
    · refine J_ild1 dX11_billIs_65 ?_
      refine J_swIn (v := 0) 112 dX11_billIs_66 (by decide) (by decide) rfl rfl ?_ (fun w5 => ?_)
      · refine J_ald0 dX11_billIs_112 ?_
        refine J_getr (q := 209) fl_RX11_13 dX11_billIs_113 kk_207 rfl (rf_11_1 kk_207) ?_
        refine J_iconst (v := 2) dX11_billIs_116 rfl ?_
        refine J_iald dX11_billIs_117 kk_209 rfl ?_
        exact J_iret dX11_billIs_118 rfl ⟨rfl, rfl, rfl⟩
      refine J_swIn (v := 1) 119 dX11_billIs_66 (by decide) (by decide) rfl rfl ?_ (fun w6 => ?_)
      · refine J_ald0 dX11_billIs_119 ?_
        refine J_getr (q := 209) fl_RX11_13 dX11_billIs_120 kk_207 rfl (rf_11_1 kk_207) ?_
        refine J_iconst (v := 3) dX11_billIs_123 rfl ?_
        refine J_iald dX11_billIs_124 kk_209 rfl ?_
        exact J_iret dX11_billIs_125 rfl ⟨rfl, rfl, rfl⟩
      refine J_swIn (v := 2) 126 dX11_billIs_66 (by decide) (by decide) rfl rfl ?_ (fun w7 => ?_)
      · refine J_ald0 dX11_billIs_126 ?_
        refine J_getr (q := 209) fl_RX11_13 dX11_billIs_127 kk_207 rfl (rf_11_1 kk_207) ?_
        refine J_iconst (v := 0) dX11_billIs_130 rfl ?_
        refine J_iald dX11_billIs_131 kk_209 rfl ?_
        exact J_iret dX11_billIs_132 rfl ⟨rfl, rfl, rfl⟩
      refine J_swIn (v := 3) 133 dX11_billIs_66 (by decide) (by decide) rfl rfl ?_ (fun w8 => ?_)
      · refine J_ald0 dX11_billIs_133 ?_
        refine J_getr (q := 209) fl_RX11_13 dX11_billIs_134 kk_207 rfl (rf_11_1 kk_207) ?_
        refine J_iconst (v := 1) dX11_billIs_137 rfl ?_
        refine J_iald dX11_billIs_138 kk_209 rfl ?_
        exact J_iret dX11_billIs_139 rfl ⟨rfl, rfl, rfl⟩
      refine J_swIn (v := 4) 140 dX11_billIs_66 (by decide) (by decide) rfl rfl ?_ (fun w10 => ?_)
      · refine J_ald0 dX11_billIs_140 ?_
        refine J_iconst (v := 0) dX11_billIs_141 rfl ?_
        refine J_cVP (jX11_bitsOf l cx n (0 : Int32) M) ck_RX11_364 dX11_billIs_142 rfl kk_207 ⟨rfl, rfl, by decide, by decide⟩ ⟨Nat.zero_le _, Nat.zero_le _, Nat.le_of_ble_eq_true rfl⟩ (fun r9 => ?_)
        exact J_iret dX11_billIs_145 rfl ⟨rfl, rfl, rfl⟩
      refine J_swIn (v := 5) 146 dX11_billIs_66 (by decide) (by decide) rfl rfl ?_ (fun w12 => ?_)
      · refine J_ald0 dX11_billIs_146 ?_
        refine J_bipush (v := 8) dX11_billIs_147 rfl ?_
        refine J_cVP (jX11_bitsOf l cx n (8 : Int32) M) ck_RX11_364 dX11_billIs_149 rfl kk_207 ⟨rfl, rfl, by decide, by decide⟩ ⟨Nat.zero_le _, Nat.zero_le _, Nat.le_of_ble_eq_true rfl⟩ (fun r11 => ?_)
        exact J_iret dX11_billIs_152 rfl ⟨rfl, rfl, rfl⟩
      refine J_swIn (v := 6) 153 dX11_billIs_66 (by decide) (by decide) rfl rfl ?_ (fun w14 => ?_)
      · refine J_ald0 dX11_billIs_153 ?_
        refine J_bipush (v := 7) dX11_billIs_154 rfl ?_
        refine J_cVP (jX11_bitsOf l cx n (7 : Int32) M) ck_RX11_364 dX11_billIs_156 rfl kk_207 ⟨rfl, rfl, by decide, by decide⟩ ⟨Nat.zero_le _, Nat.zero_le _, Nat.le_of_ble_eq_true rfl⟩ (fun r13 => ?_)
        exact J_iret dX11_billIs_159 rfl ⟨rfl, rfl, rfl⟩
      refine J_swIn (v := 7) 160 dX11_billIs_66 (by decide) (by decide) rfl rfl ?_ (fun w15 => ?_)
      · refine J_ald0 dX11_billIs_160 ?_
        refine J_getr (q := 209) fl_RX11_13 dX11_billIs_161 kk_207 rfl (rf_11_1 kk_207) ?_
        refine J_iconst (v := 5) dX11_billIs_164 rfl ?_
        refine J_iald dX11_billIs_165 kk_209 rfl ?_
        exact J_iret dX11_billIs_166 rfl ⟨rfl, rfl, rfl⟩
      refine J_swOut 167 dX11_billIs_66 (sw_out 8 rfl (fun k hk => sw_c8 (P := fun k => ¬ a = Int32.ofInt (0 + (k : Int))) hk w5 w6 w7 w8 w10 w12 w14 w15)) rfl ?_
      refine J_iconst (v := -1) dX11_billIs_167 rfl ?_
      exact J_iret dX11_billIs_168 rfl ⟨rfl, rfl, rfl⟩
    · exact J_wk (wk_s (wk_s wk_0)) (jX11_billIs_c22 (n := n))
set_option maxRecDepth 100000 in
theorem jX11_sumOf_c43 {l : Launch} {cx : CX} {n : Nat} {M : Mem} {k5 : Int32 → Int32 → Int32 → Int32 → Mem → Option Int32} (hk5 : ∀ {v1 : Int32} {v2 : Int32} {v3 : Int32} {v4 : Int32}, JO l cx ({ frames := 1, cells := 0, slots := 0, locals := 22 } : Room) yX11_sumOf cX11_sumOf 5 (some .int) 0 0 false 207 218 (EP M) GS 0 0 5 [some (.ref 207), some (.int v1), some (.int v2), some (.int v3), some (.int v4)] [] M (k5 v1 v2 v3 v4 M)) {v1 : Int32} {v2 : Int32} {v3 : Int32} {v4 : Int32} : JO l cx ({ frames := 1, cells := 0, slots := 0, locals := 22 } : Room) yX11_sumOf cX11_sumOf 5 (some .int) 0 0 false 207 218 (EP M) GS 0 0 43 [some (.ref 207), some (.int v1), some (.int v2), some (.int v3), some (.int v4)] [] M (mX11_sumOf_c43 n k5 v1 v2 v3 v4 M) := by
  unfold mX11_sumOf_c43
  refine J_ild3 dX11_sumOf_43 ?_
  refine J_ild2 dX11_sumOf_44 ?_
  refine J_iconst (v := -1) dX11_sumOf_45 rfl ?_
  refine J_ic_ne 53 dX11_sumOf_46 rfl ?_ ?_
  · refine J_ald0 dX11_sumOf_53 ?_
    refine J_ild4 dX11_sumOf_54 ?_
    refine J_bipush (v := 7) dX11_sumOf_56 rfl ?_
    refine J_cVP (jX11_entryOf l cx n v4 (7 : Int32) M) ck_RX11_219 dX11_sumOf_58 rfl kk_207 ⟨rfl, rfl, by decide, by decide⟩ ⟨Nat.zero_le _, Nat.zero_le _, Nat.le_of_ble_eq_true rfl⟩ (fun r1 => ?_)
    refine J_iadd dX11_sumOf_61 ?_
    refine J_ist3 dX11_sumOf_62 (by decide) rfl ?_
    refine J_iinc4 (w := (v4 + (1 : Int32))) dX11_sumOf_63 (by decide) rfl rfl ?_
    refine J_goto 5 dX11_sumOf_66 rfl ?_
    exact J_wk (wk_s (wk_s (wk_s (wk_s (wk_s wk_0))))) (hk5)
  · refine J_iconst (v := 1) dX11_sumOf_49 rfl ?_
    refine J_goto 61 dX11_sumOf_50 rfl ?_
    refine J_iadd dX11_sumOf_61 ?_
    refine J_ist3 dX11_sumOf_62 (by decide) rfl ?_
    refine J_iinc4 (w := (v4 + (1 : Int32))) dX11_sumOf_63 (by decide) rfl rfl ?_
    refine J_goto 5 dX11_sumOf_66 rfl ?_
    exact J_wk (wk_s (wk_s (wk_s (wk_s (wk_s wk_0))))) (hk5)
set_option maxRecDepth 100000 in
theorem jX11_sumOf_c5 {l : Launch} {cx : CX} {n : Nat} {M : Mem} : ∀ (f : Nat) {v1 : Int32} {v2 : Int32} {v3 : Int32} {v4 : Int32}, JO l cx ({ frames := 1, cells := 0, slots := 0, locals := 22 } : Room) yX11_sumOf cX11_sumOf 5 (some .int) 0 0 false 207 218 (EP M) GS 0 0 5 [some (.ref 207), some (.int v1), some (.int v2), some (.int v3), some (.int v4)] [] M (mX11_sumOf_c5 n f v1 v2 v3 v4 M) := by
  intro f
  induction f with
  | zero =>
    intros
    exact J_none
  | succ f ih =>
    intro v1 v2 v3 v4
    unfold mX11_sumOf_c5
    refine J_ild4 dX11_sumOf_5 ?_
    refine J_ald0 dX11_sumOf_7 ?_
    refine J_getr (q := 209) fl_RX11_13 dX11_sumOf_8 kk_207 rfl (rf_11_1 kk_207) ?_
    refine J_iconst (v := 1) dX11_sumOf_11 rfl ?_
    refine J_iald dX11_sumOf_12 kk_209 rfl ?_
    refine J_ic_ge 69 dX11_sumOf_13 rfl ?_ ?_
    · refine J_ild3 dX11_sumOf_69 ?_
      exact J_iret dX11_sumOf_70 rfl ⟨rfl, rfl, rfl⟩
    · refine J_ald0 dX11_sumOf_16 ?_
      refine J_ild4 dX11_sumOf_17 ?_
      refine J_iconst (v := 1) dX11_sumOf_19 rfl ?_
      refine J_cVP (jX11_entryOf l cx n v4 (1 : Int32) M) ck_RX11_219 dX11_sumOf_20 rfl kk_207 ⟨rfl, rfl, by decide, by decide⟩ ⟨Nat.zero_le _, Nat.zero_le _, Nat.le_of_ble_eq_true rfl⟩ (fun r2 => ?_)
      refine J_ild1 dX11_sumOf_23 ?_
      refine J_ic_ne 63 dX11_sumOf_24 rfl ?_ ?_
      · refine J_iinc4 (w := (v4 + (1 : Int32))) dX11_sumOf_63 (by decide) rfl rfl ?_
        refine J_goto 5 dX11_sumOf_66 rfl ?_
        exact J_wk (wk_s (wk_s (wk_s (wk_s (wk_s wk_0))))) (ih)
      · refine J_ild2 dX11_sumOf_27 ?_
        refine J_iconst (v := -1) dX11_sumOf_28 rfl ?_
        refine J_ic_eq 43 dX11_sumOf_29 rfl ?_ ?_
        · exact J_wk (wk_s (wk_s (wk_s (wk_s (wk_s wk_0))))) (jX11_sumOf_c43 (n := n) ih)
        · refine J_ald0 dX11_sumOf_32 ?_
          refine J_ild4 dX11_sumOf_33 ?_
          refine J_iconst (v := 0) dX11_sumOf_35 rfl ?_
          refine J_cVP (jX11_entryOf l cx n v4 (0 : Int32) M) ck_RX11_219 dX11_sumOf_36 rfl kk_207 ⟨rfl, rfl, by decide, by decide⟩ ⟨Nat.zero_le _, Nat.zero_le _, Nat.le_of_ble_eq_true rfl⟩ (fun r3 => ?_)
          refine J_ild2 dX11_sumOf_39 ?_
          refine J_ic_ne 63 dX11_sumOf_40 rfl ?_ ?_
          · refine J_iinc4 (w := (v4 + (1 : Int32))) dX11_sumOf_63 (by decide) rfl rfl ?_
            refine J_goto 5 dX11_sumOf_66 rfl ?_
            exact J_wk (wk_s (wk_s (wk_s (wk_s (wk_s wk_0))))) (ih)
          · exact J_wk (wk_s (wk_s (wk_s (wk_s (wk_s wk_0))))) (jX11_sumOf_c43 (n := n) ih)
set_option maxRecDepth 100000 in
theorem jX11_sumOf (l : Launch) (cx : CX) (n : Nat) (a : Int32) (b : Int32) (M : Mem) : Con l cx ({ frames := 1, cells := 0, slots := 0, locals := 22 } : Room) yX11_sumOf cX11_sumOf 5 (some .int) 0 0 false 207 218 (EP M) GS [.ref 207, .int a, .int b] M (mX11_sumOf n a b M) := by
  unfold mX11_sumOf
  refine Con.of (ls := [some (.ref 207), some (.int a), some (.int b), none, none]) (by decide) rfl (Nat.le_of_ble_eq_true rfl) ?_
  refine J_iconst (v := 0) dX11_sumOf_0 rfl ?_
  refine J_ist3 dX11_sumOf_1 (by decide) rfl ?_
  refine J_iconst (v := 0) dX11_sumOf_2 rfl ?_
  refine J_ist4 dX11_sumOf_3 (by decide) rfl ?_
  exact J_wk (wk_s (wk_s (wk_s (wk_s (wk_s wk_0))))) (jX11_sumOf_c5 (n := n) n)
set_option maxRecDepth 100000 in
theorem jX11_accountIs (l : Launch) (cx : CX) (n : Nat) (a : Int32) (b : Int32) (M : Mem) : Con l cx ({ frames := 3, cells := 0, slots := 0, locals := 68 } : Room) yX11_accountIs cX11_accountIs 3 (some .int) 0 0 false 207 218 (EP M) GS [.ref 207, .int a, .int b] M (mX11_accountIs n a b M) := by
  unfold mX11_accountIs
  refine Con.of (ls := [some (.ref 207), some (.int a), some (.int b)]) (by decide) rfl (Nat.le_of_ble_eq_true rfl) ?_
  refine J_ald0 dX11_accountIs_0 ?_
  refine J_ild1 dX11_accountIs_1 ?_
  refine J_cVB (jX11_isBegun l cx n a M) ck_RX11_216 dX11_accountIs_2 rfl kk_207 ⟨rfl, rfl, by decide, by decide⟩ ⟨Nat.zero_le _, Nat.zero_le _, Nat.le_of_ble_eq_true rfl⟩ (fun r1 z2 => ?_)
  refine J_if_eq 18 dX11_accountIs_5 rfl ?_ ?_
  · refine J_ldc dX11_accountIs_18 wd_63 ?_
    exact J_iret dX11_accountIs_20 rfl ⟨rfl, rfl, rfl⟩
  · refine J_ild2 dX11_accountIs_8 ?_
    refine J_iconst (v := 0) dX11_accountIs_9 rfl ?_
    refine J_bipush (v := 19) dX11_accountIs_10 rfl ?_
    refine J_cSB (jX11_in l cx n b (0 : Int32) (19 : Int32) M) ck_RX11_56 dX11_accountIs_12 rfl ⟨rfl, rfl, by decide, by decide⟩ ⟨Nat.zero_le _, Nat.zero_le _, Nat.le_of_ble_eq_true rfl⟩ (fun r3 z4 => ?_)
    refine J_if_ne 21 dX11_accountIs_15 rfl ?_ ?_
    · refine J_ild2 dX11_accountIs_21 ?_
      refine J_bipush (v := 18) dX11_accountIs_22 rfl ?_
      refine J_ic_lt 46 dX11_accountIs_24 rfl ?_ ?_
      · refine J_ild2 dX11_accountIs_46 ?_
        refine J_bipush (v := 11) dX11_accountIs_47 rfl ?_
        refine J_ic_lt 62 dX11_accountIs_49 rfl ?_ ?_
        · refine J_ild2 dX11_accountIs_62 ?_
          refine J_swIn (v := 0) 116 dX11_accountIs_63 (by decide) (by decide) rfl rfl ?_ (fun w6 => ?_)
          · refine J_ald0 dX11_accountIs_116 ?_
            refine J_ild1 dX11_accountIs_117 ?_
            refine J_iconst (v := 1) dX11_accountIs_118 rfl ?_
            refine J_cVP (jX11_of l cx n a (1 : Int32) M) ck_RX11_213 dX11_accountIs_119 rfl kk_207 ⟨rfl, rfl, by decide, by decide⟩ ⟨Nat.zero_le _, Nat.zero_le _, Nat.le_of_ble_eq_true rfl⟩ (fun r5 => ?_)
            exact J_iret dX11_accountIs_122 rfl ⟨rfl, rfl, rfl⟩
          refine J_swIn (v := 1) 123 dX11_accountIs_63 (by decide) (by decide) rfl rfl ?_ (fun w8 => ?_)
          · refine J_ald0 dX11_accountIs_123 ?_
            refine J_ild1 dX11_accountIs_124 ?_
            refine J_iconst (v := 2) dX11_accountIs_125 rfl ?_
            refine J_cVP (jX11_of l cx n a (2 : Int32) M) ck_RX11_213 dX11_accountIs_126 rfl kk_207 ⟨rfl, rfl, by decide, by decide⟩ ⟨Nat.zero_le _, Nat.zero_le _, Nat.le_of_ble_eq_true rfl⟩ (fun r7 => ?_)
            exact J_iret dX11_accountIs_129 rfl ⟨rfl, rfl, rfl⟩
          refine J_swIn (v := 2) 130 dX11_accountIs_63 (by decide) (by decide) rfl rfl ?_ (fun w10 => ?_)
          · refine J_ald0 dX11_accountIs_130 ?_
            refine J_ild1 dX11_accountIs_131 ?_
            refine J_iconst (v := 3) dX11_accountIs_132 rfl ?_
            refine J_cVP (jX11_of l cx n a (3 : Int32) M) ck_RX11_213 dX11_accountIs_133 rfl kk_207 ⟨rfl, rfl, by decide, by decide⟩ ⟨Nat.zero_le _, Nat.zero_le _, Nat.le_of_ble_eq_true rfl⟩ (fun r9 => ?_)
            exact J_iret dX11_accountIs_136 rfl ⟨rfl, rfl, rfl⟩
          refine J_swIn (v := 3) 137 dX11_accountIs_63 (by decide) (by decide) rfl rfl ?_ (fun w12 => ?_)
          · refine J_ald0 dX11_accountIs_137 ?_
            refine J_ild1 dX11_accountIs_138 ?_
            refine J_iconst (v := 4) dX11_accountIs_139 rfl ?_
            refine J_cVP (jX11_of l cx n a (4 : Int32) M) ck_RX11_213 dX11_accountIs_140 rfl kk_207 ⟨rfl, rfl, by decide, by decide⟩ ⟨Nat.zero_le _, Nat.zero_le _, Nat.le_of_ble_eq_true rfl⟩ (fun r11 => ?_)
            exact J_iret dX11_accountIs_143 rfl ⟨rfl, rfl, rfl⟩
          refine J_swIn (v := 4) 144 dX11_accountIs_63 (by decide) (by decide) rfl rfl ?_ (fun w14 => ?_)
          · refine J_ald0 dX11_accountIs_144 ?_
            refine J_ild1 dX11_accountIs_145 ?_
            refine J_iconst (v := 5) dX11_accountIs_146 rfl ?_
            refine J_cVP (jX11_of l cx n a (5 : Int32) M) ck_RX11_213 dX11_accountIs_147 rfl kk_207 ⟨rfl, rfl, by decide, by decide⟩ ⟨Nat.zero_le _, Nat.zero_le _, Nat.le_of_ble_eq_true rfl⟩ (fun r13 => ?_)
            exact J_iret dX11_accountIs_150 rfl ⟨rfl, rfl, rfl⟩
          refine J_swIn (v := 5) 151 dX11_accountIs_63 (by decide) (by decide) rfl rfl ?_ (fun w19 => ?_)
          · refine J_ald0 dX11_accountIs_151 ?_
            refine J_ild1 dX11_accountIs_152 ?_
            refine J_iconst (v := 5) dX11_accountIs_153 rfl ?_
            refine J_cVP (jX11_of l cx n a (5 : Int32) M) ck_RX11_213 dX11_accountIs_154 rfl kk_207 ⟨rfl, rfl, by decide, by decide⟩ ⟨Nat.zero_le _, Nat.zero_le _, Nat.le_of_ble_eq_true rfl⟩ (fun r15 => ?_)
            refine J_ald0 dX11_accountIs_157 ?_
            refine J_ald0 dX11_accountIs_158 ?_
            refine J_ild1 dX11_accountIs_159 ?_
            refine J_iconst (v := 2) dX11_accountIs_160 rfl ?_
            refine J_cVP (jX11_of l cx n a (2 : Int32) M) ck_RX11_213 dX11_accountIs_161 rfl kk_207 ⟨rfl, rfl, by decide, by decide⟩ ⟨Nat.zero_le _, Nat.zero_le _, Nat.le_of_ble_eq_true rfl⟩ (fun r16 => ?_)
            refine J_ald0 dX11_accountIs_164 ?_
            refine J_ild1 dX11_accountIs_165 ?_
            refine J_iconst (v := 4) dX11_accountIs_166 rfl ?_
            refine J_cVP (jX11_of l cx n a (4 : Int32) M) ck_RX11_213 dX11_accountIs_167 rfl kk_207 ⟨rfl, rfl, by decide, by decide⟩ ⟨Nat.zero_le _, Nat.zero_le _, Nat.le_of_ble_eq_true rfl⟩ (fun r17 => ?_)
            refine J_cVP (jX11_lastTurn l cx n r16 r17 M) ck_RX11_67 dX11_accountIs_170 rfl kk_207 ⟨rfl, rfl, by decide, by decide⟩ ⟨Nat.zero_le _, Nat.zero_le _, Nat.le_of_ble_eq_true rfl⟩ (fun r18 => ?_)
            refine J_isub dX11_accountIs_173 ?_
            exact J_iret dX11_accountIs_174 rfl ⟨rfl, rfl, rfl⟩
          refine J_swIn (v := 6) 175 dX11_accountIs_63 (by decide) (by decide) rfl rfl ?_ (fun w21 => ?_)
          · refine J_ald0 dX11_accountIs_175 ?_
            refine J_ild1 dX11_accountIs_176 ?_
            refine J_cVP (jX11_worth l cx n a M) ck_RX11_370 dX11_accountIs_177 rfl kk_207 ⟨rfl, rfl, by decide, by decide⟩ ⟨Nat.zero_le _, Nat.zero_le _, Nat.le_of_ble_eq_true rfl⟩ (fun r20 => ?_)
            exact J_iret dX11_accountIs_180 rfl ⟨rfl, rfl, rfl⟩
          refine J_swIn (v := 7) 181 dX11_accountIs_63 (by decide) (by decide) rfl rfl ?_ (fun w23 => ?_)
          · refine J_ald0 dX11_accountIs_181 ?_
            refine J_ild1 dX11_accountIs_182 ?_
            refine J_bipush (v := 6) dX11_accountIs_183 rfl ?_
            refine J_cVP (jX11_of l cx n a (6 : Int32) M) ck_RX11_213 dX11_accountIs_185 rfl kk_207 ⟨rfl, rfl, by decide, by decide⟩ ⟨Nat.zero_le _, Nat.zero_le _, Nat.le_of_ble_eq_true rfl⟩ (fun r22 => ?_)
            exact J_iret dX11_accountIs_188 rfl ⟨rfl, rfl, rfl⟩
          refine J_swIn (v := 8) 189 dX11_accountIs_63 (by decide) (by decide) rfl rfl ?_ (fun w25 => ?_)
          · refine J_ald0 dX11_accountIs_189 ?_
            refine J_ild1 dX11_accountIs_190 ?_
            refine J_cVP (jX11_allOf l cx n a M) ck_RX11_265 dX11_accountIs_191 rfl kk_207 ⟨rfl, rfl, by decide, by decide⟩ ⟨Nat.zero_le _, Nat.zero_le _, Nat.le_of_ble_eq_true rfl⟩ (fun r24 => ?_)
            exact J_iret dX11_accountIs_194 rfl ⟨rfl, rfl, rfl⟩
          refine J_swIn (v := 9) 195 dX11_accountIs_63 (by decide) (by decide) rfl rfl ?_ (fun w27 => ?_)
          · refine J_ald0 dX11_accountIs_195 ?_
            refine J_ild1 dX11_accountIs_196 ?_
            refine J_bipush (v := 7) dX11_accountIs_197 rfl ?_
            refine J_cVP (jX11_of l cx n a (7 : Int32) M) ck_RX11_213 dX11_accountIs_199 rfl kk_207 ⟨rfl, rfl, by decide, by decide⟩ ⟨Nat.zero_le _, Nat.zero_le _, Nat.le_of_ble_eq_true rfl⟩ (fun r26 => ?_)
            exact J_iret dX11_accountIs_202 rfl ⟨rfl, rfl, rfl⟩
          refine J_swOut 203 dX11_accountIs_63 (sw_out 10 rfl (fun k hk => sw_c10 (P := fun k => ¬ b = Int32.ofInt (0 + (k : Int))) hk w6 w8 w10 w12 w14 w19 w21 w23 w25 w27)) rfl ?_
          refine J_ald0 dX11_accountIs_203 ?_
          refine J_ild1 dX11_accountIs_204 ?_
          refine J_bipush (v := 8) dX11_accountIs_205 rfl ?_
          refine J_cVP (jX11_of l cx n a (8 : Int32) M) ck_RX11_213 dX11_accountIs_207 rfl kk_207 ⟨rfl, rfl, by decide, by decide⟩ ⟨Nat.zero_le _, Nat.zero_le _, Nat.le_of_ble_eq_true rfl⟩ (fun r28 => ?_)
          exact J_iret dX11_accountIs_210 rfl ⟨rfl, rfl, rfl⟩
        · refine J_ald0 dX11_accountIs_52 ?_
          refine J_ild1 dX11_accountIs_53 ?_
          refine J_ild2 dX11_accountIs_54 ?_
          refine J_bipush (v := 12) dX11_accountIs_55 rfl ?_
          refine J_isub dX11_accountIs_57 ?_
          refine J_cVP (jX11_sumOf l cx n a (b - (12 : Int32)) M) ck_RX11_367 dX11_accountIs_58 rfl kk_207 ⟨rfl, rfl, by decide, by decide⟩ ⟨Nat.zero_le _, Nat.zero_le _, Nat.le_of_ble_eq_true rfl⟩ (fun r29 => ?_)
          exact J_iret dX11_accountIs_61 rfl ⟨rfl, rfl, rfl⟩
      · refine J_ald0 dX11_accountIs_27 ?_
        refine J_ild1 dX11_accountIs_28 ?_
        refine J_ild2 dX11_accountIs_29 ?_
        refine J_bipush (v := 18) dX11_accountIs_30 rfl ?_
        refine J_ic_ne 40 dX11_accountIs_32 rfl ?_ ?_
        · refine J_bipush (v := 10) dX11_accountIs_40 rfl ?_
          refine J_cVP (jX11_of l cx n a (10 : Int32) M) ck_RX11_213 dX11_accountIs_42 rfl kk_207 ⟨rfl, rfl, by decide, by decide⟩ ⟨Nat.zero_le _, Nat.zero_le _, Nat.le_of_ble_eq_true rfl⟩ (fun r30 => ?_)
          exact J_iret dX11_accountIs_45 rfl ⟨rfl, rfl, rfl⟩
        · refine J_bipush (v := 9) dX11_accountIs_35 rfl ?_
          refine J_goto 42 dX11_accountIs_37 rfl ?_
          refine J_cVP (jX11_of l cx n a (9 : Int32) M) ck_RX11_213 dX11_accountIs_42 rfl kk_207 ⟨rfl, rfl, by decide, by decide⟩ ⟨Nat.zero_le _, Nat.zero_le _, Nat.le_of_ble_eq_true rfl⟩ (fun r31 => ?_)
          exact J_iret dX11_accountIs_45 rfl ⟨rfl, rfl, rfl⟩
    · refine J_ldc dX11_accountIs_18 wd_63 ?_
      exact J_iret dX11_accountIs_20 rfl ⟨rfl, rfl, rfl⟩
