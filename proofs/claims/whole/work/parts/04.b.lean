set_option maxRecDepth 100000 in
theorem jX11_planOf (l : Launch) (cx : CX) (n : Nat) (a : Int32) (b : Int32) (M : Mem) : Con l cx ({ frames := 0, cells := 0, slots := 0, locals := 0 } : Room) yX11_planOf cX11_planOf 3 (some .int) 0 0 false 207 218 (EP M) GS [.ref 207, .int a, .int b] M (mX11_planOf a b M) := by
  unfold mX11_planOf
  refine Con.of (ls := [some (.ref 207), some (.int a), some (.int b)]) (by decide) rfl (Nat.le_of_ble_eq_true rfl) ?_
  refine J_ald0 dX11_planOf_0 ?_
  refine J_getr (q := 209) fl_RX11_13 dX11_planOf_1 kk_207 rfl (rf_11_1 kk_207) ?_
  refine J_bipush (v := 20) dX11_planOf_4 rfl ?_
  refine J_bipush (v := 24) dX11_planOf_6 rfl ?_
  refine J_ild1 dX11_planOf_8 ?_
  refine J_imul dX11_planOf_9 ?_
  refine J_iadd dX11_planOf_10 ?_
  refine J_ild2 dX11_planOf_11 ?_
  refine J_iadd dX11_planOf_12 ?_
  refine J_iald dX11_planOf_13 kk_209 rfl ?_
  exact J_iret dX11_planOf_14 rfl ⟨rfl, rfl, rfl⟩
set_option maxRecDepth 100000 in
theorem jX11_isPlan (l : Launch) (cx : CX) (n : Nat) (a : Int32) (M : Mem) : Con l cx ({ frames := 1, cells := 0, slots := 0, locals := 22 } : Room) yX11_isPlan cX11_isPlan 1 (some .boolean) 0 0 false 207 218 (EB M) GS [.int a] M (mX11_isPlan a) := by
  unfold mX11_isPlan
  refine Con.of (ls := [some (.int a)]) (by decide) rfl (Nat.le_of_ble_eq_true rfl) ?_
  refine J_ild0 dX11_isPlan_0 ?_
  refine J_iconst (v := 0) dX11_isPlan_1 rfl ?_
  refine J_iconst (v := 5) dX11_isPlan_2 rfl ?_
  refine J_cSB (jX11_in l cx n a (0 : Int32) (5 : Int32) M) ck_RX11_56 dX11_isPlan_3 rfl ⟨rfl, rfl, by decide, by decide⟩ ⟨Nat.zero_le _, Nat.zero_le _, Nat.le_of_ble_eq_true rfl⟩ (fun r1 z2 => ?_)
  exact J_zret dX11_isPlan_6 rfl z2 ⟨rfl, rfl, rfl, z2⟩
set_option maxRecDepth 100000 in
theorem jX11_plan_c89 {l : Launch} {cx : CX} {n : Nat} {M : Mem} {v1 : Int32} {v2 : Int32} {s0 : Int32} {s1 : Int32} {s3 : Int32} : JO l cx ({ frames := 2, cells := 0, slots := 0, locals := 42 } : Room) yX11_plan cX11_plan 4 (some .int) 0 0 false 207 218 (EP M) GS 0 0 89 [some (.ref 207), some (.int v1), some (.int v2), none] [.int s0, .int s1, .ref 207, .int s3] M (mX11_plan_c89 v1 v2 s0 s1 s3 M) := by
  unfold mX11_plan_c89
  refine J_cVP (jX11_planOf l cx n s1 s0 M) ck_RX11_200 dX11_plan_89 rfl kk_207 ⟨rfl, rfl, by decide, by decide⟩ ⟨Nat.zero_le _, Nat.zero_le _, Nat.le_of_ble_eq_true rfl⟩ (fun r1 => ?_)
  refine J_ic_lt 98 dX11_plan_92 rfl ?_ ?_
  · refine J_ild2 dX11_plan_98 ?_
    refine J_bipush (v := 20) dX11_plan_99 rfl ?_
    refine J_ic_ge 109 dX11_plan_101 rfl ?_ ?_
    · refine J_ild2 dX11_plan_109 ?_
      refine J_bipush (v := 30) dX11_plan_110 rfl ?_
      refine J_ic_ge 120 dX11_plan_112 rfl ?_ ?_
      · refine J_ild2 dX11_plan_120 ?_
        refine J_bipush (v := 40) dX11_plan_121 rfl ?_
        refine J_ic_ge 131 dX11_plan_123 rfl ?_ ?_
        · refine J_bipush (v := 18) dX11_plan_131 rfl ?_
          refine J_ist3 dX11_plan_133 (by decide) rfl ?_
          refine J_ald0 dX11_plan_134 ?_
          refine J_ild1 dX11_plan_135 ?_
          refine J_ild3 dX11_plan_136 ?_
          refine J_ild2 dX11_plan_137 ?_
          refine J_bipush (v := 10) dX11_plan_138 rfl ?_
          refine J_iremK dX11_plan_140 (by decide) ?_
          refine J_iadd dX11_plan_141 ?_
          refine J_cVP (jX11_planOf l cx n v1 ((18 : Int32) + (v2 - v2 / (10 : Int32) * (10 : Int32))) M) ck_RX11_200 dX11_plan_142 rfl kk_207 ⟨rfl, rfl, by decide, by decide⟩ ⟨Nat.zero_le _, Nat.zero_le _, Nat.le_of_ble_eq_true rfl⟩ (fun r2 => ?_)
          exact J_iret dX11_plan_145 rfl ⟨rfl, rfl, rfl⟩
        · refine J_bipush (v := 15) dX11_plan_126 rfl ?_
          refine J_goto 133 dX11_plan_128 rfl ?_
          refine J_ist3 dX11_plan_133 (by decide) rfl ?_
          refine J_ald0 dX11_plan_134 ?_
          refine J_ild1 dX11_plan_135 ?_
          refine J_ild3 dX11_plan_136 ?_
          refine J_ild2 dX11_plan_137 ?_
          refine J_bipush (v := 10) dX11_plan_138 rfl ?_
          refine J_iremK dX11_plan_140 (by decide) ?_
          refine J_iadd dX11_plan_141 ?_
          refine J_cVP (jX11_planOf l cx n v1 ((15 : Int32) + (v2 - v2 / (10 : Int32) * (10 : Int32))) M) ck_RX11_200 dX11_plan_142 rfl kk_207 ⟨rfl, rfl, by decide, by decide⟩ ⟨Nat.zero_le _, Nat.zero_le _, Nat.le_of_ble_eq_true rfl⟩ (fun r3 => ?_)
          exact J_iret dX11_plan_145 rfl ⟨rfl, rfl, rfl⟩
      · refine J_bipush (v := 10) dX11_plan_115 rfl ?_
        refine J_goto 133 dX11_plan_117 rfl ?_
        refine J_ist3 dX11_plan_133 (by decide) rfl ?_
        refine J_ald0 dX11_plan_134 ?_
        refine J_ild1 dX11_plan_135 ?_
        refine J_ild3 dX11_plan_136 ?_
        refine J_ild2 dX11_plan_137 ?_
        refine J_bipush (v := 10) dX11_plan_138 rfl ?_
        refine J_iremK dX11_plan_140 (by decide) ?_
        refine J_iadd dX11_plan_141 ?_
        refine J_cVP (jX11_planOf l cx n v1 ((10 : Int32) + (v2 - v2 / (10 : Int32) * (10 : Int32))) M) ck_RX11_200 dX11_plan_142 rfl kk_207 ⟨rfl, rfl, by decide, by decide⟩ ⟨Nat.zero_le _, Nat.zero_le _, Nat.le_of_ble_eq_true rfl⟩ (fun r4 => ?_)
        exact J_iret dX11_plan_145 rfl ⟨rfl, rfl, rfl⟩
    · refine J_bipush (v := 6) dX11_plan_104 rfl ?_
      refine J_goto 133 dX11_plan_106 rfl ?_
      refine J_ist3 dX11_plan_133 (by decide) rfl ?_
      refine J_ald0 dX11_plan_134 ?_
      refine J_ild1 dX11_plan_135 ?_
      refine J_ild3 dX11_plan_136 ?_
      refine J_ild2 dX11_plan_137 ?_
      refine J_bipush (v := 10) dX11_plan_138 rfl ?_
      refine J_iremK dX11_plan_140 (by decide) ?_
      refine J_iadd dX11_plan_141 ?_
      refine J_cVP (jX11_planOf l cx n v1 ((6 : Int32) + (v2 - v2 / (10 : Int32) * (10 : Int32))) M) ck_RX11_200 dX11_plan_142 rfl kk_207 ⟨rfl, rfl, by decide, by decide⟩ ⟨Nat.zero_le _, Nat.zero_le _, Nat.le_of_ble_eq_true rfl⟩ (fun r5 => ?_)
      exact J_iret dX11_plan_145 rfl ⟨rfl, rfl, rfl⟩
  · refine J_bipush (v := -2) dX11_plan_95 rfl ?_
    exact J_iret dX11_plan_97 rfl ⟨rfl, rfl, rfl⟩
set_option maxRecDepth 100000 in
theorem jX11_plan (l : Launch) (cx : CX) (n : Nat) (a : Int32) (b : Int32) (M : Mem) : Con l cx ({ frames := 2, cells := 0, slots := 0, locals := 42 } : Room) yX11_plan cX11_plan 4 (some .int) 0 0 false 207 218 (EP M) GS [.ref 207, .int a, .int b] M (mX11_plan a b M) := by
  unfold mX11_plan
  refine Con.of (ls := [some (.ref 207), some (.int a), some (.int b), none]) (by decide) rfl (Nat.le_of_ble_eq_true rfl) ?_
  refine J_ild1 dX11_plan_0 ?_
  refine J_cSB (jX11_isPlan l cx n a M) ck_RX11_197 dX11_plan_1 rfl ⟨rfl, rfl, by decide, by decide⟩ ⟨Nat.zero_le _, Nat.zero_le _, Nat.le_of_ble_eq_true rfl⟩ (fun r6 z7 => ?_)
  refine J_if_ne 9 dX11_plan_4 rfl ?_ ?_
  · refine J_ild2 dX11_plan_9 ?_
    refine J_iconst (v := 0) dX11_plan_10 rfl ?_
    refine J_iconst (v := 5) dX11_plan_11 rfl ?_
    refine J_cSB (jX11_in l cx n b (0 : Int32) (5 : Int32) M) ck_RX11_56 dX11_plan_12 rfl ⟨rfl, rfl, by decide, by decide⟩ ⟨Nat.zero_le _, Nat.zero_le _, Nat.le_of_ble_eq_true rfl⟩ (fun r8 z9 => ?_)
    refine J_if_eq 25 dX11_plan_15 rfl ?_ ?_
    · refine J_ild2 dX11_plan_25 ?_
      refine J_bipush (v := 10) dX11_plan_26 rfl ?_
      refine J_bipush (v := 13) dX11_plan_28 rfl ?_
      refine J_cSB (jX11_in l cx n b (10 : Int32) (13 : Int32) M) ck_RX11_56 dX11_plan_30 rfl ⟨rfl, rfl, by decide, by decide⟩ ⟨Nat.zero_le _, Nat.zero_le _, Nat.le_of_ble_eq_true rfl⟩ (fun r10 z11 => ?_)
      refine J_if_ne 71 dX11_plan_33 rfl ?_ ?_
      · refine J_ild2 dX11_plan_71 ?_
        refine J_bipush (v := 10) dX11_plan_72 rfl ?_
        refine J_iremK dX11_plan_74 (by decide) ?_
        refine J_ald0 dX11_plan_75 ?_
        refine J_ild1 dX11_plan_76 ?_
        refine J_ild2 dX11_plan_77 ?_
        refine J_bipush (v := 30) dX11_plan_78 rfl ?_
        refine J_ic_ge 87 dX11_plan_80 rfl ?_ ?_
        · refine J_bipush (v := 14) dX11_plan_87 rfl ?_
          exact J_wk (wk_s (wk_s (wk_s (wk_n wk_0)))) (jX11_plan_c89 (n := n))
        · refine J_iconst (v := 2) dX11_plan_83 rfl ?_
          refine J_goto 89 dX11_plan_84 rfl ?_
          exact J_wk (wk_s (wk_s (wk_s (wk_n wk_0)))) (jX11_plan_c89 (n := n))
      · refine J_ild2 dX11_plan_36 ?_
        refine J_bipush (v := 20) dX11_plan_37 rfl ?_
        refine J_bipush (v := 23) dX11_plan_39 rfl ?_
        refine J_cSB (jX11_in l cx n b (20 : Int32) (23 : Int32) M) ck_RX11_56 dX11_plan_41 rfl ⟨rfl, rfl, by decide, by decide⟩ ⟨Nat.zero_le _, Nat.zero_le _, Nat.le_of_ble_eq_true rfl⟩ (fun r12 z13 => ?_)
        refine J_if_ne 71 dX11_plan_44 rfl ?_ ?_
        · refine J_ild2 dX11_plan_71 ?_
          refine J_bipush (v := 10) dX11_plan_72 rfl ?_
          refine J_iremK dX11_plan_74 (by decide) ?_
          refine J_ald0 dX11_plan_75 ?_
          refine J_ild1 dX11_plan_76 ?_
          refine J_ild2 dX11_plan_77 ?_
          refine J_bipush (v := 30) dX11_plan_78 rfl ?_
          refine J_ic_ge 87 dX11_plan_80 rfl ?_ ?_
          · refine J_bipush (v := 14) dX11_plan_87 rfl ?_
            exact J_wk (wk_s (wk_s (wk_s (wk_n wk_0)))) (jX11_plan_c89 (n := n))
          · refine J_iconst (v := 2) dX11_plan_83 rfl ?_
            refine J_goto 89 dX11_plan_84 rfl ?_
            exact J_wk (wk_s (wk_s (wk_s (wk_n wk_0)))) (jX11_plan_c89 (n := n))
        · refine J_ild2 dX11_plan_47 ?_
          refine J_bipush (v := 30) dX11_plan_48 rfl ?_
          refine J_bipush (v := 32) dX11_plan_50 rfl ?_
          refine J_cSB (jX11_in l cx n b (30 : Int32) (32 : Int32) M) ck_RX11_56 dX11_plan_52 rfl ⟨rfl, rfl, by decide, by decide⟩ ⟨Nat.zero_le _, Nat.zero_le _, Nat.le_of_ble_eq_true rfl⟩ (fun r14 z15 => ?_)
          refine J_if_ne 71 dX11_plan_55 rfl ?_ ?_
          · refine J_ild2 dX11_plan_71 ?_
            refine J_bipush (v := 10) dX11_plan_72 rfl ?_
            refine J_iremK dX11_plan_74 (by decide) ?_
            refine J_ald0 dX11_plan_75 ?_
            refine J_ild1 dX11_plan_76 ?_
            refine J_ild2 dX11_plan_77 ?_
            refine J_bipush (v := 30) dX11_plan_78 rfl ?_
            refine J_ic_ge 87 dX11_plan_80 rfl ?_ ?_
            · refine J_bipush (v := 14) dX11_plan_87 rfl ?_
              exact J_wk (wk_s (wk_s (wk_s (wk_n wk_0)))) (jX11_plan_c89 (n := n))
            · refine J_iconst (v := 2) dX11_plan_83 rfl ?_
              refine J_goto 89 dX11_plan_84 rfl ?_
              exact J_wk (wk_s (wk_s (wk_s (wk_n wk_0)))) (jX11_plan_c89 (n := n))
          · refine J_ild2 dX11_plan_58 ?_
            refine J_bipush (v := 40) dX11_plan_59 rfl ?_
            refine J_bipush (v := 42) dX11_plan_61 rfl ?_
            refine J_cSB (jX11_in l cx n b (40 : Int32) (42 : Int32) M) ck_RX11_56 dX11_plan_63 rfl ⟨rfl, rfl, by decide, by decide⟩ ⟨Nat.zero_le _, Nat.zero_le _, Nat.le_of_ble_eq_true rfl⟩ (fun r16 z17 => ?_)
            refine J_if_ne 71 dX11_plan_66 rfl ?_ ?_
            · refine J_ild2 dX11_plan_71 ?_
              refine J_bipush (v := 10) dX11_plan_72 rfl ?_
              refine J_iremK dX11_plan_74 (by decide) ?_
              refine J_ald0 dX11_plan_75 ?_
              refine J_ild1 dX11_plan_76 ?_
              refine J_ild2 dX11_plan_77 ?_
              refine J_bipush (v := 30) dX11_plan_78 rfl ?_
              refine J_ic_ge 87 dX11_plan_80 rfl ?_ ?_
              · refine J_bipush (v := 14) dX11_plan_87 rfl ?_
                exact J_wk (wk_s (wk_s (wk_s (wk_n wk_0)))) (jX11_plan_c89 (n := n))
              · refine J_iconst (v := 2) dX11_plan_83 rfl ?_
                refine J_goto 89 dX11_plan_84 rfl ?_
                exact J_wk (wk_s (wk_s (wk_s (wk_n wk_0)))) (jX11_plan_c89 (n := n))
            · refine J_iconst (v := -1) dX11_plan_69 rfl ?_
              exact J_iret dX11_plan_70 rfl ⟨rfl, rfl, rfl⟩
    · refine J_ald0 dX11_plan_18 ?_
      refine J_ild1 dX11_plan_19 ?_
      refine J_ild2 dX11_plan_20 ?_
      refine J_cVP (jX11_planOf l cx n a b M) ck_RX11_200 dX11_plan_21 rfl kk_207 ⟨rfl, rfl, by decide, by decide⟩ ⟨Nat.zero_le _, Nat.zero_le _, Nat.le_of_ble_eq_true rfl⟩ (fun r18 => ?_)
      exact J_iret dX11_plan_24 rfl ⟨rfl, rfl, rfl⟩
  · refine J_iconst (v := -1) dX11_plan_7 rfl ?_
    exact J_iret dX11_plan_8 rfl ⟨rfl, rfl, rfl⟩
set_option maxRecDepth 100000 in
theorem jX11_usageOf_c74 {l : Launch} {cx : CX} {n : Nat} {M : Mem} {k22 : Int32 → Int32 → Int32 → Int32 → Int32 → Mem → Option Int32} (hk22 : ∀ {v1 : Int32} {v3 : Int32} {v4 : Int32} {v5 : Int32} {v6 : Int32}, JO l cx ({ frames := 1, cells := 0, slots := 0, locals := 22 } : Room) yX11_usageOf cX11_usageOf 8 (some .int) 0 0 false 207 218 (EP M) GS 0 0 22 [some (.ref 207), some (.int v1), none, some (.int v3), some (.int v4), some (.int v5), some (.int v6), none] [] M (k22 v1 v3 v4 v5 v6 M)) {v1 : Int32} {v3 : Int32} {v4 : Int32} {v5 : Int32} {v6 : Int32} {v7 : Int32} : JO l cx ({ frames := 1, cells := 0, slots := 0, locals := 22 } : Room) yX11_usageOf cX11_usageOf 8 (some .int) 0 0 false 207 218 (EP M) GS 0 0 74 [some (.ref 207), some (.int v1), none, some (.int v3), some (.int v4), some (.int v5), some (.int v6), some (.int v7)] [] M (mX11_usageOf_c74 n k22 v1 v3 v4 v5 v6 v7 M) := by
  unfold mX11_usageOf_c74
  refine J_ild4 dX11_usageOf_74 ?_
  refine J_iconst (v := 0) dX11_usageOf_76 rfl ?_
  refine J_ild3 dX11_usageOf_77 ?_
  refine J_ild7 dX11_usageOf_78 ?_
  refine J_cSP (jX11_min l cx n v3 v7 M) ck_RX11_46 dX11_usageOf_80 rfl ⟨rfl, rfl, by decide, by decide⟩ ⟨Nat.zero_le _, Nat.zero_le _, Nat.le_of_ble_eq_true rfl⟩ (fun r1 => ?_)
  refine J_ild5 dX11_usageOf_83 ?_
  refine J_isub dX11_usageOf_85 ?_
  refine J_cSP (jX11_max l cx n (0 : Int32) (r1 - v5) M) ck_RX11_203 dX11_usageOf_86 rfl ⟨rfl, rfl, by decide, by decide⟩ ⟨Nat.zero_le _, Nat.zero_le _, Nat.le_of_ble_eq_true rfl⟩ (fun r2 => ?_)
  refine J_ald0 dX11_usageOf_89 ?_
  refine J_ild1 dX11_usageOf_90 ?_
  refine J_bipush (v := 10) dX11_usageOf_91 rfl ?_
  refine J_ild6 dX11_usageOf_93 ?_
  refine J_iadd dX11_usageOf_95 ?_
  refine J_cVP (jX11_planOf l cx n v1 ((10 : Int32) + v6) M) ck_RX11_200 dX11_usageOf_96 rfl kk_207 ⟨rfl, rfl, by decide, by decide⟩ ⟨Nat.zero_le _, Nat.zero_le _, Nat.le_of_ble_eq_true rfl⟩ (fun r3 => ?_)
  refine J_imul dX11_usageOf_99 ?_
  refine J_iadd dX11_usageOf_100 ?_
  refine J_ist4 dX11_usageOf_101 (by decide) rfl ?_
  refine J_ild7 dX11_usageOf_103 ?_
  refine J_ist5 dX11_usageOf_105 (by decide) rfl ?_
  refine J_iinc6 (w := (v6 + (1 : Int32))) dX11_usageOf_107 (by decide) rfl rfl ?_
  refine J_goto 22 dX11_usageOf_110 rfl ?_
  exact J_wk (wk_s (wk_s (wk_n (wk_s (wk_s (wk_s (wk_s (wk_n wk_0)))))))) (hk22)
set_option maxRecDepth 100000 in
theorem jX11_usageOf_c22 {l : Launch} {cx : CX} {n : Nat} {M : Mem} : ∀ (f : Nat) {v1 : Int32} {v3 : Int32} {v4 : Int32} {v5 : Int32} {v6 : Int32}, JO l cx ({ frames := 1, cells := 0, slots := 0, locals := 22 } : Room) yX11_usageOf cX11_usageOf 8 (some .int) 0 0 false 207 218 (EP M) GS 0 0 22 [some (.ref 207), some (.int v1), none, some (.int v3), some (.int v4), some (.int v5), some (.int v6), none] [] M (mX11_usageOf_c22 n f v1 v3 v4 v5 v6 M) := by
  intro f
  induction f with
  | zero =>
    intros
    exact J_none
  | succ f ih =>
    intro v1 v3 v4 v5 v6
    unfold mX11_usageOf_c22
    refine J_ild6 dX11_usageOf_22 ?_
    refine J_ald0 dX11_usageOf_24 ?_
    refine J_ild1 dX11_usageOf_25 ?_
    refine J_iconst (v := 2) dX11_usageOf_26 rfl ?_
    refine J_cVP (jX11_planOf l cx n v1 (2 : Int32) M) ck_RX11_200 dX11_usageOf_27 rfl kk_207 ⟨rfl, rfl, by decide, by decide⟩ ⟨Nat.zero_le _, Nat.zero_le _, Nat.le_of_ble_eq_true rfl⟩ (fun r4 => ?_)
    refine J_ic_ge 113 dX11_usageOf_30 rfl ?_ ?_
    · refine J_ald0 dX11_usageOf_113 ?_
      refine J_ild1 dX11_usageOf_114 ?_
      refine J_iconst (v := 4) dX11_usageOf_115 rfl ?_
      refine J_cVP (jX11_planOf l cx n v1 (4 : Int32) M) ck_RX11_200 dX11_usageOf_116 rfl kk_207 ⟨rfl, rfl, by decide, by decide⟩ ⟨Nat.zero_le _, Nat.zero_le _, Nat.le_of_ble_eq_true rfl⟩ (fun r5 => ?_)
      refine J_iconst (v := 1) dX11_usageOf_119 rfl ?_
      refine J_ic_ne 134 dX11_usageOf_120 rfl ?_ ?_
      · refine J_ild4 dX11_usageOf_134 ?_
        refine J_iconst (v := 0) dX11_usageOf_136 rfl ?_
        refine J_ild3 dX11_usageOf_137 ?_
        refine J_ild5 dX11_usageOf_138 ?_
        refine J_isub dX11_usageOf_140 ?_
        refine J_cSP (jX11_max l cx n (0 : Int32) (v3 - v5) M) ck_RX11_203 dX11_usageOf_141 rfl ⟨rfl, rfl, by decide, by decide⟩ ⟨Nat.zero_le _, Nat.zero_le _, Nat.le_of_ble_eq_true rfl⟩ (fun r6 => ?_)
        refine J_ald0 dX11_usageOf_144 ?_
        refine J_ild1 dX11_usageOf_145 ?_
        refine J_iconst (v := 3) dX11_usageOf_146 rfl ?_
        refine J_cVP (jX11_planOf l cx n v1 (3 : Int32) M) ck_RX11_200 dX11_usageOf_147 rfl kk_207 ⟨rfl, rfl, by decide, by decide⟩ ⟨Nat.zero_le _, Nat.zero_le _, Nat.le_of_ble_eq_true rfl⟩ (fun r7 => ?_)
        refine J_imul dX11_usageOf_150 ?_
        refine J_iadd dX11_usageOf_151 ?_
        exact J_iret dX11_usageOf_152 rfl ⟨rfl, rfl, rfl⟩
      · refine J_ild3 dX11_usageOf_123 ?_
        refine J_ald0 dX11_usageOf_124 ?_
        refine J_ild1 dX11_usageOf_125 ?_
        refine J_iconst (v := 3) dX11_usageOf_126 rfl ?_
        refine J_cVP (jX11_planOf l cx n v1 (3 : Int32) M) ck_RX11_200 dX11_usageOf_127 rfl kk_207 ⟨rfl, rfl, by decide, by decide⟩ ⟨Nat.zero_le _, Nat.zero_le _, Nat.le_of_ble_eq_true rfl⟩ (fun r8 => ?_)
        refine J_imul dX11_usageOf_130 ?_
        refine J_goto 152 dX11_usageOf_131 rfl ?_
        exact J_iret dX11_usageOf_152 rfl ⟨rfl, rfl, rfl⟩
    · refine J_ald0 dX11_usageOf_33 ?_
      refine J_ild1 dX11_usageOf_34 ?_
      refine J_bipush (v := 6) dX11_usageOf_35 rfl ?_
      refine J_ild6 dX11_usageOf_37 ?_
      refine J_iadd dX11_usageOf_39 ?_
      refine J_cVP (jX11_planOf l cx n v1 ((6 : Int32) + v6) M) ck_RX11_200 dX11_usageOf_40 rfl kk_207 ⟨rfl, rfl, by decide, by decide⟩ ⟨Nat.zero_le _, Nat.zero_le _, Nat.le_of_ble_eq_true rfl⟩ (fun r9 => ?_)
      refine J_ist7 dX11_usageOf_43 (by decide) rfl ?_
      refine J_ald0 dX11_usageOf_45 ?_
      refine J_ild1 dX11_usageOf_46 ?_
      refine J_iconst (v := 4) dX11_usageOf_47 rfl ?_
      refine J_cVP (jX11_planOf l cx n v1 (4 : Int32) M) ck_RX11_200 dX11_usageOf_48 rfl kk_207 ⟨rfl, rfl, by decide, by decide⟩ ⟨Nat.zero_le _, Nat.zero_le _, Nat.le_of_ble_eq_true rfl⟩ (fun r10 => ?_)
      refine J_iconst (v := 1) dX11_usageOf_51 rfl ?_
      refine J_ic_ne 74 dX11_usageOf_52 rfl ?_ ?_
      · exact J_wk (wk_s (wk_s (wk_n (wk_s (wk_s (wk_s (wk_s (wk_s wk_0)))))))) (jX11_usageOf_c74 (n := n) ih)
      · refine J_ild3 dX11_usageOf_55 ?_
        refine J_ild7 dX11_usageOf_56 ?_
        refine J_ic_gt 74 dX11_usageOf_58 rfl ?_ ?_
        · exact J_wk (wk_s (wk_s (wk_n (wk_s (wk_s (wk_s (wk_s (wk_s wk_0)))))))) (jX11_usageOf_c74 (n := n) ih)
        · refine J_ild3 dX11_usageOf_61 ?_
          refine J_ald0 dX11_usageOf_62 ?_
          refine J_ild1 dX11_usageOf_63 ?_
          refine J_bipush (v := 10) dX11_usageOf_64 rfl ?_
          refine J_ild6 dX11_usageOf_66 ?_
          refine J_iadd dX11_usageOf_68 ?_
          refine J_cVP (jX11_planOf l cx n v1 ((10 : Int32) + v6) M) ck_RX11_200 dX11_usageOf_69 rfl kk_207 ⟨rfl, rfl, by decide, by decide⟩ ⟨Nat.zero_le _, Nat.zero_le _, Nat.le_of_ble_eq_true rfl⟩ (fun r11 => ?_)
          refine J_imul dX11_usageOf_72 ?_
          exact J_iret dX11_usageOf_73 rfl ⟨rfl, rfl, rfl⟩
set_option maxRecDepth 100000 in
theorem jX11_usageOf (l : Launch) (cx : CX) (n : Nat) (a : Int32) (b : Int32) (M : Mem) : Con l cx ({ frames := 1, cells := 0, slots := 0, locals := 22 } : Room) yX11_usageOf cX11_usageOf 8 (some .int) 0 0 false 207 218 (EP M) GS [.ref 207, .int a, .int b] M (mX11_usageOf n a b M) := by
  unfold mX11_usageOf
  refine Con.of (ls := [some (.ref 207), some (.int a), some (.int b), none, none, none, none, none]) (by decide) rfl (Nat.le_of_ble_eq_true rfl) ?_
  refine J_iconst (v := 0) dX11_usageOf_0 rfl ?_
  refine J_ild2 dX11_usageOf_1 ?_
  refine J_ald0 dX11_usageOf_2 ?_
  refine J_ild1 dX11_usageOf_3 ?_
  refine J_iconst (v := 1) dX11_usageOf_4 rfl ?_
  refine J_cVP (jX11_planOf l cx n a (1 : Int32) M) ck_RX11_200 dX11_usageOf_5 rfl kk_207 ⟨rfl, rfl, by decide, by decide⟩ ⟨Nat.zero_le _, Nat.zero_le _, Nat.le_of_ble_eq_true rfl⟩ (fun r12 => ?_)
  refine J_isub dX11_usageOf_8 ?_
  refine J_cSP (jX11_max l cx n (0 : Int32) (b - r12) M) ck_RX11_203 dX11_usageOf_9 rfl ⟨rfl, rfl, by decide, by decide⟩ ⟨Nat.zero_le _, Nat.zero_le _, Nat.le_of_ble_eq_true rfl⟩ (fun r13 => ?_)
  refine J_ist3 dX11_usageOf_12 (by decide) rfl ?_
  refine J_iconst (v := 0) dX11_usageOf_13 rfl ?_
  refine J_ist4 dX11_usageOf_14 (by decide) rfl ?_
  refine J_iconst (v := 0) dX11_usageOf_16 rfl ?_
  refine J_ist5 dX11_usageOf_17 (by decide) rfl ?_
  refine J_iconst (v := 0) dX11_usageOf_19 rfl ?_
  refine J_ist6 dX11_usageOf_20 (by decide) rfl ?_
  exact J_wk (wk_s (wk_s (wk_n (wk_s (wk_s (wk_s (wk_s (wk_n wk_0)))))))) (jX11_usageOf_c22 (n := n) n)
set_option maxRecDepth 100000 in
theorem jX11_usage (l : Launch) (cx : CX) (n : Nat) (a : Int32) (b : Int32) (M : Mem) : Con l cx ({ frames := 2, cells := 0, slots := 0, locals := 49 } : Room) yX11_usage cX11_usage 3 (some .int) 0 0 false 207 218 (EP M) GS [.ref 207, .int a, .int b] M (mX11_usage n a b M) := by
  unfold mX11_usage
  refine Con.of (ls := [some (.ref 207), some (.int a), some (.int b)]) (by decide) rfl (Nat.le_of_ble_eq_true rfl) ?_
  refine J_ild1 dX11_usage_0 ?_
  refine J_cSB (jX11_isPlan l cx n a M) ck_RX11_197 dX11_usage_1 rfl ⟨rfl, rfl, by decide, by decide⟩ ⟨Nat.zero_le _, Nat.zero_le _, Nat.le_of_ble_eq_true rfl⟩ (fun r1 z2 => ?_)
  refine J_if_eq 27 dX11_usage_4 rfl ?_ ?_
  · refine J_iconst (v := -1) dX11_usage_27 rfl ?_
    exact J_iret dX11_usage_28 rfl ⟨rfl, rfl, rfl⟩
  · refine J_ild2 dX11_usage_7 ?_
    refine J_iconst (v := 0) dX11_usage_8 rfl ?_
    refine J_sipush (v := 9999) dX11_usage_9 rfl ?_
    refine J_cSB (jX11_in l cx n b (0 : Int32) (9999 : Int32) M) ck_RX11_56 dX11_usage_12 rfl ⟨rfl, rfl, by decide, by decide⟩ ⟨Nat.zero_le _, Nat.zero_le _, Nat.le_of_ble_eq_true rfl⟩ (fun r3 z4 => ?_)
    refine J_if_eq 27 dX11_usage_15 rfl ?_ ?_
    · refine J_iconst (v := -1) dX11_usage_27 rfl ?_
      exact J_iret dX11_usage_28 rfl ⟨rfl, rfl, rfl⟩
    · refine J_ald0 dX11_usage_18 ?_
      refine J_ild1 dX11_usage_19 ?_
      refine J_ild2 dX11_usage_20 ?_
      refine J_cVP (jX11_usageOf l cx n a b M) ck_RX11_206 dX11_usage_21 rfl kk_207 ⟨rfl, rfl, by decide, by decide⟩ ⟨Nat.zero_le _, Nat.zero_le _, Nat.le_of_ble_eq_true rfl⟩ (fun r5 => ?_)
      refine J_goto 28 dX11_usage_24 rfl ?_
      exact J_iret dX11_usage_28 rfl ⟨rfl, rfl, rfl⟩
set_option maxRecDepth 100000 in
theorem jX11_units_c21 {l : Launch} {cx : CX} {n : Nat} {M : Mem} : ∀ (f : Nat) {v1 : Int32} {v2 : Int32} {v3 : Int32}, JO l cx ({ frames := 2, cells := 0, slots := 0, locals := 49 } : Room) yX11_units cX11_units 4 (some .int) 0 0 false 207 218 (EP M) GS 0 0 21 [some (.ref 207), some (.int v1), some (.int v2), some (.int v3)] [] M (mX11_units_c21 n f v1 v2 v3 M) := by
  intro f
  induction f with
  | zero =>
    intros
    exact J_none
  | succ f ih =>
    intro v1 v2 v3
    unfold mX11_units_c21
    refine J_ild3 dX11_units_21 ?_
    refine J_sipush (v := 9999) dX11_units_22 rfl ?_
    refine J_ic_ge 47 dX11_units_25 rfl ?_ ?_
    · refine J_ild3 dX11_units_47 ?_
      exact J_iret dX11_units_48 rfl ⟨rfl, rfl, rfl⟩
    · refine J_ald0 dX11_units_28 ?_
      refine J_ild1 dX11_units_29 ?_
      refine J_ild3 dX11_units_30 ?_
      refine J_iconst (v := 1) dX11_units_31 rfl ?_
      refine J_iadd dX11_units_32 ?_
      refine J_cVP (jX11_usageOf l cx n v1 (v3 + (1 : Int32)) M) ck_RX11_206 dX11_units_33 rfl kk_207 ⟨rfl, rfl, by decide, by decide⟩ ⟨Nat.zero_le _, Nat.zero_le _, Nat.le_of_ble_eq_true rfl⟩ (fun r1 => ?_)
      refine J_ild2 dX11_units_36 ?_
      refine J_ic_gt 47 dX11_units_37 rfl ?_ ?_
      · refine J_ild3 dX11_units_47 ?_
        exact J_iret dX11_units_48 rfl ⟨rfl, rfl, rfl⟩
      · refine J_ild3 dX11_units_40 ?_
        refine J_iconst (v := 1) dX11_units_41 rfl ?_
        refine J_iadd dX11_units_42 ?_
        refine J_ist3 dX11_units_43 (by decide) rfl ?_
        refine J_goto 21 dX11_units_44 rfl ?_
        exact J_wk (wk_s (wk_s (wk_s (wk_s wk_0)))) (ih)
set_option maxRecDepth 100000 in
theorem jX11_units (l : Launch) (cx : CX) (n : Nat) (a : Int32) (b : Int32) (M : Mem) : Con l cx ({ frames := 2, cells := 0, slots := 0, locals := 49 } : Room) yX11_units cX11_units 4 (some .int) 0 0 false 207 218 (EP M) GS [.ref 207, .int a, .int b] M (mX11_units n a b M) := by
  unfold mX11_units
  refine Con.of (ls := [some (.ref 207), some (.int a), some (.int b), none]) (by decide) rfl (Nat.le_of_ble_eq_true rfl) ?_
  refine J_ild1 dX11_units_0 ?_
  refine J_cSB (jX11_isPlan l cx n a M) ck_RX11_197 dX11_units_1 rfl ⟨rfl, rfl, by decide, by decide⟩ ⟨Nat.zero_le _, Nat.zero_le _, Nat.le_of_ble_eq_true rfl⟩ (fun r2 z3 => ?_)
  refine J_if_eq 17 dX11_units_4 rfl ?_ ?_
  · refine J_iconst (v := -1) dX11_units_17 rfl ?_
    exact J_iret dX11_units_18 rfl ⟨rfl, rfl, rfl⟩
  · refine J_ild2 dX11_units_7 ?_
    refine J_iconst (v := 0) dX11_units_8 rfl ?_
    refine J_ldc dX11_units_9 wd_62 ?_
    refine J_cSB (jX11_in l cx n b (0 : Int32) (99999999 : Int32) M) ck_RX11_56 dX11_units_11 rfl ⟨rfl, rfl, by decide, by decide⟩ ⟨Nat.zero_le _, Nat.zero_le _, Nat.le_of_ble_eq_true rfl⟩ (fun r4 z5 => ?_)
    refine J_if_ne 19 dX11_units_14 rfl ?_ ?_
    · refine J_iconst (v := 0) dX11_units_19 rfl ?_
      refine J_ist3 dX11_units_20 (by decide) rfl ?_
      exact J_wk (wk_s (wk_s (wk_s (wk_s wk_0)))) (jX11_units_c21 (n := n) n)
    · refine J_iconst (v := -1) dX11_units_17 rfl ?_
      exact J_iret dX11_units_18 rfl ⟨rfl, rfl, rfl⟩
set_option maxRecDepth 100000 in
theorem jX11_cheapest_c17 {l : Launch} {cx : CX} {n : Nat} {M : Mem} : ∀ (f : Nat) {v1 : Int32} {v2 : Int32} {v3 : Int32}, JO l cx ({ frames := 2, cells := 0, slots := 0, locals := 49 } : Room) yX11_cheapest cX11_cheapest 4 (some .int) 0 0 false 207 218 (EP M) GS 0 0 17 [some (.ref 207), some (.int v1), some (.int v2), some (.int v3)] [] M (mX11_cheapest_c17 n f v1 v2 v3 M) := by
  intro f
  induction f with
  | zero =>
    intros
    exact J_none
  | succ f ih =>
    intro v1 v2 v3
    unfold mX11_cheapest_c17
    refine J_ild3 dX11_cheapest_17 ?_
    refine J_bipush (v := 6) dX11_cheapest_18 rfl ?_
    refine J_ic_ge 60 dX11_cheapest_20 rfl ?_ ?_
    · refine J_ild2 dX11_cheapest_60 ?_
      exact J_iret dX11_cheapest_61 rfl ⟨rfl, rfl, rfl⟩
    · refine J_ald0 dX11_cheapest_23 ?_
      refine J_ild3 dX11_cheapest_24 ?_
      refine J_ild1 dX11_cheapest_25 ?_
      refine J_cVP (jX11_usageOf l cx n v3 v1 M) ck_RX11_206 dX11_cheapest_26 rfl kk_207 ⟨rfl, rfl, by decide, by decide⟩ ⟨Nat.zero_le _, Nat.zero_le _, Nat.le_of_ble_eq_true rfl⟩ (fun r1 => ?_)
      refine J_ald0 dX11_cheapest_29 ?_
      refine J_ild3 dX11_cheapest_30 ?_
      refine J_iconst (v := 0) dX11_cheapest_31 rfl ?_
      refine J_cVP (jX11_planOf l cx n v3 (0 : Int32) M) ck_RX11_200 dX11_cheapest_32 rfl kk_207 ⟨rfl, rfl, by decide, by decide⟩ ⟨Nat.zero_le _, Nat.zero_le _, Nat.le_of_ble_eq_true rfl⟩ (fun r2 => ?_)
      refine J_iadd dX11_cheapest_35 ?_
      refine J_ald0 dX11_cheapest_36 ?_
      refine J_ild2 dX11_cheapest_37 ?_
      refine J_ild1 dX11_cheapest_38 ?_
      refine J_cVP (jX11_usageOf l cx n v2 v1 M) ck_RX11_206 dX11_cheapest_39 rfl kk_207 ⟨rfl, rfl, by decide, by decide⟩ ⟨Nat.zero_le _, Nat.zero_le _, Nat.le_of_ble_eq_true rfl⟩ (fun r3 => ?_)
      refine J_ald0 dX11_cheapest_42 ?_
      refine J_ild2 dX11_cheapest_43 ?_
      refine J_iconst (v := 0) dX11_cheapest_44 rfl ?_
      refine J_cVP (jX11_planOf l cx n v2 (0 : Int32) M) ck_RX11_200 dX11_cheapest_45 rfl kk_207 ⟨rfl, rfl, by decide, by decide⟩ ⟨Nat.zero_le _, Nat.zero_le _, Nat.le_of_ble_eq_true rfl⟩ (fun r4 => ?_)
      refine J_iadd dX11_cheapest_48 ?_
      refine J_ic_ge 54 dX11_cheapest_49 rfl ?_ ?_
      · refine J_iinc3 (w := (v3 + (1 : Int32))) dX11_cheapest_54 (by decide) rfl rfl ?_
        refine J_goto 17 dX11_cheapest_57 rfl ?_
        exact J_wk (wk_s (wk_s (wk_s (wk_s wk_0)))) (ih)
      · refine J_ild3 dX11_cheapest_52 ?_
        refine J_ist2 dX11_cheapest_53 (by decide) rfl ?_
        refine J_iinc3 (w := (v3 + (1 : Int32))) dX11_cheapest_54 (by decide) rfl rfl ?_
        refine J_goto 17 dX11_cheapest_57 rfl ?_
        exact J_wk (wk_s (wk_s (wk_s (wk_s wk_0)))) (ih)
set_option maxRecDepth 100000 in
theorem jX11_cheapest (l : Launch) (cx : CX) (n : Nat) (a : Int32) (M : Mem) : Con l cx ({ frames := 2, cells := 0, slots := 0, locals := 49 } : Room) yX11_cheapest cX11_cheapest 4 (some .int) 0 0 false 207 218 (EP M) GS [.ref 207, .int a] M (mX11_cheapest n a M) := by
  unfold mX11_cheapest
  refine Con.of (ls := [some (.ref 207), some (.int a), none, none]) (by decide) rfl (Nat.le_of_ble_eq_true rfl) ?_
  refine J_ild1 dX11_cheapest_0 ?_
  refine J_iconst (v := 0) dX11_cheapest_1 rfl ?_
  refine J_sipush (v := 9999) dX11_cheapest_2 rfl ?_
  refine J_cSB (jX11_in l cx n a (0 : Int32) (9999 : Int32) M) ck_RX11_56 dX11_cheapest_5 rfl ⟨rfl, rfl, by decide, by decide⟩ ⟨Nat.zero_le _, Nat.zero_le _, Nat.le_of_ble_eq_true rfl⟩ (fun r5 z6 => ?_)
  refine J_if_ne 13 dX11_cheapest_8 rfl ?_ ?_
  · refine J_iconst (v := 0) dX11_cheapest_13 rfl ?_
    refine J_ist2 dX11_cheapest_14 (by decide) rfl ?_
    refine J_iconst (v := 1) dX11_cheapest_15 rfl ?_
    refine J_ist3 dX11_cheapest_16 (by decide) rfl ?_
    exact J_wk (wk_s (wk_s (wk_s (wk_s wk_0)))) (jX11_cheapest_c17 (n := n) n)
  · refine J_iconst (v := -1) dX11_cheapest_11 rfl ?_
    exact J_iret dX11_cheapest_12 rfl ⟨rfl, rfl, rfl⟩
set_option maxRecDepth 100000 in
theorem jX11_of (l : Launch) (cx : CX) (n : Nat) (a : Int32) (b : Int32) (M : Mem) : Con l cx ({ frames := 0, cells := 0, slots := 0, locals := 0 } : Room) yX11_of cX11_of 3 (some .int) 0 0 false 207 218 (EP M) GS [.ref 207, .int a, .int b] M (mX11_of a b M) := by
  unfold mX11_of
  refine Con.of (ls := [some (.ref 207), some (.int a), some (.int b)]) (by decide) rfl (Nat.le_of_ble_eq_true rfl) ?_
  refine J_ald0 dX11_of_0 ?_
  refine J_getr (q := 209) fl_RX11_13 dX11_of_1 kk_207 rfl (rf_11_1 kk_207) ?_
  refine J_sipush (v := 170) dX11_of_4 rfl ?_
  refine J_bipush (v := 12) dX11_of_7 rfl ?_
  refine J_ild1 dX11_of_9 ?_
  refine J_imul dX11_of_10 ?_
  refine J_iadd dX11_of_11 ?_
  refine J_ild2 dX11_of_12 ?_
  refine J_iadd dX11_of_13 ?_
  refine J_iald dX11_of_14 kk_209 rfl ?_
  exact J_iret dX11_of_15 rfl ⟨rfl, rfl, rfl⟩
set_option maxRecDepth 100000 in
theorem jX11_sets (l : Launch) (cx : CX) (n : Nat) (a : Int32) (b : Int32) (c : Int32) (M : Mem) : Con l cx ({ frames := 0, cells := 0, slots := 0, locals := 0 } : Room) yX11_sets cX11_sets 4 none 0 0 false 207 218 EV GS [.ref 207, .int a, .int b, .int c] M (mX11_sets a b c M) := by
  unfold mX11_sets
  refine Con.of (ls := [some (.ref 207), some (.int a), some (.int b), some (.int c)]) (by decide) rfl (Nat.le_of_ble_eq_true rfl) ?_
  refine J_ald0 dX11_sets_0 ?_
  refine J_getr (q := 209) fl_RX11_13 dX11_sets_1 kk_207 rfl (rf_11_1 kk_207) ?_
  refine J_sipush (v := 170) dX11_sets_4 rfl ?_
  refine J_bipush (v := 12) dX11_sets_7 rfl ?_
  refine J_ild1 dX11_sets_9 ?_
  refine J_imul dX11_sets_10 ?_
  refine J_iadd dX11_sets_11 ?_
  refine J_ild2 dX11_sets_12 ?_
  refine J_iadd dX11_sets_13 ?_
  refine J_ild3 dX11_sets_14 ?_
  refine J_iast dX11_sets_15 kk_209 rfl ?_
  exact J_vret dX11_sets_16 rfl ⟨rfl, rfl, rfl⟩
set_option maxRecDepth 100000 in
theorem jX11_isNumber (l : Launch) (cx : CX) (n : Nat) (a : Int32) (M : Mem) : Con l cx ({ frames := 1, cells := 0, slots := 0, locals := 22 } : Room) yX11_isNumber cX11_isNumber 1 (some .boolean) 0 0 false 207 218 (EB M) GS [.int a] M (mX11_isNumber a) := by
  unfold mX11_isNumber
  refine Con.of (ls := [some (.int a)]) (by decide) rfl (Nat.le_of_ble_eq_true rfl) ?_
  refine J_ild0 dX11_isNumber_0 ?_
  refine J_iconst (v := 0) dX11_isNumber_1 rfl ?_
  refine J_iconst (v := 5) dX11_isNumber_2 rfl ?_
  refine J_cSB (jX11_in l cx n a (0 : Int32) (5 : Int32) M) ck_RX11_56 dX11_isNumber_3 rfl ⟨rfl, rfl, by decide, by decide⟩ ⟨Nat.zero_le _, Nat.zero_le _, Nat.le_of_ble_eq_true rfl⟩ (fun r1 z2 => ?_)
  exact J_zret dX11_isNumber_6 rfl z2 ⟨rfl, rfl, rfl, z2⟩
set_option maxRecDepth 100000 in
theorem jX11_isBegun (l : Launch) (cx : CX) (n : Nat) (a : Int32) (M : Mem) : Con l cx ({ frames := 2, cells := 0, slots := 0, locals := 42 } : Room) yX11_isBegun cX11_isBegun 2 (some .boolean) 0 0 false 207 218 (EB M) GS [.ref 207, .int a] M (mX11_isBegun a M) := by
  unfold mX11_isBegun
  refine Con.of (ls := [some (.ref 207), some (.int a)]) (by decide) rfl (Nat.le_of_ble_eq_true rfl) ?_
  refine J_ild1 dX11_isBegun_0 ?_
  refine J_cSB (jX11_isNumber l cx n a M) ck_RX11_210 dX11_isBegun_1 rfl ⟨rfl, rfl, by decide, by decide⟩ ⟨Nat.zero_le _, Nat.zero_le _, Nat.le_of_ble_eq_true rfl⟩ (fun r1 z2 => ?_)
  refine J_if_eq 21 dX11_isBegun_4 rfl ?_ ?_
  · refine J_iconst (v := 0) dX11_isBegun_21 rfl ?_
    exact J_zret dX11_isBegun_22 rfl (Or.inl rfl) ⟨rfl, rfl, rfl, (Or.inl rfl)⟩
  · refine J_ald0 dX11_isBegun_7 ?_
    refine J_ild1 dX11_isBegun_8 ?_
    refine J_iconst (v := 0) dX11_isBegun_9 rfl ?_
    refine J_cVP (jX11_of l cx n a (0 : Int32) M) ck_RX11_213 dX11_isBegun_10 rfl kk_207 ⟨rfl, rfl, by decide, by decide⟩ ⟨Nat.zero_le _, Nat.zero_le _, Nat.le_of_ble_eq_true rfl⟩ (fun r3 => ?_)
    refine J_iconst (v := 1) dX11_isBegun_13 rfl ?_
    refine J_ic_ne 21 dX11_isBegun_14 rfl ?_ ?_
    · refine J_iconst (v := 0) dX11_isBegun_21 rfl ?_
      exact J_zret dX11_isBegun_22 rfl (Or.inl rfl) ⟨rfl, rfl, rfl, (Or.inl rfl)⟩
    · refine J_iconst (v := 1) dX11_isBegun_17 rfl ?_
      refine J_goto 22 dX11_isBegun_18 rfl ?_
      exact J_zret dX11_isBegun_22 rfl (Or.inr rfl) ⟨rfl, rfl, rfl, (Or.inr rfl)⟩
set_option maxRecDepth 100000 in
theorem jX11_isOn (l : Launch) (cx : CX) (n : Nat) (a : Int32) (M : Mem) : Con l cx ({ frames := 3, cells := 0, slots := 0, locals := 63 } : Room) yX11_isOn cX11_isOn 2 (some .boolean) 0 0 false 207 218 (EB M) GS [.ref 207, .int a] M (mX11_isOn a M) := by
  unfold mX11_isOn
  refine Con.of (ls := [some (.ref 207), some (.int a)]) (by decide) rfl (Nat.le_of_ble_eq_true rfl) ?_
  refine J_ald0 dX11_isOn_0 ?_
  refine J_ild1 dX11_isOn_1 ?_
  refine J_cVB (jX11_isBegun l cx n a M) ck_RX11_216 dX11_isOn_2 rfl kk_207 ⟨rfl, rfl, by decide, by decide⟩ ⟨Nat.zero_le _, Nat.zero_le _, Nat.le_of_ble_eq_true rfl⟩ (fun r1 z2 => ?_)
  refine J_if_eq 22 dX11_isOn_5 rfl ?_ ?_
  · refine J_iconst (v := 0) dX11_isOn_22 rfl ?_
    exact J_zret dX11_isOn_23 rfl (Or.inl rfl) ⟨rfl, rfl, rfl, (Or.inl rfl)⟩
  · refine J_ald0 dX11_isOn_8 ?_
    refine J_ild1 dX11_isOn_9 ?_
    refine J_bipush (v := 8) dX11_isOn_10 rfl ?_
    refine J_cVP (jX11_of l cx n a (8 : Int32) M) ck_RX11_213 dX11_isOn_12 rfl kk_207 ⟨rfl, rfl, by decide, by decide⟩ ⟨Nat.zero_le _, Nat.zero_le _, Nat.le_of_ble_eq_true rfl⟩ (fun r3 => ?_)
    refine J_if_ne 22 dX11_isOn_15 rfl ?_ ?_
    · refine J_iconst (v := 0) dX11_isOn_22 rfl ?_
      exact J_zret dX11_isOn_23 rfl (Or.inl rfl) ⟨rfl, rfl, rfl, (Or.inl rfl)⟩
    · refine J_iconst (v := 1) dX11_isOn_18 rfl ?_
      refine J_goto 23 dX11_isOn_19 rfl ?_
      exact J_zret dX11_isOn_23 rfl (Or.inr rfl) ⟨rfl, rfl, rfl, (Or.inr rfl)⟩
set_option maxRecDepth 100000 in
theorem jX11_entryOf (l : Launch) (cx : CX) (n : Nat) (a : Int32) (b : Int32) (M : Mem) : Con l cx ({ frames := 0, cells := 0, slots := 0, locals := 0 } : Room) yX11_entryOf cX11_entryOf 3 (some .int) 0 0 false 207 218 (EP M) GS [.ref 207, .int a, .int b] M (mX11_entryOf a b M) := by
  unfold mX11_entryOf
  refine Con.of (ls := [some (.ref 207), some (.int a), some (.int b)]) (by decide) rfl (Nat.le_of_ble_eq_true rfl) ?_
  refine J_ald0 dX11_entryOf_0 ?_
  refine J_getr (q := 209) fl_RX11_13 dX11_entryOf_1 kk_207 rfl (rf_11_1 kk_207) ?_
  refine J_sipush (v := 250) dX11_entryOf_4 rfl ?_
  refine J_bipush (v := 10) dX11_entryOf_7 rfl ?_
  refine J_ild1 dX11_entryOf_9 ?_
  refine J_imul dX11_entryOf_10 ?_
  refine J_iadd dX11_entryOf_11 ?_
  refine J_ild2 dX11_entryOf_12 ?_
  refine J_iadd dX11_entryOf_13 ?_
  refine J_iald dX11_entryOf_14 kk_209 rfl ?_
  exact J_iret dX11_entryOf_15 rfl ⟨rfl, rfl, rfl⟩
set_option maxRecDepth 100000 in
theorem jX11_writes (l : Launch) (cx : CX) (n : Nat) (a : Int32) (b : Int32) (c : Int32) (d : Int32) (e0 : Int32) (M : Mem) : Con l cx ({ frames := 1, cells := 0, slots := 0, locals := 22 } : Room) yX11_writes cX11_writes 7 (some .int) 0 0 false 207 218 EI GS [.ref 207, .int a, .int b, .int c, .int d, .int e0] M (mX11_writes a b c d e0 M) := by
  unfold mX11_writes
  refine Con.of (ls := [some (.ref 207), some (.int a), some (.int b), some (.int c), some (.int d), some (.int e0), none]) (by decide) rfl (Nat.le_of_ble_eq_true rfl) ?_
  refine J_sipush (v := 250) dX11_writes_0 rfl ?_
  refine J_bipush (v := 10) dX11_writes_3 rfl ?_
  refine J_ald0 dX11_writes_5 ?_
  refine J_getr (q := 209) fl_RX11_13 dX11_writes_6 kk_207 rfl (rf_11_1 kk_207) ?_
  refine J_iconst (v := 1) dX11_writes_9 rfl ?_
  refine J_iald dX11_writes_10 kk_209 rfl ?_
  refine J_imul dX11_writes_11 ?_
  refine J_iadd dX11_writes_12 ?_
  refine J_ist6 dX11_writes_13 (by decide) rfl ?_
  refine J_ald0 dX11_writes_15 ?_
  refine J_getr (q := 209) fl_RX11_13 dX11_writes_16 kk_207 rfl (rf_11_1 kk_207) ?_
  refine J_ild6 dX11_writes_19 ?_
  refine J_ild1 dX11_writes_21 ?_
  refine J_iast dX11_writes_22 kk_209 rfl ?_
  refine J_lt (fun M1 => ?_)
  refine J_ald0 dX11_writes_23 ?_
  refine J_getr (q := 209) fl_RX11_13 dX11_writes_24 kk_207 rfl (rf_11_1 kk_207) ?_
  refine J_ild6 dX11_writes_27 ?_
  refine J_iconst (v := 1) dX11_writes_29 rfl ?_
  refine J_iadd dX11_writes_30 ?_
  refine J_ild2 dX11_writes_31 ?_
  refine J_iast dX11_writes_32 kk_209 rfl ?_
  refine J_lt (fun M2 => ?_)
  refine J_ald0 dX11_writes_33 ?_
  refine J_getr (q := 209) fl_RX11_13 dX11_writes_34 kk_207 rfl (rf_11_1 kk_207) ?_
  refine J_ild6 dX11_writes_37 ?_
  refine J_iconst (v := 2) dX11_writes_39 rfl ?_
  refine J_iadd dX11_writes_40 ?_
  refine J_ald0 dX11_writes_41 ?_
  refine J_getr (q := 209) fl_RX11_13 dX11_writes_42 kk_207 rfl (rf_11_1 kk_207) ?_
  refine J_iconst (v := 0) dX11_writes_45 rfl ?_
  refine J_iald dX11_writes_46 kk_209 rfl ?_
  refine J_iast dX11_writes_47 kk_209 rfl ?_
  refine J_lt (fun M3 => ?_)
  refine J_ald0 dX11_writes_48 ?_
  refine J_getr (q := 209) fl_RX11_13 dX11_writes_49 kk_207 rfl (rf_11_1 kk_207) ?_
  refine J_ild6 dX11_writes_52 ?_
  refine J_iconst (v := 3) dX11_writes_54 rfl ?_
  refine J_iadd dX11_writes_55 ?_
  refine J_ald0 dX11_writes_56 ?_
  refine J_ild2 dX11_writes_57 ?_
  refine J_iconst (v := 3) dX11_writes_58 rfl ?_
  refine J_cVP (jX11_of l cx n b (3 : Int32) M3) ck_RX11_213 dX11_writes_59 rfl kk_207 ⟨rfl, rfl, by decide, by decide⟩ ⟨Nat.zero_le _, Nat.zero_le _, Nat.le_of_ble_eq_true rfl⟩ (fun r4 => ?_)
  refine J_iast dX11_writes_62 kk_209 rfl ?_
  refine J_lt (fun M5 => ?_)
  refine J_ald0 dX11_writes_63 ?_
  refine J_getr (q := 209) fl_RX11_13 dX11_writes_64 kk_207 rfl (rf_11_1 kk_207) ?_
  refine J_ild6 dX11_writes_67 ?_
  refine J_iconst (v := 4) dX11_writes_69 rfl ?_
  refine J_iadd dX11_writes_70 ?_
  refine J_ild3 dX11_writes_71 ?_
  refine J_iast dX11_writes_72 kk_209 rfl ?_
  refine J_lt (fun M6 => ?_)
  refine J_ald0 dX11_writes_73 ?_
  refine J_getr (q := 209) fl_RX11_13 dX11_writes_74 kk_207 rfl (rf_11_1 kk_207) ?_
  refine J_ild6 dX11_writes_77 ?_
  refine J_iconst (v := 5) dX11_writes_79 rfl ?_
  refine J_iadd dX11_writes_80 ?_
  refine J_ild4 dX11_writes_81 ?_
  refine J_iast dX11_writes_83 kk_209 rfl ?_
  refine J_lt (fun M7 => ?_)
  refine J_ald0 dX11_writes_84 ?_
  refine J_getr (q := 209) fl_RX11_13 dX11_writes_85 kk_207 rfl (rf_11_1 kk_207) ?_
  refine J_ild6 dX11_writes_88 ?_
  refine J_bipush (v := 6) dX11_writes_90 rfl ?_
  refine J_iadd dX11_writes_92 ?_
  refine J_ald0 dX11_writes_93 ?_
  refine J_ild2 dX11_writes_94 ?_
  refine J_iconst (v := 1) dX11_writes_95 rfl ?_
  refine J_cVP (jX11_of l cx n b (1 : Int32) M7) ck_RX11_213 dX11_writes_96 rfl kk_207 ⟨rfl, rfl, by decide, by decide⟩ ⟨Nat.zero_le _, Nat.zero_le _, Nat.le_of_ble_eq_true rfl⟩ (fun r8 => ?_)
  refine J_iast dX11_writes_99 kk_209 rfl ?_
  refine J_lt (fun M9 => ?_)
  refine J_ald0 dX11_writes_100 ?_
  refine J_getr (q := 209) fl_RX11_13 dX11_writes_101 kk_207 rfl (rf_11_1 kk_207) ?_
  refine J_ild6 dX11_writes_104 ?_
  refine J_bipush (v := 7) dX11_writes_106 rfl ?_
  refine J_iadd dX11_writes_108 ?_
  refine J_ild5 dX11_writes_109 ?_
  refine J_iast dX11_writes_111 kk_209 rfl ?_
  refine J_lt (fun M10 => ?_)
  refine J_ald0 dX11_writes_112 ?_
  refine J_getr (q := 209) fl_RX11_13 dX11_writes_113 kk_207 rfl (rf_11_1 kk_207) ?_
  refine J_ild6 dX11_writes_116 ?_
  refine J_bipush (v := 8) dX11_writes_118 rfl ?_
  refine J_iadd dX11_writes_120 ?_
  refine J_bipush (v := -2) dX11_writes_121 rfl ?_
  refine J_iast dX11_writes_123 kk_209 rfl ?_
  refine J_lt (fun M11 => ?_)
  refine J_ald0 dX11_writes_124 ?_
  refine J_getr (q := 209) fl_RX11_13 dX11_writes_125 kk_207 rfl (rf_11_1 kk_207) ?_
  refine J_ild6 dX11_writes_128 ?_
  refine J_bipush (v := 9) dX11_writes_130 rfl ?_
  refine J_iadd dX11_writes_132 ?_
  refine J_bipush (v := -2) dX11_writes_133 rfl ?_
  refine J_iast dX11_writes_135 kk_209 rfl ?_
  refine J_lt (fun M12 => ?_)
  refine J_ald0 dX11_writes_136 ?_
  refine J_getr (q := 209) fl_RX11_13 dX11_writes_137 kk_207 rfl (rf_11_1 kk_207) ?_
  refine J_iconst (v := 1) dX11_writes_140 rfl ?_
  refine J_ald0 dX11_writes_141 ?_
  refine J_getr (q := 209) fl_RX11_13 dX11_writes_142 kk_207 rfl (rf_11_1 kk_207) ?_
  refine J_iconst (v := 1) dX11_writes_145 rfl ?_
  refine J_iald dX11_writes_146 kk_209 rfl ?_
  refine J_iconst (v := 1) dX11_writes_147 rfl ?_
  refine J_iadd dX11_writes_148 ?_
  refine J_iast dX11_writes_149 kk_209 rfl ?_
  refine J_lt (fun M13 => ?_)
  refine J_ild5 dX11_writes_150 ?_
  exact J_iret dX11_writes_152 rfl ⟨rfl, rfl, rfl⟩
set_option maxRecDepth 100000 in
theorem jX11_allOf_c4 {l : Launch} {cx : CX} {n : Nat} {M : Mem} : ∀ (f : Nat) {v1 : Int32} {v2 : Int32} {v3 : Int32}, JO l cx ({ frames := 1, cells := 0, slots := 0, locals := 22 } : Room) yX11_allOf cX11_allOf 4 (some .int) 0 0 false 207 218 (EP M) GS 0 0 4 [some (.ref 207), some (.int v1), some (.int v2), some (.int v3)] [] M (mX11_allOf_c4 n f v1 v2 v3 M) := by
  intro f
  induction f with
  | zero =>
    intros
    exact J_none
  | succ f ih =>
    intro v1 v2 v3
    unfold mX11_allOf_c4
    refine J_ild3 dX11_allOf_4 ?_
    refine J_ald0 dX11_allOf_5 ?_
    refine J_getr (q := 209) fl_RX11_13 dX11_allOf_6 kk_207 rfl (rf_11_1 kk_207) ?_
    refine J_iconst (v := 1) dX11_allOf_9 rfl ?_
    refine J_iald dX11_allOf_10 kk_209 rfl ?_
    refine J_ic_ge 40 dX11_allOf_11 rfl ?_ ?_
    · refine J_ild2 dX11_allOf_40 ?_
      exact J_iret dX11_allOf_41 rfl ⟨rfl, rfl, rfl⟩
    · refine J_ald0 dX11_allOf_14 ?_
      refine J_ild3 dX11_allOf_15 ?_
      refine J_iconst (v := 1) dX11_allOf_16 rfl ?_
      refine J_cVP (jX11_entryOf l cx n v3 (1 : Int32) M) ck_RX11_219 dX11_allOf_17 rfl kk_207 ⟨rfl, rfl, by decide, by decide⟩ ⟨Nat.zero_le _, Nat.zero_le _, Nat.le_of_ble_eq_true rfl⟩ (fun r1 => ?_)
      refine J_ild1 dX11_allOf_20 ?_
      refine J_ic_ne 34 dX11_allOf_21 rfl ?_ ?_
      · refine J_iinc3 (w := (v3 + (1 : Int32))) dX11_allOf_34 (by decide) rfl rfl ?_
        refine J_goto 4 dX11_allOf_37 rfl ?_
        exact J_wk (wk_s (wk_s (wk_s (wk_s wk_0)))) (ih)
      · refine J_ild2 dX11_allOf_24 ?_
        refine J_ald0 dX11_allOf_25 ?_
        refine J_ild3 dX11_allOf_26 ?_
        refine J_bipush (v := 7) dX11_allOf_27 rfl ?_
        refine J_cVP (jX11_entryOf l cx n v3 (7 : Int32) M) ck_RX11_219 dX11_allOf_29 rfl kk_207 ⟨rfl, rfl, by decide, by decide⟩ ⟨Nat.zero_le _, Nat.zero_le _, Nat.le_of_ble_eq_true rfl⟩ (fun r2 => ?_)
        refine J_iadd dX11_allOf_32 ?_
        refine J_ist2 dX11_allOf_33 (by decide) rfl ?_
        refine J_iinc3 (w := (v3 + (1 : Int32))) dX11_allOf_34 (by decide) rfl rfl ?_
        refine J_goto 4 dX11_allOf_37 rfl ?_
        exact J_wk (wk_s (wk_s (wk_s (wk_s wk_0)))) (ih)
set_option maxRecDepth 100000 in
theorem jX11_allOf (l : Launch) (cx : CX) (n : Nat) (a : Int32) (M : Mem) : Con l cx ({ frames := 1, cells := 0, slots := 0, locals := 22 } : Room) yX11_allOf cX11_allOf 4 (some .int) 0 0 false 207 218 (EP M) GS [.ref 207, .int a] M (mX11_allOf n a M) := by
  unfold mX11_allOf
  refine Con.of (ls := [some (.ref 207), some (.int a), none, none]) (by decide) rfl (Nat.le_of_ble_eq_true rfl) ?_
  refine J_iconst (v := 0) dX11_allOf_0 rfl ?_
  refine J_ist2 dX11_allOf_1 (by decide) rfl ?_
  refine J_iconst (v := 0) dX11_allOf_2 rfl ?_
  refine J_ist3 dX11_allOf_3 (by decide) rfl ?_
  exact J_wk (wk_s (wk_s (wk_s (wk_s wk_0)))) (jX11_allOf_c4 (n := n) n)
set_option maxRecDepth 100000 in
theorem jX11_worthBy_c110 {l : Launch} {cx : CX} {n : Nat} {M : Mem} {v1 : Int32} {v2 : Int32} {v3 : Int32} : JO l cx ({ frames := 1, cells := 0, slots := 0, locals := 22 } : Room) yX11_worthBy cX11_worthBy 6 (some .int) 0 0 false 207 218 (EP M) GS 0 0 110 [some (.ref 207), some (.int v1), some (.int v2), some (.int v3), none, none] [] M (mX11_worthBy_c110 n v1 v2 v3 M) := by
  unfold mX11_worthBy_c110
  refine J_ald0 dX11_worthBy_110 ?_
  refine J_ild1 dX11_worthBy_111 ?_
  refine J_bipush (v := 7) dX11_worthBy_112 rfl ?_
  refine J_cVP (jX11_of l cx n v1 (7 : Int32) M) ck_RX11_213 dX11_worthBy_114 rfl kk_207 ⟨rfl, rfl, by decide, by decide⟩ ⟨Nat.zero_le _, Nat.zero_le _, Nat.le_of_ble_eq_true rfl⟩ (fun r1 => ?_)
  refine J_iconst (v := 1) dX11_worthBy_117 rfl ?_
  refine J_ic_ne 135 dX11_worthBy_118 rfl ?_ ?_
  · refine J_ild3 dX11_worthBy_135 ?_
    exact J_iret dX11_worthBy_136 rfl ⟨rfl, rfl, rfl⟩
  · refine J_ild3 dX11_worthBy_121 ?_
    refine J_ald0 dX11_worthBy_122 ?_
    refine J_ild2 dX11_worthBy_123 ?_
    refine J_iconst (v := 5) dX11_worthBy_124 rfl ?_
    refine J_cVP (jX11_planOf l cx n v2 (5 : Int32) M) ck_RX11_200 dX11_worthBy_125 rfl kk_207 ⟨rfl, rfl, by decide, by decide⟩ ⟨Nat.zero_le _, Nat.zero_le _, Nat.le_of_ble_eq_true rfl⟩ (fun r2 => ?_)
    refine J_imul dX11_worthBy_128 ?_
    refine J_bipush (v := 100) dX11_worthBy_129 rfl ?_
    refine J_idivK dX11_worthBy_131 (by decide) ?_
    refine J_goto 136 dX11_worthBy_132 rfl ?_
    exact J_iret dX11_worthBy_136 rfl ⟨rfl, rfl, rfl⟩
set_option maxRecDepth 100000 in
theorem jX11_worthBy_c21 {l : Launch} {cx : CX} {n : Nat} {M : Mem} : ∀ (f : Nat) {v1 : Int32} {v2 : Int32} {v3 : Int32} {v4 : Int32} {v5 : Int32}, JO l cx ({ frames := 1, cells := 0, slots := 0, locals := 22 } : Room) yX11_worthBy cX11_worthBy 6 (some .int) 0 0 false 207 218 (EP M) GS 0 0 21 [some (.ref 207), some (.int v1), some (.int v2), some (.int v3), some (.int v4), some (.int v5)] [] M (mX11_worthBy_c21 n f v1 v2 v3 v4 v5 M) := by
  intro f
  induction f with
  | zero =>
    intros
    exact J_none
  | succ f ih =>
    intro v1 v2 v3 v4 v5
    unfold mX11_worthBy_c21
    refine J_ild5 dX11_worthBy_21 ?_
    refine J_ald0 dX11_worthBy_23 ?_
    refine J_ild2 dX11_worthBy_24 ?_
    refine J_bipush (v := 14) dX11_worthBy_25 rfl ?_
    refine J_cVP (jX11_planOf l cx n v2 (14 : Int32) M) ck_RX11_200 dX11_worthBy_27 rfl kk_207 ⟨rfl, rfl, by decide, by decide⟩ ⟨Nat.zero_le _, Nat.zero_le _, Nat.le_of_ble_eq_true rfl⟩ (fun r3 => ?_)
    refine J_ic_ge 71 dX11_worthBy_30 rfl ?_ ?_
    · refine J_ild3 dX11_worthBy_71 ?_
      refine J_ild3 dX11_worthBy_72 ?_
      refine J_ild4 dX11_worthBy_73 ?_
      refine J_imul dX11_worthBy_75 ?_
      refine J_bipush (v := 100) dX11_worthBy_76 rfl ?_
      refine J_idivK dX11_worthBy_78 (by decide) ?_
      refine J_isub dX11_worthBy_79 ?_
      refine J_ist3 dX11_worthBy_80 (by decide) rfl ?_
      refine J_ald0 dX11_worthBy_81 ?_
      refine J_ild1 dX11_worthBy_82 ?_
      refine J_iconst (v := 3) dX11_worthBy_83 rfl ?_
      refine J_cVP (jX11_of l cx n v1 (3 : Int32) M) ck_RX11_213 dX11_worthBy_84 rfl kk_207 ⟨rfl, rfl, by decide, by decide⟩ ⟨Nat.zero_le _, Nat.zero_le _, Nat.le_of_ble_eq_true rfl⟩ (fun r4 => ?_)
      refine J_ald0 dX11_worthBy_87 ?_
      refine J_getr (q := 209) fl_RX11_13 dX11_worthBy_88 kk_207 rfl (rf_11_1 kk_207) ?_
      refine J_iconst (v := 3) dX11_worthBy_91 rfl ?_
      refine J_iald dX11_worthBy_92 kk_209 rfl ?_
      refine J_ic_ge 110 dX11_worthBy_93 rfl ?_ ?_
      · exact J_wk (wk_s (wk_s (wk_s (wk_s (wk_n (wk_n wk_0)))))) (jX11_worthBy_c110 (n := n))
      · refine J_ild3 dX11_worthBy_96 ?_
        refine J_ild3 dX11_worthBy_97 ?_
        refine J_ald0 dX11_worthBy_98 ?_
        refine J_getr (q := 209) fl_RX11_13 dX11_worthBy_99 kk_207 rfl (rf_11_1 kk_207) ?_
        refine J_iconst (v := 2) dX11_worthBy_102 rfl ?_
        refine J_iald dX11_worthBy_103 kk_209 rfl ?_
        refine J_imul dX11_worthBy_104 ?_
        refine J_bipush (v := 100) dX11_worthBy_105 rfl ?_
        refine J_idivK dX11_worthBy_107 (by decide) ?_
        refine J_isub dX11_worthBy_108 ?_
        refine J_ist3 dX11_worthBy_109 (by decide) rfl ?_
        exact J_wk (wk_s (wk_s (wk_s (wk_s (wk_n (wk_n wk_0)))))) (jX11_worthBy_c110 (n := n))
    · refine J_ald0 dX11_worthBy_33 ?_
      refine J_ild2 dX11_worthBy_34 ?_
      refine J_bipush (v := 15) dX11_worthBy_35 rfl ?_
      refine J_ild5 dX11_worthBy_37 ?_
      refine J_iadd dX11_worthBy_39 ?_
      refine J_cVP (jX11_planOf l cx n v2 ((15 : Int32) + v5) M) ck_RX11_200 dX11_worthBy_40 rfl kk_207 ⟨rfl, rfl, by decide, by decide⟩ ⟨Nat.zero_le _, Nat.zero_le _, Nat.le_of_ble_eq_true rfl⟩ (fun r5 => ?_)
      refine J_ald0 dX11_worthBy_43 ?_
      refine J_ild1 dX11_worthBy_44 ?_
      refine J_bipush (v := 10) dX11_worthBy_45 rfl ?_
      refine J_cVP (jX11_of l cx n v1 (10 : Int32) M) ck_RX11_213 dX11_worthBy_47 rfl kk_207 ⟨rfl, rfl, by decide, by decide⟩ ⟨Nat.zero_le _, Nat.zero_le _, Nat.le_of_ble_eq_true rfl⟩ (fun r6 => ?_)
      refine J_ic_gt 65 dX11_worthBy_50 rfl ?_ ?_
      · refine J_iinc5 (w := (v5 + (1 : Int32))) dX11_worthBy_65 (by decide) rfl rfl ?_
        refine J_goto 21 dX11_worthBy_68 rfl ?_
        exact J_wk (wk_s (wk_s (wk_s (wk_s (wk_s (wk_s wk_0)))))) (ih)
      · refine J_ald0 dX11_worthBy_53 ?_
        refine J_ild2 dX11_worthBy_54 ?_
        refine J_bipush (v := 18) dX11_worthBy_55 rfl ?_
        refine J_ild5 dX11_worthBy_57 ?_
        refine J_iadd dX11_worthBy_59 ?_
        refine J_cVP (jX11_planOf l cx n v2 ((18 : Int32) + v5) M) ck_RX11_200 dX11_worthBy_60 rfl kk_207 ⟨rfl, rfl, by decide, by decide⟩ ⟨Nat.zero_le _, Nat.zero_le _, Nat.le_of_ble_eq_true rfl⟩ (fun r7 => ?_)
        refine J_ist4 dX11_worthBy_63 (by decide) rfl ?_
        refine J_iinc5 (w := (v5 + (1 : Int32))) dX11_worthBy_65 (by decide) rfl rfl ?_
        refine J_goto 21 dX11_worthBy_68 rfl ?_
        exact J_wk (wk_s (wk_s (wk_s (wk_s (wk_s (wk_s wk_0)))))) (ih)
set_option maxRecDepth 100000 in
theorem jX11_worthBy (l : Launch) (cx : CX) (n : Nat) (a : Int32) (b : Int32) (M : Mem) : Con l cx ({ frames := 1, cells := 0, slots := 0, locals := 22 } : Room) yX11_worthBy cX11_worthBy 6 (some .int) 0 0 false 207 218 (EP M) GS [.ref 207, .int a, .int b] M (mX11_worthBy n a b M) := by
  unfold mX11_worthBy
  refine Con.of (ls := [some (.ref 207), some (.int a), some (.int b), none, none, none]) (by decide) rfl (Nat.le_of_ble_eq_true rfl) ?_
  refine J_ald0 dX11_worthBy_0 ?_
  refine J_ild2 dX11_worthBy_1 ?_
  refine J_iconst (v := 0) dX11_worthBy_2 rfl ?_
  refine J_cVP (jX11_planOf l cx n b (0 : Int32) M) ck_RX11_200 dX11_worthBy_3 rfl kk_207 ⟨rfl, rfl, by decide, by decide⟩ ⟨Nat.zero_le _, Nat.zero_le _, Nat.le_of_ble_eq_true rfl⟩ (fun r8 => ?_)
  refine J_ald0 dX11_worthBy_6 ?_
  refine J_ild1 dX11_worthBy_7 ?_
  refine J_bipush (v := 10) dX11_worthBy_8 rfl ?_
  refine J_cVP (jX11_of l cx n a (10 : Int32) M) ck_RX11_213 dX11_worthBy_10 rfl kk_207 ⟨rfl, rfl, by decide, by decide⟩ ⟨Nat.zero_le _, Nat.zero_le _, Nat.le_of_ble_eq_true rfl⟩ (fun r9 => ?_)
  refine J_imul dX11_worthBy_13 ?_
  refine J_ist3 dX11_worthBy_14 (by decide) rfl ?_
  refine J_iconst (v := 0) dX11_worthBy_15 rfl ?_
  refine J_ist4 dX11_worthBy_16 (by decide) rfl ?_
  refine J_iconst (v := 0) dX11_worthBy_18 rfl ?_
  refine J_ist5 dX11_worthBy_19 (by decide) rfl ?_
  exact J_wk (wk_s (wk_s (wk_s (wk_s (wk_s (wk_s wk_0)))))) (jX11_worthBy_c21 (n := n) n)
set_option maxRecDepth 100000 in
theorem jX11_worth (l : Launch) (cx : CX) (n : Nat) (a : Int32) (M : Mem) : Con l cx ({ frames := 2, cells := 0, slots := 0, locals := 47 } : Room) yX11_worth cX11_worth 2 (some .int) 0 0 false 207 218 (EP M) GS [.ref 207, .int a] M (mX11_worth n a M) := by
  unfold mX11_worth
  refine Con.of (ls := [some (.ref 207), some (.int a)]) (by decide) rfl (Nat.le_of_ble_eq_true rfl) ?_
  refine J_ald0 dX11_worth_0 ?_
  refine J_ild1 dX11_worth_1 ?_
  refine J_ald0 dX11_worth_2 ?_
  refine J_ild1 dX11_worth_3 ?_
  refine J_iconst (v := 1) dX11_worth_4 rfl ?_
  refine J_cVP (jX11_of l cx n a (1 : Int32) M) ck_RX11_213 dX11_worth_5 rfl kk_207 ⟨rfl, rfl, by decide, by decide⟩ ⟨Nat.zero_le _, Nat.zero_le _, Nat.le_of_ble_eq_true rfl⟩ (fun r1 => ?_)
  refine J_cVP (jX11_worthBy l cx n a r1 M) ck_RX11_222 dX11_worth_8 rfl kk_207 ⟨rfl, rfl, by decide, by decide⟩ ⟨Nat.zero_le _, Nat.zero_le _, Nat.le_of_ble_eq_true rfl⟩ (fun r2 => ?_)
  exact J_iret dX11_worth_11 rfl ⟨rfl, rfl, rfl⟩
set_option maxRecDepth 100000 in
theorem jX11_leftBy (l : Launch) (cx : CX) (n : Nat) (a : Int32) (b : Int32) (c : Int32) (M : Mem) : Con l cx ({ frames := 4, cells := 0, slots := 0, locals := 92 } : Room) yX11_leftBy cX11_leftBy 4 (some .int) 0 0 false 207 218 (EP M) GS [.ref 207, .int a, .int b, .int c] M (mX11_leftBy n a b c M) := by
  unfold mX11_leftBy
  refine Con.of (ls := [some (.ref 207), some (.int a), some (.int b), some (.int c)]) (by decide) rfl (Nat.le_of_ble_eq_true rfl) ?_
  refine J_ald0 dX11_leftBy_0 ?_
  refine J_ald0 dX11_leftBy_1 ?_
  refine J_ild1 dX11_leftBy_2 ?_
  refine J_ild2 dX11_leftBy_3 ?_
  refine J_cVP (jX11_worthBy l cx n a b M) ck_RX11_222 dX11_leftBy_4 rfl kk_207 ⟨rfl, rfl, by decide, by decide⟩ ⟨Nat.zero_le _, Nat.zero_le _, Nat.le_of_ble_eq_true rfl⟩ (fun r1 => ?_)
  refine J_ald0 dX11_leftBy_7 ?_
  refine J_ild1 dX11_leftBy_8 ?_
  refine J_iconst (v := 2) dX11_leftBy_9 rfl ?_
  refine J_cVP (jX11_of l cx n a (2 : Int32) M) ck_RX11_213 dX11_leftBy_10 rfl kk_207 ⟨rfl, rfl, by decide, by decide⟩ ⟨Nat.zero_le _, Nat.zero_le _, Nat.le_of_ble_eq_true rfl⟩ (fun r2 => ?_)
  refine J_ild3 dX11_leftBy_13 ?_
  refine J_ald0 dX11_leftBy_14 ?_
  refine J_ild1 dX11_leftBy_15 ?_
  refine J_iconst (v := 5) dX11_leftBy_16 rfl ?_
  refine J_cVP (jX11_of l cx n a (5 : Int32) M) ck_RX11_213 dX11_leftBy_17 rfl kk_207 ⟨rfl, rfl, by decide, by decide⟩ ⟨Nat.zero_le _, Nat.zero_le _, Nat.le_of_ble_eq_true rfl⟩ (fun r3 => ?_)
  refine J_cVP (jX11_slice l cx n r1 r2 c r3 M) ck_RX11_80 dX11_leftBy_20 rfl kk_207 ⟨rfl, rfl, by decide, by decide⟩ ⟨Nat.zero_le _, Nat.zero_le _, Nat.le_of_ble_eq_true rfl⟩ (fun r4 => ?_)
  exact J_iret dX11_leftBy_23 rfl ⟨rfl, rfl, rfl⟩
set_option maxRecDepth 100000 in
theorem jX11_charges (l : Launch) (cx : CX) (n : Nat) (a : Int32) (M : Mem) : Con l cx ({ frames := 5, cells := 0, slots := 0, locals := 115 } : Room) yX11_charges cX11_charges 2 (some .int) 0 0 false 207 218 EI GS [.ref 207, .int a] M (mX11_charges n a M) := by
  unfold mX11_charges
  refine Con.of (ls := [some (.ref 207), some (.int a)]) (by decide) rfl (Nat.le_of_ble_eq_true rfl) ?_
  refine J_ald0 dX11_charges_0 ?_
  refine J_iconst (v := 0) dX11_charges_1 rfl ?_
  refine J_ild1 dX11_charges_2 ?_
  refine J_ald0 dX11_charges_3 ?_
  refine J_getr (q := 209) fl_RX11_13 dX11_charges_4 kk_207 rfl (rf_11_1 kk_207) ?_
  refine J_iconst (v := 0) dX11_charges_7 rfl ?_
  refine J_iald dX11_charges_8 kk_209 rfl ?_
  refine J_ald0 dX11_charges_9 ?_
  refine J_ild1 dX11_charges_10 ?_
  refine J_iconst (v := 5) dX11_charges_11 rfl ?_
  refine J_cVP (jX11_of l cx n a (5 : Int32) M) ck_RX11_213 dX11_charges_12 rfl kk_207 ⟨rfl, rfl, by decide, by decide⟩ ⟨Nat.zero_le _, Nat.zero_le _, Nat.le_of_ble_eq_true rfl⟩ (fun r1 => ?_)
  refine J_ald0 dX11_charges_15 ?_
  refine J_ild1 dX11_charges_16 ?_
  refine J_ald0 dX11_charges_17 ?_
  refine J_ild1 dX11_charges_18 ?_
  refine J_iconst (v := 1) dX11_charges_19 rfl ?_
  refine J_cVP (jX11_of l cx n a (1 : Int32) M) ck_RX11_213 dX11_charges_20 rfl kk_207 ⟨rfl, rfl, by decide, by decide⟩ ⟨Nat.zero_le _, Nat.zero_le _, Nat.le_of_ble_eq_true rfl⟩ (fun r2 => ?_)
  refine J_ald0 dX11_charges_23 ?_
  refine J_getr (q := 209) fl_RX11_13 dX11_charges_24 kk_207 rfl (rf_11_1 kk_207) ?_
  refine J_iconst (v := 0) dX11_charges_27 rfl ?_
  refine J_iald dX11_charges_28 kk_209 rfl ?_
  refine J_cVP (jX11_leftBy l cx n a r2 (M 209 (Int32.toNatClampNeg (0 : Int32))) M) ck_RX11_225 dX11_charges_29 rfl kk_207 ⟨rfl, rfl, by decide, by decide⟩ ⟨Nat.zero_le _, Nat.zero_le _, Nat.le_of_ble_eq_true rfl⟩ (fun r3 => ?_)
  refine J_cVI (jX11_writes l cx n (0 : Int32) a (M 209 (Int32.toNatClampNeg (0 : Int32))) r1 r3 M) ck_RX11_229 dX11_charges_32 rfl kk_207 ⟨rfl, rfl, by decide, by decide⟩ ⟨Nat.zero_le _, Nat.zero_le _, Nat.le_of_ble_eq_true rfl⟩ (fun r4 M5 => ?_)
  exact J_iret dX11_charges_35 rfl ⟨rfl, rfl, rfl⟩
set_option maxRecDepth 100000 in
theorem jX11_credits (l : Launch) (cx : CX) (n : Nat) (a : Int32) (M : Mem) : Con l cx ({ frames := 5, cells := 0, slots := 0, locals := 115 } : Room) yX11_credits cX11_credits 2 (some .int) 0 0 false 207 218 EI GS [.ref 207, .int a] M (mX11_credits n a M) := by
  unfold mX11_credits
  refine Con.of (ls := [some (.ref 207), some (.int a)]) (by decide) rfl (Nat.le_of_ble_eq_true rfl) ?_
  refine J_ald0 dX11_credits_0 ?_
  refine J_iconst (v := 1) dX11_credits_1 rfl ?_
  refine J_ild1 dX11_credits_2 ?_
  refine J_ald0 dX11_credits_3 ?_
  refine J_getr (q := 209) fl_RX11_13 dX11_credits_4 kk_207 rfl (rf_11_1 kk_207) ?_
  refine J_iconst (v := 0) dX11_credits_7 rfl ?_
  refine J_iald dX11_credits_8 kk_209 rfl ?_
  refine J_ald0 dX11_credits_9 ?_
  refine J_ild1 dX11_credits_10 ?_
  refine J_iconst (v := 5) dX11_credits_11 rfl ?_
  refine J_cVP (jX11_of l cx n a (5 : Int32) M) ck_RX11_213 dX11_credits_12 rfl kk_207 ⟨rfl, rfl, by decide, by decide⟩ ⟨Nat.zero_le _, Nat.zero_le _, Nat.le_of_ble_eq_true rfl⟩ (fun r1 => ?_)
  refine J_ald0 dX11_credits_15 ?_
  refine J_ild1 dX11_credits_16 ?_
  refine J_ald0 dX11_credits_17 ?_
  refine J_ild1 dX11_credits_18 ?_
  refine J_iconst (v := 1) dX11_credits_19 rfl ?_
  refine J_cVP (jX11_of l cx n a (1 : Int32) M) ck_RX11_213 dX11_credits_20 rfl kk_207 ⟨rfl, rfl, by decide, by decide⟩ ⟨Nat.zero_le _, Nat.zero_le _, Nat.le_of_ble_eq_true rfl⟩ (fun r2 => ?_)
  refine J_ald0 dX11_credits_23 ?_
  refine J_getr (q := 209) fl_RX11_13 dX11_credits_24 kk_207 rfl (rf_11_1 kk_207) ?_
  refine J_iconst (v := 0) dX11_credits_27 rfl ?_
  refine J_iald dX11_credits_28 kk_209 rfl ?_
  refine J_cVP (jX11_leftBy l cx n a r2 (M 209 (Int32.toNatClampNeg (0 : Int32))) M) ck_RX11_225 dX11_credits_29 rfl kk_207 ⟨rfl, rfl, by decide, by decide⟩ ⟨Nat.zero_le _, Nat.zero_le _, Nat.le_of_ble_eq_true rfl⟩ (fun r3 => ?_)
  refine J_ineg dX11_credits_32 ?_
  refine J_cVI (jX11_writes l cx n (1 : Int32) a (M 209 (Int32.toNatClampNeg (0 : Int32))) r1 (-r3) M) ck_RX11_229 dX11_credits_33 rfl kk_207 ⟨rfl, rfl, by decide, by decide⟩ ⟨Nat.zero_le _, Nat.zero_le _, Nat.le_of_ble_eq_true rfl⟩ (fun r4 M5 => ?_)
  exact J_iret dX11_credits_36 rfl ⟨rfl, rfl, rfl⟩
set_option maxRecDepth 100000 in
theorem jX11_uses (l : Launch) (cx : CX) (n : Nat) (a : Int32) (M : Mem) : Con l cx ({ frames := 2, cells := 0, slots := 0, locals := 49 } : Room) yX11_uses cX11_uses 3 (some .int) 0 0 false 207 218 EI GS [.ref 207, .int a] M (mX11_uses n a M) := by
  unfold mX11_uses
  refine Con.of (ls := [some (.ref 207), some (.int a), none]) (by decide) rfl (Nat.le_of_ble_eq_true rfl) ?_
  refine J_ald0 dX11_uses_0 ?_
  refine J_iconst (v := 2) dX11_uses_1 rfl ?_
  refine J_ild1 dX11_uses_2 ?_
  refine J_ald0 dX11_uses_3 ?_
  refine J_ild1 dX11_uses_4 ?_
  refine J_iconst (v := 4) dX11_uses_5 rfl ?_
  refine J_cVP (jX11_of l cx n a (4 : Int32) M) ck_RX11_213 dX11_uses_6 rfl kk_207 ⟨rfl, rfl, by decide, by decide⟩ ⟨Nat.zero_le _, Nat.zero_le _, Nat.le_of_ble_eq_true rfl⟩ (fun r1 => ?_)
  refine J_ald0 dX11_uses_9 ?_
  refine J_getr (q := 209) fl_RX11_13 dX11_uses_10 kk_207 rfl (rf_11_1 kk_207) ?_
  refine J_iconst (v := 0) dX11_uses_13 rfl ?_
  refine J_iald dX11_uses_14 kk_209 rfl ?_
  refine J_ald0 dX11_uses_15 ?_
  refine J_ald0 dX11_uses_16 ?_
  refine J_ild1 dX11_uses_17 ?_
  refine J_iconst (v := 1) dX11_uses_18 rfl ?_
  refine J_cVP (jX11_of l cx n a (1 : Int32) M) ck_RX11_213 dX11_uses_19 rfl kk_207 ⟨rfl, rfl, by decide, by decide⟩ ⟨Nat.zero_le _, Nat.zero_le _, Nat.le_of_ble_eq_true rfl⟩ (fun r2 => ?_)
  refine J_ald0 dX11_uses_22 ?_
  refine J_ild1 dX11_uses_23 ?_
  refine J_bipush (v := 6) dX11_uses_24 rfl ?_
  refine J_cVP (jX11_of l cx n a (6 : Int32) M) ck_RX11_213 dX11_uses_26 rfl kk_207 ⟨rfl, rfl, by decide, by decide⟩ ⟨Nat.zero_le _, Nat.zero_le _, Nat.le_of_ble_eq_true rfl⟩ (fun r3 => ?_)
  refine J_cVP (jX11_usageOf l cx n r2 r3 M) ck_RX11_206 dX11_uses_29 rfl kk_207 ⟨rfl, rfl, by decide, by decide⟩ ⟨Nat.zero_le _, Nat.zero_le _, Nat.le_of_ble_eq_true rfl⟩ (fun r4 => ?_)
  refine J_cVI (jX11_writes l cx n (2 : Int32) a r1 (M 209 (Int32.toNatClampNeg (0 : Int32))) r4 M) ck_RX11_229 dX11_uses_32 rfl kk_207 ⟨rfl, rfl, by decide, by decide⟩ ⟨Nat.zero_le _, Nat.zero_le _, Nat.le_of_ble_eq_true rfl⟩ (fun r5 M6 => ?_)
  refine J_ist2 dX11_uses_35 (by decide) rfl ?_
  refine J_ald0 dX11_uses_36 ?_
  refine J_ild1 dX11_uses_37 ?_
  refine J_bipush (v := 6) dX11_uses_38 rfl ?_
  refine J_iconst (v := 0) dX11_uses_40 rfl ?_
  refine J_cVV (jX11_sets l cx n a (6 : Int32) (0 : Int32) M6) ck_RX11_233 dX11_uses_41 rfl kk_207 ⟨rfl, rfl, by decide, by decide⟩ ⟨Nat.zero_le _, Nat.zero_le _, Nat.le_of_ble_eq_true rfl⟩ (fun M8 => ?_)
  refine J_ild2 dX11_uses_44 ?_
  exact J_iret dX11_uses_45 rfl ⟨rfl, rfl, rfl⟩
set_option maxRecDepth 100000 in
theorem jX11_opens (l : Launch) (cx : CX) (n : Nat) (a : Int32) (b : Int32) (M : Mem) : Con l cx ({ frames := 3, cells := 0, slots := 0, locals := 66 } : Room) yX11_opens cX11_opens 3 none 0 0 false 207 218 EV GS [.ref 207, .int a, .int b] M (mX11_opens n a b M) := by
  unfold mX11_opens
  refine Con.of (ls := [some (.ref 207), some (.int a), some (.int b)]) (by decide) rfl (Nat.le_of_ble_eq_true rfl) ?_
  refine J_ald0 dX11_opens_0 ?_
  refine J_ild1 dX11_opens_1 ?_
  refine J_iconst (v := 3) dX11_opens_2 rfl ?_
  refine J_ild2 dX11_opens_3 ?_
  refine J_cVV (jX11_sets l cx n a (3 : Int32) b M) ck_RX11_233 dX11_opens_4 rfl kk_207 ⟨rfl, rfl, by decide, by decide⟩ ⟨Nat.zero_le _, Nat.zero_le _, Nat.le_of_ble_eq_true rfl⟩ (fun M2 => ?_)
  refine J_ald0 dX11_opens_7 ?_
  refine J_ild1 dX11_opens_8 ?_
  refine J_iconst (v := 4) dX11_opens_9 rfl ?_
  refine J_ald0 dX11_opens_10 ?_
  refine J_getr (q := 209) fl_RX11_13 dX11_opens_11 kk_207 rfl (rf_11_1 kk_207) ?_
  refine J_iconst (v := 0) dX11_opens_14 rfl ?_
  refine J_iald dX11_opens_15 kk_209 rfl ?_
  refine J_cVV (jX11_sets l cx n a (4 : Int32) (M2 209 (Int32.toNatClampNeg (0 : Int32))) M2) ck_RX11_233 dX11_opens_16 rfl kk_207 ⟨rfl, rfl, by decide, by decide⟩ ⟨Nat.zero_le _, Nat.zero_le _, Nat.le_of_ble_eq_true rfl⟩ (fun M4 => ?_)
  refine J_ald0 dX11_opens_19 ?_
  refine J_ild1 dX11_opens_20 ?_
  refine J_iconst (v := 5) dX11_opens_21 rfl ?_
  refine J_ald0 dX11_opens_22 ?_
  refine J_ald0 dX11_opens_23 ?_
  refine J_ild1 dX11_opens_24 ?_
  refine J_iconst (v := 2) dX11_opens_25 rfl ?_
  refine J_cVP (jX11_of l cx n a (2 : Int32) M4) ck_RX11_213 dX11_opens_26 rfl kk_207 ⟨rfl, rfl, by decide, by decide⟩ ⟨Nat.zero_le _, Nat.zero_le _, Nat.le_of_ble_eq_true rfl⟩ (fun r5 => ?_)
  refine J_ald0 dX11_opens_29 ?_
  refine J_getr (q := 209) fl_RX11_13 dX11_opens_30 kk_207 rfl (rf_11_1 kk_207) ?_
  refine J_iconst (v := 0) dX11_opens_33 rfl ?_
  refine J_iald dX11_opens_34 kk_209 rfl ?_
  refine J_cVP (jX11_nextTurn l cx n r5 (M4 209 (Int32.toNatClampNeg (0 : Int32))) M4) ck_RX11_70 dX11_opens_35 rfl kk_207 ⟨rfl, rfl, by decide, by decide⟩ ⟨Nat.zero_le _, Nat.zero_le _, Nat.le_of_ble_eq_true rfl⟩ (fun r6 => ?_)
  refine J_cVV (jX11_sets l cx n a (5 : Int32) r6 M4) ck_RX11_233 dX11_opens_38 rfl kk_207 ⟨rfl, rfl, by decide, by decide⟩ ⟨Nat.zero_le _, Nat.zero_le _, Nat.le_of_ble_eq_true rfl⟩ (fun M8 => ?_)
  exact J_vret dX11_opens_41 rfl ⟨rfl, rfl, rfl⟩
set_option maxRecDepth 100000 in
theorem jX11_begin_c72 {l : Launch} {cx : CX} {n : Nat} : ∀ (f : Nat) {v1 : Int32} {v2 : Int32} {v3 : Int32} {v4 : Int32} {M : Mem}, JO l cx ({ frames := 6, cells := 0, slots := 0, locals := 136 } : Room) yX11_begin cX11_begin 5 (some .int) 0 0 false 207 218 EI GS 0 0 72 [some (.ref 207), some (.int v1), some (.int v2), some (.int v3), some (.int v4)] [] M (mX11_begin_c72 n f v1 v2 v3 v4 M) := by
  intro f
  induction f with
  | zero =>
    intros
    exact J_none
  | succ f ih =>
    intro v1 v2 v3 v4 M
    unfold mX11_begin_c72
    refine J_ild4 dX11_begin_72 ?_
    refine J_bipush (v := 12) dX11_begin_74 rfl ?_
    refine J_ic_ge 93 dX11_begin_76 rfl ?_ ?_
    · refine J_ald0 dX11_begin_93 ?_
      refine J_ild1 dX11_begin_94 ?_
      refine J_iconst (v := 0) dX11_begin_95 rfl ?_
      refine J_iconst (v := 1) dX11_begin_96 rfl ?_
      refine J_cVV (jX11_sets l cx n v1 (0 : Int32) (1 : Int32) M) ck_RX11_233 dX11_begin_97 rfl kk_207 ⟨rfl, rfl, by decide, by decide⟩ ⟨Nat.zero_le _, Nat.zero_le _, Nat.le_of_ble_eq_true rfl⟩ (fun M2 => ?_)
      refine J_ald0 dX11_begin_100 ?_
      refine J_ild1 dX11_begin_101 ?_
      refine J_iconst (v := 1) dX11_begin_102 rfl ?_
      refine J_ild2 dX11_begin_103 ?_
      refine J_cVV (jX11_sets l cx n v1 (1 : Int32) v2 M2) ck_RX11_233 dX11_begin_104 rfl kk_207 ⟨rfl, rfl, by decide, by decide⟩ ⟨Nat.zero_le _, Nat.zero_le _, Nat.le_of_ble_eq_true rfl⟩ (fun M4 => ?_)
      refine J_ald0 dX11_begin_107 ?_
      refine J_ild1 dX11_begin_108 ?_
      refine J_iconst (v := 2) dX11_begin_109 rfl ?_
      refine J_ild3 dX11_begin_110 ?_
      refine J_cVV (jX11_sets l cx n v1 (2 : Int32) v3 M4) ck_RX11_233 dX11_begin_111 rfl kk_207 ⟨rfl, rfl, by decide, by decide⟩ ⟨Nat.zero_le _, Nat.zero_le _, Nat.le_of_ble_eq_true rfl⟩ (fun M6 => ?_)
      refine J_ald0 dX11_begin_114 ?_
      refine J_ild1 dX11_begin_115 ?_
      refine J_bipush (v := 10) dX11_begin_116 rfl ?_
      refine J_iconst (v := 1) dX11_begin_118 rfl ?_
      refine J_cVV (jX11_sets l cx n v1 (10 : Int32) (1 : Int32) M6) ck_RX11_233 dX11_begin_119 rfl kk_207 ⟨rfl, rfl, by decide, by decide⟩ ⟨Nat.zero_le _, Nat.zero_le _, Nat.le_of_ble_eq_true rfl⟩ (fun M8 => ?_)
      refine J_ald0 dX11_begin_122 ?_
      refine J_ild1 dX11_begin_123 ?_
      refine J_iconst (v := 0) dX11_begin_124 rfl ?_
      refine J_cVV (jX11_opens l cx n v1 (0 : Int32) M8) ck_RX11_237 dX11_begin_125 rfl kk_207 ⟨rfl, rfl, by decide, by decide⟩ ⟨Nat.zero_le _, Nat.zero_le _, Nat.le_of_ble_eq_true rfl⟩ (fun M10 => ?_)
      refine J_ald0 dX11_begin_128 ?_
      refine J_ild1 dX11_begin_129 ?_
      refine J_cVI (jX11_charges l cx n v1 M10) ck_RX11_241 dX11_begin_130 rfl kk_207 ⟨rfl, rfl, by decide, by decide⟩ ⟨Nat.zero_le _, Nat.zero_le _, Nat.le_of_ble_eq_true rfl⟩ (fun r11 M12 => ?_)
      exact J_iret dX11_begin_133 rfl ⟨rfl, rfl, rfl⟩
    · refine J_ald0 dX11_begin_79 ?_
      refine J_ild1 dX11_begin_80 ?_
      refine J_ild4 dX11_begin_81 ?_
      refine J_iconst (v := 0) dX11_begin_83 rfl ?_
      refine J_cVV (jX11_sets l cx n v1 v4 (0 : Int32) M) ck_RX11_233 dX11_begin_84 rfl kk_207 ⟨rfl, rfl, by decide, by decide⟩ ⟨Nat.zero_le _, Nat.zero_le _, Nat.le_of_ble_eq_true rfl⟩ (fun M14 => ?_)
      refine J_iinc4 (w := (v4 + (1 : Int32))) dX11_begin_87 (by decide) rfl rfl ?_
      refine J_goto 72 dX11_begin_90 rfl ?_
      exact J_wk (wk_s (wk_s (wk_s (wk_s (wk_s wk_0))))) (ih)
set_option maxRecDepth 100000 in
theorem jX11_begin (l : Launch) (cx : CX) (n : Nat) (a : Int32) (b : Int32) (c : Int32) (M : Mem) : Con l cx ({ frames := 6, cells := 0, slots := 0, locals := 136 } : Room) yX11_begin cX11_begin 5 (some .int) 0 0 false 207 218 EI GS [.ref 207, .int a, .int b, .int c] M (mX11_begin n a b c M) := by
  unfold mX11_begin
  refine Con.of (ls := [some (.ref 207), some (.int a), some (.int b), some (.int c), none]) (by decide) rfl (Nat.le_of_ble_eq_true rfl) ?_
  refine J_ild1 dX11_begin_0 ?_
  refine J_cSB (jX11_isNumber l cx n a M) ck_RX11_210 dX11_begin_1 rfl ⟨rfl, rfl, by decide, by decide⟩ ⟨Nat.zero_le _, Nat.zero_le _, Nat.le_of_ble_eq_true rfl⟩ (fun r15 z16 => ?_)
  refine J_if_eq 21 dX11_begin_4 rfl ?_ ?_
  · refine J_iconst (v := -1) dX11_begin_21 rfl ?_
    exact J_iret dX11_begin_22 rfl ⟨rfl, rfl, rfl⟩
  · refine J_ild2 dX11_begin_7 ?_
    refine J_cSB (jX11_isPlan l cx n b M) ck_RX11_197 dX11_begin_8 rfl ⟨rfl, rfl, by decide, by decide⟩ ⟨Nat.zero_le _, Nat.zero_le _, Nat.le_of_ble_eq_true rfl⟩ (fun r17 z18 => ?_)
    refine J_if_eq 21 dX11_begin_11 rfl ?_ ?_
    · refine J_iconst (v := -1) dX11_begin_21 rfl ?_
      exact J_iret dX11_begin_22 rfl ⟨rfl, rfl, rfl⟩
    · refine J_ild3 dX11_begin_14 ?_
      refine J_cSB (jX11_isAnchor l cx n c M) ck_RX11_60 dX11_begin_15 rfl ⟨rfl, rfl, by decide, by decide⟩ ⟨Nat.zero_le _, Nat.zero_le _, Nat.le_of_ble_eq_true rfl⟩ (fun r19 z20 => ?_)
      refine J_if_ne 23 dX11_begin_18 rfl ?_ ?_
      · refine J_ald0 dX11_begin_23 ?_
        refine J_getr (q := 209) fl_RX11_13 dX11_begin_24 kk_207 rfl (rf_11_1 kk_207) ?_
        refine J_iconst (v := 1) dX11_begin_27 rfl ?_
        refine J_iald dX11_begin_28 kk_209 rfl ?_
        refine J_sipush (v := 400) dX11_begin_29 rfl ?_
        refine J_ic_ne 38 dX11_begin_32 rfl ?_ ?_
        · refine J_ald0 dX11_begin_38 ?_
          refine J_ild1 dX11_begin_39 ?_
          refine J_cVB (jX11_isBegun l cx n a M) ck_RX11_216 dX11_begin_40 rfl kk_207 ⟨rfl, rfl, by decide, by decide⟩ ⟨Nat.zero_le _, Nat.zero_le _, Nat.le_of_ble_eq_true rfl⟩ (fun r21 z22 => ?_)
          refine J_if_eq 49 dX11_begin_43 rfl ?_ ?_
          · refine J_ald0 dX11_begin_49 ?_
            refine J_ild3 dX11_begin_50 ?_
            refine J_ald0 dX11_begin_51 ?_
            refine J_getr (q := 209) fl_RX11_13 dX11_begin_52 kk_207 rfl (rf_11_1 kk_207) ?_
            refine J_iconst (v := 0) dX11_begin_55 rfl ?_
            refine J_iald dX11_begin_56 kk_209 rfl ?_
            refine J_cVP (jX11_nextTurn l cx n c (M 209 (Int32.toNatClampNeg (0 : Int32))) M) ck_RX11_70 dX11_begin_57 rfl kk_207 ⟨rfl, rfl, by decide, by decide⟩ ⟨Nat.zero_le _, Nat.zero_le _, Nat.le_of_ble_eq_true rfl⟩ (fun r23 => ?_)
            refine J_sipush (v := 3652) dX11_begin_60 rfl ?_
            refine J_ic_le 69 dX11_begin_63 rfl ?_ ?_
            · refine J_iconst (v := 0) dX11_begin_69 rfl ?_
              refine J_ist4 dX11_begin_70 (by decide) rfl ?_
              exact J_wk (wk_s (wk_s (wk_s (wk_s (wk_s wk_0))))) (jX11_begin_c72 (n := n) n)
            · refine J_bipush (v := -5) dX11_begin_66 rfl ?_
              exact J_iret dX11_begin_68 rfl ⟨rfl, rfl, rfl⟩
          · refine J_bipush (v := -4) dX11_begin_46 rfl ?_
            exact J_iret dX11_begin_48 rfl ⟨rfl, rfl, rfl⟩
        · refine J_bipush (v := -3) dX11_begin_35 rfl ?_
          exact J_iret dX11_begin_37 rfl ⟨rfl, rfl, rfl⟩
      · refine J_iconst (v := -1) dX11_begin_21 rfl ?_
        exact J_iret dX11_begin_22 rfl ⟨rfl, rfl, rfl⟩
set_option maxRecDepth 100000 in
theorem jX11_change (l : Launch) (cx : CX) (n : Nat) (a : Int32) (b : Int32) (M : Mem) : Con l cx ({ frames := 6, cells := 0, slots := 0, locals := 136 } : Room) yX11_change cX11_change 4 (some .int) 0 0 false 207 218 EI GS [.ref 207, .int a, .int b] M (mX11_change n a b M) := by
  unfold mX11_change
  refine Con.of (ls := [some (.ref 207), some (.int a), some (.int b), none]) (by decide) rfl (Nat.le_of_ble_eq_true rfl) ?_
  refine J_ald0 dX11_change_0 ?_
  refine J_ild1 dX11_change_1 ?_
  refine J_cVB (jX11_isOn l cx n a M) ck_RX11_244 dX11_change_2 rfl kk_207 ⟨rfl, rfl, by decide, by decide⟩ ⟨Nat.zero_le _, Nat.zero_le _, Nat.le_of_ble_eq_true rfl⟩ (fun r1 z2 => ?_)
  refine J_if_eq 25 dX11_change_5 rfl ?_ ?_
  · refine J_ldc dX11_change_25 wd_63 ?_
    exact J_iret dX11_change_27 rfl ⟨rfl, rfl, rfl⟩
  · refine J_ild2 dX11_change_8 ?_
    refine J_cSB (jX11_isPlan l cx n b M) ck_RX11_197 dX11_change_9 rfl ⟨rfl, rfl, by decide, by decide⟩ ⟨Nat.zero_le _, Nat.zero_le _, Nat.le_of_ble_eq_true rfl⟩ (fun r3 z4 => ?_)
    refine J_if_eq 25 dX11_change_12 rfl ?_ ?_
    · refine J_ldc dX11_change_25 wd_63 ?_
      exact J_iret dX11_change_27 rfl ⟨rfl, rfl, rfl⟩
    · refine J_ild2 dX11_change_15 ?_
      refine J_ald0 dX11_change_16 ?_
      refine J_ild1 dX11_change_17 ?_
      refine J_iconst (v := 1) dX11_change_18 rfl ?_
      refine J_cVP (jX11_of l cx n a (1 : Int32) M) ck_RX11_213 dX11_change_19 rfl kk_207 ⟨rfl, rfl, by decide, by decide⟩ ⟨Nat.zero_le _, Nat.zero_le _, Nat.le_of_ble_eq_true rfl⟩ (fun r5 => ?_)
      refine J_ic_ne 28 dX11_change_22 rfl ?_ ?_
      · refine J_ald0 dX11_change_28 ?_
        refine J_getr (q := 209) fl_RX11_13 dX11_change_29 kk_207 rfl (rf_11_1 kk_207) ?_
        refine J_iconst (v := 1) dX11_change_32 rfl ?_
        refine J_iald dX11_change_33 kk_209 rfl ?_
        refine J_sipush (v := 398) dX11_change_34 rfl ?_
        refine J_ic_le 43 dX11_change_37 rfl ?_ ?_
        · refine J_ald0 dX11_change_43 ?_
          refine J_ild1 dX11_change_44 ?_
          refine J_cVI (jX11_credits l cx n a M) ck_RX11_249 dX11_change_45 rfl kk_207 ⟨rfl, rfl, by decide, by decide⟩ ⟨Nat.zero_le _, Nat.zero_le _, Nat.le_of_ble_eq_true rfl⟩ (fun r6 M7 => ?_)
          refine J_ist3 dX11_change_48 (by decide) rfl ?_
          refine J_ald0 dX11_change_49 ?_
          refine J_ild1 dX11_change_50 ?_
          refine J_iconst (v := 1) dX11_change_51 rfl ?_
          refine J_ild2 dX11_change_52 ?_
          refine J_cVV (jX11_sets l cx n a (1 : Int32) b M7) ck_RX11_233 dX11_change_53 rfl kk_207 ⟨rfl, rfl, by decide, by decide⟩ ⟨Nat.zero_le _, Nat.zero_le _, Nat.le_of_ble_eq_true rfl⟩ (fun M9 => ?_)
          refine J_ild3 dX11_change_56 ?_
          refine J_ald0 dX11_change_57 ?_
          refine J_ild1 dX11_change_58 ?_
          refine J_cVI (jX11_charges l cx n a M9) ck_RX11_241 dX11_change_59 rfl kk_207 ⟨rfl, rfl, by decide, by decide⟩ ⟨Nat.zero_le _, Nat.zero_le _, Nat.le_of_ble_eq_true rfl⟩ (fun r10 M11 => ?_)
          refine J_iadd dX11_change_62 ?_
          exact J_iret dX11_change_63 rfl ⟨rfl, rfl, rfl⟩
        · refine J_ldc dX11_change_40 wd_64 ?_
          exact J_iret dX11_change_42 rfl ⟨rfl, rfl, rfl⟩
      · refine J_ldc dX11_change_25 wd_63 ?_
        exact J_iret dX11_change_27 rfl ⟨rfl, rfl, rfl⟩
set_option maxRecDepth 100000 in
theorem jX11_seats (l : Launch) (cx : CX) (n : Nat) (a : Int32) (b : Int32) (M : Mem) : Con l cx ({ frames := 6, cells := 0, slots := 0, locals := 136 } : Room) yX11_seats cX11_seats 4 (some .int) 0 0 false 207 218 EI GS [.ref 207, .int a, .int b] M (mX11_seats n a b M) := by
  unfold mX11_seats
  refine Con.of (ls := [some (.ref 207), some (.int a), some (.int b), none]) (by decide) rfl (Nat.le_of_ble_eq_true rfl) ?_
  refine J_ald0 dX11_seats_0 ?_
  refine J_ild1 dX11_seats_1 ?_
  refine J_cVB (jX11_isOn l cx n a M) ck_RX11_244 dX11_seats_2 rfl kk_207 ⟨rfl, rfl, by decide, by decide⟩ ⟨Nat.zero_le _, Nat.zero_le _, Nat.le_of_ble_eq_true rfl⟩ (fun r1 z2 => ?_)
  refine J_if_eq 29 dX11_seats_5 rfl ?_ ?_
  · refine J_ldc dX11_seats_29 wd_63 ?_
    exact J_iret dX11_seats_31 rfl ⟨rfl, rfl, rfl⟩
  · refine J_ild2 dX11_seats_8 ?_
    refine J_iconst (v := 1) dX11_seats_9 rfl ?_
    refine J_bipush (v := 9) dX11_seats_10 rfl ?_
    refine J_cSB (jX11_in l cx n b (1 : Int32) (9 : Int32) M) ck_RX11_56 dX11_seats_12 rfl ⟨rfl, rfl, by decide, by decide⟩ ⟨Nat.zero_le _, Nat.zero_le _, Nat.le_of_ble_eq_true rfl⟩ (fun r3 z4 => ?_)
    refine J_if_eq 29 dX11_seats_15 rfl ?_ ?_
    · refine J_ldc dX11_seats_29 wd_63 ?_
      exact J_iret dX11_seats_31 rfl ⟨rfl, rfl, rfl⟩
    · refine J_ild2 dX11_seats_18 ?_
      refine J_ald0 dX11_seats_19 ?_
      refine J_ild1 dX11_seats_20 ?_
      refine J_bipush (v := 10) dX11_seats_21 rfl ?_
      refine J_cVP (jX11_of l cx n a (10 : Int32) M) ck_RX11_213 dX11_seats_23 rfl kk_207 ⟨rfl, rfl, by decide, by decide⟩ ⟨Nat.zero_le _, Nat.zero_le _, Nat.le_of_ble_eq_true rfl⟩ (fun r5 => ?_)
      refine J_ic_ne 32 dX11_seats_26 rfl ?_ ?_
      · refine J_ald0 dX11_seats_32 ?_
        refine J_getr (q := 209) fl_RX11_13 dX11_seats_33 kk_207 rfl (rf_11_1 kk_207) ?_
        refine J_iconst (v := 1) dX11_seats_36 rfl ?_
        refine J_iald dX11_seats_37 kk_209 rfl ?_
        refine J_sipush (v := 398) dX11_seats_38 rfl ?_
        refine J_ic_le 47 dX11_seats_41 rfl ?_ ?_
        · refine J_ald0 dX11_seats_47 ?_
          refine J_ild1 dX11_seats_48 ?_
          refine J_cVI (jX11_credits l cx n a M) ck_RX11_249 dX11_seats_49 rfl kk_207 ⟨rfl, rfl, by decide, by decide⟩ ⟨Nat.zero_le _, Nat.zero_le _, Nat.le_of_ble_eq_true rfl⟩ (fun r6 M7 => ?_)
          refine J_ist3 dX11_seats_52 (by decide) rfl ?_
          refine J_ald0 dX11_seats_53 ?_
          refine J_ild1 dX11_seats_54 ?_
          refine J_bipush (v := 10) dX11_seats_55 rfl ?_
          refine J_ild2 dX11_seats_57 ?_
          refine J_cVV (jX11_sets l cx n a (10 : Int32) b M7) ck_RX11_233 dX11_seats_58 rfl kk_207 ⟨rfl, rfl, by decide, by decide⟩ ⟨Nat.zero_le _, Nat.zero_le _, Nat.le_of_ble_eq_true rfl⟩ (fun M9 => ?_)
          refine J_ild3 dX11_seats_61 ?_
          refine J_ald0 dX11_seats_62 ?_
          refine J_ild1 dX11_seats_63 ?_
          refine J_cVI (jX11_charges l cx n a M9) ck_RX11_241 dX11_seats_64 rfl kk_207 ⟨rfl, rfl, by decide, by decide⟩ ⟨Nat.zero_le _, Nat.zero_le _, Nat.le_of_ble_eq_true rfl⟩ (fun r10 M11 => ?_)
          refine J_iadd dX11_seats_67 ?_
          exact J_iret dX11_seats_68 rfl ⟨rfl, rfl, rfl⟩
        · refine J_ldc dX11_seats_44 wd_64 ?_
          exact J_iret dX11_seats_46 rfl ⟨rfl, rfl, rfl⟩
      · refine J_ldc dX11_seats_29 wd_63 ?_
        exact J_iret dX11_seats_31 rfl ⟨rfl, rfl, rfl⟩
set_option maxRecDepth 100000 in
theorem jX11_pause_c24 {l : Launch} {cx : CX} {n : Nat} {v1 : Int32} {v2 : Int32} {s0 : Int32} {s1 : Int32} {M : Mem} (z2 : v2 = 0 ∨ v2 = 1) : JO l cx ({ frames := 6, cells := 0, slots := 0, locals := 136 } : Room) yX11_pause cX11_pause 4 (some .int) 0 0 false 207 218 EI GS 0 0 24 [some (.ref 207), some (.int v1), some (.int v2), none] [.int s0, .int s1] M (mX11_pause_c24 n v1 v2 s0 s1 M) := by
  unfold mX11_pause_c24
  refine J_ic_ne 30 dX11_pause_24 rfl ?_ ?_
  · refine J_ald0 dX11_pause_30 ?_
    refine J_getr (q := 209) fl_RX11_13 dX11_pause_31 kk_207 rfl (rf_11_1 kk_207) ?_
    refine J_iconst (v := 1) dX11_pause_34 rfl ?_
    refine J_iald dX11_pause_35 kk_209 rfl ?_
    refine J_sipush (v := 398) dX11_pause_36 rfl ?_
    refine J_ic_le 45 dX11_pause_39 rfl ?_ ?_
    · refine J_ald0 dX11_pause_45 ?_
      refine J_ild1 dX11_pause_46 ?_
      refine J_cVI (jX11_credits l cx n v1 M) ck_RX11_249 dX11_pause_47 rfl kk_207 ⟨rfl, rfl, by decide, by decide⟩ ⟨Nat.zero_le _, Nat.zero_le _, Nat.le_of_ble_eq_true rfl⟩ (fun r1 M2 => ?_)
      refine J_ist3 dX11_pause_50 (by decide) rfl ?_
      refine J_ald0 dX11_pause_51 ?_
      refine J_ild1 dX11_pause_52 ?_
      refine J_bipush (v := 7) dX11_pause_53 rfl ?_
      refine J_ild2 dX11_pause_55 ?_
      refine J_if_eq 63 dX11_pause_56 rfl ?_ ?_
      · refine J_iconst (v := 0) dX11_pause_63 rfl ?_
        refine J_cVV (jX11_sets l cx n v1 (7 : Int32) (0 : Int32) M2) ck_RX11_233 dX11_pause_64 rfl kk_207 ⟨rfl, rfl, by decide, by decide⟩ ⟨Nat.zero_le _, Nat.zero_le _, Nat.le_of_ble_eq_true rfl⟩ (fun M4 => ?_)
        refine J_ild3 dX11_pause_67 ?_
        refine J_ald0 dX11_pause_68 ?_
        refine J_ild1 dX11_pause_69 ?_
        refine J_cVI (jX11_charges l cx n v1 M4) ck_RX11_241 dX11_pause_70 rfl kk_207 ⟨rfl, rfl, by decide, by decide⟩ ⟨Nat.zero_le _, Nat.zero_le _, Nat.le_of_ble_eq_true rfl⟩ (fun r5 M6 => ?_)
        refine J_iadd dX11_pause_73 ?_
        exact J_iret dX11_pause_74 rfl ⟨rfl, rfl, rfl⟩
      · refine J_iconst (v := 1) dX11_pause_59 rfl ?_
        refine J_goto 64 dX11_pause_60 rfl ?_
        refine J_cVV (jX11_sets l cx n v1 (7 : Int32) (1 : Int32) M2) ck_RX11_233 dX11_pause_64 rfl kk_207 ⟨rfl, rfl, by decide, by decide⟩ ⟨Nat.zero_le _, Nat.zero_le _, Nat.le_of_ble_eq_true rfl⟩ (fun M8 => ?_)
        refine J_ild3 dX11_pause_67 ?_
        refine J_ald0 dX11_pause_68 ?_
        refine J_ild1 dX11_pause_69 ?_
        refine J_cVI (jX11_charges l cx n v1 M8) ck_RX11_241 dX11_pause_70 rfl kk_207 ⟨rfl, rfl, by decide, by decide⟩ ⟨Nat.zero_le _, Nat.zero_le _, Nat.le_of_ble_eq_true rfl⟩ (fun r9 M10 => ?_)
        refine J_iadd dX11_pause_73 ?_
        exact J_iret dX11_pause_74 rfl ⟨rfl, rfl, rfl⟩
    · refine J_ldc dX11_pause_42 wd_64 ?_
      exact J_iret dX11_pause_44 rfl ⟨rfl, rfl, rfl⟩
  · refine J_ldc dX11_pause_27 wd_63 ?_
    exact J_iret dX11_pause_29 rfl ⟨rfl, rfl, rfl⟩
set_option maxRecDepth 100000 in
theorem jX11_pause (l : Launch) (cx : CX) (n : Nat) (a : Int32) (b : Int32) (zb : b = 0 ∨ b = 1) (M : Mem) : Con l cx ({ frames := 6, cells := 0, slots := 0, locals := 136 } : Room) yX11_pause cX11_pause 4 (some .int) 0 0 false 207 218 EI GS [.ref 207, .int a, .int b] M (mX11_pause n a b M) := by
  unfold mX11_pause
  refine Con.of (ls := [some (.ref 207), some (.int a), some (.int b), none]) (by decide) rfl (Nat.le_of_ble_eq_true rfl) ?_
  refine J_ald0 dX11_pause_0 ?_
  refine J_ild1 dX11_pause_1 ?_
  refine J_cVB (jX11_isOn l cx n a M) ck_RX11_244 dX11_pause_2 rfl kk_207 ⟨rfl, rfl, by decide, by decide⟩ ⟨Nat.zero_le _, Nat.zero_le _, Nat.le_of_ble_eq_true rfl⟩ (fun r11 z12 => ?_)
  refine J_if_eq 27 dX11_pause_5 rfl ?_ ?_
  · refine J_ldc dX11_pause_27 wd_63 ?_
    exact J_iret dX11_pause_29 rfl ⟨rfl, rfl, rfl⟩
  · refine J_ald0 dX11_pause_8 ?_
    refine J_ild1 dX11_pause_9 ?_
    refine J_bipush (v := 7) dX11_pause_10 rfl ?_
    refine J_cVP (jX11_of l cx n a (7 : Int32) M) ck_RX11_213 dX11_pause_12 rfl kk_207 ⟨rfl, rfl, by decide, by decide⟩ ⟨Nat.zero_le _, Nat.zero_le _, Nat.le_of_ble_eq_true rfl⟩ (fun r13 => ?_)
    refine J_ild2 dX11_pause_15 ?_
    refine J_if_eq 23 dX11_pause_16 rfl ?_ ?_
    · refine J_iconst (v := 0) dX11_pause_23 rfl ?_
      exact J_wk (wk_s (wk_s (wk_s (wk_n wk_0)))) (jX11_pause_c24 (n := n) zb)
    · refine J_iconst (v := 1) dX11_pause_19 rfl ?_
      refine J_goto 24 dX11_pause_20 rfl ?_
      exact J_wk (wk_s (wk_s (wk_s (wk_n wk_0)))) (jX11_pause_c24 (n := n) zb)
set_option maxRecDepth 100000 in
theorem jX11_giveUp (l : Launch) (cx : CX) (n : Nat) (a : Int32) (M : Mem) : Con l cx ({ frames := 6, cells := 0, slots := 0, locals := 136 } : Room) yX11_giveUp cX11_giveUp 3 (some .int) 0 0 false 207 218 EI GS [.ref 207, .int a] M (mX11_giveUp n a M) := by
  unfold mX11_giveUp
  refine Con.of (ls := [some (.ref 207), some (.int a), none]) (by decide) rfl (Nat.le_of_ble_eq_true rfl) ?_
  refine J_ald0 dX11_giveUp_0 ?_
  refine J_ild1 dX11_giveUp_1 ?_
  refine J_cVB (jX11_isOn l cx n a M) ck_RX11_244 dX11_giveUp_2 rfl kk_207 ⟨rfl, rfl, by decide, by decide⟩ ⟨Nat.zero_le _, Nat.zero_le _, Nat.le_of_ble_eq_true rfl⟩ (fun r1 z2 => ?_)
  refine J_if_ne 11 dX11_giveUp_5 rfl ?_ ?_
  · refine J_ald0 dX11_giveUp_11 ?_
    refine J_getr (q := 209) fl_RX11_13 dX11_giveUp_12 kk_207 rfl (rf_11_1 kk_207) ?_
    refine J_iconst (v := 1) dX11_giveUp_15 rfl ?_
    refine J_iald dX11_giveUp_16 kk_209 rfl ?_
    refine J_sipush (v := 398) dX11_giveUp_17 rfl ?_
    refine J_ic_le 26 dX11_giveUp_20 rfl ?_ ?_
    · refine J_ald0 dX11_giveUp_26 ?_
      refine J_ild1 dX11_giveUp_27 ?_
      refine J_cVI (jX11_credits l cx n a M) ck_RX11_249 dX11_giveUp_28 rfl kk_207 ⟨rfl, rfl, by decide, by decide⟩ ⟨Nat.zero_le _, Nat.zero_le _, Nat.le_of_ble_eq_true rfl⟩ (fun r3 M4 => ?_)
      refine J_ist2 dX11_giveUp_31 (by decide) rfl ?_
      refine J_ild2 dX11_giveUp_32 ?_
      refine J_ald0 dX11_giveUp_33 ?_
      refine J_ild1 dX11_giveUp_34 ?_
      refine J_cVI (jX11_uses l cx n a M4) ck_RX11_252 dX11_giveUp_35 rfl kk_207 ⟨rfl, rfl, by decide, by decide⟩ ⟨Nat.zero_le _, Nat.zero_le _, Nat.le_of_ble_eq_true rfl⟩ (fun r5 M6 => ?_)
      refine J_iadd dX11_giveUp_38 ?_
      refine J_ist2 dX11_giveUp_39 (by decide) rfl ?_
      refine J_ald0 dX11_giveUp_40 ?_
      refine J_ild1 dX11_giveUp_41 ?_
      refine J_bipush (v := 8) dX11_giveUp_42 rfl ?_
      refine J_iconst (v := 1) dX11_giveUp_44 rfl ?_
      refine J_cVV (jX11_sets l cx n a (8 : Int32) (1 : Int32) M6) ck_RX11_233 dX11_giveUp_45 rfl kk_207 ⟨rfl, rfl, by decide, by decide⟩ ⟨Nat.zero_le _, Nat.zero_le _, Nat.le_of_ble_eq_true rfl⟩ (fun M8 => ?_)
      refine J_ild2 dX11_giveUp_48 ?_
      exact J_iret dX11_giveUp_49 rfl ⟨rfl, rfl, rfl⟩
    · refine J_ldc dX11_giveUp_23 wd_64 ?_
      exact J_iret dX11_giveUp_25 rfl ⟨rfl, rfl, rfl⟩
  · refine J_ldc dX11_giveUp_8 wd_63 ?_
    exact J_iret dX11_giveUp_10 rfl ⟨rfl, rfl, rfl⟩
set_option maxRecDepth 100000 in
theorem jX11_move (l : Launch) (cx : CX) (n : Nat) (a : Int32) (b : Int32) (M : Mem) : Con l cx ({ frames := 6, cells := 0, slots := 0, locals := 136 } : Room) yX11_move cX11_move 4 (some .int) 0 0 false 207 218 EI GS [.ref 207, .int a, .int b] M (mX11_move n a b M) := by
  unfold mX11_move
  refine Con.of (ls := [some (.ref 207), some (.int a), some (.int b), none]) (by decide) rfl (Nat.le_of_ble_eq_true rfl) ?_
  refine J_ald0 dX11_move_0 ?_
  refine J_ild1 dX11_move_1 ?_
  refine J_cVB (jX11_isOn l cx n a M) ck_RX11_244 dX11_move_2 rfl kk_207 ⟨rfl, rfl, by decide, by decide⟩ ⟨Nat.zero_le _, Nat.zero_le _, Nat.le_of_ble_eq_true rfl⟩ (fun r1 z2 => ?_)
  refine J_if_eq 25 dX11_move_5 rfl ?_ ?_
  · refine J_ldc dX11_move_25 wd_63 ?_
    exact J_iret dX11_move_27 rfl ⟨rfl, rfl, rfl⟩
  · refine J_ild2 dX11_move_8 ?_
    refine J_cSB (jX11_isAnchor l cx n b M) ck_RX11_60 dX11_move_9 rfl ⟨rfl, rfl, by decide, by decide⟩ ⟨Nat.zero_le _, Nat.zero_le _, Nat.le_of_ble_eq_true rfl⟩ (fun r3 z4 => ?_)
    refine J_if_eq 25 dX11_move_12 rfl ?_ ?_
    · refine J_ldc dX11_move_25 wd_63 ?_
      exact J_iret dX11_move_27 rfl ⟨rfl, rfl, rfl⟩
    · refine J_ild2 dX11_move_15 ?_
      refine J_ald0 dX11_move_16 ?_
      refine J_ild1 dX11_move_17 ?_
      refine J_iconst (v := 2) dX11_move_18 rfl ?_
      refine J_cVP (jX11_of l cx n a (2 : Int32) M) ck_RX11_213 dX11_move_19 rfl kk_207 ⟨rfl, rfl, by decide, by decide⟩ ⟨Nat.zero_le _, Nat.zero_le _, Nat.le_of_ble_eq_true rfl⟩ (fun r5 => ?_)
      refine J_ic_ne 28 dX11_move_22 rfl ?_ ?_
      · refine J_ald0 dX11_move_28 ?_
        refine J_getr (q := 209) fl_RX11_13 dX11_move_29 kk_207 rfl (rf_11_1 kk_207) ?_
        refine J_iconst (v := 1) dX11_move_32 rfl ?_
        refine J_iald dX11_move_33 kk_209 rfl ?_
        refine J_sipush (v := 397) dX11_move_34 rfl ?_
        refine J_ic_le 43 dX11_move_37 rfl ?_ ?_
        · refine J_ald0 dX11_move_43 ?_
          refine J_ild2 dX11_move_44 ?_
          refine J_ald0 dX11_move_45 ?_
          refine J_getr (q := 209) fl_RX11_13 dX11_move_46 kk_207 rfl (rf_11_1 kk_207) ?_
          refine J_iconst (v := 0) dX11_move_49 rfl ?_
          refine J_iald dX11_move_50 kk_209 rfl ?_
          refine J_cVP (jX11_nextTurn l cx n b (M 209 (Int32.toNatClampNeg (0 : Int32))) M) ck_RX11_70 dX11_move_51 rfl kk_207 ⟨rfl, rfl, by decide, by decide⟩ ⟨Nat.zero_le _, Nat.zero_le _, Nat.le_of_ble_eq_true rfl⟩ (fun r6 => ?_)
          refine J_sipush (v := 3652) dX11_move_54 rfl ?_
          refine J_ic_le 63 dX11_move_57 rfl ?_ ?_
          · refine J_ald0 dX11_move_63 ?_
            refine J_ild1 dX11_move_64 ?_
            refine J_cVI (jX11_credits l cx n a M) ck_RX11_249 dX11_move_65 rfl kk_207 ⟨rfl, rfl, by decide, by decide⟩ ⟨Nat.zero_le _, Nat.zero_le _, Nat.le_of_ble_eq_true rfl⟩ (fun r7 M8 => ?_)
            refine J_ist3 dX11_move_68 (by decide) rfl ?_
            refine J_ild3 dX11_move_69 ?_
            refine J_ald0 dX11_move_70 ?_
            refine J_ild1 dX11_move_71 ?_
            refine J_cVI (jX11_uses l cx n a M8) ck_RX11_252 dX11_move_72 rfl kk_207 ⟨rfl, rfl, by decide, by decide⟩ ⟨Nat.zero_le _, Nat.zero_le _, Nat.le_of_ble_eq_true rfl⟩ (fun r9 M10 => ?_)
            refine J_iadd dX11_move_75 ?_
            refine J_ist3 dX11_move_76 (by decide) rfl ?_
            refine J_ald0 dX11_move_77 ?_
            refine J_ild1 dX11_move_78 ?_
            refine J_iconst (v := 2) dX11_move_79 rfl ?_
            refine J_ild2 dX11_move_80 ?_
            refine J_cVV (jX11_sets l cx n a (2 : Int32) b M10) ck_RX11_233 dX11_move_81 rfl kk_207 ⟨rfl, rfl, by decide, by decide⟩ ⟨Nat.zero_le _, Nat.zero_le _, Nat.le_of_ble_eq_true rfl⟩ (fun M12 => ?_)
            refine J_ald0 dX11_move_84 ?_
            refine J_ild1 dX11_move_85 ?_
            refine J_ald0 dX11_move_86 ?_
            refine J_ild1 dX11_move_87 ?_
            refine J_iconst (v := 3) dX11_move_88 rfl ?_
            refine J_cVP (jX11_of l cx n a (3 : Int32) M12) ck_RX11_213 dX11_move_89 rfl kk_207 ⟨rfl, rfl, by decide, by decide⟩ ⟨Nat.zero_le _, Nat.zero_le _, Nat.le_of_ble_eq_true rfl⟩ (fun r13 => ?_)
            refine J_iconst (v := 1) dX11_move_92 rfl ?_
            refine J_iadd dX11_move_93 ?_
            refine J_cVV (jX11_opens l cx n a (r13 + (1 : Int32)) M12) ck_RX11_237 dX11_move_94 rfl kk_207 ⟨rfl, rfl, by decide, by decide⟩ ⟨Nat.zero_le _, Nat.zero_le _, Nat.le_of_ble_eq_true rfl⟩ (fun M15 => ?_)
            refine J_ild3 dX11_move_97 ?_
            refine J_ald0 dX11_move_98 ?_
            refine J_ild1 dX11_move_99 ?_
            refine J_cVI (jX11_charges l cx n a M15) ck_RX11_241 dX11_move_100 rfl kk_207 ⟨rfl, rfl, by decide, by decide⟩ ⟨Nat.zero_le _, Nat.zero_le _, Nat.le_of_ble_eq_true rfl⟩ (fun r16 M17 => ?_)
            refine J_iadd dX11_move_103 ?_
            exact J_iret dX11_move_104 rfl ⟨rfl, rfl, rfl⟩
          · refine J_ldc dX11_move_60 wd_65 ?_
            exact J_iret dX11_move_62 rfl ⟨rfl, rfl, rfl⟩
        · refine J_ldc dX11_move_40 wd_64 ?_
          exact J_iret dX11_move_42 rfl ⟨rfl, rfl, rfl⟩
      · refine J_ldc dX11_move_25 wd_63 ?_
        exact J_iret dX11_move_27 rfl ⟨rfl, rfl, rfl⟩
set_option maxRecDepth 100000 in
theorem jX11_use (l : Launch) (cx : CX) (n : Nat) (a : Int32) (b : Int32) (M : Mem) : Con l cx ({ frames := 4, cells := 0, slots := 0, locals := 84 } : Room) yX11_use cX11_use 3 (some .int) 0 0 false 207 218 EI GS [.ref 207, .int a, .int b] M (mX11_use a b M) := by
  unfold mX11_use
  refine Con.of (ls := [some (.ref 207), some (.int a), some (.int b)]) (by decide) rfl (Nat.le_of_ble_eq_true rfl) ?_
  refine J_ald0 dX11_use_0 ?_
  refine J_ild1 dX11_use_1 ?_
  refine J_cVB (jX11_isOn l cx n a M) ck_RX11_244 dX11_use_2 rfl kk_207 ⟨rfl, rfl, by decide, by decide⟩ ⟨Nat.zero_le _, Nat.zero_le _, Nat.le_of_ble_eq_true rfl⟩ (fun r1 z2 => ?_)
  refine J_if_eq 12 dX11_use_5 rfl ?_ ?_
  · refine J_iconst (v := -1) dX11_use_12 rfl ?_
    exact J_iret dX11_use_13 rfl ⟨rfl, rfl, rfl⟩
  · refine J_ild2 dX11_use_8 ?_
    refine J_if_ge 14 dX11_use_9 rfl ?_ ?_
    · refine J_ald0 dX11_use_14 ?_
      refine J_ild1 dX11_use_15 ?_
      refine J_bipush (v := 7) dX11_use_16 rfl ?_
      refine J_cVP (jX11_of l cx n a (7 : Int32) M) ck_RX11_213 dX11_use_18 rfl kk_207 ⟨rfl, rfl, by decide, by decide⟩ ⟨Nat.zero_le _, Nat.zero_le _, Nat.le_of_ble_eq_true rfl⟩ (fun r3 => ?_)
      refine J_iconst (v := 1) dX11_use_21 rfl ?_
      refine J_ic_ne 28 dX11_use_22 rfl ?_ ?_
      · refine J_ild2 dX11_use_28 ?_
        refine J_sipush (v := 9999) dX11_use_29 rfl ?_
        refine J_ald0 dX11_use_32 ?_
        refine J_ild1 dX11_use_33 ?_
        refine J_bipush (v := 6) dX11_use_34 rfl ?_
        refine J_cVP (jX11_of l cx n a (6 : Int32) M) ck_RX11_213 dX11_use_36 rfl kk_207 ⟨rfl, rfl, by decide, by decide⟩ ⟨Nat.zero_le _, Nat.zero_le _, Nat.le_of_ble_eq_true rfl⟩ (fun r4 => ?_)
        refine J_isub dX11_use_39 ?_
        refine J_ic_le 46 dX11_use_40 rfl ?_ ?_
        · refine J_ald0 dX11_use_46 ?_
          refine J_ild1 dX11_use_47 ?_
          refine J_bipush (v := 6) dX11_use_48 rfl ?_
          refine J_ald0 dX11_use_50 ?_
          refine J_ild1 dX11_use_51 ?_
          refine J_bipush (v := 6) dX11_use_52 rfl ?_
          refine J_cVP (jX11_of l cx n a (6 : Int32) M) ck_RX11_213 dX11_use_54 rfl kk_207 ⟨rfl, rfl, by decide, by decide⟩ ⟨Nat.zero_le _, Nat.zero_le _, Nat.le_of_ble_eq_true rfl⟩ (fun r5 => ?_)
          refine J_ild2 dX11_use_57 ?_
          refine J_iadd dX11_use_58 ?_
          refine J_cVV (jX11_sets l cx n a (6 : Int32) (r5 + b) M) ck_RX11_233 dX11_use_59 rfl kk_207 ⟨rfl, rfl, by decide, by decide⟩ ⟨Nat.zero_le _, Nat.zero_le _, Nat.le_of_ble_eq_true rfl⟩ (fun M7 => ?_)
          refine J_ald0 dX11_use_62 ?_
          refine J_ild1 dX11_use_63 ?_
          refine J_bipush (v := 6) dX11_use_64 rfl ?_
          refine J_cVP (jX11_of l cx n a (6 : Int32) M7) ck_RX11_213 dX11_use_66 rfl kk_207 ⟨rfl, rfl, by decide, by decide⟩ ⟨Nat.zero_le _, Nat.zero_le _, Nat.le_of_ble_eq_true rfl⟩ (fun r8 => ?_)
          exact J_iret dX11_use_69 rfl ⟨rfl, rfl, rfl⟩
        · refine J_bipush (v := -3) dX11_use_43 rfl ?_
          exact J_iret dX11_use_45 rfl ⟨rfl, rfl, rfl⟩
      · refine J_bipush (v := -2) dX11_use_25 rfl ?_
        exact J_iret dX11_use_27 rfl ⟨rfl, rfl, rfl⟩
    · refine J_iconst (v := -1) dX11_use_12 rfl ?_
      exact J_iret dX11_use_13 rfl ⟨rfl, rfl, rfl⟩
set_option maxRecDepth 100000 in
theorem jX11_turnsOn (l : Launch) (cx : CX) (n : Nat) (a : Int32) (b : Int32) (M : Mem) : Con l cx ({ frames := 4, cells := 0, slots := 0, locals := 84 } : Room) yX11_turnsOn cX11_turnsOn 3 (some .boolean) 0 0 false 207 218 (EB M) GS [.ref 207, .int a, .int b] M (mX11_turnsOn a b M) := by
  unfold mX11_turnsOn
  refine Con.of (ls := [some (.ref 207), some (.int a), some (.int b)]) (by decide) rfl (Nat.le_of_ble_eq_true rfl) ?_
  refine J_ald0 dX11_turnsOn_0 ?_
  refine J_ild1 dX11_turnsOn_1 ?_
  refine J_cVB (jX11_isOn l cx n a M) ck_RX11_244 dX11_turnsOn_2 rfl kk_207 ⟨rfl, rfl, by decide, by decide⟩ ⟨Nat.zero_le _, Nat.zero_le _, Nat.le_of_ble_eq_true rfl⟩ (fun r1 z2 => ?_)
  refine J_if_eq 22 dX11_turnsOn_5 rfl ?_ ?_
  · refine J_iconst (v := 0) dX11_turnsOn_22 rfl ?_
    exact J_zret dX11_turnsOn_23 rfl (Or.inl rfl) ⟨rfl, rfl, rfl, (Or.inl rfl)⟩
  · refine J_ald0 dX11_turnsOn_8 ?_
    refine J_ild1 dX11_turnsOn_9 ?_
    refine J_iconst (v := 5) dX11_turnsOn_10 rfl ?_
    refine J_cVP (jX11_of l cx n a (5 : Int32) M) ck_RX11_213 dX11_turnsOn_11 rfl kk_207 ⟨rfl, rfl, by decide, by decide⟩ ⟨Nat.zero_le _, Nat.zero_le _, Nat.le_of_ble_eq_true rfl⟩ (fun r3 => ?_)
    refine J_ild2 dX11_turnsOn_14 ?_
    refine J_ic_ne 22 dX11_turnsOn_15 rfl ?_ ?_
    · refine J_iconst (v := 0) dX11_turnsOn_22 rfl ?_
      exact J_zret dX11_turnsOn_23 rfl (Or.inl rfl) ⟨rfl, rfl, rfl, (Or.inl rfl)⟩
    · refine J_iconst (v := 1) dX11_turnsOn_18 rfl ?_
      refine J_goto 23 dX11_turnsOn_19 rfl ?_
      exact J_zret dX11_turnsOn_23 rfl (Or.inr rfl) ⟨rfl, rfl, rfl, (Or.inr rfl)⟩
set_option maxRecDepth 100000 in
theorem jX11_mayPass_c22 {l : Launch} {cx : CX} {n : Nat} {M : Mem} : ∀ (f : Nat) {v1 : Int32} {v2 : Int32} {v3 : Int32}, JO l cx ({ frames := 5, cells := 0, slots := 0, locals := 106 } : Room) yX11_mayPass cX11_mayPass 4 (some .boolean) 0 0 false 207 218 (EB M) GS 0 0 22 [some (.ref 207), some (.int v1), some (.int v2), some (.int v3)] [] M (mX11_mayPass_c22 n f v1 v2 v3 M) := by
  intro f
  induction f with
  | zero =>
    intros
    exact J_none
  | succ f ih =>
    intro v1 v2 v3
    unfold mX11_mayPass_c22
    refine J_ild3 dX11_mayPass_22 ?_
    refine J_bipush (v := 6) dX11_mayPass_23 rfl ?_
    refine J_ic_ge 69 dX11_mayPass_25 rfl ?_ ?_
    · refine J_ald0 dX11_mayPass_69 ?_
      refine J_getr (q := 209) fl_RX11_13 dX11_mayPass_70 kk_207 rfl (rf_11_1 kk_207) ?_
      refine J_iconst (v := 1) dX11_mayPass_73 rfl ?_
      refine J_iald dX11_mayPass_74 kk_209 rfl ?_
      refine J_ild2 dX11_mayPass_75 ?_
      refine J_iadd dX11_mayPass_76 ?_
      refine J_sipush (v := 400) dX11_mayPass_77 rfl ?_
      refine J_ic_gt 87 dX11_mayPass_80 rfl ?_ ?_
      · refine J_iconst (v := 0) dX11_mayPass_87 rfl ?_
        exact J_zret dX11_mayPass_88 rfl (Or.inl rfl) ⟨rfl, rfl, rfl, (Or.inl rfl)⟩
      · refine J_iconst (v := 1) dX11_mayPass_83 rfl ?_
        refine J_goto 88 dX11_mayPass_84 rfl ?_
        exact J_zret dX11_mayPass_88 rfl (Or.inr rfl) ⟨rfl, rfl, rfl, (Or.inr rfl)⟩
    · refine J_ald0 dX11_mayPass_28 ?_
      refine J_ild3 dX11_mayPass_29 ?_
      refine J_ild1 dX11_mayPass_30 ?_
      refine J_cVB (jX11_turnsOn l cx n v3 v1 M) ck_RX11_256 dX11_mayPass_31 rfl kk_207 ⟨rfl, rfl, by decide, by decide⟩ ⟨Nat.zero_le _, Nat.zero_le _, Nat.le_of_ble_eq_true rfl⟩ (fun r1 z2 => ?_)
      refine J_if_ne 40 dX11_mayPass_34 rfl ?_ ?_
      · refine J_ild2 dX11_mayPass_40 ?_
        refine J_iconst (v := 2) dX11_mayPass_41 rfl ?_
        refine J_iadd dX11_mayPass_42 ?_
        refine J_ist2 dX11_mayPass_43 (by decide) rfl ?_
        refine J_ald0 dX11_mayPass_44 ?_
        refine J_ald0 dX11_mayPass_45 ?_
        refine J_ild3 dX11_mayPass_46 ?_
        refine J_iconst (v := 2) dX11_mayPass_47 rfl ?_
        refine J_cVP (jX11_of l cx n v3 (2 : Int32) M) ck_RX11_213 dX11_mayPass_48 rfl kk_207 ⟨rfl, rfl, by decide, by decide⟩ ⟨Nat.zero_le _, Nat.zero_le _, Nat.le_of_ble_eq_true rfl⟩ (fun r3 => ?_)
        refine J_ild1 dX11_mayPass_51 ?_
        refine J_cVP (jX11_nextTurn l cx n r3 v1 M) ck_RX11_70 dX11_mayPass_52 rfl kk_207 ⟨rfl, rfl, by decide, by decide⟩ ⟨Nat.zero_le _, Nat.zero_le _, Nat.le_of_ble_eq_true rfl⟩ (fun r4 => ?_)
        refine J_sipush (v := 3652) dX11_mayPass_55 rfl ?_
        refine J_ic_le 63 dX11_mayPass_58 rfl ?_ ?_
        · refine J_iinc3 (w := (v3 + (1 : Int32))) dX11_mayPass_63 (by decide) rfl rfl ?_
          refine J_goto 22 dX11_mayPass_66 rfl ?_
          exact J_wk (wk_s (wk_s (wk_s (wk_s wk_0)))) (ih)
        · refine J_iconst (v := 0) dX11_mayPass_61 rfl ?_
          exact J_zret dX11_mayPass_62 rfl (Or.inl rfl) ⟨rfl, rfl, rfl, (Or.inl rfl)⟩
      · refine J_goto 63 dX11_mayPass_37 rfl ?_
        refine J_iinc3 (w := (v3 + (1 : Int32))) dX11_mayPass_63 (by decide) rfl rfl ?_
        refine J_goto 22 dX11_mayPass_66 rfl ?_
        exact J_wk (wk_s (wk_s (wk_s (wk_s wk_0)))) (ih)
set_option maxRecDepth 100000 in
theorem jX11_mayPass (l : Launch) (cx : CX) (n : Nat) (M : Mem) : Con l cx ({ frames := 5, cells := 0, slots := 0, locals := 106 } : Room) yX11_mayPass cX11_mayPass 4 (some .boolean) 0 0 false 207 218 (EB M) GS [.ref 207] M (mX11_mayPass n M) := by
  unfold mX11_mayPass
  refine Con.of (ls := [some (.ref 207), none, none, none]) (by decide) rfl (Nat.le_of_ble_eq_true rfl) ?_
  refine J_ald0 dX11_mayPass_0 ?_
  refine J_getr (q := 209) fl_RX11_13 dX11_mayPass_1 kk_207 rfl (rf_11_1 kk_207) ?_
  refine J_iconst (v := 0) dX11_mayPass_4 rfl ?_
  refine J_iald dX11_mayPass_5 kk_209 rfl ?_
  refine J_iconst (v := 1) dX11_mayPass_6 rfl ?_
  refine J_iadd dX11_mayPass_7 ?_
  refine J_ist1 dX11_mayPass_8 (by decide) rfl ?_
  refine J_ild1 dX11_mayPass_9 ?_
  refine J_sipush (v := 3652) dX11_mayPass_10 rfl ?_
  refine J_ic_le 18 dX11_mayPass_13 rfl ?_ ?_
  · refine J_iconst (v := 0) dX11_mayPass_18 rfl ?_
    refine J_ist2 dX11_mayPass_19 (by decide) rfl ?_
    refine J_iconst (v := 0) dX11_mayPass_20 rfl ?_
    refine J_ist3 dX11_mayPass_21 (by decide) rfl ?_
    exact J_wk (wk_s (wk_s (wk_s (wk_s wk_0)))) (jX11_mayPass_c22 (n := n) n)
  · refine J_iconst (v := 0) dX11_mayPass_16 rfl ?_
    exact J_zret dX11_mayPass_17 rfl (Or.inl rfl) ⟨rfl, rfl, rfl, (Or.inl rfl)⟩
set_option maxRecDepth 100000 in
theorem jX11_pass_c34 {l : Launch} {cx : CX} {n : Nat} {k2 : Int32 → Int32 → Mem → Option (Int32 × Mem)} (hk2 : ∀ {v1 : Int32} {v2 : Int32} {M : Mem}, JO l cx ({ frames := 6, cells := 0, slots := 0, locals := 136 } : Room) yX11_pass cX11_pass 4 (some .int) 0 0 false 207 218 EI GS 0 0 2 [some (.ref 207), some (.int v1), some (.int v2), none] [] M (k2 v1 v2 M)) : ∀ (f : Nat) {v1 : Int32} {v2 : Int32} {v3 : Int32} {M : Mem}, JO l cx ({ frames := 6, cells := 0, slots := 0, locals := 136 } : Room) yX11_pass cX11_pass 4 (some .int) 0 0 false 207 218 EI GS 0 0 34 [some (.ref 207), some (.int v1), some (.int v2), some (.int v3)] [] M (mX11_pass_c34 n k2 f v1 v2 v3 M) := by
  intro f
  induction f with
  | zero =>
    intros
    exact J_none
  | succ f ih =>
    intro v1 v2 v3 M
    unfold mX11_pass_c34
    refine J_ild3 dX11_pass_34 ?_
    refine J_bipush (v := 6) dX11_pass_35 rfl ?_
    refine J_ic_ge 88 dX11_pass_37 rfl ?_ ?_
    · refine J_goto 2 dX11_pass_88 rfl ?_
      exact J_wk (wk_s (wk_s (wk_s (wk_n wk_0)))) (hk2)
    · refine J_ald0 dX11_pass_40 ?_
      refine J_ild3 dX11_pass_41 ?_
      refine J_ald0 dX11_pass_42 ?_
      refine J_getr (q := 209) fl_RX11_13 dX11_pass_43 kk_207 rfl (rf_11_1 kk_207) ?_
      refine J_iconst (v := 0) dX11_pass_46 rfl ?_
      refine J_iald dX11_pass_47 kk_209 rfl ?_
      refine J_cVB (jX11_turnsOn l cx n v3 (M 209 (Int32.toNatClampNeg (0 : Int32))) M) ck_RX11_256 dX11_pass_48 rfl kk_207 ⟨rfl, rfl, by decide, by decide⟩ ⟨Nat.zero_le _, Nat.zero_le _, Nat.le_of_ble_eq_true rfl⟩ (fun r1 z2 => ?_)
      refine J_if_ne 57 dX11_pass_51 rfl ?_ ?_
      · refine J_ald0 dX11_pass_57 ?_
        refine J_ild3 dX11_pass_58 ?_
        refine J_cVI (jX11_uses l cx n v3 M) ck_RX11_252 dX11_pass_59 rfl kk_207 ⟨rfl, rfl, by decide, by decide⟩ ⟨Nat.zero_le _, Nat.zero_le _, Nat.le_of_ble_eq_true rfl⟩ (fun r3 M4 => ?_)
        refine J_pop_i dX11_pass_62 ?_
        refine J_ald0 dX11_pass_63 ?_
        refine J_ild3 dX11_pass_64 ?_
        refine J_ald0 dX11_pass_65 ?_
        refine J_ild3 dX11_pass_66 ?_
        refine J_iconst (v := 3) dX11_pass_67 rfl ?_
        refine J_cVP (jX11_of l cx n v3 (3 : Int32) M4) ck_RX11_213 dX11_pass_68 rfl kk_207 ⟨rfl, rfl, by decide, by decide⟩ ⟨Nat.zero_le _, Nat.zero_le _, Nat.le_of_ble_eq_true rfl⟩ (fun r5 => ?_)
        refine J_iconst (v := 1) dX11_pass_71 rfl ?_
        refine J_iadd dX11_pass_72 ?_
        refine J_cVV (jX11_opens l cx n v3 (r5 + (1 : Int32)) M4) ck_RX11_237 dX11_pass_73 rfl kk_207 ⟨rfl, rfl, by decide, by decide⟩ ⟨Nat.zero_le _, Nat.zero_le _, Nat.le_of_ble_eq_true rfl⟩ (fun M7 => ?_)
        refine J_ald0 dX11_pass_76 ?_
        refine J_ild3 dX11_pass_77 ?_
        refine J_cVI (jX11_charges l cx n v3 M7) ck_RX11_241 dX11_pass_78 rfl kk_207 ⟨rfl, rfl, by decide, by decide⟩ ⟨Nat.zero_le _, Nat.zero_le _, Nat.le_of_ble_eq_true rfl⟩ (fun r8 M9 => ?_)
        refine J_pop_i dX11_pass_81 ?_
        refine J_iinc3 (w := (v3 + (1 : Int32))) dX11_pass_82 (by decide) rfl rfl ?_
        refine J_goto 34 dX11_pass_85 rfl ?_
        exact J_wk (wk_s (wk_s (wk_s (wk_s wk_0)))) (ih)
      · refine J_goto 82 dX11_pass_54 rfl ?_
        refine J_iinc3 (w := (v3 + (1 : Int32))) dX11_pass_82 (by decide) rfl rfl ?_
        refine J_goto 34 dX11_pass_85 rfl ?_
        exact J_wk (wk_s (wk_s (wk_s (wk_s wk_0)))) (ih)
set_option maxRecDepth 100000 in
theorem jX11_pass_c2 {l : Launch} {cx : CX} {n : Nat} : ∀ (f : Nat) {v1 : Int32} {v2 : Int32} {M : Mem}, JO l cx ({ frames := 6, cells := 0, slots := 0, locals := 136 } : Room) yX11_pass cX11_pass 4 (some .int) 0 0 false 207 218 EI GS 0 0 2 [some (.ref 207), some (.int v1), some (.int v2), none] [] M (mX11_pass_c2 n f v1 v2 M) := by
  intro f
  induction f with
  | zero =>
    intros
    exact J_none
  | succ f ih =>
    intro v1 v2 M
    unfold mX11_pass_c2
    refine J_ild2 dX11_pass_2 ?_
    refine J_ild1 dX11_pass_3 ?_
    refine J_ic_ge 91 dX11_pass_4 rfl ?_ ?_
    · refine J_ild2 dX11_pass_91 ?_
      exact J_iret dX11_pass_92 rfl ⟨rfl, rfl, rfl⟩
    · refine J_ald0 dX11_pass_7 ?_
      refine J_cVB (jX11_mayPass l cx n  M) ck_RX11_259 dX11_pass_8 rfl kk_207 ⟨rfl, rfl, by decide, by decide⟩ ⟨Nat.zero_le _, Nat.zero_le _, Nat.le_of_ble_eq_true rfl⟩ (fun r10 z11 => ?_)
      refine J_if_eq 91 dX11_pass_11 rfl ?_ ?_
      · refine J_ild2 dX11_pass_91 ?_
        exact J_iret dX11_pass_92 rfl ⟨rfl, rfl, rfl⟩
      · refine J_ald0 dX11_pass_14 ?_
        refine J_getr (q := 209) fl_RX11_13 dX11_pass_15 kk_207 rfl (rf_11_1 kk_207) ?_
        refine J_iconst (v := 0) dX11_pass_18 rfl ?_
        refine J_ald0 dX11_pass_19 ?_
        refine J_getr (q := 209) fl_RX11_13 dX11_pass_20 kk_207 rfl (rf_11_1 kk_207) ?_
        refine J_iconst (v := 0) dX11_pass_23 rfl ?_
        refine J_iald dX11_pass_24 kk_209 rfl ?_
        refine J_iconst (v := 1) dX11_pass_25 rfl ?_
        refine J_iadd dX11_pass_26 ?_
        refine J_iast dX11_pass_27 kk_209 rfl ?_
        refine J_lt (fun M12 => ?_)
        refine J_ild2 dX11_pass_28 ?_
        refine J_iconst (v := 1) dX11_pass_29 rfl ?_
        refine J_iadd dX11_pass_30 ?_
        refine J_ist2 dX11_pass_31 (by decide) rfl ?_
        refine J_iconst (v := 0) dX11_pass_32 rfl ?_
        refine J_ist3 dX11_pass_33 (by decide) rfl ?_
        exact J_wk (wk_s (wk_s (wk_s (wk_s wk_0)))) (jX11_pass_c34 (n := n) ih n)
set_option maxRecDepth 100000 in
theorem jX11_pass (l : Launch) (cx : CX) (n : Nat) (a : Int32) (M : Mem) : Con l cx ({ frames := 6, cells := 0, slots := 0, locals := 136 } : Room) yX11_pass cX11_pass 4 (some .int) 0 0 false 207 218 EI GS [.ref 207, .int a] M (mX11_pass n a M) := by
  unfold mX11_pass
  refine Con.of (ls := [some (.ref 207), some (.int a), none, none]) (by decide) rfl (Nat.le_of_ble_eq_true rfl) ?_
  refine J_iconst (v := 0) dX11_pass_0 rfl ?_
  refine J_ist2 dX11_pass_1 (by decide) rfl ?_
  exact J_wk (wk_s (wk_s (wk_s (wk_n wk_0)))) (jX11_pass_c2 (n := n) n)
set_option maxRecDepth 100000 in
theorem jX11_days (l : Launch) (cx : CX) (n : Nat) (a : Int32) (M : Mem) : Con l cx ({ frames := 7, cells := 0, slots := 0, locals := 159 } : Room) yX11_days cX11_days 2 (some .int) 0 0 false 207 218 EI GS [.ref 207, .int a] M (mX11_days n a M) := by
  unfold mX11_days
  refine Con.of (ls := [some (.ref 207), some (.int a)]) (by decide) rfl (Nat.le_of_ble_eq_true rfl) ?_
  refine J_ild1 dX11_days_0 ?_
  refine J_iconst (v := 1) dX11_days_1 rfl ?_
  refine J_sipush (v := 400) dX11_days_2 rfl ?_
  refine J_cSB (jX11_in l cx n a (1 : Int32) (400 : Int32) M) ck_RX11_56 dX11_days_5 rfl ⟨rfl, rfl, by decide, by decide⟩ ⟨Nat.zero_le _, Nat.zero_le _, Nat.le_of_ble_eq_true rfl⟩ (fun r1 z2 => ?_)
  refine J_if_eq 19 dX11_days_8 rfl ?_ ?_
  · refine J_iconst (v := -1) dX11_days_19 rfl ?_
    exact J_iret dX11_days_20 rfl ⟨rfl, rfl, rfl⟩
  · refine J_ald0 dX11_days_11 ?_
    refine J_ild1 dX11_days_12 ?_
    refine J_cVI (jX11_pass l cx n a M) ck_RX11_262 dX11_days_13 rfl kk_207 ⟨rfl, rfl, by decide, by decide⟩ ⟨Nat.zero_le _, Nat.zero_le _, Nat.le_of_ble_eq_true rfl⟩ (fun r3 M4 => ?_)
    refine J_goto 20 dX11_days_16 rfl ?_
    exact J_iret dX11_days_20 rfl ⟨rfl, rfl, rfl⟩
set_option maxRecDepth 100000 in
theorem jX11_favour (l : Launch) (cx : CX) (n : Nat) (a : Int32) (b : Int32) (M : Mem) : Con l cx ({ frames := 3, cells := 0, slots := 0, locals := 63 } : Room) yX11_favour cX11_favour 3 (some .int) 0 0 false 207 218 EI GS [.ref 207, .int a, .int b] M (mX11_favour n a b M) := by
  unfold mX11_favour
  refine Con.of (ls := [some (.ref 207), some (.int a), some (.int b)]) (by decide) rfl (Nat.le_of_ble_eq_true rfl) ?_
  refine J_ald0 dX11_favour_0 ?_
  refine J_ild1 dX11_favour_1 ?_
  refine J_cVB (jX11_isBegun l cx n a M) ck_RX11_216 dX11_favour_2 rfl kk_207 ⟨rfl, rfl, by decide, by decide⟩ ⟨Nat.zero_le _, Nat.zero_le _, Nat.le_of_ble_eq_true rfl⟩ (fun r1 z2 => ?_)
  refine J_if_eq 22 dX11_favour_5 rfl ?_ ?_
  · refine J_ldc dX11_favour_22 wd_63 ?_
    exact J_iret dX11_favour_24 rfl ⟨rfl, rfl, rfl⟩
  · refine J_ild2 dX11_favour_8 ?_
    refine J_iconst (v := 1) dX11_favour_9 rfl ?_
    refine J_ic_lt 22 dX11_favour_10 rfl ?_ ?_
    · refine J_ldc dX11_favour_22 wd_63 ?_
      exact J_iret dX11_favour_24 rfl ⟨rfl, rfl, rfl⟩
    · refine J_ild2 dX11_favour_13 ?_
      refine J_ald0 dX11_favour_14 ?_
      refine J_ild1 dX11_favour_15 ?_
      refine J_cVP (jX11_allOf l cx n a M) ck_RX11_265 dX11_favour_16 rfl kk_207 ⟨rfl, rfl, by decide, by decide⟩ ⟨Nat.zero_le _, Nat.zero_le _, Nat.le_of_ble_eq_true rfl⟩ (fun r3 => ?_)
      refine J_ic_le 25 dX11_favour_19 rfl ?_ ?_
      · refine J_ald0 dX11_favour_25 ?_
        refine J_getr (q := 209) fl_RX11_13 dX11_favour_26 kk_207 rfl (rf_11_1 kk_207) ?_
        refine J_iconst (v := 1) dX11_favour_29 rfl ?_
        refine J_iald dX11_favour_30 kk_209 rfl ?_
        refine J_sipush (v := 400) dX11_favour_31 rfl ?_
        refine J_ic_ne 40 dX11_favour_34 rfl ?_ ?_
        · refine J_ald0 dX11_favour_40 ?_
          refine J_iconst (v := 3) dX11_favour_41 rfl ?_
          refine J_ild1 dX11_favour_42 ?_
          refine J_ald0 dX11_favour_43 ?_
          refine J_getr (q := 209) fl_RX11_13 dX11_favour_44 kk_207 rfl (rf_11_1 kk_207) ?_
          refine J_iconst (v := 0) dX11_favour_47 rfl ?_
          refine J_iald dX11_favour_48 kk_209 rfl ?_
          refine J_ald0 dX11_favour_49 ?_
          refine J_getr (q := 209) fl_RX11_13 dX11_favour_50 kk_207 rfl (rf_11_1 kk_207) ?_
          refine J_iconst (v := 0) dX11_favour_53 rfl ?_
          refine J_iald dX11_favour_54 kk_209 rfl ?_
          refine J_ild2 dX11_favour_55 ?_
          refine J_ineg dX11_favour_56 ?_
          refine J_cVI (jX11_writes l cx n (3 : Int32) a (M 209 (Int32.toNatClampNeg (0 : Int32))) (M 209 (Int32.toNatClampNeg (0 : Int32))) (-b) M) ck_RX11_229 dX11_favour_57 rfl kk_207 ⟨rfl, rfl, by decide, by decide⟩ ⟨Nat.zero_le _, Nat.zero_le _, Nat.le_of_ble_eq_true rfl⟩ (fun r4 M5 => ?_)
          refine J_pop_i dX11_favour_60 ?_
          refine J_ald0 dX11_favour_61 ?_
          refine J_ild1 dX11_favour_62 ?_
          refine J_cVP (jX11_allOf l cx n a M5) ck_RX11_265 dX11_favour_63 rfl kk_207 ⟨rfl, rfl, by decide, by decide⟩ ⟨Nat.zero_le _, Nat.zero_le _, Nat.le_of_ble_eq_true rfl⟩ (fun r6 => ?_)
          exact J_iret dX11_favour_66 rfl ⟨rfl, rfl, rfl⟩
        · refine J_ldc dX11_favour_37 wd_64 ?_
          exact J_iret dX11_favour_39 rfl ⟨rfl, rfl, rfl⟩
      · refine J_ldc dX11_favour_22 wd_63 ?_
        exact J_iret dX11_favour_24 rfl ⟨rfl, rfl, rfl⟩
