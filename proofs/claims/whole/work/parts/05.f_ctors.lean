/-! constructors that make objects, or count -/
theorem jX3_lengthOf0 (l : Launch) (cx : CX) (n : Nat) (a : Int32) (M : Mem) : Con l cx ({ frames := 0, cells := 0, slots := 0, locals := 0 } : Room) yX3_lengthOf cX3_lengthOf 1 (some .int) 0 0 false 0 0 (EP M) GS [.int a] M (mX3_lengthOf a) := by
  unfold mX3_lengthOf
  refine Con.of (ls := [some (.int a)]) (by decide) rfl (Nat.le_of_ble_eq_true rfl) ?_
  refine J_ild0 dX3_lengthOf_0 ?_
  refine J_bipush (v := 11) dX3_lengthOf_1 rfl ?_
  refine J_iadd dX3_lengthOf_3 ?_
  refine J_bipush (v := 12) dX3_lengthOf_4 rfl ?_
  refine J_iremK dX3_lengthOf_6 (by decide) ?_
  refine J_swIn (v := 1) 60 dX3_lengthOf_7 (by decide) (by decide) rfl rfl ?_ (fun w1 => ?_)
  · refine J_ild0 dX3_lengthOf_60 ?_
    refine J_bipush (v := 11) dX3_lengthOf_61 rfl ?_
    refine J_iadd dX3_lengthOf_63 ?_
    refine J_bipush (v := 12) dX3_lengthOf_64 rfl ?_
    refine J_idivK dX3_lengthOf_66 (by decide) ?_
    refine J_iconst (v := 4) dX3_lengthOf_67 rfl ?_
    refine J_iremK dX3_lengthOf_68 (by decide) ?_
    refine J_iconst (v := 1) dX3_lengthOf_69 rfl ?_
    refine J_ic_ne 78 dX3_lengthOf_70 rfl ?_ ?_
    · refine J_bipush (v := 28) dX3_lengthOf_78 rfl ?_
      exact J_iret dX3_lengthOf_80 rfl ⟨rfl, rfl, rfl⟩
    · refine J_bipush (v := 29) dX3_lengthOf_73 rfl ?_
      refine J_goto 80 dX3_lengthOf_75 rfl ?_
      exact J_iret dX3_lengthOf_80 rfl ⟨rfl, rfl, rfl⟩
  refine J_swIn (v := 2) 84 dX3_lengthOf_7 (by decide) (by decide) rfl rfl ?_ (fun w2 => ?_)
  · refine J_bipush (v := 31) dX3_lengthOf_84 rfl ?_
    exact J_iret dX3_lengthOf_86 rfl ⟨rfl, rfl, rfl⟩
  refine J_swIn (v := 3) 81 dX3_lengthOf_7 (by decide) (by decide) rfl rfl ?_ (fun w3 => ?_)
  · refine J_bipush (v := 30) dX3_lengthOf_81 rfl ?_
    exact J_iret dX3_lengthOf_83 rfl ⟨rfl, rfl, rfl⟩
  refine J_swIn (v := 4) 84 dX3_lengthOf_7 (by decide) (by decide) rfl rfl ?_ (fun w4 => ?_)
  · refine J_bipush (v := 31) dX3_lengthOf_84 rfl ?_
    exact J_iret dX3_lengthOf_86 rfl ⟨rfl, rfl, rfl⟩
  refine J_swIn (v := 5) 81 dX3_lengthOf_7 (by decide) (by decide) rfl rfl ?_ (fun w5 => ?_)
  · refine J_bipush (v := 30) dX3_lengthOf_81 rfl ?_
    exact J_iret dX3_lengthOf_83 rfl ⟨rfl, rfl, rfl⟩
  refine J_swIn (v := 6) 84 dX3_lengthOf_7 (by decide) (by decide) rfl rfl ?_ (fun w6 => ?_)
  · refine J_bipush (v := 31) dX3_lengthOf_84 rfl ?_
    exact J_iret dX3_lengthOf_86 rfl ⟨rfl, rfl, rfl⟩
  refine J_swIn (v := 7) 84 dX3_lengthOf_7 (by decide) (by decide) rfl rfl ?_ (fun w7 => ?_)
  · refine J_bipush (v := 31) dX3_lengthOf_84 rfl ?_
    exact J_iret dX3_lengthOf_86 rfl ⟨rfl, rfl, rfl⟩
  refine J_swIn (v := 8) 81 dX3_lengthOf_7 (by decide) (by decide) rfl rfl ?_ (fun w8 => ?_)
  · refine J_bipush (v := 30) dX3_lengthOf_81 rfl ?_
    exact J_iret dX3_lengthOf_83 rfl ⟨rfl, rfl, rfl⟩
  refine J_swIn (v := 9) 84 dX3_lengthOf_7 (by decide) (by decide) rfl rfl ?_ (fun w9 => ?_)
  · refine J_bipush (v := 31) dX3_lengthOf_84 rfl ?_
    exact J_iret dX3_lengthOf_86 rfl ⟨rfl, rfl, rfl⟩
  refine J_swIn (v := 10) 81 dX3_lengthOf_7 (by decide) (by decide) rfl rfl ?_ (fun w10 => ?_)
  · refine J_bipush (v := 30) dX3_lengthOf_81 rfl ?_
    exact J_iret dX3_lengthOf_83 rfl ⟨rfl, rfl, rfl⟩
  refine J_swOut 84 dX3_lengthOf_7 (sw_out 10 rfl (fun k hk => sw_c10 (P := fun k => ¬ ((a + (11 : Int32)) - (a + (11 : Int32)) / (12 : Int32) * (12 : Int32)) = Int32.ofInt (1 + (k : Int))) hk w1 w2 w3 w4 w5 w6 w7 w8 w9 w10)) rfl ?_
  refine J_bipush (v := 31) dX3_lengthOf_84 rfl ?_
  exact J_iret dX3_lengthOf_86 rfl ⟨rfl, rfl, rfl⟩
theorem jX11_lengthOf0 (l : Launch) (cx : CX) (n : Nat) (a : Int32) (M : Mem) : Con l cx ({ frames := 0, cells := 0, slots := 0, locals := 0 } : Room) yX11_lengthOf cX11_lengthOf 2 (some .int) 0 0 false 0 0 (EP M) GS [.int a] M (mX11_lengthOf a) := by
  unfold mX11_lengthOf
  refine Con.of (ls := [some (.int a), none]) (by decide) rfl (Nat.le_of_ble_eq_true rfl) ?_
  refine J_ild0 dX11_lengthOf_0 ?_
  refine J_bipush (v := 11) dX11_lengthOf_1 rfl ?_
  refine J_iadd dX11_lengthOf_3 ?_
  refine J_bipush (v := 12) dX11_lengthOf_4 rfl ?_
  refine J_iremK dX11_lengthOf_6 (by decide) ?_
  refine J_iconst (v := 1) dX11_lengthOf_7 rfl ?_
  refine J_iadd dX11_lengthOf_8 ?_
  refine J_ist1 dX11_lengthOf_9 (by decide) rfl ?_
  refine J_ild1 dX11_lengthOf_10 ?_
  refine J_iconst (v := 2) dX11_lengthOf_11 rfl ?_
  refine J_ic_ne 36 dX11_lengthOf_12 rfl ?_ ?_
  · refine J_ild1 dX11_lengthOf_36 ?_
    refine J_iconst (v := 4) dX11_lengthOf_37 rfl ?_
    refine J_ic_eq 59 dX11_lengthOf_38 rfl ?_ ?_
    · refine J_bipush (v := 30) dX11_lengthOf_59 rfl ?_
      refine J_goto 66 dX11_lengthOf_61 rfl ?_
      exact J_iret dX11_lengthOf_66 rfl ⟨rfl, rfl, rfl⟩
    · refine J_ild1 dX11_lengthOf_41 ?_
      refine J_bipush (v := 6) dX11_lengthOf_42 rfl ?_
      refine J_ic_eq 59 dX11_lengthOf_44 rfl ?_ ?_
      · refine J_bipush (v := 30) dX11_lengthOf_59 rfl ?_
        refine J_goto 66 dX11_lengthOf_61 rfl ?_
        exact J_iret dX11_lengthOf_66 rfl ⟨rfl, rfl, rfl⟩
      · refine J_ild1 dX11_lengthOf_47 ?_
        refine J_bipush (v := 9) dX11_lengthOf_48 rfl ?_
        refine J_ic_eq 59 dX11_lengthOf_50 rfl ?_ ?_
        · refine J_bipush (v := 30) dX11_lengthOf_59 rfl ?_
          refine J_goto 66 dX11_lengthOf_61 rfl ?_
          exact J_iret dX11_lengthOf_66 rfl ⟨rfl, rfl, rfl⟩
        · refine J_ild1 dX11_lengthOf_53 ?_
          refine J_bipush (v := 11) dX11_lengthOf_54 rfl ?_
          refine J_ic_ne 64 dX11_lengthOf_56 rfl ?_ ?_
          · refine J_bipush (v := 31) dX11_lengthOf_64 rfl ?_
            exact J_iret dX11_lengthOf_66 rfl ⟨rfl, rfl, rfl⟩
          · refine J_bipush (v := 30) dX11_lengthOf_59 rfl ?_
            refine J_goto 66 dX11_lengthOf_61 rfl ?_
            exact J_iret dX11_lengthOf_66 rfl ⟨rfl, rfl, rfl⟩
  · refine J_ild0 dX11_lengthOf_15 ?_
    refine J_bipush (v := 11) dX11_lengthOf_16 rfl ?_
    refine J_iadd dX11_lengthOf_18 ?_
    refine J_bipush (v := 12) dX11_lengthOf_19 rfl ?_
    refine J_idivK dX11_lengthOf_21 (by decide) ?_
    refine J_iconst (v := 4) dX11_lengthOf_22 rfl ?_
    refine J_iremK dX11_lengthOf_23 (by decide) ?_
    refine J_iconst (v := 1) dX11_lengthOf_24 rfl ?_
    refine J_ic_ne 33 dX11_lengthOf_25 rfl ?_ ?_
    · refine J_bipush (v := 28) dX11_lengthOf_33 rfl ?_
      exact J_iret dX11_lengthOf_35 rfl ⟨rfl, rfl, rfl⟩
    · refine J_bipush (v := 29) dX11_lengthOf_28 rfl ?_
      refine J_goto 35 dX11_lengthOf_30 rfl ?_
      exact J_iret dX11_lengthOf_35 rfl ⟨rfl, rfl, rfl⟩
def WC_x : List Cond := [.methodLink RX3 15 yX3_lengthOf, .initialized RX3, .code yX3_lengthOf cX3_lengthOf 1 (some (.int)), .static yX3_lengthOf]
theorem WC_x_in : ∀ w ∈ WC_x, w ∈ Wd := ws_in _ [127, 96, 129, 128] (by decide +kernel) (by decide +kernel)
theorem wcx_0 : Cond.methodLink RX3 15 yX3_lengthOf ∈ Wd := WC_x_in _ (List.mem_of_getElem? (i := 0) rfl)
theorem wcx_1 : Cond.initialized RX3 ∈ Wd := WC_x_in _ (List.mem_of_getElem? (i := 1) rfl)
theorem wcx_2 : Cond.code yX3_lengthOf cX3_lengthOf 1 (some (.int)) ∈ Wd := WC_x_in _ (List.mem_of_getElem? (i := 2) rfl)
theorem wcx_3 : Cond.static yX3_lengthOf ∈ Wd := WC_x_in _ (List.mem_of_getElem? (i := 3) rfl)
theorem ck_RX3_15 : CKS RX3 15 yX3_lengthOf cX3_lengthOf 1 (some .int) 1 := ⟨⟨Or.inl wcx_0, wcx_2, wcx_1, ⟨by decide +kernel, by decide +kernel⟩, by decide +kernel⟩, wcx_3⟩
theorem len3 : ∀ i, i < 123 → mX3_lengthOf (nI i) = some ((mX3_lengthOf (nI i)).getD 0) ∧ (i + 1 < 123 → iI (ms i) + (mX3_lengthOf (nI i)).getD 0 = iI (ms (i + 1))) := by decide +kernel
theorem len11 : ∀ i, i < 127 → mX11_lengthOf (nI i) = some ((mX11_lengthOf (nI i)).getD 0) ∧ (i + 1 < 127 → iI (ms i) + (mX11_lengthOf (nI i)).getD 0 = iI (ms (i + 1))) := by decide +kernel
set_option maxRecDepth 100000 in
theorem shp3_0 : ∀ q, q < 207 → GS.1 q = 3 → (rowR q = [some (q + 1 + 0)] ∧ q + 2 ≤ 207 ∧ GS.1 (q + 1 + 0) = 12 ∧ GS.2.1 (q + 1 + 0) = 123) := by decide +kernel
set_option maxRecDepth 100000 in
theorem shp3_1 : ∀ q, q < 207 → GS.1 q = 3 → (rowR (q + 1 + 0) = []) := by decide +kernel
set_option maxRecDepth 100000 in
theorem kX3 (l : Launch) (cx : CX) {q : Nat} {h : Nat → Nat → Option Nat} {M : Mem} (hq : q < 207) (hk : GS.1 q = 3) (hz : ZH h q) (hM : ZM M q) : Con l cx ({ frames := 1, cells := 1, slots := 123, locals := 24 } : Room) yX3_init cX3_init 3 none 1 123 true 0 (q + 1) (EC q (q + 2) h (mcl (q + 1 + 0) 123 M)) (G h) [.ref q] M (some ()) := by
  obtain ⟨s0, sl, a0, b0⟩ := shp3_0 q hq hk
  obtain c0 := shp3_1 q hq hk
  refine Con.of (ls := [some (.ref q), none, none]) (by decide) rfl (Nat.le_of_ble_eq_true rfl) ?_
  refine JO_G (gF_0 (i := 0) (p := 100000) hz (by omega)) ?_
  refine J_ald0 dX3_init_0 ?_
  refine J_obj ko_RX3_3 dX3_init_1 ⟨by decide, Nat.le_of_ble_eq_true rfl⟩ ?_
  refine J_ald0 dX3_init_4 ?_
  refine J_bipush (v := 123) dX3_init_5 rfl ?_
  refine C_newa (atype := .int) (c := q + 1 + 0) (N := 123) (kd := 12) wc_139 dX3_init_7 (Or.inl ⟨rfl, rfl⟩) rfl a0 b0 (row0 c0) hz (by omega) (fun k => hM _ _ (by omega)) (by decide) (by decide) (by decide) ⟨by decide, by decide⟩ ?_
  refine C_putr rfl fp_RX3_11 dX3_init_9 hk (by omega) (by decide) (fun _ => rfl) (fun _ => rfl) (rowP s0 rfl) (by omega) ?_
  refine J_bipush (v := (-31)) dX3_init_12 rfl ?_
  refine J_ist1 dX3_init_14 (by decide) rfl ?_
  refine J_iconst (v := 0) dX3_init_15 rfl ?_
  refine J_ist2 dX3_init_16 (by decide) rfl ?_
  have loop : ∀ (d i : Nat) (v : Int32), i + d = 123 → (i < 123 → v = iI (ms i)) → JO l cx ({ frames := 1, cells := 1, slots := 123, locals := 24 } : Room) yX3_init cX3_init 3 none 1 123 true 0 (q + 1) (EC q (q + 2) h (mcl (q + 1 + 0) 123 M)) (G (gF q (q + 1 + 1) 100000 0 [0] h)) 1 123 17 [some (.ref q), some (.int v), some (.int (nI i))] [] (mcl (q + 1 + 0) i M) (some ()) := by
    intro d
    induction d with
    | zero =>
      intro i v hi hv
      refine J_ild2 dX3_init_17 ?_
      refine J_ald0 dX3_init_18 ?_
      refine C_getr fl_RX3_11 dX3_init_19 hk (by omega) (by decide) (by decide) (by omega) (rowP s0 rfl) ?_
      refine J_alen (n := 123) (c0 := 12) (v := nI 123) dX3_init_22 ⟨a0, Nat.zero_le _, by omega⟩ (Or.inl rfl) b0 rfl ?_
      refine J_ic_geT 46 dX3_init_23 rfl (by rw [nI_leI (by omega) (by omega)]; omega) ?_
      rw [show i = 123 by omega]
      exact C_ret rfl dX3_init_46 rfl ⟨rfl, rfl, rfl⟩ hz (rowN s0 (by rfl)) (by omega) p0 (by omega) rfl rfl
    | succ d ih =>
      intro i v hi hv
      obtain ⟨hL, hL2⟩ := len3 i (by omega)
      refine J_ild2 dX3_init_17 ?_
      refine J_ald0 dX3_init_18 ?_
      refine C_getr fl_RX3_11 dX3_init_19 hk (by omega) (by decide) (by decide) (by omega) (rowP s0 rfl) ?_
      refine J_alen (n := 123) (c0 := 12) (v := nI 123) dX3_init_22 ⟨a0, Nat.zero_le _, by omega⟩ (Or.inl rfl) b0 rfl ?_
      refine J_ic_geF 46 dX3_init_23 rfl (by rw [nI_leI (by omega) (by omega)]; omega) ?_
      refine J_ald0 dX3_init_26 ?_
      refine C_getr fl_RX3_11 dX3_init_27 hk (by omega) (by decide) (by decide) (by omega) (rowP s0 rfl) ?_
      refine J_ild2 dX3_init_30 ?_
      refine J_ild1 dX3_init_31 ?_
      refine JO_x (chk_n (x := some ()) (show i < 123 by omega) (by omega)).symm ?_
      refine J_iast (n := 123) dX3_init_32 ⟨a0, Nat.zero_le _, by omega⟩ b0 ?_
      rw [nI_clamp (by omega)]
      refine JO_M (mcl_s (hv (by omega))) ?_
      refine J_ild1 dX3_init_33 ?_
      refine J_ild2 dX3_init_34 ?_
      refine C_cS (as := [.int (nI i)]) (hL ▸ jX3_lengthOf0 l cx 0 (nI i) _) ck_RX3_15 dX3_init_35 rfl ⟨rfl, rfl, by decide, by decide⟩ ⟨by decide, by decide, Nat.le_of_ble_eq_true rfl⟩ ?_
      refine J_iadd dX3_init_38 ?_
      refine J_ist1 dX3_init_39 (by decide) rfl ?_
      refine J_iinc2 (w := nI (i + 1)) dX3_init_40 (by decide) rfl (by rw [show Int32.ofInt 1 = nI 1 from rfl, nI_add]) ?_
      refine J_goto 17 dX3_init_43 rfl ?_
      exact ih (i + 1) _ (by omega) (fun w => by rw [hv (by omega)]; exact hL2 w)
  have h0 := loop 123 0 (-31) rfl (fun _ => rfl)
  rw [mcl_0] at h0
  exact h0
set_option maxRecDepth 100000 in
theorem shp11_0 : ∀ q, q < 218 → GS.1 q = 11 → (rowR q = [some (q + 1 + 0), some (q + 1 + 1), none, some (q + 1 + 2), none, none, none, none, none, none, none, some (q + 1 + 3), none, some (q + 1 + 4), some (q + 1 + 5), some (q + 1 + 6), some (q + 1 + 7), none, some (q + 1 + 8), none, some (q + 1 + 9)] ∧ q + 11 ≤ 218 ∧ GS.1 (q + 1 + 0) = 12 ∧ GS.2.1 (q + 1 + 0) = 127) := by decide +kernel
set_option maxRecDepth 100000 in
theorem shp11_1 : ∀ q, q < 218 → GS.1 q = 11 → (rowR (q + 1 + 0) = [] ∧ GS.1 (q + 1 + 1) = 12 ∧ GS.2.1 (q + 1 + 1) = 12750 ∧ rowR (q + 1 + 1) = []) := by decide +kernel
set_option maxRecDepth 100000 in
theorem shp11_2 : ∀ q, q < 218 → GS.1 q = 11 → (GS.1 (q + 1 + 2) = 13 ∧ GS.2.1 (q + 1 + 2) = 400 ∧ rowR (q + 1 + 2) = [] ∧ GS.1 (q + 1 + 3) = 12) := by decide +kernel
set_option maxRecDepth 100000 in
theorem shp11_3 : ∀ q, q < 218 → GS.1 q = 11 → (GS.2.1 (q + 1 + 3) = 164 ∧ rowR (q + 1 + 3) = [] ∧ GS.1 (q + 1 + 4) = 14 ∧ GS.2.1 (q + 1 + 4) = 24) := by decide +kernel
set_option maxRecDepth 100000 in
theorem shp11_4 : ∀ q, q < 218 → GS.1 q = 11 → (rowR (q + 1 + 4) = [] ∧ GS.1 (q + 1 + 5) = 12 ∧ GS.2.1 (q + 1 + 5) = 24 ∧ rowR (q + 1 + 5) = []) := by decide +kernel
set_option maxRecDepth 100000 in
theorem shp11_5 : ∀ q, q < 218 → GS.1 q = 11 → (GS.1 (q + 1 + 6) = 12 ∧ GS.2.1 (q + 1 + 6) = 24 ∧ rowR (q + 1 + 6) = [] ∧ GS.1 (q + 1 + 7) = 12) := by decide +kernel
set_option maxRecDepth 100000 in
theorem shp11_6 : ∀ q, q < 218 → GS.1 q = 11 → (GS.2.1 (q + 1 + 7) = 24 ∧ rowR (q + 1 + 7) = [] ∧ GS.1 (q + 1 + 8) = 13 ∧ GS.2.1 (q + 1 + 8) = 80) := by decide +kernel
set_option maxRecDepth 100000 in
theorem shp11_7 : ∀ q, q < 218 → GS.1 q = 11 → (rowR (q + 1 + 8) = [] ∧ GS.1 (q + 1 + 9) = 12 ∧ GS.2.1 (q + 1 + 9) = 400 ∧ rowR (q + 1 + 9) = []) := by decide +kernel
set_option maxRecDepth 100000 in
theorem kX11 (l : Launch) (cx : CX) {q : Nat} {h : Nat → Nat → Option Nat} {M : Mem} (hq : q < 218) (hk : GS.1 q = 11) (hz : ZH h q) (hM : ZM M q) : Con l cx ({ frames := 1, cells := 10, slots := 14017, locals := 24 } : Room) yX11_init cX11_init 3 none 10 14017 true 0 (q + 1) (EC q (q + 11) h (mcl (q + 1 + 0) 127 M)) (G h) [.ref q] M (some ()) := by
  obtain ⟨s0, sl, a0, b0⟩ := shp11_0 q hq hk
  obtain ⟨c0, a1, b1, c1⟩ := shp11_1 q hq hk
  obtain ⟨a2, b2, c2, a3⟩ := shp11_2 q hq hk
  obtain ⟨b3, c3, a4, b4⟩ := shp11_3 q hq hk
  obtain ⟨c4, a5, b5, c5⟩ := shp11_4 q hq hk
  obtain ⟨a6, b6, c6, a7⟩ := shp11_5 q hq hk
  obtain ⟨b7, c7, a8, b8⟩ := shp11_6 q hq hk
  obtain ⟨c8, a9, b9, c9⟩ := shp11_7 q hq hk
  refine Con.of (ls := [some (.ref q), none, none]) (by decide) rfl (Nat.le_of_ble_eq_true rfl) ?_
  refine JO_G (gF_0 (i := 0) (p := 100000) hz (by omega)) ?_
  refine J_ald0 dX11_init_0 ?_
  refine J_obj ko_RX11_1 dX11_init_1 ⟨by decide, Nat.le_of_ble_eq_true rfl⟩ ?_
  refine J_ald0 dX11_init_4 ?_
  refine J_bipush (v := 127) dX11_init_5 rfl ?_
  refine C_newa (atype := .int) (c := q + 1 + 0) (N := 127) (kd := 12) wc_139 dX11_init_7 (Or.inl ⟨rfl, rfl⟩) rfl a0 b0 (row0 c0) hz (by omega) (fun k => hM _ _ (by omega)) (by decide) (by decide) (by decide) ⟨by decide, by decide⟩ ?_
  refine C_putr rfl fp_RX11_7 dX11_init_9 hk (by omega) (by decide) (fun _ => rfl) (fun _ => rfl) (rowP s0 rfl) (by omega) ?_
  refine J_ald0 dX11_init_12 ?_
  refine J_sipush (v := 12750) dX11_init_13 rfl ?_
  refine C_newa (atype := .int) (c := q + 1 + 1) (N := 12750) (kd := 12) wc_139 dX11_init_16 (Or.inl ⟨rfl, rfl⟩) rfl a1 b1 (row0 c1) hz (by omega) (fun k => hM _ _ (by omega)) (by decide) (by decide) (by decide) ⟨by decide, by decide⟩ ?_
  refine C_putr rfl fp_RX11_13 dX11_init_18 hk (by omega) (by decide) (fun _ => rfl) (fun _ => rfl) (rowP s0 rfl) (by omega) ?_
  refine J_ald0 dX11_init_21 ?_
  refine J_sipush (v := 400) dX11_init_22 rfl ?_
  refine C_newa (atype := .byte) (c := q + 1 + 2) (N := 400) (kd := 13) wc_140 dX11_init_25 (Or.inr (Or.inl ⟨rfl, rfl⟩)) rfl a2 b2 (row0 c2) hz (by omega) (fun k => hM _ _ (by omega)) (by decide) (by decide) (by decide) ⟨by decide, by decide⟩ ?_
  refine C_putr rfl fp_RX11_16 dX11_init_27 hk (by omega) (by decide) (fun _ => rfl) (fun _ => rfl) (rowP s0 rfl) (by omega) ?_
  refine J_ald0 dX11_init_30 ?_
  refine J_sipush (v := 164) dX11_init_31 rfl ?_
  refine C_newa (atype := .int) (c := q + 1 + 3) (N := 164) (kd := 12) wc_139 dX11_init_34 (Or.inl ⟨rfl, rfl⟩) rfl a3 b3 (row0 c3) hz (by omega) (fun k => hM _ _ (by omega)) (by decide) (by decide) (by decide) ⟨by decide, by decide⟩ ?_
  refine C_putr rfl fp_RX11_20 dX11_init_36 hk (by omega) (by decide) (fun _ => rfl) (fun _ => rfl) (rowP s0 rfl) (by omega) ?_
  refine J_ald0 dX11_init_39 ?_
  refine J_bipush (v := 24) dX11_init_40 rfl ?_
  refine C_newa (atype := .long) (c := q + 1 + 4) (N := 24) (kd := 14) wc_141 dX11_init_42 (Or.inr (Or.inr ⟨rfl, rfl⟩)) rfl a4 b4 (row0 c4) hz (by omega) (fun k => hM _ _ (by omega)) (by decide) (by decide) (by decide) ⟨by decide, by decide⟩ ?_
  refine C_putr rfl fp_RX11_23 dX11_init_44 hk (by omega) (by decide) (fun _ => rfl) (fun _ => rfl) (rowP s0 rfl) (by omega) ?_
  refine J_ald0 dX11_init_47 ?_
  refine J_bipush (v := 24) dX11_init_48 rfl ?_
  refine C_newa (atype := .int) (c := q + 1 + 5) (N := 24) (kd := 12) wc_139 dX11_init_50 (Or.inl ⟨rfl, rfl⟩) rfl a5 b5 (row0 c5) hz (by omega) (fun k => hM _ _ (by omega)) (by decide) (by decide) (by decide) ⟨by decide, by decide⟩ ?_
  refine C_putr rfl fp_RX11_27 dX11_init_52 hk (by omega) (by decide) (fun _ => rfl) (fun _ => rfl) (rowP s0 rfl) (by omega) ?_
  refine J_ald0 dX11_init_55 ?_
  refine J_bipush (v := 24) dX11_init_56 rfl ?_
  refine C_newa (atype := .int) (c := q + 1 + 6) (N := 24) (kd := 12) wc_139 dX11_init_58 (Or.inl ⟨rfl, rfl⟩) rfl a6 b6 (row0 c6) hz (by omega) (fun k => hM _ _ (by omega)) (by decide) (by decide) (by decide) ⟨by decide, by decide⟩ ?_
  refine C_putr rfl fp_RX11_30 dX11_init_60 hk (by omega) (by decide) (fun _ => rfl) (fun _ => rfl) (rowP s0 rfl) (by omega) ?_
  refine J_ald0 dX11_init_63 ?_
  refine J_bipush (v := 24) dX11_init_64 rfl ?_
  refine C_newa (atype := .int) (c := q + 1 + 7) (N := 24) (kd := 12) wc_139 dX11_init_66 (Or.inl ⟨rfl, rfl⟩) rfl a7 b7 (row0 c7) hz (by omega) (fun k => hM _ _ (by omega)) (by decide) (by decide) (by decide) ⟨by decide, by decide⟩ ?_
  refine C_putr rfl fp_RX11_33 dX11_init_68 hk (by omega) (by decide) (fun _ => rfl) (fun _ => rfl) (rowP s0 rfl) (by omega) ?_
  refine J_ald0 dX11_init_71 ?_
  refine J_bipush (v := 80) dX11_init_72 rfl ?_
  refine C_newa (atype := .byte) (c := q + 1 + 8) (N := 80) (kd := 13) wc_140 dX11_init_74 (Or.inr (Or.inl ⟨rfl, rfl⟩)) rfl a8 b8 (row0 c8) hz (by omega) (fun k => hM _ _ (by omega)) (by decide) (by decide) (by decide) ⟨by decide, by decide⟩ ?_
  refine C_putr rfl fp_RX11_36 dX11_init_76 hk (by omega) (by decide) (fun _ => rfl) (fun _ => rfl) (rowP s0 rfl) (by omega) ?_
  refine J_ald0 dX11_init_79 ?_
  refine J_sipush (v := 400) dX11_init_80 rfl ?_
  refine C_newa (atype := .int) (c := q + 1 + 9) (N := 400) (kd := 12) wc_139 dX11_init_83 (Or.inl ⟨rfl, rfl⟩) rfl a9 b9 (row0 c9) hz (by omega) (fun k => hM _ _ (by omega)) (by decide) (by decide) (by decide) ⟨by decide, by decide⟩ ?_
  refine C_putr rfl fp_RX11_39 dX11_init_85 hk (by omega) (by decide) (fun _ => rfl) (fun _ => rfl) (rowP s0 rfl) (by omega) ?_
  refine J_bipush (v := (-31)) dX11_init_88 rfl ?_
  refine J_ist1 dX11_init_90 (by decide) rfl ?_
  refine J_iconst (v := 0) dX11_init_91 rfl ?_
  refine J_ist2 dX11_init_92 (by decide) rfl ?_
  have loop : ∀ (d i : Nat) (v : Int32), i + d = 127 → (i < 127 → v = iI (ms i)) → JO l cx ({ frames := 1, cells := 10, slots := 14017, locals := 24 } : Room) yX11_init cX11_init 3 none 10 14017 true 0 (q + 1) (EC q (q + 11) h (mcl (q + 1 + 0) 127 M)) (G (gF q (q + 1 + 10) 100000 0 [20, 18, 16, 15, 14, 13, 11, 3, 1, 0] h)) 10 14017 93 [some (.ref q), some (.int v), some (.int (nI i))] [] (mcl (q + 1 + 0) i M) (some ()) := by
    intro d
    induction d with
    | zero =>
      intro i v hi hv
      refine J_ild2 dX11_init_93 ?_
      refine J_bipush (v := nI 127) dX11_init_94 rfl ?_
      refine J_ic_geT 119 dX11_init_96 rfl (by rw [nI_leI (by omega) (by omega)]; omega) ?_
      rw [show i = 127 by omega]
      exact C_ret rfl dX11_init_119 rfl ⟨rfl, rfl, rfl⟩ hz (rowN s0 (by rfl)) (by omega) p0 (by omega) rfl rfl
    | succ d ih =>
      intro i v hi hv
      obtain ⟨hL, hL2⟩ := len11 i (by omega)
      refine J_ild2 dX11_init_93 ?_
      refine J_bipush (v := nI 127) dX11_init_94 rfl ?_
      refine J_ic_geF 119 dX11_init_96 rfl (by rw [nI_leI (by omega) (by omega)]; omega) ?_
      refine J_ald0 dX11_init_99 ?_
      refine C_getr fl_RX11_7 dX11_init_100 hk (by omega) (by decide) (by decide) (by omega) (rowP s0 rfl) ?_
      refine J_ild2 dX11_init_103 ?_
      refine J_ild1 dX11_init_104 ?_
      refine JO_x (chk_n (x := some ()) (show i < 127 by omega) (by omega)).symm ?_
      refine J_iast (n := 127) dX11_init_105 ⟨a0, Nat.zero_le _, by omega⟩ b0 ?_
      rw [nI_clamp (by omega)]
      refine JO_M (mcl_s (hv (by omega))) ?_
      refine J_ild1 dX11_init_106 ?_
      refine J_ild2 dX11_init_107 ?_
      refine C_cS (as := [.int (nI i)]) (hL ▸ jX11_lengthOf0 l cx 0 (nI i) _) ck_RX11_42 dX11_init_108 rfl ⟨rfl, rfl, by decide, by decide⟩ ⟨by decide, by decide, Nat.le_of_ble_eq_true rfl⟩ ?_
      refine J_iadd dX11_init_111 ?_
      refine J_ist1 dX11_init_112 (by decide) rfl ?_
      refine J_iinc2 (w := nI (i + 1)) dX11_init_113 (by decide) rfl (by rw [show Int32.ofInt 1 = nI 1 from rfl, nI_add]) ?_
      refine J_goto 93 dX11_init_116 rfl ?_
      exact ih (i + 1) _ (by omega) (fun w => by rw [hv (by omega)]; exact hL2 w)
  have h0 := loop 127 0 (-31) rfl (fun _ => rfl)
  rw [mcl_0] at h0
  exact h0
theorem shq9 : ∀ q, q < 207 → GS.1 q = 9 → ∀ i, i < 6 → GS.2.2 (q + 1 + 0) i = some (q + 1 + (3 + 5 * i)) ∧ GS.1 (q + 1 + (3 + 5 * i)) = 7 := by decide +kernel
theorem shr9l : ∀ q, q < 207 → GS.1 q = 9 → (rowR (q + 1 + 0)).length ≤ 6 := by decide +kernel
theorem shr9 (q : Nat) (hq : q < 207) (hk : GS.1 q = 9) : ∀ k, 6 ≤ k → GS.2.2 (q + 1 + 0) k = none := rowL rfl (shr9l q hq hk)
set_option maxRecDepth 100000 in
theorem shp9_0 : ∀ q, q < 207 → GS.1 q = 9 → (rowR q = [some (q + 1 + 0), none, none, none, none, some (q + 1 + 1), some (q + 1 + 2)] ∧ q + 34 ≤ 207 ∧ GS.1 (q + 1 + 0) = 16 ∧ GS.2.1 (q + 1 + 0) = 6) := by decide +kernel
set_option maxRecDepth 100000 in
theorem shp9_1 : ∀ q, q < 207 → GS.1 q = 9 → (GS.1 (q + 1 + 1) = 12 ∧ GS.2.1 (q + 1 + 1) = 4 ∧ rowR (q + 1 + 1) = [] ∧ GS.1 (q + 1 + 2) = 12) := by decide +kernel
set_option maxRecDepth 100000 in
theorem shp9_2 : ∀ q, q < 207 → GS.1 q = 9 → (GS.2.1 (q + 1 + 2) = 4 ∧ rowR (q + 1 + 2) = [] ∧ GS.1 (q + 1 + 3) = 7 ∧ GS.1 (q + 1 + 8) = 7) := by decide +kernel
set_option maxRecDepth 100000 in
theorem shp9_3 : ∀ q, q < 207 → GS.1 q = 9 → (GS.1 (q + 1 + 13) = 7 ∧ GS.1 (q + 1 + 18) = 7 ∧ GS.1 (q + 1 + 23) = 7 ∧ GS.1 (q + 1 + 28) = 7) := by decide +kernel
set_option maxRecDepth 100000 in
theorem kX9 (l : Launch) (cx : CX) {q : Nat} {h : Nat → Nat → Option Nat} {M : Mem} (hq : q < 207) (hk : GS.1 q = 9) (hz : ZH h q) (hM : ZM M q) : Con l cx ({ frames := 2, cells := 33, slots := 164, locals := 40 } : Room) yX9_init cX9_init 2 none 33 164 true 0 (q + 1) (EC q (q + 34) h M) (G h) [.ref q] M (some ()) := by
  obtain ⟨s0, sl, a0, b0⟩ := shp9_0 q hq hk
  obtain ⟨a1, b1, c1, a2⟩ := shp9_1 q hq hk
  obtain ⟨b2, c2, a3, a8⟩ := shp9_2 q hq hk
  obtain ⟨a13, a18, a23, a28⟩ := shp9_3 q hq hk
  refine Con.of (ls := [some (.ref q), none]) (by decide) rfl (Nat.le_of_ble_eq_true rfl) ?_
  refine JO_G (gF_0 (i := 0) (p := q + 1 + 0) hz (by omega)) ?_
  refine J_ald0 dX9_init_0 ?_
  refine J_obj ko_RX9_3 dX9_init_1 ⟨by decide, Nat.le_of_ble_eq_true rfl⟩ ?_
  refine J_ald0 dX9_init_4 ?_
  refine J_bipush (v := 6) dX9_init_5 rfl ?_
  refine C_anew (c := q + 1 + 0) (N := 6) (kd := 16) wc_69 dX9_init_7 (Or.inr ⟨rfl, rfl⟩) rfl a0 b0 hz (by omega) (by decide) (by decide) (by decide) ⟨by decide, by decide⟩ ?_
  refine C_putr rfl fp_RX9_11 dX9_init_10 hk (by omega) (by decide) (fun _ => rfl) (fun _ => rfl) (rowP s0 rfl) (by omega) ?_
  refine J_ald0 dX9_init_13 ?_
  refine J_iconst (v := 4) dX9_init_14 rfl ?_
  refine C_newa (atype := .int) (c := q + 1 + 1) (N := 4) (kd := 12) wc_139 dX9_init_15 (Or.inl ⟨rfl, rfl⟩) rfl a1 b1 (row0 c1) hz (by omega) (fun k => hM _ _ (by omega)) (by decide) (by decide) (by decide) ⟨by decide, by decide⟩ ?_
  refine C_putr rfl fp_RX9_17 dX9_init_17 hk (by omega) (by decide) (fun _ => rfl) (fun _ => rfl) (rowP s0 rfl) (by omega) ?_
  refine J_ald0 dX9_init_20 ?_
  refine J_iconst (v := 4) dX9_init_21 rfl ?_
  refine C_newa (atype := .int) (c := q + 1 + 2) (N := 4) (kd := 12) wc_139 dX9_init_22 (Or.inl ⟨rfl, rfl⟩) rfl a2 b2 (row0 c2) hz (by omega) (fun k => hM _ _ (by omega)) (by decide) (by decide) (by decide) ⟨by decide, by decide⟩ ?_
  refine C_putr rfl fp_RX9_21 dX9_init_24 hk (by omega) (by decide) (fun _ => rfl) (fun _ => rfl) (rowP s0 rfl) (by omega) ?_
  refine J_iconst (v := 0) dX9_init_27 rfl ?_
  refine J_ist1 dX9_init_28 (by decide) rfl ?_
  have hpl : ∀ i, i < 6 → GS.2.2 (q + 1 + 0) i = some (q + 1 + (3 + 5 * i)) ∧ GS.1 (q + 1 + (3 + 5 * i)) = 7 := shq9 q hq hk
  have loop : ∀ (d i : Nat), i + d = 6 → JO l cx ({ frames := 2, cells := 33, slots := 164, locals := 40 } : Room) yX9_init cX9_init 2 none 33 164 true 0 (q + 1) (EC q (q + 34) h M) (G (gF q (q + 1 + (3 + 5 * i)) (q + 1 + 0) i [6, 5, 0] h)) (3 + 5 * i) (14 + 25 * i) 29 [some (.ref q), some (.int (nI i))] [] M (some ()) := by
    intro d
    induction d with
    | zero =>
      intro i hi
      have e6 : i = 6 := by omega
      subst e6
      refine J_ild1 dX9_init_29 ?_
      refine J_bipush (v := nI 6) dX9_init_30 rfl ?_
      refine J_ic_geT 54 dX9_init_32 rfl (by decide) ?_
      exact C_ret rfl dX9_init_54 rfl ⟨rfl, rfl, rfl⟩ hz (rowN s0 (by rfl)) (by omega) (shr9 q hq hk) (by omega) rfl rfl
    | succ d ih =>
      intro i hi
      obtain ⟨hp1, hp2⟩ := hpl i (by omega)
      have hMi : ZM M (q + 1 + (3 + 5 * i)) := hM.up (by omega)
      refine J_ild1 dX9_init_29 ?_
      refine J_bipush (v := nI 6) dX9_init_30 rfl ?_
      refine J_ic_geF 54 dX9_init_32 rfl (by rw [nI_leI (by omega) (by omega)]; omega) ?_
      refine J_ald0 dX9_init_35 ?_
      refine C_getr fl_RX9_11 dX9_init_36 hk (by omega) (by decide) (by decide) (by omega) (rowP s0 rfl) ?_
      refine J_ild1 dX9_init_39 ?_
      refine C_new (c := q + 1 + (3 + 5 * i)) nk_RX9_9 dX9_init_40 rfl hp2 hz (by omega) (fun k => hMi _ _ (by omega)) ⟨by show _ + 1 ≤ 33; omega, by show _ + 11 ≤ 164; omega⟩ ?_
      refine J_dup_r dX9_init_43 ?_
      refine C_ci (c := q + 1 + (3 + 5 * i)) (n := 5) (as := []) (kX7 l cx (by omega) hp2 (gF_z hz (by omega)) hMi) rfl ki_RX9_24 dX9_init_44 rfl ⟨rfl, rfl, by decide, by decide⟩ ⟨by show _ + 1 + 4 ≤ 33; omega, by show _ + 11 + 14 ≤ 164; omega, Nat.le_of_ble_eq_true rfl⟩ (by omega) (by omega) (by omega) ?_
      refine C_ast (n := 6) a0 (by omega) (by show _ < q + 1 + (_ + 1 + 4); omega) (Or.inr ⟨rfl, rfl⟩) hp2 (by show _ < q + 1 + (_ + 1 + 4); omega) b0 rfl (by omega) (by decide) dX9_init_47 hp1 (by omega) ?_
      refine J_iinc1 (w := nI (i + 1)) dX9_init_48 (by decide) rfl (by rw [show Int32.ofInt 1 = nI 1 from rfl, nI_add]) ?_
      refine J_goto 29 dX9_init_51 rfl ?_
      refine JO_G (congrArg (fun z => gF q z (q + 1 + 0) (i + 1) [6, 5, 0] h) (show q + 1 + (3 + 5 * i) + 5 = q + 1 + (3 + 5 * (i + 1)) by omega)) ?_
      refine JO_cs (ck' := 3 + 5 * (i + 1)) (sk' := 14 + 25 * (i + 1)) (by omega) (by show 14 + 25 * i + 11 + 14 = _; omega) ?_
      exact ih (i + 1) (by omega)
  exact loop 6 0 rfl
theorem shq1 : ∀ q, q < 207 → GS.1 q = 1 → ∀ i, i < 6 → GS.2.2 (q + 1 + 34) i = some (q + 1 + (46 + i)) ∧ GS.1 (q + 1 + (46 + i)) = 0 := by decide +kernel
theorem shr1l : ∀ q, q < 207 → GS.1 q = 1 → (rowR (q + 1 + 34)).length ≤ 6 := by decide +kernel
theorem shr1 (q : Nat) (hq : q < 207) (hk : GS.1 q = 1) : ∀ k, 6 ≤ k → GS.2.2 (q + 1 + 34) k = none := rowL rfl (shr1l q hq hk)
set_option maxRecDepth 100000 in
theorem shp1_0 : ∀ q, q < 207 → GS.1 q = 1 → (rowR q = [some 2, some (q + 1 + 0), some (q + 1 + 34), some (q + 1 + 35)] ∧ q + 53 ≤ 207 ∧ GS.1 (q + 1 + 0) = 9 ∧ GS.1 (q + 1 + 34) = 15) := by decide +kernel
set_option maxRecDepth 100000 in
theorem shp1_1 : ∀ q, q < 207 → GS.1 q = 1 → (GS.2.1 (q + 1 + 34) = 6 ∧ GS.1 (q + 1 + 35) = 5 ∧ GS.1 (q + 1 + 46) = 0 ∧ GS.1 (q + 1 + 47) = 0) := by decide +kernel
set_option maxRecDepth 100000 in
theorem shp1_2 : ∀ q, q < 207 → GS.1 q = 1 → (GS.1 (q + 1 + 48) = 0 ∧ GS.1 (q + 1 + 49) = 0 ∧ GS.1 (q + 1 + 50) = 0 ∧ GS.1 (q + 1 + 51) = 0) := by decide +kernel
set_option maxRecDepth 100000 in
theorem kX1 (l : Launch) (cx : CX) {q : Nat} {h : Nat → Nat → Option Nat} {M : Mem} (hq : q < 207) (hk : GS.1 q = 1) (hz : ZH h q) (hM : ZM M q) : Con l cx ({ frames := 3, cells := 52, slots := 4273, locals := 64 } : Room) yX1_init cX1_init 3 none 52 4273 true 0 (q + 1) (EC q (q + 53) h (mac (q + 47) 6 M)) (G h) [.ref q, .ref 2] M (some ()) := by
  obtain ⟨s0, sl, a0, a34⟩ := shp1_0 q hq hk
  obtain ⟨b34, a35, a46, a47⟩ := shp1_1 q hq hk
  obtain ⟨a48, a49, a50, a51⟩ := shp1_2 q hq hk
  refine Con.of (ls := [some (.ref q), some (.ref 2), none]) (by decide) rfl (Nat.le_of_ble_eq_true rfl) ?_
  refine JO_G (gF_0 (i := 0) (p := q + 1 + 34) hz (by omega)) ?_
  refine J_ald0 dX1_init_0 ?_
  refine J_obj ko_RX1_3 dX1_init_1 ⟨by decide, Nat.le_of_ble_eq_true rfl⟩ ?_
  refine J_ald0 dX1_init_4 ?_
  refine C_new (c := q + 1 + 0) nk_RX1_9 dX1_init_5 rfl a0 hz (by omega) (fun k => hM _ _ (by omega)) ⟨by decide, by decide⟩ ?_
  refine J_dup_r dX1_init_8 ?_
  refine C_ci (c := q + 1 + 0) (n := 34) (as := []) (kX9 l cx (by omega) a0 (gF_z hz (by omega)) (ZM.up hM (by omega))) rfl ki_RX1_11 dX1_init_9 rfl ⟨rfl, rfl, by decide, by decide⟩ ⟨by decide, by decide, Nat.le_of_ble_eq_true rfl⟩ (by omega) (by omega) (by omega) ?_
  refine C_putr rfl fp_RX1_12 dX1_init_12 hk (by omega) (by decide) (fun _ => rfl) (fun _ => rfl) (rowP s0 rfl) (by omega) ?_
  refine J_ald0 dX1_init_15 ?_
  refine J_bipush (v := 6) dX1_init_16 rfl ?_
  refine C_anew (c := q + 1 + 34) (N := 6) (kd := 15) wc_12 dX1_init_18 (Or.inl ⟨rfl, rfl⟩) rfl a34 b34 hz (by omega) (by decide) (by decide) (by decide) ⟨by decide, by decide⟩ ?_
  refine C_putr rfl fp_RX1_20 dX1_init_21 hk (by omega) (by decide) (fun _ => rfl) (fun _ => rfl) (rowP s0 rfl) (by omega) ?_
  refine J_ald0 dX1_init_24 ?_
  refine C_new (c := q + 1 + 35) nk_RX1_24 dX1_init_25 rfl a35 hz (by omega) (fun k => hM _ _ (by omega)) ⟨by decide, by decide⟩ ?_
  refine J_dup_r dX1_init_28 ?_
  refine C_ci (c := q + 1 + 35) (n := 11) (as := []) (kX5 l cx (by omega) a35 (gF_z hz (by omega)) (ZM.up hM (by omega))) rfl ki_RX1_26 dX1_init_29 rfl ⟨rfl, rfl, by decide, by decide⟩ ⟨by decide, by decide, Nat.le_of_ble_eq_true rfl⟩ (by omega) (by omega) (by omega) ?_
  refine C_putr rfl fp_RX1_27 dX1_init_32 hk (by omega) (by decide) (fun _ => rfl) (fun _ => rfl) (rowP s0 rfl) (by omega) ?_
  refine J_ald0 dX1_init_35 ?_
  refine J_ald1 dX1_init_36 ?_
  refine C_putr rfl fp_RX1_31 dX1_init_37 hk (by omega) (by decide) (fun _ => rfl) (fun _ => rfl) (rowP s0 rfl) (by omega) ?_
  refine J_iconst (v := 0) dX1_init_40 rfl ?_
  refine J_ist2 dX1_init_41 (by decide) rfl ?_
  have hpl : ∀ i, i < 6 → GS.2.2 (q + 1 + 34) i = some (q + 1 + (46 + i)) ∧ GS.1 (q + 1 + (46 + i)) = 0 := shq1 q hq hk
  have loop : ∀ (d i : Nat), i + d = 6 → JO l cx ({ frames := 3, cells := 52, slots := 4273, locals := 64 } : Room) yX1_init cX1_init 3 none 52 4273 true 0 (q + 1) (EC q (q + 53) h (mac (q + 47) 6 M)) (G (gF q (q + 1 + (46 + i)) (q + 1 + 34) i [0, 3, 2, 1] h)) (46 + i) (4189 + 14 * i) 42 [some (.ref q), some (.ref 2), some (.int (nI i))] [] (mac (q + 47) i M) (some ()) := by
    intro d
    induction d with
    | zero =>
      intro i hi
      have e6 : i = 6 := by omega
      subst e6
      refine J_ild2 dX1_init_42 ?_
      refine J_bipush (v := nI 6) dX1_init_43 rfl ?_
      refine J_ic_geT 68 dX1_init_45 rfl (by decide) ?_
      exact C_ret rfl dX1_init_68 rfl ⟨rfl, rfl, rfl⟩ hz (rowN s0 (by rfl)) (by omega) (shr1 q hq hk) (by omega) rfl rfl
    | succ d ih =>
      intro i hi
      obtain ⟨hp1, hp2⟩ := hpl i (by omega)
      have hMi : ZM (mac (q + 47) i M) (q + 1 + (46 + i)) := ZM.ofmac (hM.up (by omega)) (by omega)
      refine J_ild2 dX1_init_42 ?_
      refine J_bipush (v := nI 6) dX1_init_43 rfl ?_
      refine J_ic_geF 68 dX1_init_45 rfl (by rw [nI_leI (by omega) (by omega)]; omega) ?_
      refine J_ald0 dX1_init_48 ?_
      refine C_getr fl_RX1_20 dX1_init_49 hk (by omega) (by decide) (by decide) (by omega) (rowP s0 rfl) ?_
      refine J_ild2 dX1_init_52 ?_
      refine C_new (c := q + 1 + (46 + i)) nk_RX1_18 dX1_init_53 rfl hp2 hz (by omega) (fun k => hMi _ _ (by omega)) ⟨by show _ + 1 ≤ 52; omega, by show _ + 14 ≤ 4273; omega⟩ ?_
      refine J_dup_r dX1_init_56 ?_
      refine J_ild2 dX1_init_57 ?_
      refine C_ci (c := q + 1 + (46 + i)) (n := 1) (as := [.int (nI i)]) (kX0 l cx (v := nI i) (by omega) hp2 (gF_z hz (by omega)) hMi) rfl ki_RX1_35 dX1_init_58 rfl ⟨rfl, rfl, by decide, by decide⟩ ⟨by show _ + 1 + 0 ≤ 52; omega, by show _ + 14 + 0 ≤ 4273; omega, Nat.le_of_ble_eq_true rfl⟩ (by omega) (by omega) (by omega) ?_
      refine JO_M (by rw [show q + 1 + (46 + i) = q + 47 + i by omega, mac_s]) ?_
      refine C_ast (n := 6) a34 (by omega) (by show _ < q + 1 + (_ + 1 + 0); omega) (Or.inl ⟨rfl, rfl⟩) hp2 (by show _ < q + 1 + (_ + 1 + 0); omega) b34 rfl (by omega) (by decide) dX1_init_61 hp1 (by omega) ?_
      refine J_iinc2 (w := nI (i + 1)) dX1_init_62 (by decide) rfl (by rw [show Int32.ofInt 1 = nI 1 from rfl, nI_add]) ?_
      refine J_goto 42 dX1_init_65 rfl ?_
      refine JO_G (congrArg (fun z => gF q z (q + 1 + 34) (i + 1) [0, 3, 2, 1] h) (show q + 1 + (46 + i) + 1 = q + 1 + (46 + (i + 1)) by omega)) ?_
      refine JO_cs (ck' := 46 + (i + 1)) (sk' := 4189 + 14 * (i + 1)) (by omega) (by show 4189 + 14 * i + 14 + 0 = _; omega) ?_
      exact ih (i + 1) (by omega)
  have h0 := loop 6 0 rfl
  rw [mac_0] at h0
  exact h0
set_option maxRecDepth 100000 in
theorem shp2_0 : ∀ q, q < 207 → GS.1 q = 2 → (rowR q = [some (q + 1 + 34), some (q + 1 + 0)] ∧ q + 36 ≤ 207 ∧ GS.1 (q + 1 + 0) = 9 ∧ GS.1 (q + 1 + 34) = 8) := by decide +kernel
set_option maxRecDepth 100000 in
theorem kX2 (l : Launch) (cx : CX) {q : Nat} {h : Nat → Nat → Option Nat} {M : Mem} (hq : q < 207) (hk : GS.1 q = 2) (hz : ZH h q) (hM : ZM M q) : Con l cx ({ frames := 3, cells := 35, slots := 177, locals := 64 } : Room) yX2_init cX2_init 2 none 35 177 true 0 (q + 1) (EC q (q + 36) h M) (G h) [.ref q, .ref 1] M (some ()) := by
  obtain ⟨s0, sl, a0, a34⟩ := shp2_0 q hq hk
  refine Con.of (ls := [some (.ref q), some (.ref 1)]) (by decide) rfl (Nat.le_of_ble_eq_true rfl) ?_
  refine JO_G (gF_0 (i := 0) (p := 100000) hz (by omega)) ?_
  refine J_ald0 dX2_init_0 ?_
  refine J_obj ko_RX2_3 dX2_init_1 ⟨by decide, Nat.le_of_ble_eq_true rfl⟩ ?_
  refine J_ald0 dX2_init_4 ?_
  refine C_new (c := q + 1 + 0) nk_RX2_9 dX2_init_5 rfl a0 hz (by omega) (fun k => hM _ _ (by omega)) ⟨by decide, by decide⟩ ?_
  refine J_dup_r dX2_init_8 ?_
  refine C_ci (c := q + 1 + 0) (n := 34) (as := []) (kX9 l cx (by omega) a0 (gF_z hz (by omega)) (ZM.up hM (by omega))) rfl ki_RX2_11 dX2_init_9 rfl ⟨rfl, rfl, by decide, by decide⟩ ⟨by decide, by decide, Nat.le_of_ble_eq_true rfl⟩ (by omega) (by omega) (by omega) ?_
  refine C_putr rfl fp_RX2_12 dX2_init_12 hk (by omega) (by decide) (fun _ => rfl) (fun _ => rfl) (rowP s0 rfl) (by omega) ?_
  refine J_ald0 dX2_init_15 ?_
  refine C_new (c := q + 1 + 34) nk_RX2_18 dX2_init_16 rfl a34 hz (by omega) (fun k => hM _ _ (by omega)) ⟨by decide, by decide⟩ ?_
  refine J_dup_r dX2_init_19 ?_
  refine J_ald1 dX2_init_20 ?_
  refine C_ci (c := q + 1 + 34) (n := 1) (as := [.ref 1]) (kX8 l cx (by omega) a34 (gF_z hz (by omega)) (ZM.up hM (by omega))) rfl ki_RX2_20 dX2_init_21 rfl ⟨rfl, rfl, by decide, by decide⟩ ⟨by decide, by decide, Nat.le_of_ble_eq_true rfl⟩ (by omega) (by omega) (by omega) ?_
  refine C_putr rfl fp_RX2_23 dX2_init_24 hk (by omega) (by decide) (fun _ => rfl) (fun _ => rfl) (rowP s0 rfl) (by omega) ?_
  exact C_ret rfl dX2_init_27 rfl ⟨rfl, rfl, rfl⟩ hz (rowN s0 (by rfl)) (by omega) p0 (by omega) rfl rfl
set_option maxRecDepth 100000 in
theorem shp4_0 : ∀ q, q < 207 → GS.1 q = 4 → (rowR q = [some (q + 1 + 4), none, some (q + 1 + 0), some (q + 1 + 1), some (q + 1 + 2), some (q + 1 + 3)] ∧ q + 6 ≤ 207 ∧ GS.1 (q + 1 + 0) = 12 ∧ GS.2.1 (q + 1 + 0) = 24) := by decide +kernel
set_option maxRecDepth 100000 in
theorem shp4_1 : ∀ q, q < 207 → GS.1 q = 4 → (rowR (q + 1 + 0) = [] ∧ GS.1 (q + 1 + 1) = 12 ∧ GS.2.1 (q + 1 + 1) = 24 ∧ rowR (q + 1 + 1) = []) := by decide +kernel
set_option maxRecDepth 100000 in
theorem shp4_2 : ∀ q, q < 207 → GS.1 q = 4 → (GS.1 (q + 1 + 2) = 12 ∧ GS.2.1 (q + 1 + 2) = 24 ∧ rowR (q + 1 + 2) = [] ∧ GS.1 (q + 1 + 3) = 12) := by decide +kernel
set_option maxRecDepth 100000 in
theorem shp4_3 : ∀ q, q < 207 → GS.1 q = 4 → (GS.2.1 (q + 1 + 3) = 24 ∧ rowR (q + 1 + 3) = [] ∧ GS.1 (q + 1 + 4) = 8) := by decide +kernel
set_option maxRecDepth 100000 in
theorem kX4 (l : Launch) (cx : CX) {q : Nat} {h : Nat → Nat → Option Nat} {M : Mem} (hq : q < 207) (hk : GS.1 q = 4) (hz : ZH h q) (hM : ZM M q) : Con l cx ({ frames := 2, cells := 5, slots := 101, locals := 40 } : Room) yX4_init cX4_init 2 none 5 101 true 0 (q + 1) (EC q (q + 6) h M) (G h) [.ref q, .ref 1] M (some ()) := by
  obtain ⟨s0, sl, a0, b0⟩ := shp4_0 q hq hk
  obtain ⟨c0, a1, b1, c1⟩ := shp4_1 q hq hk
  obtain ⟨a2, b2, c2, a3⟩ := shp4_2 q hq hk
  obtain ⟨b3, c3, a4⟩ := shp4_3 q hq hk
  refine Con.of (ls := [some (.ref q), some (.ref 1)]) (by decide) rfl (Nat.le_of_ble_eq_true rfl) ?_
  refine JO_G (gF_0 (i := 0) (p := 100000) hz (by omega)) ?_
  refine J_ald0 dX4_init_0 ?_
  refine J_obj ko_RX4_3 dX4_init_1 ⟨by decide, Nat.le_of_ble_eq_true rfl⟩ ?_
  refine J_ald0 dX4_init_4 ?_
  refine J_bipush (v := 24) dX4_init_5 rfl ?_
  refine C_newa (atype := .int) (c := q + 1 + 0) (N := 24) (kd := 12) wc_139 dX4_init_7 (Or.inl ⟨rfl, rfl⟩) rfl a0 b0 (row0 c0) hz (by omega) (fun k => hM _ _ (by omega)) (by decide) (by decide) (by decide) ⟨by decide, by decide⟩ ?_
  refine C_putr rfl fp_RX4_11 dX4_init_9 hk (by omega) (by decide) (fun _ => rfl) (fun _ => rfl) (rowP s0 rfl) (by omega) ?_
  refine J_ald0 dX4_init_12 ?_
  refine J_bipush (v := 24) dX4_init_13 rfl ?_
  refine C_newa (atype := .int) (c := q + 1 + 1) (N := 24) (kd := 12) wc_139 dX4_init_15 (Or.inl ⟨rfl, rfl⟩) rfl a1 b1 (row0 c1) hz (by omega) (fun k => hM _ _ (by omega)) (by decide) (by decide) (by decide) ⟨by decide, by decide⟩ ?_
  refine C_putr rfl fp_RX4_15 dX4_init_17 hk (by omega) (by decide) (fun _ => rfl) (fun _ => rfl) (rowP s0 rfl) (by omega) ?_
  refine J_ald0 dX4_init_20 ?_
  refine J_bipush (v := 24) dX4_init_21 rfl ?_
  refine C_newa (atype := .int) (c := q + 1 + 2) (N := 24) (kd := 12) wc_139 dX4_init_23 (Or.inl ⟨rfl, rfl⟩) rfl a2 b2 (row0 c2) hz (by omega) (fun k => hM _ _ (by omega)) (by decide) (by decide) (by decide) ⟨by decide, by decide⟩ ?_
  refine C_putr rfl fp_RX4_18 dX4_init_25 hk (by omega) (by decide) (fun _ => rfl) (fun _ => rfl) (rowP s0 rfl) (by omega) ?_
  refine J_ald0 dX4_init_28 ?_
  refine J_bipush (v := 24) dX4_init_29 rfl ?_
  refine C_newa (atype := .int) (c := q + 1 + 3) (N := 24) (kd := 12) wc_139 dX4_init_31 (Or.inl ⟨rfl, rfl⟩) rfl a3 b3 (row0 c3) hz (by omega) (fun k => hM _ _ (by omega)) (by decide) (by decide) (by decide) ⟨by decide, by decide⟩ ?_
  refine C_putr rfl fp_RX4_21 dX4_init_33 hk (by omega) (by decide) (fun _ => rfl) (fun _ => rfl) (rowP s0 rfl) (by omega) ?_
  refine J_ald0 dX4_init_36 ?_
  refine C_new (c := q + 1 + 4) nk_RX4_24 dX4_init_37 rfl a4 hz (by omega) (fun k => hM _ _ (by omega)) ⟨by decide, by decide⟩ ?_
  refine J_dup_r dX4_init_40 ?_
  refine J_ald1 dX4_init_41 ?_
  refine C_ci (c := q + 1 + 4) (n := 1) (as := [.ref 1]) (kX8 l cx (by omega) a4 (gF_z hz (by omega)) (ZM.up hM (by omega))) rfl ki_RX4_26 dX4_init_42 rfl ⟨rfl, rfl, by decide, by decide⟩ ⟨by decide, by decide, Nat.le_of_ble_eq_true rfl⟩ (by omega) (by omega) (by omega) ?_
  refine C_putr rfl fp_RX4_29 dX4_init_45 hk (by omega) (by decide) (fun _ => rfl) (fun _ => rfl) (rowP s0 rfl) (by omega) ?_
  exact C_ret rfl dX4_init_48 rfl ⟨rfl, rfl, rfl⟩ hz (rowN s0 (by rfl)) (by omega) p0 (by omega) rfl rfl
set_option maxRecDepth 100000 in
theorem shp10_0 : ∀ q, q < 207 → GS.1 q = 10 → (rowR q = [some (q + 1 + 0), none, some (q + 1 + 1), some (q + 1 + 3), some (q + 1 + 56), some (q + 1 + 109), none, some (q + 1 + 162), some (q + 1 + 198), some (q + 1 + 204)] ∧ q + 207 ≤ 207 ∧ GS.1 (q + 1 + 0) = 13 ∧ GS.2.1 (q + 1 + 0) = 400) := by decide +kernel
set_option maxRecDepth 100000 in
theorem shp10_1 : ∀ q, q < 207 → GS.1 q = 10 → (rowR (q + 1 + 0) = [] ∧ GS.1 (q + 1 + 1) = 3 ∧ GS.1 (q + 1 + 3) = 1 ∧ GS.1 (q + 1 + 56) = 1) := by decide +kernel
set_option maxRecDepth 100000 in
theorem shp10_2 : ∀ q, q < 207 → GS.1 q = 10 → (GS.1 (q + 1 + 109) = 1 ∧ GS.1 (q + 1 + 162) = 2 ∧ GS.1 (q + 1 + 198) = 4 ∧ GS.1 (q + 1 + 204) = 6) := by decide +kernel
set_option maxRecDepth 100000 in
theorem kX10 (l : Launch) (cx : CX) {h : Nat → Nat → Option Nat} {M : Mem} (hq : 0 < 207) (hk : GS.1 0 = 10) (hz : ZH h 0) (hM : ZM M 0) : Con l cx ({ frames := 4, cells := 206, slots := 13727, locals := 90 } : Room) yX10_init cX10_init 1 none 206 13727 true 0 (0 + 1) (EC 0 (0 + 207) h (mac (0 + 1 + 109 + 47) 6 (mac (0 + 1 + 56 + 47) 6 (mac (0 + 1 + 3 + 47) 6 (mcl (0 + 1 + 1 + 1) 123 M))))) (G h) [.ref 0] M (some ()) := by
  obtain ⟨s0, sl, a0, b0⟩ := shp10_0 0 hq hk
  obtain ⟨c0, a1, a3, a56⟩ := shp10_1 0 hq hk
  obtain ⟨a109, a162, a198, a204⟩ := shp10_2 0 hq hk
  refine Con.of (ls := [some (.ref 0)]) (by decide) rfl (Nat.le_of_ble_eq_true rfl) ?_
  refine JO_G (gF_0 (i := 0) (p := 100000) hz (by omega)) ?_
  refine J_ald0 dX10_init_0 ?_
  refine J_obj ko_RX10_1 dX10_init_1 ⟨by decide, Nat.le_of_ble_eq_true rfl⟩ ?_
  refine J_ald0 dX10_init_4 ?_
  refine J_sipush (v := 400) dX10_init_5 rfl ?_
  refine C_newa (atype := .byte) (c := 0 + 1 + 0) (N := 400) (kd := 13) wc_140 dX10_init_8 (Or.inr (Or.inl ⟨rfl, rfl⟩)) rfl a0 b0 (row0 c0) hz (by omega) (fun k => hM _ _ (by omega)) (by decide) (by decide) (by decide) ⟨by decide, by decide⟩ ?_
  refine C_putr rfl fp_RX10_9 dX10_init_10 hk (by omega) (by decide) (fun _ => rfl) (fun _ => rfl) (rowP s0 rfl) (by omega) ?_
  refine J_ald0 dX10_init_13 ?_
  refine C_new (c := 0 + 1 + 1) nk_RX10_13 dX10_init_14 rfl a1 hz (by omega) (fun k => hM _ _ (by omega)) ⟨by decide, by decide⟩ ?_
  refine J_dup_r dX10_init_17 ?_
  refine C_ci (c := 0 + 1 + 1) (n := 2) (as := []) (kX3 l cx (by omega) a1 (gF_z hz (by omega)) (ZM.up hM (by omega))) rfl ki_RX10_15 dX10_init_18 rfl ⟨rfl, rfl, by decide, by decide⟩ ⟨by decide, by decide, Nat.le_of_ble_eq_true rfl⟩ (by omega) (by omega) (by omega) ?_
  refine C_putr rfl fp_RX10_16 dX10_init_21 hk (by omega) (by decide) (fun _ => rfl) (fun _ => rfl) (rowP s0 rfl) (by omega) ?_
  have hM1 : ZM (mcl (0 + 1 + 1 + 1) 123 M) (4) := ZM.ofmcl (hM.up (by omega)) (by omega)
  refine J_ald0 dX10_init_24 ?_
  refine C_new (c := 0 + 1 + 3) nk_RX10_20 dX10_init_25 rfl a3 hz (by omega) (fun k => hM1 _ _ (by omega)) ⟨by decide, by decide⟩ ?_
  refine J_dup_r dX10_init_28 ?_
  refine J_ald0 dX10_init_29 ?_
  refine C_getr fl_RX10_16 dX10_init_30 hk (by omega) (by decide) (by decide) (by omega) (rowP s0 rfl) ?_
  refine C_ci (c := 0 + 1 + 3) (n := 53) (as := [.ref 2]) (kX1 l cx (by omega) a3 (gF_z hz (by omega)) (ZM.up hM1 (by omega))) rfl ki_RX10_22 dX10_init_33 rfl ⟨rfl, rfl, by decide, by decide⟩ ⟨by decide, by decide, Nat.le_of_ble_eq_true rfl⟩ (by omega) (by omega) (by omega) ?_
  refine C_putr rfl fp_RX10_25 dX10_init_36 hk (by omega) (by decide) (fun _ => rfl) (fun _ => rfl) (rowP s0 rfl) (by omega) ?_
  have hM2 : ZM (mac (0 + 1 + 3 + 47) 6 (mcl (0 + 1 + 1 + 1) 123 M)) (57) := ZM.ofmac (hM1.up (by omega)) (by omega)
  refine J_ald0 dX10_init_39 ?_
  refine C_new (c := 0 + 1 + 56) nk_RX10_20 dX10_init_40 rfl a56 hz (by omega) (fun k => hM2 _ _ (by omega)) ⟨by decide, by decide⟩ ?_
  refine J_dup_r dX10_init_43 ?_
  refine J_ald0 dX10_init_44 ?_
  refine C_getr fl_RX10_16 dX10_init_45 hk (by omega) (by decide) (by decide) (by omega) (rowP s0 rfl) ?_
  refine C_ci (c := 0 + 1 + 56) (n := 53) (as := [.ref 2]) (kX1 l cx (by omega) a56 (gF_z hz (by omega)) (ZM.up hM2 (by omega))) rfl ki_RX10_22 dX10_init_48 rfl ⟨rfl, rfl, by decide, by decide⟩ ⟨by decide, by decide, Nat.le_of_ble_eq_true rfl⟩ (by omega) (by omega) (by omega) ?_
  refine C_putr rfl fp_RX10_29 dX10_init_51 hk (by omega) (by decide) (fun _ => rfl) (fun _ => rfl) (rowP s0 rfl) (by omega) ?_
  have hM3 : ZM (mac (0 + 1 + 56 + 47) 6 (mac (0 + 1 + 3 + 47) 6 (mcl (0 + 1 + 1 + 1) 123 M))) (110) := ZM.ofmac (hM2.up (by omega)) (by omega)
  refine J_ald0 dX10_init_54 ?_
  refine C_new (c := 0 + 1 + 109) nk_RX10_20 dX10_init_55 rfl a109 hz (by omega) (fun k => hM3 _ _ (by omega)) ⟨by decide, by decide⟩ ?_
  refine J_dup_r dX10_init_58 ?_
  refine J_ald0 dX10_init_59 ?_
  refine C_getr fl_RX10_16 dX10_init_60 hk (by omega) (by decide) (by decide) (by omega) (rowP s0 rfl) ?_
  refine C_ci (c := 0 + 1 + 109) (n := 53) (as := [.ref 2]) (kX1 l cx (by omega) a109 (gF_z hz (by omega)) (ZM.up hM3 (by omega))) rfl ki_RX10_22 dX10_init_63 rfl ⟨rfl, rfl, by decide, by decide⟩ ⟨by decide, by decide, Nat.le_of_ble_eq_true rfl⟩ (by omega) (by omega) (by omega) ?_
  refine C_putr rfl fp_RX10_32 dX10_init_66 hk (by omega) (by decide) (fun _ => rfl) (fun _ => rfl) (rowP s0 rfl) (by omega) ?_
  have hM4 : ZM (mac (0 + 1 + 109 + 47) 6 (mac (0 + 1 + 56 + 47) 6 (mac (0 + 1 + 3 + 47) 6 (mcl (0 + 1 + 1 + 1) 123 M)))) (163) := ZM.ofmac (hM3.up (by omega)) (by omega)
  refine J_ald0 dX10_init_69 ?_
  refine C_new (c := 0 + 1 + 162) nk_RX10_35 dX10_init_70 rfl a162 hz (by omega) (fun k => hM4 _ _ (by omega)) ⟨by decide, by decide⟩ ?_
  refine J_dup_r dX10_init_73 ?_
  refine J_ald0 dX10_init_74 ?_
  refine C_getr fl_RX10_9 dX10_init_75 hk (by omega) (by decide) (by decide) (by omega) (rowP s0 rfl) ?_
  refine C_ci (c := 0 + 1 + 162) (n := 36) (as := [.ref 1]) (kX2 l cx (by omega) a162 (gF_z hz (by omega)) (ZM.up hM4 (by omega))) rfl ki_RX10_37 dX10_init_78 rfl ⟨rfl, rfl, by decide, by decide⟩ ⟨by decide, by decide, Nat.le_of_ble_eq_true rfl⟩ (by omega) (by omega) (by omega) ?_
  refine C_putr rfl fp_RX10_40 dX10_init_81 hk (by omega) (by decide) (fun _ => rfl) (fun _ => rfl) (rowP s0 rfl) (by omega) ?_
  refine J_ald0 dX10_init_84 ?_
  refine C_new (c := 0 + 1 + 198) nk_RX10_44 dX10_init_85 rfl a198 hz (by omega) (fun k => hM4 _ _ (by omega)) ⟨by decide, by decide⟩ ?_
  refine J_dup_r dX10_init_88 ?_
  refine J_ald0 dX10_init_89 ?_
  refine C_getr fl_RX10_9 dX10_init_90 hk (by omega) (by decide) (by decide) (by omega) (rowP s0 rfl) ?_
  refine C_ci (c := 0 + 1 + 198) (n := 6) (as := [.ref 1]) (kX4 l cx (by omega) a198 (gF_z hz (by omega)) (ZM.up hM4 (by omega))) rfl ki_RX10_46 dX10_init_93 rfl ⟨rfl, rfl, by decide, by decide⟩ ⟨by decide, by decide, Nat.le_of_ble_eq_true rfl⟩ (by omega) (by omega) (by omega) ?_
  refine C_putr rfl fp_RX10_47 dX10_init_96 hk (by omega) (by decide) (fun _ => rfl) (fun _ => rfl) (rowP s0 rfl) (by omega) ?_
  refine J_ald0 dX10_init_99 ?_
  refine C_new (c := 0 + 1 + 204) nk_RX10_51 dX10_init_100 rfl a204 hz (by omega) (fun k => hM4 _ _ (by omega)) ⟨by decide, by decide⟩ ?_
  refine J_dup_r dX10_init_103 ?_
  refine J_ald0 dX10_init_104 ?_
  refine C_getr fl_RX10_16 dX10_init_105 hk (by omega) (by decide) (by decide) (by omega) (rowP s0 rfl) ?_
  refine C_ci (c := 0 + 1 + 204) (n := 2) (as := [.ref 2]) (kX6 l cx (by omega) a204 (gF_z hz (by omega)) (ZM.up hM4 (by omega))) rfl ki_RX10_53 dX10_init_108 rfl ⟨rfl, rfl, by decide, by decide⟩ ⟨by decide, by decide, Nat.le_of_ble_eq_true rfl⟩ (by omega) (by omega) (by omega) ?_
  refine C_putr rfl fp_RX10_54 dX10_init_111 hk (by omega) (by decide) (fun _ => rfl) (fun _ => rfl) (rowP s0 rfl) (by omega) ?_
  exact C_ret rfl dX10_init_114 rfl ⟨rfl, rfl, rfl⟩ hz (rowN s0 (by rfl)) (by omega) p0 (by omega) rfl rfl
