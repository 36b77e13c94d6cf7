/-! constructors that make arrays alone -/
theorem p0 : ∀ k, 0 ≤ k → GS.2.2 100000 k = none := fun k _ => row0 (o := 100000) (by decide +kernel) k
set_option maxRecDepth 100000 in
theorem shp8_0 : ∀ q, q < 207 → GS.1 q = 8 → (rowR q = [some 1] ∧ q + 1 ≤ 207) := by decide +kernel
set_option maxRecDepth 100000 in
theorem kX8 (l : Launch) (cx : CX) {q : Nat} {h : Nat → Nat → Option Nat} {M : Mem} (hq : q < 207) (hk : GS.1 q = 8) (hz : ZH h q) (hM : ZM M q) : Con l cx ({ frames := 1, cells := 0, slots := 0, locals := 16 } : Room) yX8_init cX8_init 2 none 0 0 true 0 (q + 1) (EC q (q + 1) h M) (G h) [.ref q, .ref 1] M (some ()) := by
  obtain ⟨s0, sl⟩ := shp8_0 q hq hk
  refine Con.of (ls := [some (.ref q), some (.ref 1)]) (by decide) rfl (Nat.le_of_ble_eq_true rfl) ?_
  refine JO_G (gF_0 (i := 0) (p := 100000) hz (by omega)) ?_
  refine J_ald0 dX8_init_0 ?_
  refine J_obj ko_RX8_3 dX8_init_1 ⟨by decide, Nat.le_of_ble_eq_true rfl⟩ ?_
  refine J_ald0 dX8_init_4 ?_
  refine J_ald1 dX8_init_5 ?_
  refine C_putr rfl fp_RX8_9 dX8_init_6 hk (by omega) (by decide) (fun _ => rfl) (fun _ => rfl) (rowP s0 rfl) (by omega) ?_
  exact C_ret rfl dX8_init_9 rfl ⟨rfl, rfl, rfl⟩ hz (rowN s0 (by rfl)) (by omega) p0 (by omega) rfl rfl
set_option maxRecDepth 100000 in
theorem shp0_0 : ∀ q, q < 207 → GS.1 q = 0 → (rowR q = [] ∧ q + 1 ≤ 207) := by decide +kernel
set_option maxRecDepth 100000 in
theorem kX0 (l : Launch) (cx : CX) {q : Nat} {h : Nat → Nat → Option Nat} {M : Mem} {v : Int32} (hq : q < 207) (hk : GS.1 q = 0) (hz : ZH h q) (hM : ZM M q) : Con l cx ({ frames := 1, cells := 0, slots := 0, locals := 16 } : Room) yX0_init cX0_init 2 none 0 0 true 0 (q + 1) (EC q (q + 1) h (upd2 M q 0 v)) (G h) [.ref q, .int v] M (some ()) := by
  obtain ⟨s0, sl⟩ := shp0_0 q hq hk
  refine Con.of (ls := [some (.ref q), some (.int v)]) (by decide) rfl (Nat.le_of_ble_eq_true rfl) ?_
  refine JO_G (gF_0 (i := 0) (p := 100000) hz (by omega)) ?_
  refine J_ald0 dX0_init_0 ?_
  refine J_obj ko_RX0_3 dX0_init_1 ⟨by decide, Nat.le_of_ble_eq_true rfl⟩ ?_
  refine J_ald0 dX0_init_4 ?_
  refine J_ild1 dX0_init_5 ?_
  refine J_putF rfl fp_RX0_9 dX0_init_6 ⟨hk, Nat.zero_le _, by omega⟩ (by decide) (by decide) ?_
  exact C_ret rfl dX0_init_9 rfl ⟨rfl, rfl, rfl⟩ hz (rowN s0 (by rfl)) (by omega) p0 (by omega) rfl rfl
set_option maxRecDepth 100000 in
theorem shp7_0 : ∀ q, q < 207 → GS.1 q = 7 → (rowR q = [none, none, none, some (q + 1 + 0), some (q + 1 + 1), none, none, none, none, some (q + 1 + 2), some (q + 1 + 3)] ∧ q + 5 ≤ 207 ∧ GS.1 (q + 1 + 0) = 12 ∧ GS.2.1 (q + 1 + 0) = 4) := by decide +kernel
set_option maxRecDepth 100000 in
theorem shp7_1 : ∀ q, q < 207 → GS.1 q = 7 → (rowR (q + 1 + 0) = [] ∧ GS.1 (q + 1 + 1) = 12 ∧ GS.2.1 (q + 1 + 1) = 4 ∧ rowR (q + 1 + 1) = []) := by decide +kernel
set_option maxRecDepth 100000 in
theorem shp7_2 : ∀ q, q < 207 → GS.1 q = 7 → (GS.1 (q + 1 + 2) = 12 ∧ GS.2.1 (q + 1 + 2) = 3 ∧ rowR (q + 1 + 2) = [] ∧ GS.1 (q + 1 + 3) = 12) := by decide +kernel
set_option maxRecDepth 100000 in
theorem shp7_3 : ∀ q, q < 207 → GS.1 q = 7 → (GS.2.1 (q + 1 + 3) = 3 ∧ rowR (q + 1 + 3) = []) := by decide +kernel
set_option maxRecDepth 100000 in
theorem kX7 (l : Launch) (cx : CX) {q : Nat} {h : Nat → Nat → Option Nat} {M : Mem} (hq : q < 207) (hk : GS.1 q = 7) (hz : ZH h q) (hM : ZM M q) : Con l cx ({ frames := 1, cells := 4, slots := 14, locals := 16 } : Room) yX7_init cX7_init 1 none 4 14 true 0 (q + 1) (EC q (q + 5) h M) (G h) [.ref q] M (some ()) := by
  obtain ⟨s0, sl, a0, b0⟩ := shp7_0 q hq hk
  obtain ⟨c0, a1, b1, c1⟩ := shp7_1 q hq hk
  obtain ⟨a2, b2, c2, a3⟩ := shp7_2 q hq hk
  obtain ⟨b3, c3⟩ := shp7_3 q hq hk
  refine Con.of (ls := [some (.ref q)]) (by decide) rfl (Nat.le_of_ble_eq_true rfl) ?_
  refine JO_G (gF_0 (i := 0) (p := 100000) hz (by omega)) ?_
  refine J_ald0 dX7_init_0 ?_
  refine J_obj ko_RX7_3 dX7_init_1 ⟨by decide, Nat.le_of_ble_eq_true rfl⟩ ?_
  refine J_ald0 dX7_init_4 ?_
  refine J_iconst (v := 4) dX7_init_5 rfl ?_
  refine C_newa (atype := .int) (c := q + 1 + 0) (N := 4) (kd := 12) wc_139 dX7_init_6 (Or.inl ⟨rfl, rfl⟩) rfl a0 b0 (row0 c0) hz (by omega) (fun k => hM _ _ (by omega)) (by decide) (by decide) (by decide) ⟨by decide, by decide⟩ ?_
  refine C_putr rfl fp_RX7_11 dX7_init_8 hk (by omega) (by decide) (fun _ => rfl) (fun _ => rfl) (rowP s0 rfl) (by omega) ?_
  refine J_ald0 dX7_init_11 ?_
  refine J_iconst (v := 4) dX7_init_12 rfl ?_
  refine C_newa (atype := .int) (c := q + 1 + 1) (N := 4) (kd := 12) wc_139 dX7_init_13 (Or.inl ⟨rfl, rfl⟩) rfl a1 b1 (row0 c1) hz (by omega) (fun k => hM _ _ (by omega)) (by decide) (by decide) (by decide) ⟨by decide, by decide⟩ ?_
  refine C_putr rfl fp_RX7_15 dX7_init_15 hk (by omega) (by decide) (fun _ => rfl) (fun _ => rfl) (rowP s0 rfl) (by omega) ?_
  refine J_ald0 dX7_init_18 ?_
  refine J_iconst (v := 3) dX7_init_19 rfl ?_
  refine C_newa (atype := .int) (c := q + 1 + 2) (N := 3) (kd := 12) wc_139 dX7_init_20 (Or.inl ⟨rfl, rfl⟩) rfl a2 b2 (row0 c2) hz (by omega) (fun k => hM _ _ (by omega)) (by decide) (by decide) (by decide) ⟨by decide, by decide⟩ ?_
  refine C_putr rfl fp_RX7_18 dX7_init_22 hk (by omega) (by decide) (fun _ => rfl) (fun _ => rfl) (rowP s0 rfl) (by omega) ?_
  refine J_ald0 dX7_init_25 ?_
  refine J_iconst (v := 3) dX7_init_26 rfl ?_
  refine C_newa (atype := .int) (c := q + 1 + 3) (N := 3) (kd := 12) wc_139 dX7_init_27 (Or.inl ⟨rfl, rfl⟩) rfl a3 b3 (row0 c3) hz (by omega) (fun k => hM _ _ (by omega)) (by decide) (by decide) (by decide) ⟨by decide, by decide⟩ ?_
  refine C_putr rfl fp_RX7_21 dX7_init_29 hk (by omega) (by decide) (fun _ => rfl) (fun _ => rfl) (rowP s0 rfl) (by omega) ?_
  exact C_ret rfl dX7_init_32 rfl ⟨rfl, rfl, rfl⟩ hz (rowN s0 (by rfl)) (by omega) p0 (by omega) rfl rfl
set_option maxRecDepth 100000 in
theorem shp5_0 : ∀ q, q < 207 → GS.1 q = 5 → (rowR q = [none, some (q + 1 + 0), some (q + 1 + 1), some (q + 1 + 2), some (q + 1 + 3), some (q + 1 + 4), some (q + 1 + 5), some (q + 1 + 6), some (q + 1 + 7), some (q + 1 + 8), some (q + 1 + 9)] ∧ q + 11 ≤ 207 ∧ GS.1 (q + 1 + 0) = 12 ∧ GS.2.1 (q + 1 + 0) = 400) := by decide +kernel
set_option maxRecDepth 100000 in
theorem shp5_1 : ∀ q, q < 207 → GS.1 q = 5 → (rowR (q + 1 + 0) = [] ∧ GS.1 (q + 1 + 1) = 12 ∧ GS.2.1 (q + 1 + 1) = 400 ∧ rowR (q + 1 + 1) = []) := by decide +kernel
set_option maxRecDepth 100000 in
theorem shp5_2 : ∀ q, q < 207 → GS.1 q = 5 → (GS.1 (q + 1 + 2) = 12 ∧ GS.2.1 (q + 1 + 2) = 400 ∧ rowR (q + 1 + 2) = [] ∧ GS.1 (q + 1 + 3) = 12) := by decide +kernel
set_option maxRecDepth 100000 in
theorem shp5_3 : ∀ q, q < 207 → GS.1 q = 5 → (GS.2.1 (q + 1 + 3) = 400 ∧ rowR (q + 1 + 3) = [] ∧ GS.1 (q + 1 + 4) = 12 ∧ GS.2.1 (q + 1 + 4) = 400) := by decide +kernel
set_option maxRecDepth 100000 in
theorem shp5_4 : ∀ q, q < 207 → GS.1 q = 5 → (rowR (q + 1 + 4) = [] ∧ GS.1 (q + 1 + 5) = 12 ∧ GS.2.1 (q + 1 + 5) = 400 ∧ rowR (q + 1 + 5) = []) := by decide +kernel
set_option maxRecDepth 100000 in
theorem shp5_5 : ∀ q, q < 207 → GS.1 q = 5 → (GS.1 (q + 1 + 6) = 12 ∧ GS.2.1 (q + 1 + 6) = 400 ∧ rowR (q + 1 + 6) = [] ∧ GS.1 (q + 1 + 7) = 12) := by decide +kernel
set_option maxRecDepth 100000 in
theorem shp5_6 : ∀ q, q < 207 → GS.1 q = 5 → (GS.2.1 (q + 1 + 7) = 400 ∧ rowR (q + 1 + 7) = [] ∧ GS.1 (q + 1 + 8) = 12 ∧ GS.2.1 (q + 1 + 8) = 400) := by decide +kernel
set_option maxRecDepth 100000 in
theorem shp5_7 : ∀ q, q < 207 → GS.1 q = 5 → (rowR (q + 1 + 8) = [] ∧ GS.1 (q + 1 + 9) = 12 ∧ GS.2.1 (q + 1 + 9) = 400 ∧ rowR (q + 1 + 9) = []) := by decide +kernel
set_option maxRecDepth 100000 in
theorem kX5 (l : Launch) (cx : CX) {q : Nat} {h : Nat → Nat → Option Nat} {M : Mem} (hq : q < 207) (hk : GS.1 q = 5) (hz : ZH h q) (hM : ZM M q) : Con l cx ({ frames := 1, cells := 10, slots := 4000, locals := 16 } : Room) yX5_init cX5_init 1 none 10 4000 true 0 (q + 1) (EC q (q + 11) h M) (G h) [.ref q] M (some ()) := by
  obtain ⟨s0, sl, a0, b0⟩ := shp5_0 q hq hk
  obtain ⟨c0, a1, b1, c1⟩ := shp5_1 q hq hk
  obtain ⟨a2, b2, c2, a3⟩ := shp5_2 q hq hk
  obtain ⟨b3, c3, a4, b4⟩ := shp5_3 q hq hk
  obtain ⟨c4, a5, b5, c5⟩ := shp5_4 q hq hk
  obtain ⟨a6, b6, c6, a7⟩ := shp5_5 q hq hk
  obtain ⟨b7, c7, a8, b8⟩ := shp5_6 q hq hk
  obtain ⟨c8, a9, b9, c9⟩ := shp5_7 q hq hk
  refine Con.of (ls := [some (.ref q)]) (by decide) rfl (Nat.le_of_ble_eq_true rfl) ?_
  refine JO_G (gF_0 (i := 0) (p := 100000) hz (by omega)) ?_
  refine J_ald0 dX5_init_0 ?_
  refine J_obj ko_RX5_3 dX5_init_1 ⟨by decide, Nat.le_of_ble_eq_true rfl⟩ ?_
  refine J_ald0 dX5_init_4 ?_
  refine J_sipush (v := 400) dX5_init_5 rfl ?_
  refine C_newa (atype := .int) (c := q + 1 + 0) (N := 400) (kd := 12) wc_139 dX5_init_8 (Or.inl ⟨rfl, rfl⟩) rfl a0 b0 (row0 c0) hz (by omega) (fun k => hM _ _ (by omega)) (by decide) (by decide) (by decide) ⟨by decide, by decide⟩ ?_
  refine C_putr rfl fp_RX5_9 dX5_init_10 hk (by omega) (by decide) (fun _ => rfl) (fun _ => rfl) (rowP s0 rfl) (by omega) ?_
  refine J_ald0 dX5_init_13 ?_
  refine J_sipush (v := 400) dX5_init_14 rfl ?_
  refine C_newa (atype := .int) (c := q + 1 + 1) (N := 400) (kd := 12) wc_139 dX5_init_17 (Or.inl ⟨rfl, rfl⟩) rfl a1 b1 (row0 c1) hz (by omega) (fun k => hM _ _ (by omega)) (by decide) (by decide) (by decide) ⟨by decide, by decide⟩ ?_
  refine C_putr rfl fp_RX5_15 dX5_init_19 hk (by omega) (by decide) (fun _ => rfl) (fun _ => rfl) (rowP s0 rfl) (by omega) ?_
  refine J_ald0 dX5_init_22 ?_
  refine J_sipush (v := 400) dX5_init_23 rfl ?_
  refine C_newa (atype := .int) (c := q + 1 + 2) (N := 400) (kd := 12) wc_139 dX5_init_26 (Or.inl ⟨rfl, rfl⟩) rfl a2 b2 (row0 c2) hz (by omega) (fun k => hM _ _ (by omega)) (by decide) (by decide) (by decide) ⟨by decide, by decide⟩ ?_
  refine C_putr rfl fp_RX5_18 dX5_init_28 hk (by omega) (by decide) (fun _ => rfl) (fun _ => rfl) (rowP s0 rfl) (by omega) ?_
  refine J_ald0 dX5_init_31 ?_
  refine J_sipush (v := 400) dX5_init_32 rfl ?_
  refine C_newa (atype := .int) (c := q + 1 + 3) (N := 400) (kd := 12) wc_139 dX5_init_35 (Or.inl ⟨rfl, rfl⟩) rfl a3 b3 (row0 c3) hz (by omega) (fun k => hM _ _ (by omega)) (by decide) (by decide) (by decide) ⟨by decide, by decide⟩ ?_
  refine C_putr rfl fp_RX5_21 dX5_init_37 hk (by omega) (by decide) (fun _ => rfl) (fun _ => rfl) (rowP s0 rfl) (by omega) ?_
  refine J_ald0 dX5_init_40 ?_
  refine J_sipush (v := 400) dX5_init_41 rfl ?_
  refine C_newa (atype := .int) (c := q + 1 + 4) (N := 400) (kd := 12) wc_139 dX5_init_44 (Or.inl ⟨rfl, rfl⟩) rfl a4 b4 (row0 c4) hz (by omega) (fun k => hM _ _ (by omega)) (by decide) (by decide) (by decide) ⟨by decide, by decide⟩ ?_
  refine C_putr rfl fp_RX5_24 dX5_init_46 hk (by omega) (by decide) (fun _ => rfl) (fun _ => rfl) (rowP s0 rfl) (by omega) ?_
  refine J_ald0 dX5_init_49 ?_
  refine J_sipush (v := 400) dX5_init_50 rfl ?_
  refine C_newa (atype := .int) (c := q + 1 + 5) (N := 400) (kd := 12) wc_139 dX5_init_53 (Or.inl ⟨rfl, rfl⟩) rfl a5 b5 (row0 c5) hz (by omega) (fun k => hM _ _ (by omega)) (by decide) (by decide) (by decide) ⟨by decide, by decide⟩ ?_
  refine C_putr rfl fp_RX5_27 dX5_init_55 hk (by omega) (by decide) (fun _ => rfl) (fun _ => rfl) (rowP s0 rfl) (by omega) ?_
  refine J_ald0 dX5_init_58 ?_
  refine J_sipush (v := 400) dX5_init_59 rfl ?_
  refine C_newa (atype := .int) (c := q + 1 + 6) (N := 400) (kd := 12) wc_139 dX5_init_62 (Or.inl ⟨rfl, rfl⟩) rfl a6 b6 (row0 c6) hz (by omega) (fun k => hM _ _ (by omega)) (by decide) (by decide) (by decide) ⟨by decide, by decide⟩ ?_
  refine C_putr rfl fp_RX5_30 dX5_init_64 hk (by omega) (by decide) (fun _ => rfl) (fun _ => rfl) (rowP s0 rfl) (by omega) ?_
  refine J_ald0 dX5_init_67 ?_
  refine J_sipush (v := 400) dX5_init_68 rfl ?_
  refine C_newa (atype := .int) (c := q + 1 + 7) (N := 400) (kd := 12) wc_139 dX5_init_71 (Or.inl ⟨rfl, rfl⟩) rfl a7 b7 (row0 c7) hz (by omega) (fun k => hM _ _ (by omega)) (by decide) (by decide) (by decide) ⟨by decide, by decide⟩ ?_
  refine C_putr rfl fp_RX5_33 dX5_init_73 hk (by omega) (by decide) (fun _ => rfl) (fun _ => rfl) (rowP s0 rfl) (by omega) ?_
  refine J_ald0 dX5_init_76 ?_
  refine J_sipush (v := 400) dX5_init_77 rfl ?_
  refine C_newa (atype := .int) (c := q + 1 + 8) (N := 400) (kd := 12) wc_139 dX5_init_80 (Or.inl ⟨rfl, rfl⟩) rfl a8 b8 (row0 c8) hz (by omega) (fun k => hM _ _ (by omega)) (by decide) (by decide) (by decide) ⟨by decide, by decide⟩ ?_
  refine C_putr rfl fp_RX5_36 dX5_init_82 hk (by omega) (by decide) (fun _ => rfl) (fun _ => rfl) (rowP s0 rfl) (by omega) ?_
  refine J_ald0 dX5_init_85 ?_
  refine J_sipush (v := 400) dX5_init_86 rfl ?_
  refine C_newa (atype := .int) (c := q + 1 + 9) (N := 400) (kd := 12) wc_139 dX5_init_89 (Or.inl ⟨rfl, rfl⟩) rfl a9 b9 (row0 c9) hz (by omega) (fun k => hM _ _ (by omega)) (by decide) (by decide) (by decide) ⟨by decide, by decide⟩ ?_
  refine C_putr rfl fp_RX5_39 dX5_init_91 hk (by omega) (by decide) (fun _ => rfl) (fun _ => rfl) (rowP s0 rfl) (by omega) ?_
  exact C_ret rfl dX5_init_94 rfl ⟨rfl, rfl, rfl⟩ hz (rowN s0 (by rfl)) (by omega) p0 (by omega) rfl rfl
set_option maxRecDepth 100000 in
theorem shp6_0 : ∀ q, q < 207 → GS.1 q = 6 → (rowR q = [some 2, some (q + 1 + 0)] ∧ q + 2 ≤ 207 ∧ GS.1 (q + 1 + 0) = 13 ∧ GS.2.1 (q + 1 + 0) = 80) := by decide +kernel
set_option maxRecDepth 100000 in
theorem shp6_1 : ∀ q, q < 207 → GS.1 q = 6 → (rowR (q + 1 + 0) = []) := by decide +kernel
set_option maxRecDepth 100000 in
theorem kX6 (l : Launch) (cx : CX) {q : Nat} {h : Nat → Nat → Option Nat} {M : Mem} (hq : q < 207) (hk : GS.1 q = 6) (hz : ZH h q) (hM : ZM M q) : Con l cx ({ frames := 1, cells := 1, slots := 80, locals := 16 } : Room) yX6_init cX6_init 2 none 1 80 true 0 (q + 1) (EC q (q + 2) h M) (G h) [.ref q, .ref 2] M (some ()) := by
  obtain ⟨s0, sl, a0, b0⟩ := shp6_0 q hq hk
  obtain c0 := shp6_1 q hq hk
  refine Con.of (ls := [some (.ref q), some (.ref 2)]) (by decide) rfl (Nat.le_of_ble_eq_true rfl) ?_
  refine JO_G (gF_0 (i := 0) (p := 100000) hz (by omega)) ?_
  refine J_ald0 dX6_init_0 ?_
  refine J_obj ko_RX6_1 dX6_init_1 ⟨by decide, Nat.le_of_ble_eq_true rfl⟩ ?_
  refine J_ald0 dX6_init_4 ?_
  refine J_bipush (v := 80) dX6_init_5 rfl ?_
  refine C_newa (atype := .byte) (c := q + 1 + 0) (N := 80) (kd := 13) wc_140 dX6_init_7 (Or.inr (Or.inl ⟨rfl, rfl⟩)) rfl a0 b0 (row0 c0) hz (by omega) (fun k => hM _ _ (by omega)) (by decide) (by decide) (by decide) ⟨by decide, by decide⟩ ?_
  refine C_putr rfl fp_RX6_9 dX6_init_9 hk (by omega) (by decide) (fun _ => rfl) (fun _ => rfl) (rowP s0 rfl) (by omega) ?_
  refine J_ald0 dX6_init_12 ?_
  refine J_ald1 dX6_init_13 ?_
  refine C_putr rfl fp_RX6_13 dX6_init_14 hk (by omega) (by decide) (fun _ => rfl) (fun _ => rfl) (rowP s0 rfl) (by omega) ?_
  exact C_ret rfl dX6_init_17 rfl ⟨rfl, rfl, rfl⟩ hz (rowN s0 (by rfl)) (by omega) p0 (by omega) rfl rfl
