/-! the start: what the Statement gives, the claim out of the walk -/
theorem tb_in (ws : List Cond) (ps : List Nat) (hp : ws = ps.filterMap (fun i => lw_tbl[i]?)) : ∀ w ∈ ws, w ∈ lw_tbl := by
  intro w hw
  rw [hp] at hw
  obtain ⟨i, -, hi⟩ := List.mem_filterMap.mp hw
  exact List.mem_of_getElem? hi
def TI : List Cond := [.instantiable RX0 14, .instantiable RX1 5, .instantiable RX2 2, .instantiable RX3 1, .instantiable RX4 6, .instantiable RX5 11, .instantiable RX6 3, .instantiable RX7 11, .instantiable RX8 5, .instantiable RX9 8, .instantiable RX10 10, .instantiable RX11 22, .arrayOver (.object RX0), .arrayOver (.object RX7), .stringRef (sOwn 0) (sIdx 0) (sTxt 0), .stringRef (sOwn 1) (sIdx 1) (sTxt 1), .stringRef (sOwn 2) (sIdx 2) (sTxt 2), .stringRef (sOwn 3) (sIdx 3) (sTxt 3), .laysStatic "java/lang/String" "COMPACT_STRINGS" "Z", .laysStatic "jdk/internal/util/Preconditions" "SIOOBE_FORMATTER" "Ljava/util/function/BiFunction;", .laysStatic RX4 "FOLLOWS" "[I", .initialized "java/lang/String", .initialized "jdk/internal/util/Preconditions", .initialized RX4, .arrayClass .int, .arrayClass .byte, .arrayClass .long]
theorem TI_in : ∀ w ∈ TI, w ∈ lw_tbl := tb_in _ [291, 137, 381, 122, 421, 233, 449, 150, 389, 143, 114, 1292, 231, 149, 542, 653, 700, 1179, 560, 576, 703, 108, 110, 104, 135, 134, 1367] (by decide +kernel)
theorem ti_0 : Cond.instantiable RX0 14 ∈ lw_tbl := TI_in _ (List.mem_of_getElem? (i := 0) rfl)
theorem ti_1 : Cond.instantiable RX1 5 ∈ lw_tbl := TI_in _ (List.mem_of_getElem? (i := 1) rfl)
theorem ti_2 : Cond.instantiable RX2 2 ∈ lw_tbl := TI_in _ (List.mem_of_getElem? (i := 2) rfl)
theorem ti_3 : Cond.instantiable RX3 1 ∈ lw_tbl := TI_in _ (List.mem_of_getElem? (i := 3) rfl)
theorem ti_4 : Cond.instantiable RX4 6 ∈ lw_tbl := TI_in _ (List.mem_of_getElem? (i := 4) rfl)
theorem ti_5 : Cond.instantiable RX5 11 ∈ lw_tbl := TI_in _ (List.mem_of_getElem? (i := 5) rfl)
theorem ti_6 : Cond.instantiable RX6 3 ∈ lw_tbl := TI_in _ (List.mem_of_getElem? (i := 6) rfl)
theorem ti_7 : Cond.instantiable RX7 11 ∈ lw_tbl := TI_in _ (List.mem_of_getElem? (i := 7) rfl)
theorem ti_8 : Cond.instantiable RX8 5 ∈ lw_tbl := TI_in _ (List.mem_of_getElem? (i := 8) rfl)
theorem ti_9 : Cond.instantiable RX9 8 ∈ lw_tbl := TI_in _ (List.mem_of_getElem? (i := 9) rfl)
theorem ti_10 : Cond.instantiable RX10 10 ∈ lw_tbl := TI_in _ (List.mem_of_getElem? (i := 10) rfl)
theorem ti_11 : Cond.instantiable RX11 22 ∈ lw_tbl := TI_in _ (List.mem_of_getElem? (i := 11) rfl)
theorem ti_a0 : Cond.arrayOver (.object RX0) ∈ lw_tbl := TI_in _ (List.mem_of_getElem? (i := 12) rfl)
theorem ti_a7 : Cond.arrayOver (.object RX7) ∈ lw_tbl := TI_in _ (List.mem_of_getElem? (i := 13) rfl)
theorem ti_s0 : Cond.stringRef (sOwn 0) (sIdx 0) (sTxt 0) ∈ lw_tbl := TI_in _ (List.mem_of_getElem? (i := 14) rfl)
theorem ti_s1 : Cond.stringRef (sOwn 1) (sIdx 1) (sTxt 1) ∈ lw_tbl := TI_in _ (List.mem_of_getElem? (i := 15) rfl)
theorem ti_s2 : Cond.stringRef (sOwn 2) (sIdx 2) (sTxt 2) ∈ lw_tbl := TI_in _ (List.mem_of_getElem? (i := 16) rfl)
theorem ti_s3 : Cond.stringRef (sOwn 3) (sIdx 3) (sTxt 3) ∈ lw_tbl := TI_in _ (List.mem_of_getElem? (i := 17) rfl)
theorem ti_cs : Cond.laysStatic "java/lang/String" "COMPACT_STRINGS" "Z" ∈ lw_tbl := TI_in _ (List.mem_of_getElem? (i := 18) rfl)
theorem ti_fm : Cond.laysStatic "jdk/internal/util/Preconditions" "SIOOBE_FORMATTER" "Ljava/util/function/BiFunction;" ∈ lw_tbl := TI_in _ (List.mem_of_getElem? (i := 19) rfl)
theorem ti_fo : Cond.laysStatic RX4 "FOLLOWS" "[I" ∈ lw_tbl := TI_in _ (List.mem_of_getElem? (i := 20) rfl)
theorem ti_is : Cond.initialized "java/lang/String" ∈ lw_tbl := TI_in _ (List.mem_of_getElem? (i := 21) rfl)
theorem ti_ip : Cond.initialized "jdk/internal/util/Preconditions" ∈ lw_tbl := TI_in _ (List.mem_of_getElem? (i := 22) rfl)
theorem ti_i4 : Cond.initialized RX4 ∈ lw_tbl := TI_in _ (List.mem_of_getElem? (i := 23) rfl)
theorem ti_int : Cond.arrayClass .int ∈ lw_tbl := TI_in _ (List.mem_of_getElem? (i := 24) rfl)
theorem ti_byte : Cond.arrayClass .byte ∈ lw_tbl := TI_in _ (List.mem_of_getElem? (i := 25) rfl)
theorem ti_long : Cond.arrayClass .long ∈ lw_tbl := TI_in _ (List.mem_of_getElem? (i := 26) rfl)
theorem NW_in : ∀ w ∈ NW, w ∈ lw_tbl := tb_in _ [151, 156, 157, 159, 161, 165, 167, 169, 170, 172, 200, 202, 204, 205, 207, 211, 212, 234, 239, 240, 242, 243, 245, 246, 248, 250, 251, 253, 254, 256, 257, 259, 260, 262, 263, 264, 267, 297, 299, 301, 303, 304, 306, 307, 309, 311, 312, 314, 315, 317, 319, 320, 322, 324, 326, 327, 329, 330, 362, 364, 366, 368, 397, 398, 414, 430, 457, 722, 725, 728, 1071, 1202, 1225] (by decide +kernel)
def FC : List Cond := flatC (Jvm.Cond.and given_1 narrow_1)
def tmS (i : Nat) : Term := .string (sOwn i) (sIdx i)
def tmV (i : Nat) : Term := .field (tmS i) "java/lang/String" "value" "[B"
def tmF : Term := .static RX4 "FOLLOWS" "[I"
theorem fc_in {ws : List Cond} {ps : List Nat} (hp : ws = ps.filterMap (fun i => FC[i]?)) : ∀ w ∈ ws, w ∈ FC := by
  intro w hw
  rw [hp] at hw
  obtain ⟨i, -, hi⟩ := List.mem_filterMap.mp hw
  exact List.mem_of_getElem? hi
theorem f_ex : ∀ i, i < 4 → (.exactly (tmS i) "java/lang/String" : Cond) ∈ FC := by
  intro i hi
  exact fc_in (ws := (List.range 4).map (fun i => .exactly (tmS i) "java/lang/String")) (ps := [49, 102, 119, 193]) (by decide +kernel) _ (List.mem_map.mpr ⟨i, List.mem_range.mpr hi, rfl⟩)
theorem f_co : ∀ i, i < 4 → (.eq (.field (tmS i) "java/lang/String" "coder" "B") (.int 0) : Cond) ∈ FC := by
  intro i hi
  exact fc_in (ws := (List.range 4).map (fun i => .eq (.field (tmS i) "java/lang/String" "coder" "B") (.int 0))) (ps := [50, 103, 120, 194]) (by decide +kernel) _ (List.mem_map.mpr ⟨i, List.mem_range.mpr hi, rfl⟩)
theorem f_ar : ∀ i, i < 4 → (.arrayOf (tmV i) .byte : Cond) ∈ FC := by
  intro i hi
  exact fc_in (ws := (List.range 4).map (fun i => .arrayOf (tmV i) .byte)) (ps := [51, 104, 121, 195]) (by decide +kernel) _ (List.mem_map.mpr ⟨i, List.mem_range.mpr hi, rfl⟩)
theorem f_le : ∀ i, i < 4 → (.eq (.length (tmV i)) (.int (Int32.ofNat (sLen.getD i 0))) : Cond) ∈ FC := by
  intro i hi
  exact fc_in (ws := (List.range 4).map (fun i => .eq (.length (tmV i)) (.int (Int32.ofNat (sLen.getD i 0))))) (ps := [52, 105, 122, 196]) (by decide +kernel) _ (List.mem_map.mpr ⟨i, List.mem_range.mpr hi, rfl⟩)
theorem f_el0 : ∀ i, i < 49 → (.eq (.elem (tmV 0) (.int (Int32.ofNat i))) (.int ((sByt.getD 0 []).getD i 0)) : Cond) ∈ FC := by
  intro i hi
  exact fc_in (ws := (List.range 49).map (fun i => .eq (.elem (tmV 0) (.int (Int32.ofNat i))) (.int ((sByt.getD 0 []).getD i 0)))) (ps := [53, 54, 55, 56, 57, 58, 59, 60, 61, 62, 63, 64, 65, 66, 67, 68, 69, 70, 71, 72, 73, 74, 75, 76, 77, 78, 79, 80, 81, 82, 83, 84, 85, 86, 87, 88, 89, 90, 91, 92, 93, 94, 95, 96, 97, 98, 99, 100, 101]) (by decide +kernel) _ (List.mem_map.mpr ⟨i, List.mem_range.mpr hi, rfl⟩)
theorem f_el1 : ∀ i, i < 12 → (.eq (.elem (tmV 1) (.int (Int32.ofNat i))) (.int ((sByt.getD 1 []).getD i 0)) : Cond) ∈ FC := by
  intro i hi
  exact fc_in (ws := (List.range 12).map (fun i => .eq (.elem (tmV 1) (.int (Int32.ofNat i))) (.int ((sByt.getD 1 []).getD i 0)))) (ps := [106, 107, 108, 109, 110, 111, 112, 113, 114, 115, 116, 117]) (by decide +kernel) _ (List.mem_map.mpr ⟨i, List.mem_range.mpr hi, rfl⟩)
theorem f_el2 : ∀ i, i < 68 → (.eq (.elem (tmV 2) (.int (Int32.ofNat i))) (.int ((sByt.getD 2 []).getD i 0)) : Cond) ∈ FC := by
  intro i hi
  exact fc_in (ws := (List.range 68).map (fun i => .eq (.elem (tmV 2) (.int (Int32.ofNat i))) (.int ((sByt.getD 2 []).getD i 0)))) (ps := [123, 124, 125, 126, 127, 128, 129, 130, 131, 132, 133, 134, 135, 136, 137, 138, 139, 140, 141, 142, 143, 144, 145, 146, 147, 148, 149, 150, 151, 152, 153, 154, 155, 156, 157, 158, 159, 160, 161, 162, 163, 164, 165, 166, 167, 168, 169, 170, 171, 172, 173, 174, 175, 176, 177, 178, 179, 180, 181, 182, 183, 184, 185, 186, 187, 188, 189, 190]) (by decide +kernel) _ (List.mem_map.mpr ⟨i, List.mem_range.mpr hi, rfl⟩)
theorem f_el3 : ∀ i, i < 36 → (.eq (.elem (tmV 3) (.int (Int32.ofNat i))) (.int ((sByt.getD 3 []).getD i 0)) : Cond) ∈ FC := by
  intro i hi
  exact fc_in (ws := (List.range 36).map (fun i => .eq (.elem (tmV 3) (.int (Int32.ofNat i))) (.int ((sByt.getD 3 []).getD i 0)))) (ps := [197, 198, 199, 200, 201, 202, 203, 204, 205, 206, 207, 208, 209, 210, 211, 212, 213, 214, 215, 216, 217, 218, 219, 220, 221, 222, 223, 224, 225, 226, 227, 228, 229, 230, 231, 232]) (by decide +kernel) _ (List.mem_map.mpr ⟨i, List.mem_range.mpr hi, rfl⟩)
theorem f_fe : ∀ i, i < 13 → (.eq (.elem tmF (.int (Int32.ofNat i))) (.int (folL.getD i 0)) : Cond) ∈ FC := by
  intro i hi
  exact fc_in (ws := (List.range 13).map (fun i => .eq (.elem tmF (.int (Int32.ofNat i))) (.int (folL.getD i 0)))) (ps := [12, 13, 14, 15, 16, 17, 18, 19, 20, 21, 22, 23, 24]) (by decide +kernel) _ (List.mem_map.mpr ⟨i, List.mem_range.mpr hi, rfl⟩)
theorem f_fa : (.arrayOf tmF .int : Cond) ∈ FC := List.mem_of_getElem? (i := 10) (by decide +kernel)
theorem f_fl : (.eq (.length tmF) (.int 13) : Cond) ∈ FC := List.mem_of_getElem? (i := 11) (by decide +kernel)
theorem f_cs : (.eq (.static "java/lang/String" "COMPACT_STRINGS" "Z") (.int 1) : Cond) ∈ FC := List.mem_of_getElem? (i := 4) (by decide +kernel)
theorem f_fm : (.isRef (.static "jdk/internal/util/Preconditions" "SIOOBE_FORMATTER" "Ljava/util/function/BiFunction;") : Cond) ∈ FC := List.mem_of_getElem? (i := 5) (by decide +kernel)
def neP : List Nat := [0, 118, 191, 233, 118, 0, 192, 234, 191, 192, 0, 235, 233, 234, 235, 0]
theorem f_ne : ∀ i, i < 4 → ∀ j, j < 4 → i ≠ j → (FC[neP.getD (4 * i + j) 0]? = some (.not (.eq (tmS i) (tmS j))) ∨ FC[neP.getD (4 * i + j) 0]? = some (.not (.eq (tmS j) (tmS i)))) := by decide +kernel
/-! THE CLAIM OUT OF ONE WALK OF THE LAW'S BODY. Your part is whole_start (and what it stands on); all else here is the same for every law, but numbers. -/
def R_law : String := "SlicedBillsLaw"
def lw_P (b : Addr) (xs : List Int32) (args : Array Value) (s : State) : Prop := args = #[.ref b] ∧ s.IntsAt b xs ∧ xs.length ≤ 3072 ∧ (Jvm.Cond.and given_1 narrow_1).before args s = true
def lw_Q (_ : Array Value) (s : State) (o : Outcome) (t : State) : Prop := o = .returned (some (.int 1)) ∧ Framed s o t [] 600000 7302250
def lw_Z (below : List Frame) (a : Array Value) (s : State) : State → Prop := fun t => ∃ o, t.status = .running ∧ Ended t below o ∧ lw_Q a s o t
/-- the law's own end, with 1 on the stack, nothing written that was there before, its room as the claim has it -/
theorem lw_ret {p : Program} {l : Launch} {e : Env} {s : State} {m : MethodId} {below : List Frame} {meth : Method} {c : Code} {b : Nat} (hx : p.tables.exec = Jvm.exec) (hb : c.code = code) (hr : meth.sig.returnType = ret) (hlocks : meth.locks = false) {pc : Nat} {H : Heap} {ls : Array Slot} (hdg : decode code pc = .ok (.ireturn, 1)) : W p l e room_1 s m #[Value.ref b] below meth c H [] 600000 7302250 (lw_Z below #[Value.ref b] s) (F0 m pc ls [.int 1]) := by
  intro T hT X
  obtain ⟨fs, hret, hrun, hended, hW, hframe⟩ := X.leave (v := some (.int 1)) (hlocks := hlocks) (fun h => by rw [hr] at h; cases h)
  have hmeth' : T.vm.method? m = some meth := X.method'
  refine ⟨T.setFrames fs, ?_, .returned (some (.int 1)), hrun, hended, rfl, ⟨_, rfl⟩, hW, hframe⟩
  jvm_step X.here [X.here.top, hx, hb, hdg, hmeth', hr, ret, narrow_b1]
  (try refine ⟨rfl, ?_⟩); (try refine ⟨rfl, ?_⟩)
  first | (intro acts; rw [hret _ acts rfl rfl rfl]) | rw [hret _ _ rfl rfl rfl]
  exact Steps.refl _
/-- what holds at the law's entry: the machine, the code, the tables' words (any of lw_tbl by 'hts w (by decide +kernel)'), the script of L ints xs at the cell b, what the Statement gives of the start (any of its parts by flat_of_before) -/
def lw_At (p : Program) (s : State) (m : MethodId) (meth : Method) (c : Code) (b L : Nat) (xs : Nat → Int32) : Prop :=
  p.tables.exec = Jvm.exec ∧ c.code = code ∧ meth.sig.returnType = ret ∧ c.maxLocals = 4 ∧ s.vm.findClass R_law = some m.cls ∧ (∀ w ∈ lw_tbl, w.before #[Value.ref b] s = true) ∧ va_X b L xs s s.heap ∧ b < s.heap.size ∧ meth.locks = false ∧ (Jvm.Cond.and given_1 narrow_1).before #[Value.ref b] s = true ∧ meth.name = "law"
theorem of_toNat (x : Int32) : Int32.ofNat x.toBitVec.toNat = x := by
  apply Int32.toBitVec_inj.mp
  show BitVec.ofNat 32 x.toBitVec.toNat = x.toBitVec
  exact BitVec.ofNat_toNat ..
theorem fr_end {s t : State} {o : Outcome} {L : List Loc} (h : FrameEnd s o t L 218 27776) (hL : ∀ q ∈ L, s.heap.size ≤ q.base) : Framed s o t [] 600000 7302250 := by
  obtain ⟨hv, hW, h1, h2, h3, h4, h5, h6⟩ := h
  refine ⟨hv, hW, h1, h2, Nat.le_trans h3 (by omega), h4, Nat.le_trans h5 (by omega), fun a c hc => ?_⟩
  obtain ⟨c', e1, e2, e3, e4⟩ := h6 a c hc
  refine ⟨c', e1, e2, e3, fun i _ => e4 i (fun hm => ?_)⟩
  have z1 := hL _ hm
  have z2 := (Array.getElem?_eq_some_iff.mp hc).1
  exact absurd z2 (Nat.not_lt.mpr z1)
theorem arr_of {s : State} {args : Array Value} {ty : FieldType} (hty : ty = .int ∨ ty = .byte ∨ ty = .long) (h : (Cond.arrayClass ty).before args s = true) : ∃ cA : ClassId, ArrOfT s cA ty ∧ va_RA s cA ty := by
  obtain ⟨c, k, comp, h1, h2, h3⟩ := Cond.arrayClass_spec h
  refine ⟨c, fun n z => ⟨(fun k h => by cases h), k, h2, comp, h3⟩, ?_⟩
  rcases hty with rfl | rfl | rfl <;> exact h1
theorem arr_ofR {s : State} {args : Array Value} {C : String} (h : (Cond.arrayOver (.object C)).before args s = true) : ∃ cA : ClassId, ArrOfT s cA (.object C) ∧ va_RA s cA (.object C) := by
  obtain ⟨comp, c, k, h1, h2, h3, h4, h5⟩ := Cond.arrayOver_spec h
  exact ⟨c, fun n z => ⟨(fun k h => by cases h), k, h3, comp, h4⟩, k, comp, h3, h4, h1, h5⟩
/-- all twelve classes -/
theorem cls_of {s : State} {args : Array Value} (hts : ∀ w ∈ lw_tbl, w.before args s = true) : ∀ c : Nat, ∃ r : ClassId × (Nat → Nat), ∀ q, vwCl[c]? = some q → u_Kn s q.1 q.2.1 q.2.2 r.1 r.2 := by
  have hW : ∀ w ∈ Wd, w.before args s = true := fun w hw => hts w (List.mem_filter.mp hw).1
  intro c
  by_cases hc : c < 12
  · rcases (show c = 0 ∨ c = 1 ∨ c = 2 ∨ c = 3 ∨ c = 4 ∨ c = 5 ∨ c = 6 ∨ c = 7 ∨ c = 8 ∨ c = 9 ∨ c = 10 ∨ c = 11 by omega) with rfl | rfl | rfl | rfl | rfl | rfl | rfl | rfl | rfl | rfl | rfl | rfl
    · obtain ⟨a, b, h⟩ := u_known hW wsc_0 (hts _ ti_0)
      exact ⟨(a, b), fun q hq => by cases hq; exact h⟩
    · obtain ⟨a, b, h⟩ := u_known hW wsc_1 (hts _ ti_1)
      exact ⟨(a, b), fun q hq => by cases hq; exact h⟩
    · obtain ⟨a, b, h⟩ := u_known hW wsc_2 (hts _ ti_2)
      exact ⟨(a, b), fun q hq => by cases hq; exact h⟩
    · obtain ⟨a, b, h⟩ := u_known hW wsc_3 (hts _ ti_3)
      exact ⟨(a, b), fun q hq => by cases hq; exact h⟩
    · obtain ⟨a, b, h⟩ := u_known hW wsc_4 (hts _ ti_4)
      exact ⟨(a, b), fun q hq => by cases hq; exact h⟩
    · obtain ⟨a, b, h⟩ := u_known hW wsc_5 (hts _ ti_5)
      exact ⟨(a, b), fun q hq => by cases hq; exact h⟩
    · obtain ⟨a, b, h⟩ := u_known hW wsc_6 (hts _ ti_6)
      exact ⟨(a, b), fun q hq => by cases hq; exact h⟩
    · obtain ⟨a, b, h⟩ := u_known hW wsc_7 (hts _ ti_7)
      exact ⟨(a, b), fun q hq => by cases hq; exact h⟩
    · obtain ⟨a, b, h⟩ := u_known hW wsc_8 (hts _ ti_8)
      exact ⟨(a, b), fun q hq => by cases hq; exact h⟩
    · obtain ⟨a, b, h⟩ := u_known hW wsc_9 (hts _ ti_9)
      exact ⟨(a, b), fun q hq => by cases hq; exact h⟩
    · obtain ⟨a, b, h⟩ := u_known hW wsc_10 (hts _ ti_10)
      exact ⟨(a, b), fun q hq => by cases hq; exact h⟩
    · obtain ⟨a, b, h⟩ := u_known hW wsc_11 (hts _ ti_11)
      exact ⟨(a, b), fun q hq => by cases hq; exact h⟩
  · refine ⟨(0, fun _ => 0), fun q hq => ?_⟩
    rw [List.getElem?_eq_none_iff.mpr (by show (12 : Nat) ≤ c; omega)] at hq
    cases hq
def cxG (g0 g1 g2 g3 g4 : ClassId) (L : Nat) (xs : Nat → Int32) : Nat → ClassId := fun k => match k with
  | 0 => g0
  | 1 => g1
  | 2 => g2
  | 3 => g3
  | 4 => g4
  | 5 => L
  | k + 6 => (xs k).toBitVec.toNat
def cxA (b tF tO : Nat) (adK adV : Nat → Nat) (z : Nat) : Nat → Nat := fun o => if o = SC then b else if o = FMt then tF else if o = FO then tO else if SV ≤ o ∧ o < SV + 4 then adV (o - SV) else if SO ≤ o ∧ o < SO + 4 then adK (o - SO) else z + o
theorem cxA_SC {b tF tO : Nat} {adK adV : Nat → Nat} {z : Nat} : cxA b tF tO adK adV z SC = b := if_pos rfl
theorem cxA_FM {b tF tO : Nat} {adK adV : Nat → Nat} {z : Nat} : cxA b tF tO adK adV z FMt = tF := by unfold cxA; rw [if_neg (by decide), if_pos rfl]
theorem cxA_FO {b tF tO : Nat} {adK adV : Nat → Nat} {z : Nat} : cxA b tF tO adK adV z FO = tO := by unfold cxA; rw [if_neg (by decide), if_neg (by decide), if_pos rfl]
theorem cxA_SV {b tF tO : Nat} {adK adV : Nat → Nat} {z i : Nat} (hi : i < 4) : cxA b tF tO adK adV z (SV + i) = adV i := by
  unfold cxA
  rw [if_neg (by unfold SV SC; omega), if_neg (by unfold SV FMt; omega), if_neg (by unfold SV FO; omega), if_pos (by omega), show SV + i - SV = i by omega]
theorem cxA_SO {b tF tO : Nat} {adK adV : Nat → Nat} {z i : Nat} (hi : i < 4) : cxA b tF tO adK adV z (SO + i) = adK i := by
  unfold cxA
  rw [if_neg (by unfold SO SC; omega), if_neg (by unfold SO FMt; omega), if_neg (by unfold SO FO; omega), if_neg (by unfold SO SV; omega), if_pos (by omega), show SO + i - SO = i by omega]
theorem cxA_z {b tF tO : Nat} {adK adV : Nat → Nat} {z o : Nat} (ho : o < 1000) : cxA b tF tO adK adV z o = z + o := by
  unfold cxA
  rw [if_neg (by unfold SC; omega), if_neg (by unfold FMt; omega), if_neg (by unfold FO; omega), if_neg (by unfold SV; omega), if_neg (by unfold SO; omega)]
theorem str_of {s : State} {args : Array Value} {A : Nat → Prop} (hq : ∀ w ∈ FC, w.before args s = true) (hA : ∀ a : Nat, a < s.heap.size → ¬ A a) : ∃ adK adV : Nat → Nat, vk_S 4 sLen sByt adK adV A s s.heap ∧ ∀ i : Nat, i < 4 → (tmS i).eval args s none [] s = some (.ref (adK i)) := by
  refine vk_Sof (tm := tmS) len_ni (fun i hi => hq _ (f_ex i hi)) (fun i hi => hq _ (f_co i hi)) (fun i hi => hq _ (f_ar i hi)) (fun i hi => hq _ (f_le i hi)) (fun i hi j hj => ?_) (fun i j hi hj hij => ?_) hA
  · rcases (show i = 0 ∨ i = 1 ∨ i = 2 ∨ i = 3 by omega) with rfl | rfl | rfl | rfl
    · exact hq _ (f_el0 j hj)
    · exact hq _ (f_el1 j hj)
    · exact hq _ (f_el2 j hj)
    · exact hq _ (f_el3 j hj)
  · rcases f_ne i hi j hj hij with h | h
    · exact Or.inl (hq _ (List.mem_of_getElem? h))
    · exact Or.inr (hq _ (List.mem_of_getElem? h))
theorem vk_Sad {N : Nat} {len : List Nat} {byt : List (List Int32)} {k v k' v' : Nat → Nat} {A : Nat → Prop} {U : State} {H : Heap} (hk : ∀ i, i < N → k' i = k i) (hv : ∀ i, i < N → v' i = v i) (h : vk_S N len byt k v A U H) : vk_S N len byt k' v' A U H :=
  ⟨fun i hi => by rw [hk i hi, hv i hi]; exact h.1 i hi, fun i j hi hj e => h.2 i j hi hj (by rw [← hk i hi, ← hk j hj]; exact e)⟩
set_option maxHeartbeats 2000000 in
theorem whole_start {p : Program} {e : Env} {s : State} {m : MethodId} {below : List Frame} {meth : Method} {c : Code} (l : Launch) (hflags : l.flags = flags0) {b L : Nat} {xs : Nat → Int32} (hL : L ≤ 3072) (C0 : lw_At p s m meth c b L xs) : W p l e room_1 s m #[Value.ref b] below meth c s.heap [] 0 0 (lw_Z below #[Value.ref b] s) (entryFrame m ([Value.ref b] : List Value).toArray 4) := by
  obtain ⟨hx, hb, hr, hml, hown, hts, hX, hbl, hlk, hgv, hnm⟩ := C0
  have hA : ∀ a : Nat, a < s.heap.size → ¬ (s.heap.size ≤ a) := fun a h => Nat.not_le.mpr h
  have hW : ∀ w ∈ Wd, w.before #[Value.ref b] s = true := fun w hw => hts w (List.mem_filter.mp hw).1
  have hq : ∀ w ∈ FC, w.before #[Value.ref b] s = true := flat_of_before _ hgv
  obtain ⟨D, hD⟩ := Classical.axiomOfChoice (cls_of hts)
  obtain ⟨g0, a0⟩ := arr_of (Or.inl rfl) (hts _ ti_int)
  obtain ⟨g1, a1⟩ := arr_of (Or.inr (Or.inl rfl)) (hts _ ti_byte)
  obtain ⟨g2, a2⟩ := arr_of (Or.inr (Or.inr rfl)) (hts _ ti_long)
  obtain ⟨g3, a3⟩ := arr_ofR (hts _ ti_a0)
  obtain ⟨g4, a4⟩ := arr_ofR (hts _ ti_a7)
  obtain ⟨adK, adV, hS, hSe⟩ := str_of (A := fun a => s.heap.size ≤ a) hq hA
  obtain ⟨tO, hTe, hT⟩ := va_Tof (tm := tmF) (ty := .int) (N := 13) (f := fun j => .int (folL.getD j 0)) (A := fun a => s.heap.size ≤ a) (by decide) (hq _ f_fa) (va_eqt (hq _ f_fl)) (fun j hj => va_eqt (hq _ (f_fe j hj))) hA
  have hFm : ∃ tF : Nat, va_Z "jdk/internal/util/Preconditions" "SIOOBE_FORMATTER" "Ljava/util/function/BiFunction;" .null (fun a => s.heap.size ≤ a) s s.heap ∨ va_Z "jdk/internal/util/Preconditions" "SIOOBE_FORMATTER" "Ljava/util/function/BiFunction;" (.ref tF) (fun a => s.heap.size ≤ a) s s.heap := by
    rcases va_Zqof (A := fun a => s.heap.size ≤ a) (hts _ ti_fm) (hts _ ti_ip) (hq _ f_fm) hA with h | ⟨t, h⟩
    · exact ⟨0, Or.inl h⟩
    · exact ⟨t, Or.inr h⟩
  obtain ⟨tF, hF⟩ := hFm
  let cx : CX := (fun k => (D k).1, fun k => (D k).2, cxG g0 g1 g2 g3 g4 L xs, cxA b tF tO adK adV s.heap.size)
  have hJ : JX cx yL_law cL_law 4 (some .boolean) true 0 p s m #[Value.ref b] meth c (fun a => s.heap.size ≤ a) := by
    refine ⟨hx, hb, hml, hown, hW, hr, hlk, hnm, ⟨fun k q h => hD k q h, fun k q h => ?_⟩, ⟨fun w hw => va_Nw.of (NW_tab w hw) (hts w (NW_in w hw)), fun i hi => ?_, ?_, ?_, ?_, va_Zof (hts _ ti_cs) (hts _ ti_is) (va_eqi (hq _ f_cs)) hA, ?_, ?_, va_AO.of (hts _ ti_a0), va_AO.of (hts _ ti_a7)⟩, fun q h => h, fun _ o _ ho => ?_⟩
    · have hk : k < 5 := (List.getElem?_eq_some_iff.mp h).1
      rcases (show k = 0 ∨ k = 1 ∨ k = 2 ∨ k = 3 ∨ k = 4 by omega) with rfl | rfl | rfl | rfl | rfl
      · cases h; exact a0
      · cases h; exact a1
      · cases h; exact a2
      · cases h; exact a3
      · cases h; exact a4
    · show vk_R _ _ _ (cxA b tF tO adK adV s.heap.size (SO + i)) s
      rw [cxA_SO hi]
      rcases (show i = 0 ∨ i = 1 ∨ i = 2 ∨ i = 3 by omega) with rfl | rfl | rfl | rfl
      · exact vk_R.of (hts _ ti_s0) (hSe 0 hi)
      · exact vk_R.of (hts _ ti_s1) (hSe 1 hi)
      · exact vk_R.of (hts _ ti_s2) (hSe 2 hi)
      · exact vk_R.of (hts _ ti_s3) (hSe 3 hi)
    · exact vk_Sad (fun i hi => cxA_SO hi) (fun i hi => cxA_SV hi) hS
    · show va_Z RX4 "FOLLOWS" "[I" (.ref (cxA b tF tO adK adV s.heap.size FO)) _ _ _
      rw [cxA_FO]
      exact va_Zof (hts _ ti_fo) (hts _ ti_i4) hTe hA
    · show va_T .int (cxA b tF tO adK adV s.heap.size FO) 13 _ _ _ _
      rw [cxA_FO]
      exact hT
    · show _ ∨ va_Z _ _ _ (.ref (cxA b tF tO adK adV s.heap.size FMt)) _ _ _
      rw [cxA_FM]
      exact hF
    · have ej : (fun j => Value.int (Int32.ofNat (cxG g0 g1 g2 g3 g4 L xs (6 + j)))) = fun j => .int (xs j) := funext fun j => by
        have e6 : cxG g0 g1 g2 g3 g4 L xs (6 + j) = (xs j).toBitVec.toNat := by rw [Nat.add_comm]; rfl
        rw [e6, of_toNat]
      show va_T .int (cxA b tF tO adK adV s.heap.size SC) L (fun j => Value.int (Int32.ofNat (cxG g0 g1 g2 g3 g4 L xs (6 + j)))) _ _ _
      rw [cxA_SC, ej]
      obtain ⟨scr, h1, h2, h3, h4, h5⟩ := hX
      refine ⟨scr, h1, h2, h3, by rw [h4]; exact Nat.le_refl _, by rw [h4], h5, hA _ hbl⟩
    · show cxA b tF tO adK adV s.heap.size o = s.heap.size + (o - 0)
      rw [cxA_z ho, Nat.sub_zero]
  have hrb : rv cx (.ref SC) = .ref b := by
    show Value.ref (cxA b tF tO adK adV s.heap.size SC) = _
    rw [cxA_SC]
  have hl0 := lv_entry ([Value.ref SC].map (rv cx)) (n := 4) (by rw [lg_sl_len, sumW_rv]; decide)
  have hent : ([Value.ref b] : List Value).toArray = ([Value.ref SC].map (rv cx)).toArray := by rw [List.map_cons, hrb]; rfl
  have hw := law_main (l := l) (cx := cx) hL () rfl p e s m #[Value.ref b] below meth c s.heap [] (fun a => s.heap.size ≤ a) _ hJ (fun k q h => nomatch (show (none : Option (Nat × va_E)) = some q from h)) ⟨(fun i j p q h _ _ => nomatch (show (none : Option (Nat × va_E)) = some p from h)), (fun k q h => nomatch (show (none : Option (Nat × va_E)) = some q from h))⟩ va_S.rf ⟨hl0.1, hl0.2.1, fun i v hi => by
    have h2 : (entL [Value.ref SC] 4)[i]? = some (some v) := hi
    have := entL_args cx [Value.ref SC] 4 0 i v h2
    rw [Nat.zero_add] at this
    exact hl0.2.2 _ this⟩
  rw [hent, lg_entry_eq]
  intro T hT X
  obtain ⟨t, s1, o, r1, r2, ⟨⟨v, g', M', ho, hE, -, -⟩, -⟩, L', hf, hfree⟩ := hw T hT X
  refine ⟨t, s1, o, r1, r2, ?_, fr_end hf hfree⟩
  have hv : v = some (.int 1) := hE
  rw [ho, hv]; rfl
set_option maxHeartbeats 4000000 in
theorem lw_walk (l : Launch) (hflags : l.flags = flags0) (b : Addr) (xs : List Int32) : MetFree l x (headSpec (Jvm.Cond.code x code maxLocals ret :: tables_1) room_1) (lw_P b xs) (fun _ _ _ _ _ => True) lw_Q := by
  refine MetFree.of_bodyS (code := code) (maxLocals := maxLocals) (ret := ret) (by decide) ?_ ?_
  · intro args s m h hn
    obtain ⟨meth, c, h1, h2, h3, h4, h5, h6, -, -⟩ := Cond.code_spec hn (atoms_spec (ws := Jvm.Cond.code x code maxLocals ret :: tables_1) h _ List.mem_cons_self)
    exact ⟨meth, c, h1, h2, h3, h4, h5, h6⟩
  · intro p e s m args below meth c s₁ B hml0 hP _
    obtain ⟨rfl, hx, hbd, hgv⟩ := hP
    obtain ⟨scr, harrAt, hlist, hof, hsmall⟩ := hx
    obtain ⟨hcb, hkn, -, -⟩ := State.arrayAt?_spec harrAt
    have hown : s.vm.findClass R_law = some m.cls := findClass_of_methodNamed B.named
    have hts0 : ∀ c ∈ (Jvm.Cond.code x code maxLocals ret :: tables_1), c.before #[Value.ref b] s = true := atoms_spec (ws := Jvm.Cond.code x code maxLocals ret :: tables_1) B.pre
    have hts : ∀ w ∈ lw_tbl, w.before #[Value.ref b] s = true := k2_hts_sels lw_privs (fun w hw => hts0 w (List.mem_cons_of_mem _ hw)) lw_privs_ok
    have hml : c.maxLocals = 4 := B.maxLocals_eq (hts0 _ List.mem_cons_self)
    have X₀ : Stand p l e room_1 s m #[Value.ref b] below meth c s₁ [] 0 0 := Stand.of_body B
    have hh0 : s₁.heap = s.heap := by rw [B.state]; rfl
    have hsz : scr.slots.size = xs.length := by rw [← Array.length_toList, hlist, List.length_map]
    have hval : ∀ j : Nat, j < xs.length → scr.slots[j]? = some (.int (xs.getD j 0)) := fun j hj => by
      rw [← Array.getElem?_toList, hlist]
      simp [hj]
    have hbl : b < s.heap.size := (Array.getElem?_eq_some_iff.mp hcb).1
    have hX : va_X b xs.length (fun j => xs.getD j 0) s s.heap := ⟨scr, hcb, hof, hkn, hsz, hval⟩
    have K : W p l e room_1 s m #[Value.ref b] below meth c s₁.heap [] 0 0 (lw_Z below #[Value.ref b] s) (entryFrame m ([Value.ref b] : List Value).toArray 4) := by
      rw [hh0]
      exact whole_start l hflags hbd ⟨B.exec, B.bytes, B.returns, hml, hown, hts, hX, hbl, B.notSynchronized, hgv, (name_of_methodNamed B.named B.method).1⟩
    obtain ⟨t, a1, o, b1, b2, b3⟩ := K s₁ rfl X₀
    exact ⟨t, o, a1, b1, b2, b3⟩
theorem lw_pre_spec {args : Array Value} {s : State} (h : (Jvm.Cond.and given_1 narrow_1).before args s = true) (hr : rest_1_c.before args s = true) : ∃ (b : Addr) (xs : List Int32), lw_P b xs args s := by
  have hs := flat_of_before _ h
  have hq := flat_of_before _ hr
  have hc : (Cond.count 1).before args s = true := hs _ (by decide +kernel)
  have harr : (Cond.arrayOf (.arg 0) .int).before args s = true := hs _ (by decide +kernel)
  have hle : (Cond.le (.length (.arg 0)) (.int 3072)).before args s = true := hs _ (by decide +kernel)
  have hlen : (Cond.isInt (.length (.arg 0))).before args s = true := hq _ (by decide +kernel)
  have hall : (Cond.all (.arg 0) (.isInt (.elem (.arg 0) (.index 0)))).before args s = true := hq _ (by decide +kernel)
  obtain ⟨b, xs, hb, hx⟩ := State.ints_of_pre rfl harr hlen hall
  have hsm : xs.length < 2 ^ 31 := hx.choose_spec.2.2.2
  have hev : (Term.length (.arg 0)).eval args s none [] s = some (.int xs.length.toInt32) := hx.length_eval hb
  have hv := Cond.le_ints hev (show (Term.int 3072).eval args s none [] s = some (.int 3072) from rfl)
  have hd : xs.length.toInt32 ≤ 3072 := by
    simpa [Cond.before, Cond.holds, hv] using hle
  have hN : xs.length ≤ 3072 := (Int32.ofNat_le_ofNat hsm (by decide)).mp (show Int32.ofNat xs.length ≤ Int32.ofNat 3072 from hd)
  exact ⟨b, xs, Cond.one_arg hc (show args[0]? = some (.ref b) from hb), hx, hN, h⟩
theorem lw_comes (l : Launch) (hflags : l.flags = flags0) : Comes l x (Jvm.Cond.code x code maxLocals ret :: tables_1) room_1 (fun tb e args s => Calls_1 tb e args s ∧ rest_1 tb e args s ∧ Pre_1 tb e args s)
    (fun _ _ args s o t => lw_Q args s o t) := by
  intro p e ha hc hk s m args below hf hfit hheap happ hpre
  obtain ⟨b, xs, hP⟩ := lw_pre_spec hpre.2.2 hpre.2.1
  obtain ⟨k, o, h1, h2, h3, hQ⟩ := lw_walk l hflags b xs p e ha hc hk s m args below hf ((Spec.applies_iff_loose hf).mp happ).1 hP trivial
  exact ⟨k, o, h1, h2, h3, hQ⟩
theorem lw_frame {s t : State} {o : Outcome} {args : Array Value} (h : Framed s o t [] 600000 7302250) :
    Framed s o t (fieldLocs frame_1_writes args s ++ arrayLocs frame_1_arrays args s ++ staticLocs frame_1_statics s) 600000 7302250 := h
theorem lw_limb (L : Cond) (hL : ∀ (args : Array Value) (s t : State), L.after args s (.returned (some (.int 1))) t = true) :
    ArmFor flags0 classFile x code maxLocals ret World_1 tables_1 room_1 Calls_1 rest_1 Pre_1
      (fun tb e a s o t => postC L tb e a s o t ∧ Framed s o t (fieldLocs frame_1_writes a s ++ arrayLocs frame_1_arrays a s ++ staticLocs frame_1_statics s) 600000 7302250) := by
  intro l hflags _ _ p e ha hc hk s m args below hf hfit hheap happ hpre
  obtain ⟨k, o, h1, h2, h3, rfl, hF⟩ := lw_comes l hflags p e ha hc hk s m args below hf hfit hheap happ hpre
  exact ⟨k, _, h1, h2, h3, hL args s _, lw_frame hF⟩
theorem i_vc : Claimed_1_1 ∧ Claimed_1_2 := ⟨lw_limb limb_1_1 (fun args s t => by simp [limb_1_1, Cond.after, Cond.holds, Cond.value]), lw_limb limb_1_2 (fun args s t => Cond.after_iff.mpr (by
  first | (rw [show limb_1_2 = Cond.eq .result (.int 1) from rfl, Cond.eq_ints (x := 1) (y := 1) rfl rfl]; simp; done) | (simp [limb_1_2, Cond.value, Term.eval]; done)))⟩
