/-! texts: length and charAt on the constants -/
def WT : List Cond := [.code ⟨"java/lang/String", "length", "()I"⟩ prog_15_method_54_code 1 (some (.int)), .initialized "java/lang/String", .instanceMethod ⟨"java/lang/String", "length", "()I"⟩, .selects "java/lang/String" ⟨"java/lang/String", "length", "()I"⟩ ⟨"java/lang/String", "length", "()I"⟩, .code ⟨"java/lang/String", "charAt", "(I)C"⟩ prog_15_method_56_code 2 (some (.char)), .instanceMethod ⟨"java/lang/String", "charAt", "(I)C"⟩, .selects "java/lang/String" ⟨"java/lang/String", "charAt", "(I)C"⟩ ⟨"java/lang/String", "charAt", "(I)C"⟩, .code ⟨"java/lang/String", "coder", "()B"⟩ prog_15_method_152_code 1 (some (.byte)), .instanceMethod ⟨"java/lang/String", "coder", "()B"⟩, .selects "java/lang/String" ⟨"java/lang/String", "coder", "()B"⟩ ⟨"java/lang/String", "coder", "()B"⟩, .methodLink "java/lang/String" 335 ⟨"java/lang/String", "coder", "()B"⟩, .code ⟨"java/lang/String", "isLatin1", "()Z"⟩ prog_15_method_154_code 1 (some (.boolean)), .instanceMethod ⟨"java/lang/String", "isLatin1", "()Z"⟩, .selects "java/lang/String" ⟨"java/lang/String", "isLatin1", "()Z"⟩ ⟨"java/lang/String", "isLatin1", "()Z"⟩, .methodLink "java/lang/String" 492 ⟨"java/lang/String", "isLatin1", "()Z"⟩, .methodLink "java/lang/String" 495 ⟨"java/lang/StringLatin1", "charAt", "([BI)C"⟩, .code ⟨"java/lang/StringLatin1", "charAt", "([BI)C"⟩ prog_16_method_2_code 2 (some (.char)), .initialized "java/lang/StringLatin1", .static ⟨"java/lang/StringLatin1", "charAt", "([BI)C"⟩, .methodLink "java/lang/StringLatin1" 9 ⟨"java/lang/String", "checkIndex", "(II)V"⟩, .code ⟨"java/lang/String", "checkIndex", "(II)V"⟩ prog_15_method_155_code 2 none, .static ⟨"java/lang/String", "checkIndex", "(II)V"⟩, .methodLink "java/lang/String" 1059 ⟨"jdk/internal/util/Preconditions", "checkIndex", "(IILjava/util/function/BiFunction;)I"⟩, .code ⟨"jdk/internal/util/Preconditions", "checkIndex", "(IILjava/util/function/BiFunction;)I"⟩ prog_19_method_11_code 3 (some (.int)), .initialized "jdk/internal/util/Preconditions", .static ⟨"jdk/internal/util/Preconditions", "checkIndex", "(IILjava/util/function/BiFunction;)I"⟩, .fieldLink "java/lang/String" 9 "java/lang/String" "value" "[B", .fieldLink "java/lang/String" 15 "java/lang/String" "coder" "B", .fieldLink "java/lang/String" 38 "java/lang/String" "COMPACT_STRINGS" "Z", .fieldLink "java/lang/String" 1053 "jdk/internal/util/Preconditions" "SIOOBE_FORMATTER" "Ljava/util/function/BiFunction;"]
theorem WT_in : ∀ w ∈ WT, w ∈ Wd := ws_in _ [554, 108, 552, 553, 564, 562, 563, 558, 556, 557, 555, 568, 566, 567, 565, 569, 571, 109, 570, 572, 574, 573, 577, 579, 110, 578, 1886, 1887, 559, 575] (by decide +kernel) (by decide +kernel)
theorem wt_0 : Cond.code ⟨"java/lang/String", "length", "()I"⟩ prog_15_method_54_code 1 (some (.int)) ∈ Wd := WT_in _ (List.mem_of_getElem? (i := 0) rfl)
theorem wt_1 : Cond.initialized "java/lang/String" ∈ Wd := WT_in _ (List.mem_of_getElem? (i := 1) rfl)
theorem wt_2 : Cond.instanceMethod ⟨"java/lang/String", "length", "()I"⟩ ∈ Wd := WT_in _ (List.mem_of_getElem? (i := 2) rfl)
theorem wt_3 : Cond.selects "java/lang/String" ⟨"java/lang/String", "length", "()I"⟩ ⟨"java/lang/String", "length", "()I"⟩ ∈ Wd := WT_in _ (List.mem_of_getElem? (i := 3) rfl)
theorem wt_4 : Cond.code ⟨"java/lang/String", "charAt", "(I)C"⟩ prog_15_method_56_code 2 (some (.char)) ∈ Wd := WT_in _ (List.mem_of_getElem? (i := 4) rfl)
theorem wt_5 : Cond.instanceMethod ⟨"java/lang/String", "charAt", "(I)C"⟩ ∈ Wd := WT_in _ (List.mem_of_getElem? (i := 5) rfl)
theorem wt_6 : Cond.selects "java/lang/String" ⟨"java/lang/String", "charAt", "(I)C"⟩ ⟨"java/lang/String", "charAt", "(I)C"⟩ ∈ Wd := WT_in _ (List.mem_of_getElem? (i := 6) rfl)
theorem wt_7 : Cond.code ⟨"java/lang/String", "coder", "()B"⟩ prog_15_method_152_code 1 (some (.byte)) ∈ Wd := WT_in _ (List.mem_of_getElem? (i := 7) rfl)
theorem wt_8 : Cond.instanceMethod ⟨"java/lang/String", "coder", "()B"⟩ ∈ Wd := WT_in _ (List.mem_of_getElem? (i := 8) rfl)
theorem wt_9 : Cond.selects "java/lang/String" ⟨"java/lang/String", "coder", "()B"⟩ ⟨"java/lang/String", "coder", "()B"⟩ ∈ Wd := WT_in _ (List.mem_of_getElem? (i := 9) rfl)
theorem wt_10 : Cond.methodLink "java/lang/String" 335 ⟨"java/lang/String", "coder", "()B"⟩ ∈ Wd := WT_in _ (List.mem_of_getElem? (i := 10) rfl)
theorem wt_11 : Cond.code ⟨"java/lang/String", "isLatin1", "()Z"⟩ prog_15_method_154_code 1 (some (.boolean)) ∈ Wd := WT_in _ (List.mem_of_getElem? (i := 11) rfl)
theorem wt_12 : Cond.instanceMethod ⟨"java/lang/String", "isLatin1", "()Z"⟩ ∈ Wd := WT_in _ (List.mem_of_getElem? (i := 12) rfl)
theorem wt_13 : Cond.selects "java/lang/String" ⟨"java/lang/String", "isLatin1", "()Z"⟩ ⟨"java/lang/String", "isLatin1", "()Z"⟩ ∈ Wd := WT_in _ (List.mem_of_getElem? (i := 13) rfl)
theorem wt_14 : Cond.methodLink "java/lang/String" 492 ⟨"java/lang/String", "isLatin1", "()Z"⟩ ∈ Wd := WT_in _ (List.mem_of_getElem? (i := 14) rfl)
theorem wt_15 : Cond.methodLink "java/lang/String" 495 ⟨"java/lang/StringLatin1", "charAt", "([BI)C"⟩ ∈ Wd := WT_in _ (List.mem_of_getElem? (i := 15) rfl)
theorem wt_16 : Cond.code ⟨"java/lang/StringLatin1", "charAt", "([BI)C"⟩ prog_16_method_2_code 2 (some (.char)) ∈ Wd := WT_in _ (List.mem_of_getElem? (i := 16) rfl)
theorem wt_17 : Cond.initialized "java/lang/StringLatin1" ∈ Wd := WT_in _ (List.mem_of_getElem? (i := 17) rfl)
theorem wt_18 : Cond.static ⟨"java/lang/StringLatin1", "charAt", "([BI)C"⟩ ∈ Wd := WT_in _ (List.mem_of_getElem? (i := 18) rfl)
theorem wt_19 : Cond.methodLink "java/lang/StringLatin1" 9 ⟨"java/lang/String", "checkIndex", "(II)V"⟩ ∈ Wd := WT_in _ (List.mem_of_getElem? (i := 19) rfl)
theorem wt_20 : Cond.code ⟨"java/lang/String", "checkIndex", "(II)V"⟩ prog_15_method_155_code 2 none ∈ Wd := WT_in _ (List.mem_of_getElem? (i := 20) rfl)
theorem wt_21 : Cond.static ⟨"java/lang/String", "checkIndex", "(II)V"⟩ ∈ Wd := WT_in _ (List.mem_of_getElem? (i := 21) rfl)
theorem wt_22 : Cond.methodLink "java/lang/String" 1059 ⟨"jdk/internal/util/Preconditions", "checkIndex", "(IILjava/util/function/BiFunction;)I"⟩ ∈ Wd := WT_in _ (List.mem_of_getElem? (i := 22) rfl)
theorem wt_23 : Cond.code ⟨"jdk/internal/util/Preconditions", "checkIndex", "(IILjava/util/function/BiFunction;)I"⟩ prog_19_method_11_code 3 (some (.int)) ∈ Wd := WT_in _ (List.mem_of_getElem? (i := 23) rfl)
theorem wt_24 : Cond.initialized "jdk/internal/util/Preconditions" ∈ Wd := WT_in _ (List.mem_of_getElem? (i := 24) rfl)
theorem wt_25 : Cond.static ⟨"jdk/internal/util/Preconditions", "checkIndex", "(IILjava/util/function/BiFunction;)I"⟩ ∈ Wd := WT_in _ (List.mem_of_getElem? (i := 25) rfl)
theorem wt_26 : Cond.fieldLink "java/lang/String" 9 "java/lang/String" "value" "[B" ∈ Wd := WT_in _ (List.mem_of_getElem? (i := 26) rfl)
theorem wt_27 : Cond.fieldLink "java/lang/String" 15 "java/lang/String" "coder" "B" ∈ Wd := WT_in _ (List.mem_of_getElem? (i := 27) rfl)
theorem wt_28 : Cond.fieldLink "java/lang/String" 38 "java/lang/String" "COMPACT_STRINGS" "Z" ∈ Wd := WT_in _ (List.mem_of_getElem? (i := 28) rfl)
theorem wt_29 : Cond.fieldLink "java/lang/String" 1053 "jdk/internal/util/Preconditions" "SIOOBE_FORMATTER" "Ljava/util/function/BiFunction;" ∈ Wd := WT_in _ (List.mem_of_getElem? (i := 29) rfl)
/-- a text's method -/
def CKT (own : String) (idx : Nat) (y : MethodName) (cc : ByteArray) (nL : Nat) (rt : Option FieldType) (n : Nat) : Prop :=
  CK own idx y cc nL rt n ∧ Cond.instanceMethod y ∈ Wd ∧ Cond.selects y.cls y y ∈ Wd ∧ y.cls = "java/lang/String"
theorem kt_length {own : String} {idx : Nat} : Cond.methodLink own idx ⟨"java/lang/String", "length", "()I"⟩ ∈ Wd → CKT own idx yJ0_length_8abf5 cJ0_length_8abf5 1 (some .int) 0 := fun h => ⟨⟨Or.inl h, wt_0, wt_1, ⟨by decide +kernel, by decide +kernel⟩, by decide +kernel⟩, wt_2, wt_3, rfl⟩
theorem kt_charAt {own : String} {idx : Nat} : Cond.methodLink own idx ⟨"java/lang/String", "charAt", "(I)C"⟩ ∈ Wd → CKT own idx yJ0_charAt_5068e cJ0_charAt_5068e 2 (some .char) 1 := fun h => ⟨⟨Or.inl h, wt_4, wt_1, ⟨by decide +kernel, by decide +kernel⟩, by decide +kernel⟩, wt_5, wt_6, rfl⟩
theorem kt_coder : CKT RJ0 335 yJ0_coder_7d493 cJ0_coder_7d493 1 (some .byte) 0 := (fun h => ⟨⟨Or.inl h, wt_7, wt_1, ⟨by decide +kernel, by decide +kernel⟩, by decide +kernel⟩, wt_8, wt_9, rfl⟩) wt_10
theorem kt_isLatin1 : CKT RJ0 492 yJ0_isLatin1_aae02 cJ0_isLatin1_aae02 1 (some .boolean) 0 := (fun h => ⟨⟨Or.inl h, wt_11, wt_1, ⟨by decide +kernel, by decide +kernel⟩, by decide +kernel⟩, wt_12, wt_13, rfl⟩) wt_14
theorem ks_charAt : CKS RJ0 495 yJ1_charAt_3b067 cJ1_charAt_3b067 2 (some .char) 2 := ⟨⟨Or.inl wt_15, wt_16, wt_17, ⟨by decide +kernel, by decide +kernel⟩, by decide +kernel⟩, wt_18⟩
theorem ks_check : CKS RJ1 9 yJ0_checkIndex_df160 cJ0_checkIndex_df160 2 none 2 := ⟨⟨Or.inl wt_19, wt_20, wt_1, ⟨by decide +kernel, by decide +kernel⟩, by decide +kernel⟩, wt_21⟩
theorem ks_pre : CKS RJ0 1059 yJ3_checkIndex_8e157 cJ3_checkIndex_8e157 3 (some .int) 3 := ⟨⟨Or.inl wt_22, wt_23, wt_24, ⟨by decide +kernel, by decide +kernel⟩, by decide +kernel⟩, wt_25⟩
def ET (g0 : GW) (M0 : Mem) (v0 : Option Value) : Unit → Option Value → GW → Mem → Prop := fun _ v g M => v = v0 ∧ g = g0 ∧ M = M0
theorem byt_ok : ∀ i, i < 4 → ∀ j, j < sLen.getD i 0 → (((sByt.getD i []).getD j 0 &&& (255 : Int32)).toUInt32 % 65536).toInt32 = (sByt.getD i []).getD j 0 ∧ narrow .char (.int ((sByt.getD i []).getD j 0)) = .int ((sByt.getD i []).getD j 0) := by
  have h : ∀ i, i < 4 → ∀ j, j < sLen.getD i 0 → (((sByt.getD i []).getD j 0 &&& (255 : Int32)).toUInt32 % 65536).toInt32 = (sByt.getD i []).getD j 0 := by decide +kernel
  intro i hi j hj
  refine ⟨h i hi j hj, ?_⟩
  have h2 : ∀ i, i < 4 → ∀ j, j < sLen.getD i 0 → (match narrow .char (.int ((sByt.getD i []).getD j 0)) with | .int v => v = (sByt.getD i []).getD j 0 | _ => False) := by
    intro i hi j hj
    rw [← h i hi j hj]
    show (_ : Int32) = _
    rw [h i hi j hj]
    revert i j
    decide +kernel
  have := h2 i hi j hj
  revert this
  show (match Value.int _ with | .int v => v = (sByt.getD i []).getD j 0 | _ => False) → Value.int _ = _
  intro w
  exact congrArg Value.int w
theorem len_sh : ∀ i, i < 4 → (Int32.ofNat (sLen.getD i 0)) >>> ((0 : Int32) &&& 31) = Int32.ofNat (sLen.getD i 0) := by decide +kernel
theorem len_ni : ∀ i, i < 4 → sLen.getD i 0 < 2 ^ 31 := by decide +kernel
section JR
variable {α : Type} {l : Launch} {cx : CX} {R : Room} {y : MethodName} {cc : ByteArray} {nL : Nat} {rt : Option FieldType} {mc ms : Nat} {al : Bool} {lo hi : Nat} {E : α → Option Value → GW → Mem → Prop} {g : GW} {ck sk pc : Nat} {ls : List (Option Value)} {st : List Value} {M : Mem} {x : Option α}
theorem JO_nn : JO l cx R y cc nL rt mc ms al lo hi E g ck sk pc ls st M none := fun _ ha => nomatch ha
theorem J_if_eqF {x0 : Int32} {off : Int} (tgt : Nat) (hd : decode cc pc = .ok (.ifCond .eq off, 3)) (ht : (pc : Int) + off = (tgt : Int)) (hx : ¬ x0 = 0) (kf : JO l cx R y cc nL rt mc ms al lo hi E g ck sk (pc + 3) ls st M x) : JO l cx R y cc nL rt mc ms al lo hi E g ck sk pc ls (.int x0 :: st) M x := by
  have := J_if_eq (x0 := x0) tgt (x := none) (x2 := x) hd ht JO_nn kf
  rwa [if_neg hx] at this
theorem J_if_neF {off : Int} (tgt : Nat) (hd : decode cc pc = .ok (.ifCond .ne off, 3)) (ht : (pc : Int) + off = (tgt : Int)) (kf : JO l cx R y cc nL rt mc ms al lo hi E g ck sk (pc + 3) ls st M x) : JO l cx R y cc nL rt mc ms al lo hi E g ck sk pc ls (.int 0 :: st) M x := by
  have := J_if_ne (x0 := 0) tgt (x := none) (x2 := x) hd ht JO_nn kf
  rwa [if_pos rfl] at this
theorem J_if_ltF {x0 : Int32} {off : Int} (tgt : Nat) (hd : decode cc pc = .ok (.ifCond .lt off, 3)) (ht : (pc : Int) + off = (tgt : Int)) (hx : ¬ x0 < 0) (kf : JO l cx R y cc nL rt mc ms al lo hi E g ck sk (pc + 3) ls st M x) : JO l cx R y cc nL rt mc ms al lo hi E g ck sk pc ls (.int x0 :: st) M x := by
  have := J_if_lt (x0 := x0) tgt (x := none) (x2 := x) hd ht JO_nn kf
  rwa [if_neg hx] at this
theorem J_ic_ltT {a b : Int32} {off : Int} (tgt : Nat) (hd : decode cc pc = .ok (.if_icmp .lt off, 3)) (ht : (pc : Int) + off = (tgt : Int)) (hx : a < b) (kt : JO l cx R y cc nL rt mc ms al lo hi E g ck sk tgt ls st M x) : JO l cx R y cc nL rt mc ms al lo hi E g ck sk pc ls (.int b :: .int a :: st) M x := by
  have := J_ic_lt (a := a) (b := b) tgt (x := x) (x2 := none) hd ht kt JO_nn
  rwa [if_pos hx] at this
theorem J_i2c {a v : Int32} (hd : decode cc pc = .ok (.i2c, 1)) (hv : (a.toUInt32 % 65536).toInt32 = v) (k : JO l cx R y cc nL rt mc ms al lo hi E g ck sk (pc + 1) ls (.int v :: st) M x) : JO l cx R y cc nL rt mc ms al lo hi E g ck sk pc ls (.int a :: st) M x := by
  intro a0 ha p e s m args below meth c H locs A lsa X hP hD hS hL
  exact lv_i2c X.1 X.2.1 hd hv (k a0 ha p e s m args below meth c H locs A lsa X hP hD hS hL)
theorem J_nret {a : α} {v : Int32} {ty : FieldType} (hd : decode cc pc = .ok (.ireturn, 1)) (hr : rt = some ty) (hv : narrow ty (.int v) = .int v) (hz : ty = .byte ∨ ty = .char ∨ ty = .boolean) (hE : E a (some (.int v)) g M) : JO l cx R y cc nL rt mc ms al lo hi E g mc ms pc ls [.int v] M (some a) := by
  intro a' ha p e s m args below meth c H locs A lsa X hP hD hS hL
  cases ha
  exact W.zret X.1 X.2.1 (X.2.2.2.2.2.1.trans hr) hv (J_retG (l := l) (p := p) (v := some (.int v)) hE hP hD hS) hS.2.2 hd X.2.2.2.2.2.2.1
theorem J_popv {v : Value} (hd : decode cc pc = .ok (.pop, 1)) (hi0 : ∃ w, v = .int w) (k : JO l cx R y cc nL rt mc ms al lo hi E g ck sk (pc + 1) ls st M x) : JO l cx R y cc nL rt mc ms al lo hi E g ck sk pc ls (v :: st) M x := by
  obtain ⟨w, rfl⟩ := hi0
  exact J_pop_i hd k
theorem J_getCS (hy : y.cls = RJ0) (hd : decode cc pc = .ok (.getstatic 38, 3)) (kk : JO l cx R y cc nL rt mc ms al lo hi E g ck sk (pc + 3) ls (.int 1 :: st) M x) : JO l cx R y cc nL rt mc ms al lo hi E g ck sk pc ls st M x := by
  intro a ha p e s m args below meth c H locs A lsa X hP hD hS hL
  refine va_gets X.1 X.2.1 (own := RJ0) (ref := RJ0) X.2.2.2.2.2.2.2.2.2.1.2.2.2.2.2.1 hS (by rw [← hy]; exact X.2.2.2.1) (X.2.2.2.2.1 _ wt_28) (fun _ h => h) hd ?_
  exact kk a ha p e s m args below meth c H locs A lsa X hP hD hS hL
theorem J_getFm (hy : y.cls = RJ0) (hd : decode cc pc = .ok (.getstatic 1053, 3)) (kk : ∀ v, (v = .null ∨ v = .ref FMt) → JO l cx R y cc nL rt mc ms al lo hi E g ck sk (pc + 3) ls (v :: st) M x) : JO l cx R y cc nL rt mc ms al lo hi E g ck sk pc ls st M x := by
  intro a ha p e s m args below meth c H locs A lsa X hP hD hS hL
  rcases X.2.2.2.2.2.2.2.2.2.1.2.2.2.2.2.2.1 with h | h
  · refine va_gets X.1 X.2.1 (own := RJ0) (ref := RJ3) h hS (by rw [← hy]; exact X.2.2.2.1) (X.2.2.2.2.1 _ wt_29) (fun _ h => h) hd ?_
    exact kk .null (Or.inl rfl) a ha p e s m args below meth c H locs A lsa X hP hD hS hL
  · refine va_gets X.1 X.2.1 (own := RJ0) (ref := RJ3) h hS (by rw [← hy]; exact X.2.2.2.1) (X.2.2.2.2.1 _ wt_29) (fun _ h => h) hd ?_
    exact kk (.ref FMt) (Or.inr rfl) a ha p e s m args below meth c H locs A lsa X hP hD hS hL
theorem J_sval {i : Nat} (hy : y.cls = RJ0) (hi4 : i < 4) (hd : decode cc pc = .ok (.getfield 9, 3)) (kk : JO l cx R y cc nL rt mc ms al lo hi E g ck sk (pc + 3) ls (.ref (SV + i) :: st) M x) : JO l cx R y cc nL rt mc ms al lo hi E g ck sk pc ls (.ref (SO + i) :: st) M x := by
  intro a ha p e s m args below meth c H locs A lsa X hP hD hS hL
  refine vk_getf X.1 X.2.1 (own := RJ0) (ref := RJ0) (X.2.2.2.2.2.2.2.2.2.1.2.2.1.1 i hi4).2.2.1 hS (by rw [← hy]; exact X.2.2.2.1) (X.2.2.2.2.1 _ wt_26) (fun _ h => h) hd ?_
  exact kk a ha p e s m args below meth c H locs A lsa X hP hD hS hL
theorem J_scod {i : Nat} (hy : y.cls = RJ0) (hi4 : i < 4) (hd : decode cc pc = .ok (.getfield 15, 3)) (kk : JO l cx R y cc nL rt mc ms al lo hi E g ck sk (pc + 3) ls (.int 0 :: st) M x) : JO l cx R y cc nL rt mc ms al lo hi E g ck sk pc ls (.ref (SO + i) :: st) M x := by
  intro a ha p e s m args below meth c H locs A lsa X hP hD hS hL
  refine vk_getf X.1 X.2.1 (own := RJ0) (ref := RJ0) (X.2.2.2.2.2.2.2.2.2.1.2.2.1.1 i hi4).2.1 hS (by rw [← hy]; exact X.2.2.2.1) (X.2.2.2.2.1 _ wt_27) (fun _ h => h) hd ?_
  exact kk a ha p e s m args below meth c H locs A lsa X hP hD hS hL
theorem J_svlen {i : Nat} (hi4 : i < 4) (hd : decode cc pc = .ok (.arraylength, 1)) (kk : JO l cx R y cc nL rt mc ms al lo hi E g ck sk (pc + 1) ls (.int (Int32.ofNat (sLen.getD i 0)) :: st) M x) : JO l cx R y cc nL rt mc ms al lo hi E g ck sk pc ls (.ref (SV + i) :: st) M x := by
  intro a ha p e s m args below meth c H locs A lsa X hP hD hS hL
  exact va_tlen X.1 X.2.1 (X.2.2.2.2.2.2.2.2.2.1.2.2.1.1 i hi4).2.2.2 hS rfl hd (kk a ha p e s m args below meth c H locs A lsa X hP hD hS hL)
theorem J_svald {i : Nat} {j : Int32} (hi4 : i < 4) (hin : vp_in j (sLen.getD i 0)) (hd : decode cc pc = .ok (.baload, 1)) (kk : JO l cx R y cc nL rt mc ms al lo hi E g ck sk (pc + 1) ls (.int ((sByt.getD i []).getD j.toNatClampNeg 0) :: st) M x) : JO l cx R y cc nL rt mc ms al lo hi E g ck sk pc ls (.int j :: .ref (SV + i) :: st) M x := by
  intro a ha p e s m args below meth c H locs A lsa X hP hD hS hL
  exact va_tb X.1 X.2.1 (X.2.2.2.2.2.2.2.2.2.1.2.2.1.1 i hi4).2.2.2 hS hin rfl hd (kk a ha p e s m args below meth c H locs A lsa X hP hD hS hL)
set_option maxHeartbeats 2000000 in
theorem J_cT {v0 : Option Value} {y' : MethodName} {cc' : ByteArray} {nL' : Nat} {rt' : Option FieldType} {rm : Room} {idx i : Nat} {as stk : List Value} (hC : Con l cx rm y' cc' nL' rt' 0 0 false lo (hi + ck) (ET g M v0) g (.ref (SO + i) :: as) M (some ())) (hw : CKT y.cls idx y' cc' nL' rt' as.length) (hi4 : i < 4) (hd : decode cc pc = .ok (.invokevirtual idx, 3)) (hs : stk = as.reverse ++ .ref (SO + i) :: st) (hR : rm.cells = 0 ∧ rm.slots = 0 ∧ rm.frames + 1 ≤ R.frames ∧ 8 + (nL' + 11) + rm.locals ≤ R.locals) (hR2 : ck ≤ R.cells ∧ sk ≤ R.slots ∧ sumW st ≤ 8)
    (kk : JO l cx R y cc nL rt mc ms al lo hi E g ck sk (pc + 3) ls (v0.toList ++ st) M x) : JO l cx R y cc nL rt mc ms al lo hi E g ck sk pc ls stk M x := by
  subst hs
  intro a ha p e s m args below meth c H locs A lsa X hP hD hS hL
  have hM := hC () rfl H.size
  obtain ⟨hck, hin, hsel, hcl⟩ := hw
  have hrecv := vk_recv X.2.2.2.2.2.2.2.2.2.1.2.2.1 hi4 hS
  have hp : PreV s H y'.cls (cx.2.2.2 (SO + i)) (PJ cx false lo (hi + ck) g (.ref (SO + i) :: as) M H.size) (as.map (rv cx)) := ⟨PJ_blind, by rw [hcl]; exact hrecv, PJ_at X hP hD hS⟩
  have hsum : ((st.map (rv cx)).map fun v => v.category).sum ≤ 8 := by have h := sumW_rv cx st; unfold sumW at h; rw [h]; exact hR2.2.2
  have hstk : ((as.reverse ++ .ref (SO + i) :: st).map (rv cx)) = (as.map (rv cx)).reverse ++ .ref (cx.2.2.2 (SO + i)) :: st.map (rv cx) := by simp [rv]
  rw [hstk]
  have hfix : CallFix p m c cc nL s args Wd y.cls := ⟨X.1, X.2.1, X.2.2.1, X.2.2.2.1, X.2.2.2.2.1⟩
  have hrun : va_Run p l e R s m args below meth c H locs ck sk 0 0 (F0 m pc lsa ((as.map (rv cx)).reverse ++ .ref (cx.2.2.2 (SO + i)) :: st.map (rv cx))) (st.map (rv cx)) (QJ cx lo (hi + ck) (RG cx lo (hi + ck) H.size) (ET g M v0) () (Value.ref (cx.2.2.2 (SO + i)) :: as.map (rv cx)).toArray) (RG cx lo (hi + ck) H.size) := by
    rcases hck.1 with hl | ⟨host, hl⟩
    · exact va_runV (n := as.length) hfix hM ⟨hck.b X.2.2.2.2.1 hl hR, X.2.2.2.2.1 _ hin, X.2.2.2.2.1 _ hsel⟩ hp rfl (by simp) hL.1 rfl (lv_room hsum) hd ⟨hR2.1, hR2.2.1⟩
    · exact va_runVN (n := as.length) hfix hM ⟨hck.n X.2.2.2.2.1 (X.2.2.2.2.2.2.2.2.2.1.1 _ hl) hR, X.2.2.2.2.1 _ hin, X.2.2.2.2.1 _ hsel⟩ hp rfl (by simp) hL.1 rfl (lv_room hsum) hd ⟨hR2.1, hR2.2.1⟩
  refine J_after hrun hD hS X.2.2.2.2.2.2.2.2.2.2.1 (fun v g' M' H1 locs1 hE q1 q2 q3 => ?_)
  obtain ⟨rfl, rfl, rfl⟩ := hE
  have h := kk a ha p e s m args below meth c H1 locs1 A lsa X q1 q2 q3 hL
  have hst2 : (v.toList ++ st).map (rv cx) = (v.map (rv cx)).toList ++ st.map (rv cx) := by cases v <;> simp
  rw [hst2] at h
  exact h
theorem J_cX {v0 : Option Value} {y' : MethodName} {cc' : ByteArray} {nL' : Nat} {rt' : Option FieldType} {rm : Room} {idx : Nat} {as stk : List Value} (hC : Con l cx rm y' cc' nL' rt' 0 0 false lo (hi + ck) (ET g M v0) g as M (some ())) (hw : CKS y.cls idx y' cc' nL' rt' as.length) (hd : decode cc pc = .ok (.invokestatic idx, 3)) (hs : stk = as.reverse ++ st) (hR : rm.cells = 0 ∧ rm.slots = 0 ∧ rm.frames + 1 ≤ R.frames ∧ 8 + (nL' + 11) + rm.locals ≤ R.locals) (hR2 : ck ≤ R.cells ∧ sk ≤ R.slots ∧ sumW st ≤ 8)
    (kk : JO l cx R y cc nL rt mc ms al lo hi E g ck sk (pc + 3) ls (v0.toList ++ st) M x) : JO l cx R y cc nL rt mc ms al lo hi E g ck sk pc ls stk M x :=
  J_cS (xc := some ()) (f := fun _ => x) hC hw hd hs hR hR2 (fun b v g' M' hE => by obtain ⟨rfl, rfl, rfl⟩ := hE; exact kk)
theorem jS_coder {i : Nat} (hi4 : i < 4) : Con l cx ({ frames := 0, cells := 0, slots := 0, locals := 0 } : Room) yJ0_coder_7d493 cJ0_coder_7d493 1 (some .byte) 0 0 false lo hi (ET g M (some (.int 0))) g [.ref (SO + i)] M (some ()) := by
  refine Con.of (ls := [some (.ref (SO + i))]) (by decide) rfl (Nat.le_of_ble_eq_true rfl) ?_
  refine J_getCS rfl dJ0_coder_7d493_0 ?_
  refine J_if_eqF 13 dJ0_coder_7d493_3 rfl (by decide) ?_
  refine J_ald0 dJ0_coder_7d493_6 ?_
  refine J_scod rfl hi4 dJ0_coder_7d493_7 ?_
  refine J_goto 14 dJ0_coder_7d493_10 rfl ?_
  exact J_nret dJ0_coder_7d493_14 rfl rfl (Or.inl rfl) ⟨rfl, rfl, rfl⟩
theorem jS_isLatin1 {i : Nat} (hi4 : i < 4) : Con l cx ({ frames := 0, cells := 0, slots := 0, locals := 0 } : Room) yJ0_isLatin1_aae02 cJ0_isLatin1_aae02 1 (some .boolean) 0 0 false lo hi (ET g M (some (.int 1))) g [.ref (SO + i)] M (some ()) := by
  refine Con.of (ls := [some (.ref (SO + i))]) (by decide) rfl (Nat.le_of_ble_eq_true rfl) ?_
  refine J_getCS rfl dJ0_isLatin1_aae02_0 ?_
  refine J_if_eqF 17 dJ0_isLatin1_aae02_3 rfl (by decide) ?_
  refine J_ald0 dJ0_isLatin1_aae02_6 ?_
  refine J_scod rfl hi4 dJ0_isLatin1_aae02_7 ?_
  refine J_if_neF 17 dJ0_isLatin1_aae02_10 rfl ?_
  refine J_iconst (v := 1) dJ0_isLatin1_aae02_13 rfl ?_
  refine J_goto 18 dJ0_isLatin1_aae02_14 rfl ?_
  exact J_nret dJ0_isLatin1_aae02_18 rfl rfl (Or.inr (Or.inr rfl)) ⟨rfl, rfl, rfl⟩
theorem jS_pre {a b : Int32} {v : Value} (hv : v = .null ∨ v = .ref FMt) (h0 : ¬ a < 0) (h1 : a < b) : Con l cx ({ frames := 0, cells := 0, slots := 0, locals := 0 } : Room) yJ3_checkIndex_8e157 cJ3_checkIndex_8e157 3 (some .int) 0 0 false lo hi (ET g M (some (.int a))) g [.int a, .int b, v] M (some ()) := by
  rcases hv with rfl | rfl
  · refine Con.of (ls := [some (.int a), some (.int b), some .null]) (by decide) rfl (Nat.le_of_ble_eq_true rfl) ?_
    refine J_ild0 dJ3_checkIndex_8e157_0 ?_
    refine J_if_ltF 9 dJ3_checkIndex_8e157_1 rfl h0 ?_
    refine J_ild0 dJ3_checkIndex_8e157_4 ?_
    refine J_ild1 dJ3_checkIndex_8e157_5 ?_
    refine J_ic_ltT 16 dJ3_checkIndex_8e157_6 rfl h1 ?_
    refine J_ild0 dJ3_checkIndex_8e157_16 ?_
    exact J_iret dJ3_checkIndex_8e157_17 rfl ⟨rfl, rfl, rfl⟩
  · refine Con.of (ls := [some (.int a), some (.int b), some (.ref FMt)]) (by decide) rfl (Nat.le_of_ble_eq_true rfl) ?_
    refine J_ild0 dJ3_checkIndex_8e157_0 ?_
    refine J_if_ltF 9 dJ3_checkIndex_8e157_1 rfl h0 ?_
    refine J_ild0 dJ3_checkIndex_8e157_4 ?_
    refine J_ild1 dJ3_checkIndex_8e157_5 ?_
    refine J_ic_ltT 16 dJ3_checkIndex_8e157_6 rfl h1 ?_
    refine J_ild0 dJ3_checkIndex_8e157_16 ?_
    exact J_iret dJ3_checkIndex_8e157_17 rfl ⟨rfl, rfl, rfl⟩
theorem jS_check {a b : Int32} (h0 : ¬ a < 0) (h1 : a < b) : Con l cx ({ frames := 1, cells := 0, slots := 0, locals := 22 } : Room) yJ0_checkIndex_df160 cJ0_checkIndex_df160 2 none 0 0 false lo hi (ET g M none) g [.int a, .int b] M (some ()) := by
  refine Con.of (ls := [some (.int a), some (.int b)]) (by decide) rfl (Nat.le_of_ble_eq_true rfl) ?_
  refine J_ild0 dJ0_checkIndex_df160_0 ?_
  refine J_ild1 dJ0_checkIndex_df160_1 ?_
  refine J_getFm rfl dJ0_checkIndex_df160_2 (fun v hv => ?_)
  refine J_cX (as := [.int a, .int b, v]) (jS_pre hv h0 h1) ks_pre dJ0_checkIndex_df160_5 rfl ⟨rfl, rfl, by decide, by decide⟩ ⟨Nat.zero_le _, Nat.zero_le _, Nat.le_of_ble_eq_true rfl⟩ ?_
  refine J_pop_i dJ0_checkIndex_df160_8 ?_
  exact J_vret dJ0_checkIndex_df160_9 rfl ⟨rfl, rfl, rfl⟩
theorem jS_lchar {i : Nat} {j : Int32} (hi4 : i < 4) (hin : vp_in j (sLen.getD i 0)) : Con l cx ({ frames := 2, cells := 0, slots := 0, locals := 43 } : Room) yJ1_charAt_3b067 cJ1_charAt_3b067 2 (some .char) 0 0 false lo hi (ET g M (some (.int ((sByt.getD i []).getD j.toNatClampNeg 0)))) g [.ref (SV + i), .int j] M (some ()) := by
  have h0 : ¬ j < 0 := fun w => hin (Or.inl w)
  have hlt : j.toNatClampNeg < sLen.getD i 0 := Nat.not_le.mp (fun w => hin (Or.inr w))
  obtain ⟨k, hk, ek⟩ := nI_of h0
  have h1 : j < Int32.ofNat (sLen.getD i 0) := by
    subst ek
    rw [nI_clamp hk] at hlt
    exact nI_lt hlt (len_ni i hi4)
  obtain ⟨b1, b2⟩ := byt_ok i hi4 _ hlt
  refine Con.of (ls := [some (.ref (SV + i)), some (.int j)]) (by decide) rfl (Nat.le_of_ble_eq_true rfl) ?_
  refine J_ild1 dJ1_charAt_3b067_0 ?_
  refine J_ald0 dJ1_charAt_3b067_1 ?_
  refine J_svlen hi4 dJ1_charAt_3b067_2 ?_
  refine J_cX (as := [.int j, .int (Int32.ofNat (sLen.getD i 0))]) (jS_check h0 h1) ks_check dJ1_charAt_3b067_3 rfl ⟨rfl, rfl, by decide, by decide⟩ ⟨Nat.zero_le _, Nat.zero_le _, Nat.le_of_ble_eq_true rfl⟩ ?_
  refine J_ald0 dJ1_charAt_3b067_6 ?_
  refine J_ild1 dJ1_charAt_3b067_7 ?_
  refine J_svald hi4 hin dJ1_charAt_3b067_8 ?_
  refine J_sipush (v := 255) dJ1_charAt_3b067_9 rfl ?_
  refine J_iand dJ1_charAt_3b067_12 ?_
  refine J_i2c dJ1_charAt_3b067_13 b1 ?_
  exact J_nret dJ1_charAt_3b067_14 rfl b2 (Or.inr (Or.inl rfl)) ⟨rfl, rfl, rfl⟩
theorem jS_length {i : Nat} (hi4 : i < 4) : Con l cx ({ frames := 1, cells := 0, slots := 0, locals := 20 } : Room) yJ0_length_8abf5 cJ0_length_8abf5 1 (some .int) 0 0 false lo hi (ET g M (some (.int (Int32.ofNat (sLen.getD i 0))))) g [.ref (SO + i)] M (some ()) := by
  refine Con.of (ls := [some (.ref (SO + i))]) (by decide) rfl (Nat.le_of_ble_eq_true rfl) ?_
  refine J_ald0 dJ0_length_8abf5_0 ?_
  refine J_sval rfl hi4 dJ0_length_8abf5_1 ?_
  refine J_svlen hi4 dJ0_length_8abf5_4 ?_
  refine J_ald0 dJ0_length_8abf5_5 ?_
  refine J_cT (as := []) (jS_coder hi4) kt_coder hi4 dJ0_length_8abf5_6 rfl ⟨rfl, rfl, by decide, by decide⟩ ⟨Nat.zero_le _, Nat.zero_le _, Nat.le_of_ble_eq_true rfl⟩ ?_
  refine J_ishr dJ0_length_8abf5_9 ?_
  rw [len_sh i hi4]
  exact J_iret dJ0_length_8abf5_10 rfl ⟨rfl, rfl, rfl⟩
theorem jS_charAt {i : Nat} {j : Int32} (hi4 : i < 4) (hin : vp_in j (sLen.getD i 0)) : Con l cx ({ frames := 3, cells := 0, slots := 0, locals := 64 } : Room) yJ0_charAt_5068e cJ0_charAt_5068e 2 (some .char) 0 0 false lo hi (ET g M (some (.int ((sByt.getD i []).getD j.toNatClampNeg 0)))) g [.ref (SO + i), .int j] M (some ()) := by
  have hlt : j.toNatClampNeg < sLen.getD i 0 := Nat.not_le.mp (fun w => hin (Or.inr w))
  refine Con.of (ls := [some (.ref (SO + i)), some (.int j)]) (by decide) rfl (Nat.le_of_ble_eq_true rfl) ?_
  refine J_ald0 dJ0_charAt_5068e_0 ?_
  refine J_cT (as := []) (jS_isLatin1 hi4) kt_isLatin1 hi4 dJ0_charAt_5068e_1 rfl ⟨rfl, rfl, by decide, by decide⟩ ⟨Nat.zero_le _, Nat.zero_le _, Nat.le_of_ble_eq_true rfl⟩ ?_
  refine J_if_eqF 16 dJ0_charAt_5068e_4 rfl (by decide) ?_
  refine J_ald0 dJ0_charAt_5068e_7 ?_
  refine J_sval rfl hi4 dJ0_charAt_5068e_8 ?_
  refine J_ild1 dJ0_charAt_5068e_11 ?_
  refine J_cX (as := [.ref (SV + i), .int j]) (jS_lchar hi4 hin) ks_charAt dJ0_charAt_5068e_12 rfl ⟨rfl, rfl, by decide, by decide⟩ ⟨Nat.zero_le _, Nat.zero_le _, Nat.le_of_ble_eq_true rfl⟩ ?_
  exact J_nret dJ0_charAt_5068e_15 rfl (byt_ok i hi4 _ hlt).2 (Or.inr (Or.inl rfl)) ⟨rfl, rfl, rfl⟩
theorem J_slen {i idx : Nat} (hw : Cond.methodLink y.cls idx ⟨"java/lang/String", "length", "()I"⟩ ∈ Wd) (hi4 : i < 4) (hd : decode cc pc = .ok (.invokevirtual idx, 3)) (hR : 2 ≤ R.frames ∧ sumW st + 60 ≤ R.locals) (hR2 : ck ≤ R.cells ∧ sk ≤ R.slots ∧ sumW st ≤ 8) (kk : JO l cx R y cc nL rt mc ms al lo hi E g ck sk (pc + 3) ls (.int (Int32.ofNat (sLen.getD i 0)) :: st) M x) : JO l cx R y cc nL rt mc ms al lo hi E g ck sk pc ls (.ref (SO + i) :: st) M x :=
  J_cT (as := []) (jS_length hi4) (kt_length hw) hi4 hd rfl ⟨rfl, rfl, hR.1, by show 8 + (1 + 11) + 20 ≤ R.locals; omega⟩ hR2 kk
theorem J_schr {i idx : Nat} {j : Int32} (hw : Cond.methodLink y.cls idx ⟨"java/lang/String", "charAt", "(I)C"⟩ ∈ Wd) (hi4 : i < 4) (hd : decode cc pc = .ok (.invokevirtual idx, 3)) (hR : 5 ≤ R.frames ∧ sumW st + 160 ≤ R.locals) (hR2 : ck ≤ R.cells ∧ sk ≤ R.slots ∧ sumW st ≤ 8) (kk : JO l cx R y cc nL rt mc ms al lo hi E g ck sk (pc + 3) ls (.int ((sByt.getD i []).getD j.toNatClampNeg 0) :: st) M x) : JO l cx R y cc nL rt mc ms al lo hi E g ck sk pc ls (.int j :: .ref (SO + i) :: st) M (chk j (sLen.getD i 0) x) := by
  by_cases hin : vp_in j (sLen.getD i 0)
  · rw [chk_in hin]
    exact J_cT (as := [.int j]) (jS_charAt hi4 hin) (kt_charAt hw) hi4 hd rfl ⟨rfl, rfl, by show 3 + 1 ≤ R.frames; omega, by show 8 + (2 + 11) + 64 ≤ R.locals; omega⟩ hR2 kk
  · rw [chk_out hin]; exact JO_nn
end JR
