/-! what the constructors want of the tables -/
theorem dvX0 : ∀ j, j < 14 → defaultValue (tyX0 j) = (if fk 0 j = 0 then .int 0 else if fk 0 j = 1 then .long 0 else .null) := by
  intro j hj
  rcases (show j = 0 ∨ j = 1 ∨ j = 2 ∨ j = 3 ∨ j = 4 ∨ j = 5 ∨ j = 6 ∨ j = 7 ∨ j = 8 ∨ j = 9 ∨ j = 10 ∨ j = 11 ∨ j = 12 ∨ j = 13 by omega) with rfl | rfl | rfl | rfl | rfl | rfl | rfl | rfl | rfl | rfl | rfl | rfl | rfl | rfl <;> rfl
theorem dvX1 : ∀ j, j < 5 → defaultValue (tyX1 j) = (if fk 1 j = 0 then .int 0 else if fk 1 j = 1 then .long 0 else .null) := by
  intro j hj
  rcases (show j = 0 ∨ j = 1 ∨ j = 2 ∨ j = 3 ∨ j = 4 by omega) with rfl | rfl | rfl | rfl | rfl <;> rfl
theorem dvX2 : ∀ j, j < 2 → defaultValue (tyX2 j) = (if fk 2 j = 0 then .int 0 else if fk 2 j = 1 then .long 0 else .null) := by
  intro j hj
  rcases (show j = 0 ∨ j = 1 by omega) with rfl | rfl <;> rfl
theorem dvX3 : ∀ j, j < 1 → defaultValue (tyX3 j) = (if fk 3 j = 0 then .int 0 else if fk 3 j = 1 then .long 0 else .null) := by
  intro j hj
  rcases (show j = 0 by omega) with rfl <;> rfl
theorem dvX4 : ∀ j, j < 6 → defaultValue (tyX4 j) = (if fk 4 j = 0 then .int 0 else if fk 4 j = 1 then .long 0 else .null) := by
  intro j hj
  rcases (show j = 0 ∨ j = 1 ∨ j = 2 ∨ j = 3 ∨ j = 4 ∨ j = 5 by omega) with rfl | rfl | rfl | rfl | rfl | rfl <;> rfl
theorem dvX5 : ∀ j, j < 11 → defaultValue (tyX5 j) = (if fk 5 j = 0 then .int 0 else if fk 5 j = 1 then .long 0 else .null) := by
  intro j hj
  rcases (show j = 0 ∨ j = 1 ∨ j = 2 ∨ j = 3 ∨ j = 4 ∨ j = 5 ∨ j = 6 ∨ j = 7 ∨ j = 8 ∨ j = 9 ∨ j = 10 by omega) with rfl | rfl | rfl | rfl | rfl | rfl | rfl | rfl | rfl | rfl | rfl <;> rfl
theorem dvX6 : ∀ j, j < 3 → defaultValue (tyX6 j) = (if fk 6 j = 0 then .int 0 else if fk 6 j = 1 then .long 0 else .null) := by
  intro j hj
  rcases (show j = 0 ∨ j = 1 ∨ j = 2 by omega) with rfl | rfl | rfl <;> rfl
theorem dvX7 : ∀ j, j < 11 → defaultValue (tyX7 j) = (if fk 7 j = 0 then .int 0 else if fk 7 j = 1 then .long 0 else .null) := by
  intro j hj
  rcases (show j = 0 ∨ j = 1 ∨ j = 2 ∨ j = 3 ∨ j = 4 ∨ j = 5 ∨ j = 6 ∨ j = 7 ∨ j = 8 ∨ j = 9 ∨ j = 10 by omega) with rfl | rfl | rfl | rfl | rfl | rfl | rfl | rfl | rfl | rfl | rfl <;> rfl
theorem dvX8 : ∀ j, j < 5 → defaultValue (tyX8 j) = (if fk 8 j = 0 then .int 0 else if fk 8 j = 1 then .long 0 else .null) := by
  intro j hj
  rcases (show j = 0 ∨ j = 1 ∨ j = 2 ∨ j = 3 ∨ j = 4 by omega) with rfl | rfl | rfl | rfl | rfl <;> rfl
theorem dvX9 : ∀ j, j < 8 → defaultValue (tyX9 j) = (if fk 9 j = 0 then .int 0 else if fk 9 j = 1 then .long 0 else .null) := by
  intro j hj
  rcases (show j = 0 ∨ j = 1 ∨ j = 2 ∨ j = 3 ∨ j = 4 ∨ j = 5 ∨ j = 6 ∨ j = 7 by omega) with rfl | rfl | rfl | rfl | rfl | rfl | rfl | rfl <;> rfl
theorem dvX10 : ∀ j, j < 10 → defaultValue (tyX10 j) = (if fk 10 j = 0 then .int 0 else if fk 10 j = 1 then .long 0 else .null) := by
  intro j hj
  rcases (show j = 0 ∨ j = 1 ∨ j = 2 ∨ j = 3 ∨ j = 4 ∨ j = 5 ∨ j = 6 ∨ j = 7 ∨ j = 8 ∨ j = 9 by omega) with rfl | rfl | rfl | rfl | rfl | rfl | rfl | rfl | rfl | rfl <;> rfl
theorem dvX11 : ∀ j, j < 22 → defaultValue (tyX11 j) = (if fk 11 j = 0 then .int 0 else if fk 11 j = 1 then .long 0 else .null) := by
  intro j hj
  rcases (show j = 0 ∨ j = 1 ∨ j = 2 ∨ j = 3 ∨ j = 4 ∨ j = 5 ∨ j = 6 ∨ j = 7 ∨ j = 8 ∨ j = 9 ∨ j = 10 ∨ j = 11 ∨ j = 12 ∨ j = 13 ∨ j = 14 ∨ j = 15 ∨ j = 16 ∨ j = 17 ∨ j = 18 ∨ j = 19 ∨ j = 20 ∨ j = 21 by omega) with rfl | rfl | rfl | rfl | rfl | rfl | rfl | rfl | rfl | rfl | rfl | rfl | rfl | rfl | rfl | rfl | rfl | rfl | rfl | rfl | rfl | rfl <;> rfl
def WC_0 : List Cond := [.methodLink RX0 3 ⟨"java/lang/Object", "<init>", "()V"⟩, .instanceMethod ⟨"java/lang/Object", "<init>", "()V"⟩, .code ⟨"java/lang/Object", "<init>", "()V"⟩ object_method_1_code 1 none, .fieldLink RX0 9 "SlicedBills$Account" "index" "I", .methodLink RX1 3 ⟨"java/lang/Object", "<init>", "()V"⟩, .classLink RX1 9 "SlicedBills$Tariff", .instantiable "SlicedBills$Tariff" 8, .initialized RX9, .methodLink RX1 11 yX9_init, .code yX9_init cX9_init 2 none, .instanceMethod yX9_init, .fieldLink RX1 12 "SlicedBills$Biller" "tariff" "LSlicedBills$Tariff;", .classLink RX1 18 "SlicedBills$Account", .fieldLink RX1 20 "SlicedBills$Biller" "accounts" "[LSlicedBills$Account;", .classLink RX1 24 "SlicedBills$Entries", .instantiable "SlicedBills$Entries" 11, .initialized RX5, .code yX5_init cX5_init 1 none, .instanceMethod yX5_init, .fieldLink RX1 27 "SlicedBills$Biller" "entries" "LSlicedBills$Entries;", .fieldLink RX1 31 "SlicedBills$Biller" "calendar" "LSlicedBills$Calendar;", .instantiable "SlicedBills$Account" 14, .initialized RX0, .methodLink RX1 35 yX0_init, .code yX0_init cX0_init 2 none, .instanceMethod yX0_init, .methodLink RX2 3 ⟨"java/lang/Object", "<init>", "()V"⟩, .classLink RX2 9 "SlicedBills$Tariff", .methodLink RX2 11 yX9_init, .fieldLink RX2 12 "SlicedBills$BookText" "draft" "LSlicedBills$Tariff;", .classLink RX2 18 "SlicedBills$Reader", .instantiable "SlicedBills$Reader" 5, .initialized RX8, .methodLink RX2 20 yX8_init, .code yX8_init cX8_init 2 none, .instanceMethod yX8_init, .fieldLink RX2 23 "SlicedBills$BookText" "reader" "LSlicedBills$Reader;", .methodLink RX3 3 ⟨"java/lang/Object", "<init>", "()V"⟩, .fieldLink RX3 11 "SlicedBills$Calendar" "starts" "[I", .methodLink RX4 3 ⟨"java/lang/Object", "<init>", "()V"⟩]
theorem WC_0_in : ∀ w ∈ WC_0, w ∈ Wd := ws_in _ [295, 119, 120, 296, 141, 142, 143, 98, 144, 146, 145, 361, 230, 363, 232, 233, 100, 236, 235, 365, 360, 291, 101, 292, 294, 293, 385, 386, 387, 413, 388, 389, 103, 390, 392, 391, 412, 126, 130, 425] (by decide +kernel) (by decide +kernel)
theorem wc_0 : Cond.methodLink RX0 3 ⟨"java/lang/Object", "<init>", "()V"⟩ ∈ Wd := WC_0_in _ (List.mem_of_getElem? (i := 0) rfl)
theorem wc_1 : Cond.instanceMethod ⟨"java/lang/Object", "<init>", "()V"⟩ ∈ Wd := WC_0_in _ (List.mem_of_getElem? (i := 1) rfl)
theorem wc_2 : Cond.code ⟨"java/lang/Object", "<init>", "()V"⟩ object_method_1_code 1 none ∈ Wd := WC_0_in _ (List.mem_of_getElem? (i := 2) rfl)
theorem wc_3 : Cond.fieldLink RX0 9 "SlicedBills$Account" "index" "I" ∈ Wd := WC_0_in _ (List.mem_of_getElem? (i := 3) rfl)
theorem wc_4 : Cond.methodLink RX1 3 ⟨"java/lang/Object", "<init>", "()V"⟩ ∈ Wd := WC_0_in _ (List.mem_of_getElem? (i := 4) rfl)
theorem wc_5 : Cond.classLink RX1 9 "SlicedBills$Tariff" ∈ Wd := WC_0_in _ (List.mem_of_getElem? (i := 5) rfl)
theorem wc_6 : Cond.instantiable "SlicedBills$Tariff" 8 ∈ Wd := WC_0_in _ (List.mem_of_getElem? (i := 6) rfl)
theorem wc_7 : Cond.initialized RX9 ∈ Wd := WC_0_in _ (List.mem_of_getElem? (i := 7) rfl)
theorem wc_8 : Cond.methodLink RX1 11 yX9_init ∈ Wd := WC_0_in _ (List.mem_of_getElem? (i := 8) rfl)
theorem wc_9 : Cond.code yX9_init cX9_init 2 none ∈ Wd := WC_0_in _ (List.mem_of_getElem? (i := 9) rfl)
theorem wc_10 : Cond.instanceMethod yX9_init ∈ Wd := WC_0_in _ (List.mem_of_getElem? (i := 10) rfl)
theorem wc_11 : Cond.fieldLink RX1 12 "SlicedBills$Biller" "tariff" "LSlicedBills$Tariff;" ∈ Wd := WC_0_in _ (List.mem_of_getElem? (i := 11) rfl)
theorem wc_12 : Cond.classLink RX1 18 "SlicedBills$Account" ∈ Wd := WC_0_in _ (List.mem_of_getElem? (i := 12) rfl)
theorem wc_13 : Cond.fieldLink RX1 20 "SlicedBills$Biller" "accounts" "[LSlicedBills$Account;" ∈ Wd := WC_0_in _ (List.mem_of_getElem? (i := 13) rfl)
theorem wc_14 : Cond.classLink RX1 24 "SlicedBills$Entries" ∈ Wd := WC_0_in _ (List.mem_of_getElem? (i := 14) rfl)
theorem wc_15 : Cond.instantiable "SlicedBills$Entries" 11 ∈ Wd := WC_0_in _ (List.mem_of_getElem? (i := 15) rfl)
theorem wc_16 : Cond.initialized RX5 ∈ Wd := WC_0_in _ (List.mem_of_getElem? (i := 16) rfl)
theorem wc_17 : Cond.code yX5_init cX5_init 1 none ∈ Wd := WC_0_in _ (List.mem_of_getElem? (i := 17) rfl)
theorem wc_18 : Cond.instanceMethod yX5_init ∈ Wd := WC_0_in _ (List.mem_of_getElem? (i := 18) rfl)
theorem wc_19 : Cond.fieldLink RX1 27 "SlicedBills$Biller" "entries" "LSlicedBills$Entries;" ∈ Wd := WC_0_in _ (List.mem_of_getElem? (i := 19) rfl)
theorem wc_20 : Cond.fieldLink RX1 31 "SlicedBills$Biller" "calendar" "LSlicedBills$Calendar;" ∈ Wd := WC_0_in _ (List.mem_of_getElem? (i := 20) rfl)
theorem wc_21 : Cond.instantiable "SlicedBills$Account" 14 ∈ Wd := WC_0_in _ (List.mem_of_getElem? (i := 21) rfl)
theorem wc_22 : Cond.initialized RX0 ∈ Wd := WC_0_in _ (List.mem_of_getElem? (i := 22) rfl)
theorem wc_23 : Cond.methodLink RX1 35 yX0_init ∈ Wd := WC_0_in _ (List.mem_of_getElem? (i := 23) rfl)
theorem wc_24 : Cond.code yX0_init cX0_init 2 none ∈ Wd := WC_0_in _ (List.mem_of_getElem? (i := 24) rfl)
theorem wc_25 : Cond.instanceMethod yX0_init ∈ Wd := WC_0_in _ (List.mem_of_getElem? (i := 25) rfl)
theorem wc_26 : Cond.methodLink RX2 3 ⟨"java/lang/Object", "<init>", "()V"⟩ ∈ Wd := WC_0_in _ (List.mem_of_getElem? (i := 26) rfl)
theorem wc_27 : Cond.classLink RX2 9 "SlicedBills$Tariff" ∈ Wd := WC_0_in _ (List.mem_of_getElem? (i := 27) rfl)
theorem wc_28 : Cond.methodLink RX2 11 yX9_init ∈ Wd := WC_0_in _ (List.mem_of_getElem? (i := 28) rfl)
theorem wc_29 : Cond.fieldLink RX2 12 "SlicedBills$BookText" "draft" "LSlicedBills$Tariff;" ∈ Wd := WC_0_in _ (List.mem_of_getElem? (i := 29) rfl)
theorem wc_30 : Cond.classLink RX2 18 "SlicedBills$Reader" ∈ Wd := WC_0_in _ (List.mem_of_getElem? (i := 30) rfl)
theorem wc_31 : Cond.instantiable "SlicedBills$Reader" 5 ∈ Wd := WC_0_in _ (List.mem_of_getElem? (i := 31) rfl)
theorem wc_32 : Cond.initialized RX8 ∈ Wd := WC_0_in _ (List.mem_of_getElem? (i := 32) rfl)
theorem wc_33 : Cond.methodLink RX2 20 yX8_init ∈ Wd := WC_0_in _ (List.mem_of_getElem? (i := 33) rfl)
theorem wc_34 : Cond.code yX8_init cX8_init 2 none ∈ Wd := WC_0_in _ (List.mem_of_getElem? (i := 34) rfl)
theorem wc_35 : Cond.instanceMethod yX8_init ∈ Wd := WC_0_in _ (List.mem_of_getElem? (i := 35) rfl)
theorem wc_36 : Cond.fieldLink RX2 23 "SlicedBills$BookText" "reader" "LSlicedBills$Reader;" ∈ Wd := WC_0_in _ (List.mem_of_getElem? (i := 36) rfl)
theorem wc_37 : Cond.methodLink RX3 3 ⟨"java/lang/Object", "<init>", "()V"⟩ ∈ Wd := WC_0_in _ (List.mem_of_getElem? (i := 37) rfl)
theorem wc_38 : Cond.fieldLink RX3 11 "SlicedBills$Calendar" "starts" "[I" ∈ Wd := WC_0_in _ (List.mem_of_getElem? (i := 38) rfl)
theorem wc_39 : Cond.methodLink RX4 3 ⟨"java/lang/Object", "<init>", "()V"⟩ ∈ Wd := WC_0_in _ (List.mem_of_getElem? (i := 39) rfl)
def WC_1 : List Cond := [.fieldLink RX4 11 "SlicedBills$DeedText" "words" "[I", .fieldLink RX4 15 "SlicedBills$DeedText" "accounts" "[I", .fieldLink RX4 18 "SlicedBills$DeedText" "plans" "[I", .fieldLink RX4 21 "SlicedBills$DeedText" "numbers" "[I", .classLink RX4 24 "SlicedBills$Reader", .methodLink RX4 26 yX8_init, .fieldLink RX4 29 "SlicedBills$DeedText" "reader" "LSlicedBills$Reader;", .methodLink RX5 3 ⟨"java/lang/Object", "<init>", "()V"⟩, .fieldLink RX5 9 "SlicedBills$Entries" "kinds" "[I", .fieldLink RX5 15 "SlicedBills$Entries" "owners" "[I", .fieldLink RX5 18 "SlicedBills$Entries" "writtenOn" "[I", .fieldLink RX5 21 "SlicedBills$Entries" "numbers" "[I", .fieldLink RX5 24 "SlicedBills$Entries" "firsts" "[I", .fieldLink RX5 27 "SlicedBills$Entries" "ends" "[I", .fieldLink RX5 30 "SlicedBills$Entries" "plans" "[I", .fieldLink RX5 33 "SlicedBills$Entries" "cents" "[I", .fieldLink RX5 36 "SlicedBills$Entries" "turns" "[I", .fieldLink RX5 39 "SlicedBills$Entries" "turnedBy" "[I", .methodLink RX6 1 ⟨"java/lang/Object", "<init>", "()V"⟩, .fieldLink RX6 9 "SlicedBills$LineText" "bytes" "[B", .fieldLink RX6 13 "SlicedBills$LineText" "calendar" "LSlicedBills$Calendar;", .methodLink RX7 3 ⟨"java/lang/Object", "<init>", "()V"⟩, .fieldLink RX7 11 "SlicedBills$PlanTerms" "bounds" "[I", .fieldLink RX7 15 "SlicedBills$PlanTerms" "tierCents" "[I", .fieldLink RX7 18 "SlicedBills$PlanTerms" "bulkSeats" "[I", .fieldLink RX7 21 "SlicedBills$PlanTerms" "bulkOff" "[I", .methodLink RX8 3 ⟨"java/lang/Object", "<init>", "()V"⟩, .fieldLink RX8 9 "SlicedBills$Reader" "bytes" "[B", .methodLink RX9 3 ⟨"java/lang/Object", "<init>", "()V"⟩, .classLink RX9 9 "SlicedBills$PlanTerms", .fieldLink RX9 11 "SlicedBills$Tariff" "plans" "[LSlicedBills$PlanTerms;", .fieldLink RX9 17 "SlicedBills$Tariff" "taxDays" "[I", .fieldLink RX9 21 "SlicedBills$Tariff" "taxRates" "[I", .instantiable "SlicedBills$PlanTerms" 11, .initialized RX7, .code yX7_init cX7_init 1 none, .instanceMethod yX7_init, .methodLink RX10 1 ⟨"java/lang/Object", "<init>", "()V"⟩, .fieldLink RX10 9 "SlicedBills" "tape" "[B", .classLink RX10 13 "SlicedBills$Calendar"]
theorem WC_1_in : ∀ w ∈ WC_1, w ∈ Wd := ws_in _ [431, 432, 433, 434, 426, 427, 428, 237, 241, 244, 247, 249, 252, 255, 258, 261, 265, 266, 453, 455, 454, 154, 162, 163, 173, 174, 393, 394, 147, 148, 198, 208, 209, 150, 99, 153, 152, 118, 465, 121] (by decide +kernel) (by decide +kernel)
theorem wc_40 : Cond.fieldLink RX4 11 "SlicedBills$DeedText" "words" "[I" ∈ Wd := WC_1_in _ (List.mem_of_getElem? (i := 0) rfl)
theorem wc_41 : Cond.fieldLink RX4 15 "SlicedBills$DeedText" "accounts" "[I" ∈ Wd := WC_1_in _ (List.mem_of_getElem? (i := 1) rfl)
theorem wc_42 : Cond.fieldLink RX4 18 "SlicedBills$DeedText" "plans" "[I" ∈ Wd := WC_1_in _ (List.mem_of_getElem? (i := 2) rfl)
theorem wc_43 : Cond.fieldLink RX4 21 "SlicedBills$DeedText" "numbers" "[I" ∈ Wd := WC_1_in _ (List.mem_of_getElem? (i := 3) rfl)
theorem wc_44 : Cond.classLink RX4 24 "SlicedBills$Reader" ∈ Wd := WC_1_in _ (List.mem_of_getElem? (i := 4) rfl)
theorem wc_45 : Cond.methodLink RX4 26 yX8_init ∈ Wd := WC_1_in _ (List.mem_of_getElem? (i := 5) rfl)
theorem wc_46 : Cond.fieldLink RX4 29 "SlicedBills$DeedText" "reader" "LSlicedBills$Reader;" ∈ Wd := WC_1_in _ (List.mem_of_getElem? (i := 6) rfl)
theorem wc_47 : Cond.methodLink RX5 3 ⟨"java/lang/Object", "<init>", "()V"⟩ ∈ Wd := WC_1_in _ (List.mem_of_getElem? (i := 7) rfl)
theorem wc_48 : Cond.fieldLink RX5 9 "SlicedBills$Entries" "kinds" "[I" ∈ Wd := WC_1_in _ (List.mem_of_getElem? (i := 8) rfl)
theorem wc_49 : Cond.fieldLink RX5 15 "SlicedBills$Entries" "owners" "[I" ∈ Wd := WC_1_in _ (List.mem_of_getElem? (i := 9) rfl)
theorem wc_50 : Cond.fieldLink RX5 18 "SlicedBills$Entries" "writtenOn" "[I" ∈ Wd := WC_1_in _ (List.mem_of_getElem? (i := 10) rfl)
theorem wc_51 : Cond.fieldLink RX5 21 "SlicedBills$Entries" "numbers" "[I" ∈ Wd := WC_1_in _ (List.mem_of_getElem? (i := 11) rfl)
theorem wc_52 : Cond.fieldLink RX5 24 "SlicedBills$Entries" "firsts" "[I" ∈ Wd := WC_1_in _ (List.mem_of_getElem? (i := 12) rfl)
theorem wc_53 : Cond.fieldLink RX5 27 "SlicedBills$Entries" "ends" "[I" ∈ Wd := WC_1_in _ (List.mem_of_getElem? (i := 13) rfl)
theorem wc_54 : Cond.fieldLink RX5 30 "SlicedBills$Entries" "plans" "[I" ∈ Wd := WC_1_in _ (List.mem_of_getElem? (i := 14) rfl)
theorem wc_55 : Cond.fieldLink RX5 33 "SlicedBills$Entries" "cents" "[I" ∈ Wd := WC_1_in _ (List.mem_of_getElem? (i := 15) rfl)
theorem wc_56 : Cond.fieldLink RX5 36 "SlicedBills$Entries" "turns" "[I" ∈ Wd := WC_1_in _ (List.mem_of_getElem? (i := 16) rfl)
theorem wc_57 : Cond.fieldLink RX5 39 "SlicedBills$Entries" "turnedBy" "[I" ∈ Wd := WC_1_in _ (List.mem_of_getElem? (i := 17) rfl)
theorem wc_58 : Cond.methodLink RX6 1 ⟨"java/lang/Object", "<init>", "()V"⟩ ∈ Wd := WC_1_in _ (List.mem_of_getElem? (i := 18) rfl)
theorem wc_59 : Cond.fieldLink RX6 9 "SlicedBills$LineText" "bytes" "[B" ∈ Wd := WC_1_in _ (List.mem_of_getElem? (i := 19) rfl)
theorem wc_60 : Cond.fieldLink RX6 13 "SlicedBills$LineText" "calendar" "LSlicedBills$Calendar;" ∈ Wd := WC_1_in _ (List.mem_of_getElem? (i := 20) rfl)
theorem wc_61 : Cond.methodLink RX7 3 ⟨"java/lang/Object", "<init>", "()V"⟩ ∈ Wd := WC_1_in _ (List.mem_of_getElem? (i := 21) rfl)
theorem wc_62 : Cond.fieldLink RX7 11 "SlicedBills$PlanTerms" "bounds" "[I" ∈ Wd := WC_1_in _ (List.mem_of_getElem? (i := 22) rfl)
theorem wc_63 : Cond.fieldLink RX7 15 "SlicedBills$PlanTerms" "tierCents" "[I" ∈ Wd := WC_1_in _ (List.mem_of_getElem? (i := 23) rfl)
theorem wc_64 : Cond.fieldLink RX7 18 "SlicedBills$PlanTerms" "bulkSeats" "[I" ∈ Wd := WC_1_in _ (List.mem_of_getElem? (i := 24) rfl)
theorem wc_65 : Cond.fieldLink RX7 21 "SlicedBills$PlanTerms" "bulkOff" "[I" ∈ Wd := WC_1_in _ (List.mem_of_getElem? (i := 25) rfl)
theorem wc_66 : Cond.methodLink RX8 3 ⟨"java/lang/Object", "<init>", "()V"⟩ ∈ Wd := WC_1_in _ (List.mem_of_getElem? (i := 26) rfl)
theorem wc_67 : Cond.fieldLink RX8 9 "SlicedBills$Reader" "bytes" "[B" ∈ Wd := WC_1_in _ (List.mem_of_getElem? (i := 27) rfl)
theorem wc_68 : Cond.methodLink RX9 3 ⟨"java/lang/Object", "<init>", "()V"⟩ ∈ Wd := WC_1_in _ (List.mem_of_getElem? (i := 28) rfl)
theorem wc_69 : Cond.classLink RX9 9 "SlicedBills$PlanTerms" ∈ Wd := WC_1_in _ (List.mem_of_getElem? (i := 29) rfl)
theorem wc_70 : Cond.fieldLink RX9 11 "SlicedBills$Tariff" "plans" "[LSlicedBills$PlanTerms;" ∈ Wd := WC_1_in _ (List.mem_of_getElem? (i := 30) rfl)
theorem wc_71 : Cond.fieldLink RX9 17 "SlicedBills$Tariff" "taxDays" "[I" ∈ Wd := WC_1_in _ (List.mem_of_getElem? (i := 31) rfl)
theorem wc_72 : Cond.fieldLink RX9 21 "SlicedBills$Tariff" "taxRates" "[I" ∈ Wd := WC_1_in _ (List.mem_of_getElem? (i := 32) rfl)
theorem wc_73 : Cond.instantiable "SlicedBills$PlanTerms" 11 ∈ Wd := WC_1_in _ (List.mem_of_getElem? (i := 33) rfl)
theorem wc_74 : Cond.initialized RX7 ∈ Wd := WC_1_in _ (List.mem_of_getElem? (i := 34) rfl)
theorem wc_75 : Cond.code yX7_init cX7_init 1 none ∈ Wd := WC_1_in _ (List.mem_of_getElem? (i := 35) rfl)
theorem wc_76 : Cond.instanceMethod yX7_init ∈ Wd := WC_1_in _ (List.mem_of_getElem? (i := 36) rfl)
theorem wc_77 : Cond.methodLink RX10 1 ⟨"java/lang/Object", "<init>", "()V"⟩ ∈ Wd := WC_1_in _ (List.mem_of_getElem? (i := 37) rfl)
theorem wc_78 : Cond.fieldLink RX10 9 "SlicedBills" "tape" "[B" ∈ Wd := WC_1_in _ (List.mem_of_getElem? (i := 38) rfl)
theorem wc_79 : Cond.classLink RX10 13 "SlicedBills$Calendar" ∈ Wd := WC_1_in _ (List.mem_of_getElem? (i := 39) rfl)
def WC_2 : List Cond := [.instantiable "SlicedBills$Calendar" 1, .initialized RX3, .methodLink RX10 15 yX3_init, .code yX3_init cX3_init 3 none, .instanceMethod yX3_init, .fieldLink RX10 16 "SlicedBills" "calendar" "LSlicedBills$Calendar;", .classLink RX10 20 "SlicedBills$Biller", .instantiable "SlicedBills$Biller" 5, .initialized RX1, .methodLink RX10 22 yX1_init, .code yX1_init cX1_init 3 none, .instanceMethod yX1_init, .fieldLink RX10 25 "SlicedBills" "now" "LSlicedBills$Biller;", .fieldLink RX10 29 "SlicedBills" "kept" "LSlicedBills$Biller;", .fieldLink RX10 32 "SlicedBills" "trial" "LSlicedBills$Biller;", .classLink RX10 35 "SlicedBills$BookText", .instantiable "SlicedBills$BookText" 2, .initialized RX2, .methodLink RX10 37 yX2_init, .code yX2_init cX2_init 2 none, .instanceMethod yX2_init, .fieldLink RX10 40 "SlicedBills" "bookText" "LSlicedBills$BookText;", .classLink RX10 44 "SlicedBills$DeedText", .instantiable "SlicedBills$DeedText" 6, .initialized RX4, .methodLink RX10 46 yX4_init, .code yX4_init cX4_init 2 none, .instanceMethod yX4_init, .fieldLink RX10 47 "SlicedBills" "deedText" "LSlicedBills$DeedText;", .classLink RX10 51 "SlicedBills$LineText", .instantiable "SlicedBills$LineText" 3, .initialized RX6, .methodLink RX10 53 yX6_init, .code yX6_init cX6_init 2 none, .instanceMethod yX6_init, .fieldLink RX10 54 "SlicedBills" "lineText" "LSlicedBills$LineText;", .methodLink RX11 1 ⟨"java/lang/Object", "<init>", "()V"⟩, .fieldLink RX11 7 "SlicedBillsModel" "monthFrom" "[I", .fieldLink RX11 13 "SlicedBillsModel" "file" "[I", .fieldLink RX11 16 "SlicedBillsModel" "tape" "[B"]
theorem WC_2_in : ∀ w ∈ WC_2, w ∈ Wd := ws_in _ [122, 96, 123, 125, 124, 467, 136, 137, 97, 138, 140, 139, 468, 469, 470, 380, 381, 102, 382, 384, 383, 472, 420, 421, 104, 422, 424, 423, 473, 448, 449, 105, 450, 452, 451, 474, 1296, 1300, 1301, 1303] (by decide +kernel) (by decide +kernel)
theorem wc_80 : Cond.instantiable "SlicedBills$Calendar" 1 ∈ Wd := WC_2_in _ (List.mem_of_getElem? (i := 0) rfl)
theorem wc_81 : Cond.initialized RX3 ∈ Wd := WC_2_in _ (List.mem_of_getElem? (i := 1) rfl)
theorem wc_82 : Cond.methodLink RX10 15 yX3_init ∈ Wd := WC_2_in _ (List.mem_of_getElem? (i := 2) rfl)
theorem wc_83 : Cond.code yX3_init cX3_init 3 none ∈ Wd := WC_2_in _ (List.mem_of_getElem? (i := 3) rfl)
theorem wc_84 : Cond.instanceMethod yX3_init ∈ Wd := WC_2_in _ (List.mem_of_getElem? (i := 4) rfl)
theorem wc_85 : Cond.fieldLink RX10 16 "SlicedBills" "calendar" "LSlicedBills$Calendar;" ∈ Wd := WC_2_in _ (List.mem_of_getElem? (i := 5) rfl)
theorem wc_86 : Cond.classLink RX10 20 "SlicedBills$Biller" ∈ Wd := WC_2_in _ (List.mem_of_getElem? (i := 6) rfl)
theorem wc_87 : Cond.instantiable "SlicedBills$Biller" 5 ∈ Wd := WC_2_in _ (List.mem_of_getElem? (i := 7) rfl)
theorem wc_88 : Cond.initialized RX1 ∈ Wd := WC_2_in _ (List.mem_of_getElem? (i := 8) rfl)
theorem wc_89 : Cond.methodLink RX10 22 yX1_init ∈ Wd := WC_2_in _ (List.mem_of_getElem? (i := 9) rfl)
theorem wc_90 : Cond.code yX1_init cX1_init 3 none ∈ Wd := WC_2_in _ (List.mem_of_getElem? (i := 10) rfl)
theorem wc_91 : Cond.instanceMethod yX1_init ∈ Wd := WC_2_in _ (List.mem_of_getElem? (i := 11) rfl)
theorem wc_92 : Cond.fieldLink RX10 25 "SlicedBills" "now" "LSlicedBills$Biller;" ∈ Wd := WC_2_in _ (List.mem_of_getElem? (i := 12) rfl)
theorem wc_93 : Cond.fieldLink RX10 29 "SlicedBills" "kept" "LSlicedBills$Biller;" ∈ Wd := WC_2_in _ (List.mem_of_getElem? (i := 13) rfl)
theorem wc_94 : Cond.fieldLink RX10 32 "SlicedBills" "trial" "LSlicedBills$Biller;" ∈ Wd := WC_2_in _ (List.mem_of_getElem? (i := 14) rfl)
theorem wc_95 : Cond.classLink RX10 35 "SlicedBills$BookText" ∈ Wd := WC_2_in _ (List.mem_of_getElem? (i := 15) rfl)
theorem wc_96 : Cond.instantiable "SlicedBills$BookText" 2 ∈ Wd := WC_2_in _ (List.mem_of_getElem? (i := 16) rfl)
theorem wc_97 : Cond.initialized RX2 ∈ Wd := WC_2_in _ (List.mem_of_getElem? (i := 17) rfl)
theorem wc_98 : Cond.methodLink RX10 37 yX2_init ∈ Wd := WC_2_in _ (List.mem_of_getElem? (i := 18) rfl)
theorem wc_99 : Cond.code yX2_init cX2_init 2 none ∈ Wd := WC_2_in _ (List.mem_of_getElem? (i := 19) rfl)
theorem wc_100 : Cond.instanceMethod yX2_init ∈ Wd := WC_2_in _ (List.mem_of_getElem? (i := 20) rfl)
theorem wc_101 : Cond.fieldLink RX10 40 "SlicedBills" "bookText" "LSlicedBills$BookText;" ∈ Wd := WC_2_in _ (List.mem_of_getElem? (i := 21) rfl)
theorem wc_102 : Cond.classLink RX10 44 "SlicedBills$DeedText" ∈ Wd := WC_2_in _ (List.mem_of_getElem? (i := 22) rfl)
theorem wc_103 : Cond.instantiable "SlicedBills$DeedText" 6 ∈ Wd := WC_2_in _ (List.mem_of_getElem? (i := 23) rfl)
theorem wc_104 : Cond.initialized RX4 ∈ Wd := WC_2_in _ (List.mem_of_getElem? (i := 24) rfl)
theorem wc_105 : Cond.methodLink RX10 46 yX4_init ∈ Wd := WC_2_in _ (List.mem_of_getElem? (i := 25) rfl)
theorem wc_106 : Cond.code yX4_init cX4_init 2 none ∈ Wd := WC_2_in _ (List.mem_of_getElem? (i := 26) rfl)
theorem wc_107 : Cond.instanceMethod yX4_init ∈ Wd := WC_2_in _ (List.mem_of_getElem? (i := 27) rfl)
theorem wc_108 : Cond.fieldLink RX10 47 "SlicedBills" "deedText" "LSlicedBills$DeedText;" ∈ Wd := WC_2_in _ (List.mem_of_getElem? (i := 28) rfl)
theorem wc_109 : Cond.classLink RX10 51 "SlicedBills$LineText" ∈ Wd := WC_2_in _ (List.mem_of_getElem? (i := 29) rfl)
theorem wc_110 : Cond.instantiable "SlicedBills$LineText" 3 ∈ Wd := WC_2_in _ (List.mem_of_getElem? (i := 30) rfl)
theorem wc_111 : Cond.initialized RX6 ∈ Wd := WC_2_in _ (List.mem_of_getElem? (i := 31) rfl)
theorem wc_112 : Cond.methodLink RX10 53 yX6_init ∈ Wd := WC_2_in _ (List.mem_of_getElem? (i := 32) rfl)
theorem wc_113 : Cond.code yX6_init cX6_init 2 none ∈ Wd := WC_2_in _ (List.mem_of_getElem? (i := 33) rfl)
theorem wc_114 : Cond.instanceMethod yX6_init ∈ Wd := WC_2_in _ (List.mem_of_getElem? (i := 34) rfl)
theorem wc_115 : Cond.fieldLink RX10 54 "SlicedBills" "lineText" "LSlicedBills$LineText;" ∈ Wd := WC_2_in _ (List.mem_of_getElem? (i := 35) rfl)
theorem wc_116 : Cond.methodLink RX11 1 ⟨"java/lang/Object", "<init>", "()V"⟩ ∈ Wd := WC_2_in _ (List.mem_of_getElem? (i := 36) rfl)
theorem wc_117 : Cond.fieldLink RX11 7 "SlicedBillsModel" "monthFrom" "[I" ∈ Wd := WC_2_in _ (List.mem_of_getElem? (i := 37) rfl)
theorem wc_118 : Cond.fieldLink RX11 13 "SlicedBillsModel" "file" "[I" ∈ Wd := WC_2_in _ (List.mem_of_getElem? (i := 38) rfl)
theorem wc_119 : Cond.fieldLink RX11 16 "SlicedBillsModel" "tape" "[B" ∈ Wd := WC_2_in _ (List.mem_of_getElem? (i := 39) rfl)
def WC_3 : List Cond := [.fieldLink RX11 20 "SlicedBillsModel" "draft" "[I", .fieldLink RX11 23 "SlicedBillsModel" "stepWord" "[J", .fieldLink RX11 27 "SlicedBillsModel" "stepA" "[I", .fieldLink RX11 30 "SlicedBillsModel" "stepB" "[I", .fieldLink RX11 33 "SlicedBillsModel" "stepC" "[I", .fieldLink RX11 36 "SlicedBillsModel" "line" "[B", .fieldLink RX11 39 "SlicedBillsModel" "openOf" "[I", .classLink RL 7 "SlicedBills", .instantiable "SlicedBills" 10, .initialized RX10, .methodLink RL 9 yX10_init, .code yX10_init cX10_init 1 none, .instanceMethod yX10_init, .classLink RL 10 "SlicedBillsModel", .instantiable "SlicedBillsModel" 22, .initialized RX11, .methodLink RL 12 yX11_init, .code yX11_init cX11_init 3 none, .instanceMethod yX11_init, .arrayClass .int, .arrayClass .byte, .arrayClass .long]
theorem WC_3_in : ∀ w ∈ WC_3, w ∈ Wd := ws_in _ [1311, 1313, 1314, 1315, 1316, 1318, 1320, 113, 114, 95, 115, 117, 116, 1291, 1292, 106, 1293, 1295, 1294, 135, 134, 1367] (by decide +kernel) (by decide +kernel)
theorem wc_120 : Cond.fieldLink RX11 20 "SlicedBillsModel" "draft" "[I" ∈ Wd := WC_3_in _ (List.mem_of_getElem? (i := 0) rfl)
theorem wc_121 : Cond.fieldLink RX11 23 "SlicedBillsModel" "stepWord" "[J" ∈ Wd := WC_3_in _ (List.mem_of_getElem? (i := 1) rfl)
theorem wc_122 : Cond.fieldLink RX11 27 "SlicedBillsModel" "stepA" "[I" ∈ Wd := WC_3_in _ (List.mem_of_getElem? (i := 2) rfl)
theorem wc_123 : Cond.fieldLink RX11 30 "SlicedBillsModel" "stepB" "[I" ∈ Wd := WC_3_in _ (List.mem_of_getElem? (i := 3) rfl)
theorem wc_124 : Cond.fieldLink RX11 33 "SlicedBillsModel" "stepC" "[I" ∈ Wd := WC_3_in _ (List.mem_of_getElem? (i := 4) rfl)
theorem wc_125 : Cond.fieldLink RX11 36 "SlicedBillsModel" "line" "[B" ∈ Wd := WC_3_in _ (List.mem_of_getElem? (i := 5) rfl)
theorem wc_126 : Cond.fieldLink RX11 39 "SlicedBillsModel" "openOf" "[I" ∈ Wd := WC_3_in _ (List.mem_of_getElem? (i := 6) rfl)
theorem wc_127 : Cond.classLink RL 7 "SlicedBills" ∈ Wd := WC_3_in _ (List.mem_of_getElem? (i := 7) rfl)
theorem wc_128 : Cond.instantiable "SlicedBills" 10 ∈ Wd := WC_3_in _ (List.mem_of_getElem? (i := 8) rfl)
theorem wc_129 : Cond.initialized RX10 ∈ Wd := WC_3_in _ (List.mem_of_getElem? (i := 9) rfl)
theorem wc_130 : Cond.methodLink RL 9 yX10_init ∈ Wd := WC_3_in _ (List.mem_of_getElem? (i := 10) rfl)
theorem wc_131 : Cond.code yX10_init cX10_init 1 none ∈ Wd := WC_3_in _ (List.mem_of_getElem? (i := 11) rfl)
theorem wc_132 : Cond.instanceMethod yX10_init ∈ Wd := WC_3_in _ (List.mem_of_getElem? (i := 12) rfl)
theorem wc_133 : Cond.classLink RL 10 "SlicedBillsModel" ∈ Wd := WC_3_in _ (List.mem_of_getElem? (i := 13) rfl)
theorem wc_134 : Cond.instantiable "SlicedBillsModel" 22 ∈ Wd := WC_3_in _ (List.mem_of_getElem? (i := 14) rfl)
theorem wc_135 : Cond.initialized RX11 ∈ Wd := WC_3_in _ (List.mem_of_getElem? (i := 15) rfl)
theorem wc_136 : Cond.methodLink RL 12 yX11_init ∈ Wd := WC_3_in _ (List.mem_of_getElem? (i := 16) rfl)
theorem wc_137 : Cond.code yX11_init cX11_init 3 none ∈ Wd := WC_3_in _ (List.mem_of_getElem? (i := 17) rfl)
theorem wc_138 : Cond.instanceMethod yX11_init ∈ Wd := WC_3_in _ (List.mem_of_getElem? (i := 18) rfl)
theorem wc_139 : Cond.arrayClass .int ∈ Wd := WC_3_in _ (List.mem_of_getElem? (i := 19) rfl)
theorem wc_140 : Cond.arrayClass .byte ∈ Wd := WC_3_in _ (List.mem_of_getElem? (i := 20) rfl)
theorem wc_141 : Cond.arrayClass .long ∈ Wd := WC_3_in _ (List.mem_of_getElem? (i := 21) rfl)
theorem ko_RX0_3 : KOB RX0 3 := ⟨wc_0, wc_1, wc_2⟩
theorem fp_RX0_9 : FLP RX0 9 0 0 (tyX0 0) := ⟨TX0, 14, tyX0, rfl, wsc_0, tyX0_ok, nmX0, by decide, rfl, rfl, rfl, by decide, wc_3⟩
theorem ko_RX1_3 : KOB RX1 3 := ⟨wc_4, wc_1, wc_2⟩
theorem nk_RX1_9 : NEWK RX1 9 9 := ⟨RX9, TX9, 8, tyX9, rfl, wsc_9, tyX9_ok, rfl, by decide, wc_5, wc_6, wc_7, dvX9⟩
theorem ki_RX1_11 : CKI RX1 11 yX9_init cX9_init 2 0 := ⟨Or.inl wc_8, wc_9, wc_7, by decide, by decide, rfl, wc_10⟩
theorem fp_RX1_12 : FLP RX1 12 1 1 (tyX1 1) := ⟨TX1, 5, tyX1, rfl, wsc_1, tyX1_ok, nmX1, by decide, rfl, rfl, rfl, by decide, wc_11⟩
theorem fp_RX1_20 : FLP RX1 20 1 2 (tyX1 2) := ⟨TX1, 5, tyX1, rfl, wsc_1, tyX1_ok, nmX1, by decide, rfl, rfl, rfl, by decide, wc_13⟩
theorem nk_RX1_24 : NEWK RX1 24 5 := ⟨RX5, TX5, 11, tyX5, rfl, wsc_5, tyX5_ok, rfl, by decide, wc_14, wc_15, wc_16, dvX5⟩
theorem ki_RX1_26 : CKI RX1 26 yX5_init cX5_init 1 0 := ⟨Or.inr ⟨_, List.mem_of_getElem? (i := 17) rfl⟩, wc_17, wc_16, by decide, by decide, rfl, wc_18⟩
theorem fp_RX1_27 : FLP RX1 27 1 3 (tyX1 3) := ⟨TX1, 5, tyX1, rfl, wsc_1, tyX1_ok, nmX1, by decide, rfl, rfl, rfl, by decide, wc_19⟩
theorem fp_RX1_31 : FLP RX1 31 1 0 (tyX1 0) := ⟨TX1, 5, tyX1, rfl, wsc_1, tyX1_ok, nmX1, by decide, rfl, rfl, rfl, by decide, wc_20⟩
theorem nk_RX1_18 : NEWK RX1 18 0 := ⟨RX0, TX0, 14, tyX0, rfl, wsc_0, tyX0_ok, rfl, by decide, wc_12, wc_21, wc_22, dvX0⟩
theorem ki_RX1_35 : CKI RX1 35 yX0_init cX0_init 2 1 := ⟨Or.inl wc_23, wc_24, wc_22, by decide, by decide, rfl, wc_25⟩
theorem ko_RX2_3 : KOB RX2 3 := ⟨wc_26, wc_1, wc_2⟩
theorem nk_RX2_9 : NEWK RX2 9 9 := ⟨RX9, TX9, 8, tyX9, rfl, wsc_9, tyX9_ok, rfl, by decide, wc_27, wc_6, wc_7, dvX9⟩
theorem ki_RX2_11 : CKI RX2 11 yX9_init cX9_init 2 0 := ⟨Or.inl wc_28, wc_9, wc_7, by decide, by decide, rfl, wc_10⟩
theorem fp_RX2_12 : FLP RX2 12 2 1 (tyX2 1) := ⟨TX2, 2, tyX2, rfl, wsc_2, tyX2_ok, nmX2, by decide, rfl, rfl, rfl, by decide, wc_29⟩
theorem nk_RX2_18 : NEWK RX2 18 8 := ⟨RX8, TX8, 5, tyX8, rfl, wsc_8, tyX8_ok, rfl, by decide, wc_30, wc_31, wc_32, dvX8⟩
theorem ki_RX2_20 : CKI RX2 20 yX8_init cX8_init 2 1 := ⟨Or.inl wc_33, wc_34, wc_32, by decide, by decide, rfl, wc_35⟩
theorem fp_RX2_23 : FLP RX2 23 2 0 (tyX2 0) := ⟨TX2, 2, tyX2, rfl, wsc_2, tyX2_ok, nmX2, by decide, rfl, rfl, rfl, by decide, wc_36⟩
theorem ko_RX3_3 : KOB RX3 3 := ⟨wc_37, wc_1, wc_2⟩
theorem fp_RX3_11 : FLP RX3 11 3 0 (tyX3 0) := ⟨TX3, 1, tyX3, rfl, wsc_3, tyX3_ok, nmX3, by decide, rfl, rfl, rfl, by decide, wc_38⟩
theorem ko_RX4_3 : KOB RX4 3 := ⟨wc_39, wc_1, wc_2⟩
theorem fp_RX4_11 : FLP RX4 11 4 2 (tyX4 2) := ⟨TX4, 6, tyX4, rfl, wsc_4, tyX4_ok, nmX4, by decide, rfl, rfl, rfl, by decide, wc_40⟩
theorem fp_RX4_15 : FLP RX4 15 4 3 (tyX4 3) := ⟨TX4, 6, tyX4, rfl, wsc_4, tyX4_ok, nmX4, by decide, rfl, rfl, rfl, by decide, wc_41⟩
theorem fp_RX4_18 : FLP RX4 18 4 4 (tyX4 4) := ⟨TX4, 6, tyX4, rfl, wsc_4, tyX4_ok, nmX4, by decide, rfl, rfl, rfl, by decide, wc_42⟩
theorem fp_RX4_21 : FLP RX4 21 4 5 (tyX4 5) := ⟨TX4, 6, tyX4, rfl, wsc_4, tyX4_ok, nmX4, by decide, rfl, rfl, rfl, by decide, wc_43⟩
theorem nk_RX4_24 : NEWK RX4 24 8 := ⟨RX8, TX8, 5, tyX8, rfl, wsc_8, tyX8_ok, rfl, by decide, wc_44, wc_31, wc_32, dvX8⟩
theorem ki_RX4_26 : CKI RX4 26 yX8_init cX8_init 2 1 := ⟨Or.inl wc_45, wc_34, wc_32, by decide, by decide, rfl, wc_35⟩
theorem fp_RX4_29 : FLP RX4 29 4 0 (tyX4 0) := ⟨TX4, 6, tyX4, rfl, wsc_4, tyX4_ok, nmX4, by decide, rfl, rfl, rfl, by decide, wc_46⟩
theorem ko_RX5_3 : KOB RX5 3 := ⟨wc_47, wc_1, wc_2⟩
theorem fp_RX5_9 : FLP RX5 9 5 1 (tyX5 1) := ⟨TX5, 11, tyX5, rfl, wsc_5, tyX5_ok, nmX5, by decide, rfl, rfl, rfl, by decide, wc_48⟩
theorem fp_RX5_15 : FLP RX5 15 5 2 (tyX5 2) := ⟨TX5, 11, tyX5, rfl, wsc_5, tyX5_ok, nmX5, by decide, rfl, rfl, rfl, by decide, wc_49⟩
theorem fp_RX5_18 : FLP RX5 18 5 3 (tyX5 3) := ⟨TX5, 11, tyX5, rfl, wsc_5, tyX5_ok, nmX5, by decide, rfl, rfl, rfl, by decide, wc_50⟩
theorem fp_RX5_21 : FLP RX5 21 5 4 (tyX5 4) := ⟨TX5, 11, tyX5, rfl, wsc_5, tyX5_ok, nmX5, by decide, rfl, rfl, rfl, by decide, wc_51⟩
theorem fp_RX5_24 : FLP RX5 24 5 5 (tyX5 5) := ⟨TX5, 11, tyX5, rfl, wsc_5, tyX5_ok, nmX5, by decide, rfl, rfl, rfl, by decide, wc_52⟩
theorem fp_RX5_27 : FLP RX5 27 5 6 (tyX5 6) := ⟨TX5, 11, tyX5, rfl, wsc_5, tyX5_ok, nmX5, by decide, rfl, rfl, rfl, by decide, wc_53⟩
theorem fp_RX5_30 : FLP RX5 30 5 7 (tyX5 7) := ⟨TX5, 11, tyX5, rfl, wsc_5, tyX5_ok, nmX5, by decide, rfl, rfl, rfl, by decide, wc_54⟩
theorem fp_RX5_33 : FLP RX5 33 5 8 (tyX5 8) := ⟨TX5, 11, tyX5, rfl, wsc_5, tyX5_ok, nmX5, by decide, rfl, rfl, rfl, by decide, wc_55⟩
theorem fp_RX5_36 : FLP RX5 36 5 9 (tyX5 9) := ⟨TX5, 11, tyX5, rfl, wsc_5, tyX5_ok, nmX5, by decide, rfl, rfl, rfl, by decide, wc_56⟩
theorem fp_RX5_39 : FLP RX5 39 5 10 (tyX5 10) := ⟨TX5, 11, tyX5, rfl, wsc_5, tyX5_ok, nmX5, by decide, rfl, rfl, rfl, by decide, wc_57⟩
theorem ko_RX6_1 : KOB RX6 1 := ⟨wc_58, wc_1, wc_2⟩
theorem fp_RX6_9 : FLP RX6 9 6 1 (tyX6 1) := ⟨TX6, 3, tyX6, rfl, wsc_6, tyX6_ok, nmX6, by decide, rfl, rfl, rfl, by decide, wc_59⟩
theorem fp_RX6_13 : FLP RX6 13 6 0 (tyX6 0) := ⟨TX6, 3, tyX6, rfl, wsc_6, tyX6_ok, nmX6, by decide, rfl, rfl, rfl, by decide, wc_60⟩
theorem ko_RX7_3 : KOB RX7 3 := ⟨wc_61, wc_1, wc_2⟩
theorem fp_RX7_11 : FLP RX7 11 7 3 (tyX7 3) := ⟨TX7, 11, tyX7, rfl, wsc_7, tyX7_ok, nmX7, by decide, rfl, rfl, rfl, by decide, wc_62⟩
theorem fp_RX7_15 : FLP RX7 15 7 4 (tyX7 4) := ⟨TX7, 11, tyX7, rfl, wsc_7, tyX7_ok, nmX7, by decide, rfl, rfl, rfl, by decide, wc_63⟩
theorem fp_RX7_18 : FLP RX7 18 7 9 (tyX7 9) := ⟨TX7, 11, tyX7, rfl, wsc_7, tyX7_ok, nmX7, by decide, rfl, rfl, rfl, by decide, wc_64⟩
theorem fp_RX7_21 : FLP RX7 21 7 10 (tyX7 10) := ⟨TX7, 11, tyX7, rfl, wsc_7, tyX7_ok, nmX7, by decide, rfl, rfl, rfl, by decide, wc_65⟩
theorem ko_RX8_3 : KOB RX8 3 := ⟨wc_66, wc_1, wc_2⟩
theorem fp_RX8_9 : FLP RX8 9 8 0 (tyX8 0) := ⟨TX8, 5, tyX8, rfl, wsc_8, tyX8_ok, nmX8, by decide, rfl, rfl, rfl, by decide, wc_67⟩
theorem ko_RX9_3 : KOB RX9 3 := ⟨wc_68, wc_1, wc_2⟩
theorem fp_RX9_11 : FLP RX9 11 9 0 (tyX9 0) := ⟨TX9, 8, tyX9, rfl, wsc_9, tyX9_ok, nmX9, by decide, rfl, rfl, rfl, by decide, wc_70⟩
theorem fp_RX9_17 : FLP RX9 17 9 5 (tyX9 5) := ⟨TX9, 8, tyX9, rfl, wsc_9, tyX9_ok, nmX9, by decide, rfl, rfl, rfl, by decide, wc_71⟩
theorem fp_RX9_21 : FLP RX9 21 9 6 (tyX9 6) := ⟨TX9, 8, tyX9, rfl, wsc_9, tyX9_ok, nmX9, by decide, rfl, rfl, rfl, by decide, wc_72⟩
theorem nk_RX9_9 : NEWK RX9 9 7 := ⟨RX7, TX7, 11, tyX7, rfl, wsc_7, tyX7_ok, rfl, by decide, wc_69, wc_73, wc_74, dvX7⟩
theorem ki_RX9_24 : CKI RX9 24 yX7_init cX7_init 1 0 := ⟨Or.inr ⟨_, List.mem_of_getElem? (i := 0) rfl⟩, wc_75, wc_74, by decide, by decide, rfl, wc_76⟩
theorem ko_RX10_1 : KOB RX10 1 := ⟨wc_77, wc_1, wc_2⟩
theorem fp_RX10_9 : FLP RX10 9 10 0 (tyX10 0) := ⟨TX10, 10, tyX10, rfl, wsc_10, tyX10_ok, nmX10, by decide, rfl, rfl, rfl, by decide, wc_78⟩
theorem nk_RX10_13 : NEWK RX10 13 3 := ⟨RX3, TX3, 1, tyX3, rfl, wsc_3, tyX3_ok, rfl, by decide, wc_79, wc_80, wc_81, dvX3⟩
theorem ki_RX10_15 : CKI RX10 15 yX3_init cX3_init 3 0 := ⟨Or.inl wc_82, wc_83, wc_81, by decide, by decide, rfl, wc_84⟩
theorem fp_RX10_16 : FLP RX10 16 10 2 (tyX10 2) := ⟨TX10, 10, tyX10, rfl, wsc_10, tyX10_ok, nmX10, by decide, rfl, rfl, rfl, by decide, wc_85⟩
theorem nk_RX10_20 : NEWK RX10 20 1 := ⟨RX1, TX1, 5, tyX1, rfl, wsc_1, tyX1_ok, rfl, by decide, wc_86, wc_87, wc_88, dvX1⟩
theorem ki_RX10_22 : CKI RX10 22 yX1_init cX1_init 3 1 := ⟨Or.inl wc_89, wc_90, wc_88, by decide, by decide, rfl, wc_91⟩
theorem fp_RX10_25 : FLP RX10 25 10 3 (tyX10 3) := ⟨TX10, 10, tyX10, rfl, wsc_10, tyX10_ok, nmX10, by decide, rfl, rfl, rfl, by decide, wc_92⟩
theorem fp_RX10_29 : FLP RX10 29 10 4 (tyX10 4) := ⟨TX10, 10, tyX10, rfl, wsc_10, tyX10_ok, nmX10, by decide, rfl, rfl, rfl, by decide, wc_93⟩
theorem fp_RX10_32 : FLP RX10 32 10 5 (tyX10 5) := ⟨TX10, 10, tyX10, rfl, wsc_10, tyX10_ok, nmX10, by decide, rfl, rfl, rfl, by decide, wc_94⟩
theorem nk_RX10_35 : NEWK RX10 35 2 := ⟨RX2, TX2, 2, tyX2, rfl, wsc_2, tyX2_ok, rfl, by decide, wc_95, wc_96, wc_97, dvX2⟩
theorem ki_RX10_37 : CKI RX10 37 yX2_init cX2_init 2 1 := ⟨Or.inl wc_98, wc_99, wc_97, by decide, by decide, rfl, wc_100⟩
theorem fp_RX10_40 : FLP RX10 40 10 7 (tyX10 7) := ⟨TX10, 10, tyX10, rfl, wsc_10, tyX10_ok, nmX10, by decide, rfl, rfl, rfl, by decide, wc_101⟩
theorem nk_RX10_44 : NEWK RX10 44 4 := ⟨RX4, TX4, 6, tyX4, rfl, wsc_4, tyX4_ok, rfl, by decide, wc_102, wc_103, wc_104, dvX4⟩
theorem ki_RX10_46 : CKI RX10 46 yX4_init cX4_init 2 1 := ⟨Or.inl wc_105, wc_106, wc_104, by decide, by decide, rfl, wc_107⟩
theorem fp_RX10_47 : FLP RX10 47 10 8 (tyX10 8) := ⟨TX10, 10, tyX10, rfl, wsc_10, tyX10_ok, nmX10, by decide, rfl, rfl, rfl, by decide, wc_108⟩
theorem nk_RX10_51 : NEWK RX10 51 6 := ⟨RX6, TX6, 3, tyX6, rfl, wsc_6, tyX6_ok, rfl, by decide, wc_109, wc_110, wc_111, dvX6⟩
theorem ki_RX10_53 : CKI RX10 53 yX6_init cX6_init 2 1 := ⟨Or.inl wc_112, wc_113, wc_111, by decide, by decide, rfl, wc_114⟩
theorem fp_RX10_54 : FLP RX10 54 10 9 (tyX10 9) := ⟨TX10, 10, tyX10, rfl, wsc_10, tyX10_ok, nmX10, by decide, rfl, rfl, rfl, by decide, wc_115⟩
theorem ko_RX11_1 : KOB RX11 1 := ⟨wc_116, wc_1, wc_2⟩
theorem fp_RX11_7 : FLP RX11 7 11 0 (tyX11 0) := ⟨TX11, 22, tyX11, rfl, wsc_11, tyX11_ok, nmX11, by decide, rfl, rfl, rfl, by decide, wc_117⟩
theorem fp_RX11_13 : FLP RX11 13 11 1 (tyX11 1) := ⟨TX11, 22, tyX11, rfl, wsc_11, tyX11_ok, nmX11, by decide, rfl, rfl, rfl, by decide, wc_118⟩
theorem fp_RX11_16 : FLP RX11 16 11 3 (tyX11 3) := ⟨TX11, 22, tyX11, rfl, wsc_11, tyX11_ok, nmX11, by decide, rfl, rfl, rfl, by decide, wc_119⟩
theorem fp_RX11_20 : FLP RX11 20 11 11 (tyX11 11) := ⟨TX11, 22, tyX11, rfl, wsc_11, tyX11_ok, nmX11, by decide, rfl, rfl, rfl, by decide, wc_120⟩
theorem fp_RX11_23 : FLP RX11 23 11 13 (tyX11 13) := ⟨TX11, 22, tyX11, rfl, wsc_11, tyX11_ok, nmX11, by decide, rfl, rfl, rfl, by decide, wc_121⟩
theorem fp_RX11_27 : FLP RX11 27 11 14 (tyX11 14) := ⟨TX11, 22, tyX11, rfl, wsc_11, tyX11_ok, nmX11, by decide, rfl, rfl, rfl, by decide, wc_122⟩
theorem fp_RX11_30 : FLP RX11 30 11 15 (tyX11 15) := ⟨TX11, 22, tyX11, rfl, wsc_11, tyX11_ok, nmX11, by decide, rfl, rfl, rfl, by decide, wc_123⟩
theorem fp_RX11_33 : FLP RX11 33 11 16 (tyX11 16) := ⟨TX11, 22, tyX11, rfl, wsc_11, tyX11_ok, nmX11, by decide, rfl, rfl, rfl, by decide, wc_124⟩
theorem fp_RX11_36 : FLP RX11 36 11 18 (tyX11 18) := ⟨TX11, 22, tyX11, rfl, wsc_11, tyX11_ok, nmX11, by decide, rfl, rfl, rfl, by decide, wc_125⟩
theorem fp_RX11_39 : FLP RX11 39 11 20 (tyX11 20) := ⟨TX11, 22, tyX11, rfl, wsc_11, tyX11_ok, nmX11, by decide, rfl, rfl, rfl, by decide, wc_126⟩
theorem nk_L_7 : NEWK RL 7 10 := ⟨RX10, TX10, 10, tyX10, rfl, wsc_10, tyX10_ok, rfl, by decide, wc_127, wc_128, wc_129, dvX10⟩
theorem ki_L_9 : CKI RL 9 yX10_init cX10_init 1 0 := ⟨Or.inl wc_130, wc_131, wc_129, by decide, by decide, rfl, wc_132⟩
theorem nk_L_10 : NEWK RL 10 11 := ⟨RX11, TX11, 22, tyX11, rfl, wsc_11, tyX11_ok, rfl, by decide, wc_133, wc_134, wc_135, dvX11⟩
theorem ki_L_12 : CKI RL 12 yX11_init cX11_init 3 0 := ⟨Or.inl wc_136, wc_137, wc_135, by decide, by decide, rfl, wc_138⟩
