def Wd : List Cond := lw_tbl.filter goodWord
theorem wd_in {w : Cond} (i : Nat) (h : lw_tbl[i]? = some w) (hg : goodWord w = true) : w ∈ Wd := List.mem_filter.mpr ⟨List.mem_of_getElem? h, hg⟩
def nF (c : Nat) : Nat := match c with
  | 0 => 14
  | 1 => 5
  | 2 => 2
  | 3 => 1
  | 4 => 6
  | 5 => 11
  | 6 => 3
  | 7 => 11
  | 8 => 5
  | 9 => 8
  | 10 => 10
  | 11 => 22
  | _ => 0
def fkL : List (List Nat) := [[0, 0, 0, 0, 0, 0, 0, 0, 0, 0, 0, 0, 0, 0], [2, 2, 2, 2, 0], [2, 2], [2], [2, 0, 2, 2, 2, 2], [0, 2, 2, 2, 2, 2, 2, 2, 2, 2, 2], [2, 2, 0], [0, 0, 0, 2, 2, 0, 0, 0, 0, 2, 2], [2, 0, 0, 0, 0], [2, 0, 0, 0, 0, 2, 2, 0], [2, 0, 2, 2, 2, 2, 0, 2, 2, 2], [2, 2, 0, 2, 0, 0, 0, 0, 0, 0, 1, 2, 0, 2, 2, 2, 2, 0, 2, 0, 2, 0]]
def fk (c k : Nat) : Nat := (fkL.getD c []).getD k 0
def NW : List Cond := [.methodLinkNest RX9 24 yX7_init "SlicedBills", .fieldLinkNest RX2 113 "SlicedBills$PlanTerms" "price" "I" "SlicedBills", .fieldLinkNest RX9 76 "SlicedBills$PlanTerms" "price" "I" "SlicedBills", .fieldLinkNest RX2 116 "SlicedBills$PlanTerms" "free" "I" "SlicedBills", .fieldLinkNest RX2 104 "SlicedBills$PlanTerms" "tiers" "I" "SlicedBills", .fieldLinkNest RX2 123 "SlicedBills$PlanTerms" "rest" "I" "SlicedBills", .fieldLinkNest RX2 128 "SlicedBills$PlanTerms" "whole" "Z" "SlicedBills", .fieldLinkNest RX2 132 "SlicedBills$PlanTerms" "paused" "I" "SlicedBills", .fieldLinkNest RX9 74 "SlicedBills$PlanTerms" "paused" "I" "SlicedBills", .fieldLinkNest RX2 109 "SlicedBills$PlanTerms" "bulks" "I" "SlicedBills", .fieldLinkNest RX2 75 "SlicedBills$Tariff" "less" "I" "SlicedBills", .fieldLinkNest RX2 78 "SlicedBills$Tariff" "lessPeriods" "I" "SlicedBills", .fieldLinkNest RX2 81 "SlicedBills$Tariff" "fee" "I" "SlicedBills", .fieldLinkNest RX1 179 "SlicedBills$Tariff" "fee" "I" "SlicedBills", .fieldLinkNest RX2 62 "SlicedBills$Tariff" "taxes" "I" "SlicedBills", .fieldLinkNest RX2 45 "SlicedBills$Tariff" "clauses" "I" "SlicedBills", .fieldLinkNest RX10 96 "SlicedBills$Tariff" "clauses" "I" "SlicedBills", .methodLinkNest RX1 26 yX5_init "SlicedBills", .fieldLinkNest RX10 74 "SlicedBills$Entries" "size" "I" "SlicedBills", .fieldLinkNest RX1 244 "SlicedBills$Entries" "size" "I" "SlicedBills", .fieldLinkNest RX6 51 "SlicedBills$Entries" "kinds" "[I" "SlicedBills", .fieldLinkNest RX1 195 "SlicedBills$Entries" "kinds" "[I" "SlicedBills", .fieldLinkNest RX1 202 "SlicedBills$Entries" "owners" "[I" "SlicedBills", .fieldLinkNest RX10 244 "SlicedBills$Entries" "owners" "[I" "SlicedBills", .fieldLinkNest RX1 234 "SlicedBills$Entries" "writtenOn" "[I" "SlicedBills", .fieldLinkNest RX6 31 "SlicedBills$Entries" "numbers" "[I" "SlicedBills", .fieldLinkNest RX1 208 "SlicedBills$Entries" "numbers" "[I" "SlicedBills", .fieldLinkNest RX6 39 "SlicedBills$Entries" "firsts" "[I" "SlicedBills", .fieldLinkNest RX1 214 "SlicedBills$Entries" "firsts" "[I" "SlicedBills", .fieldLinkNest RX6 45 "SlicedBills$Entries" "ends" "[I" "SlicedBills", .fieldLinkNest RX1 217 "SlicedBills$Entries" "ends" "[I" "SlicedBills", .fieldLinkNest RX6 48 "SlicedBills$Entries" "plans" "[I" "SlicedBills", .fieldLinkNest RX1 211 "SlicedBills$Entries" "plans" "[I" "SlicedBills", .fieldLinkNest RX6 57 "SlicedBills$Entries" "cents" "[I" "SlicedBills", .fieldLinkNest RX10 129 "SlicedBills$Entries" "cents" "[I" "SlicedBills", .fieldLinkNest RX1 205 "SlicedBills$Entries" "cents" "[I" "SlicedBills", .fieldLinkNest RX1 199 "SlicedBills$Entries" "turnedBy" "[I" "SlicedBills", .fieldLinkNest RX1 66 "SlicedBills$Account" "index" "I" "SlicedBills", .fieldLinkNest RX1 56 "SlicedBills$Account" "begun" "Z" "SlicedBills", .fieldLinkNest RX1 63 "SlicedBills$Account" "ended" "Z" "SlicedBills", .fieldLinkNest RX9 70 "SlicedBills$Account" "paused" "Z" "SlicedBills", .fieldLinkNest RX1 159 "SlicedBills$Account" "paused" "Z" "SlicedBills", .fieldLinkNest RX1 76 "SlicedBills$Account" "plan" "I" "SlicedBills", .fieldLinkNest RX10 182 "SlicedBills$Account" "plan" "I" "SlicedBills", .fieldLinkNest RX1 117 "SlicedBills$Account" "anchor" "I" "SlicedBills", .fieldLinkNest RX9 58 "SlicedBills$Account" "seats" "I" "SlicedBills", .fieldLinkNest RX1 140 "SlicedBills$Account" "seats" "I" "SlicedBills", .fieldLinkNest RX1 73 "SlicedBills$Account" "number" "I" "SlicedBills", .fieldLinkNest RX9 67 "SlicedBills$Account" "number" "I" "SlicedBills", .fieldLinkNest RX1 114 "SlicedBills$Account" "first" "I" "SlicedBills", .fieldLinkNest RX1 86 "SlicedBills$Account" "end" "I" "SlicedBills", .fieldLinkNest RX10 219 "SlicedBills$Account" "end" "I" "SlicedBills", .fieldLinkNest RX1 125 "SlicedBills$Account" "spanFirst" "I" "SlicedBills", .fieldLinkNest RX1 105 "SlicedBills$Account" "units" "I" "SlicedBills", .fieldLinkNest RX1 168 "SlicedBills$Account" "paid" "I" "SlicedBills", .fieldLinkNest RX10 195 "SlicedBills$Account" "paid" "I" "SlicedBills", .fieldLinkNest RX1 83 "SlicedBills$Account" "all" "I" "SlicedBills", .fieldLinkNest RX10 120 "SlicedBills$Account" "all" "I" "SlicedBills", .fieldLinkNest RX10 83 "SlicedBills$Biller" "tariff" "LSlicedBills$Tariff;" "SlicedBills", .fieldLinkNest RX10 116 "SlicedBills$Biller" "accounts" "[LSlicedBills$Account;" "SlicedBills", .fieldLinkNest RX10 70 "SlicedBills$Biller" "entries" "LSlicedBills$Entries;" "SlicedBills", .fieldLinkNest RX10 137 "SlicedBills$Biller" "today" "I" "SlicedBills", .fieldLinkNest RX4 41 "SlicedBills$Reader" "place" "I" "SlicedBills", .fieldLinkNest RX2 34 "SlicedBills$Reader" "place" "I" "SlicedBills", .fieldLinkNest RX10 87 "SlicedBills$BookText" "draft" "LSlicedBills$Tariff;" "SlicedBills", .fieldLinkNest RX10 100 "SlicedBills$DeedText" "steps" "I" "SlicedBills", .fieldLinkNest RX10 259 "SlicedBills$LineText" "length" "I" "SlicedBills", .methodLinkNest RX1 52 yX10_isAccount "SlicedBills", .methodLinkNest RX1 131 yX10_isPlan "SlicedBills", .methodLinkNest RX1 134 yX10_isAnchor "SlicedBills", .methodLinkNest RX1 231 yX5_isOf "SlicedBills", .methodLinkNest RX7 75 yX10_tellOf "SlicedBills", .methodLinkNest RX9 82 yX10_tellOf "SlicedBills"]
theorem NW_tab : ∀ w ∈ NW, w.onTables = true := by decide +kernel
theorem NW_form : ∀ w ∈ NW, (∃ a i b n d h, w = .fieldLinkNest a i b n d h) ∨ (∃ a i x h, w = .methodLinkNest a i x h) := by
  unfold NW
  refine List.forall_mem_cons.mpr ⟨Or.inr ⟨_, _, _, _, rfl⟩, ?_⟩
  refine List.forall_mem_cons.mpr ⟨Or.inl ⟨_, _, _, _, _, _, rfl⟩, ?_⟩
  refine List.forall_mem_cons.mpr ⟨Or.inl ⟨_, _, _, _, _, _, rfl⟩, ?_⟩
  refine List.forall_mem_cons.mpr ⟨Or.inl ⟨_, _, _, _, _, _, rfl⟩, ?_⟩
  refine List.forall_mem_cons.mpr ⟨Or.inl ⟨_, _, _, _, _, _, rfl⟩, ?_⟩
  refine List.forall_mem_cons.mpr ⟨Or.inl ⟨_, _, _, _, _, _, rfl⟩, ?_⟩
  refine List.forall_mem_cons.mpr ⟨Or.inl ⟨_, _, _, _, _, _, rfl⟩, ?_⟩
  refine List.forall_mem_cons.mpr ⟨Or.inl ⟨_, _, _, _, _, _, rfl⟩, ?_⟩
  refine List.forall_mem_cons.mpr ⟨Or.inl ⟨_, _, _, _, _, _, rfl⟩, ?_⟩
  refine List.forall_mem_cons.mpr ⟨Or.inl ⟨_, _, _, _, _, _, rfl⟩, ?_⟩
  refine List.forall_mem_cons.mpr ⟨Or.inl ⟨_, _, _, _, _, _, rfl⟩, ?_⟩
  refine List.forall_mem_cons.mpr ⟨Or.inl ⟨_, _, _, _, _, _, rfl⟩, ?_⟩
  refine List.forall_mem_cons.mpr ⟨Or.inl ⟨_, _, _, _, _, _, rfl⟩, ?_⟩
  refine List.forall_mem_cons.mpr ⟨Or.inl ⟨_, _, _, _, _, _, rfl⟩, ?_⟩
  refine List.forall_mem_cons.mpr ⟨Or.inl ⟨_, _, _, _, _, _, rfl⟩, ?_⟩
  refine List.forall_mem_cons.mpr ⟨Or.inl ⟨_, _, _, _, _, _, rfl⟩, ?_⟩
  refine List.forall_mem_cons.mpr ⟨Or.inl ⟨_, _, _, _, _, _, rfl⟩, ?_⟩
  refine List.forall_mem_cons.mpr ⟨Or.inr ⟨_, _, _, _, rfl⟩, ?_⟩
  refine List.forall_mem_cons.mpr ⟨Or.inl ⟨_, _, _, _, _, _, rfl⟩, ?_⟩
  refine List.forall_mem_cons.mpr ⟨Or.inl ⟨_, _, _, _, _, _, rfl⟩, ?_⟩
  refine List.forall_mem_cons.mpr ⟨Or.inl ⟨_, _, _, _, _, _, rfl⟩, ?_⟩
  refine List.forall_mem_cons.mpr ⟨Or.inl ⟨_, _, _, _, _, _, rfl⟩, ?_⟩
  refine List.forall_mem_cons.mpr ⟨Or.inl ⟨_, _, _, _, _, _, rfl⟩, ?_⟩
  refine List.forall_mem_cons.mpr ⟨Or.inl ⟨_, _, _, _, _, _, rfl⟩, ?_⟩
  refine List.forall_mem_cons.mpr ⟨Or.inl ⟨_, _, _, _, _, _, rfl⟩, ?_⟩
  refine List.forall_mem_cons.mpr ⟨Or.inl ⟨_, _, _, _, _, _, rfl⟩, ?_⟩
  refine List.forall_mem_cons.mpr ⟨Or.inl ⟨_, _, _, _, _, _, rfl⟩, ?_⟩
  refine List.forall_mem_cons.mpr ⟨Or.inl ⟨_, _, _, _, _, _, rfl⟩, ?_⟩
  refine List.forall_mem_cons.mpr ⟨Or.inl ⟨_, _, _, _, _, _, rfl⟩, ?_⟩
  refine List.forall_mem_cons.mpr ⟨Or.inl ⟨_, _, _, _, _, _, rfl⟩, ?_⟩
  refine List.forall_mem_cons.mpr ⟨Or.inl ⟨_, _, _, _, _, _, rfl⟩, ?_⟩
  refine List.forall_mem_cons.mpr ⟨Or.inl ⟨_, _, _, _, _, _, rfl⟩, ?_⟩
  refine List.forall_mem_cons.mpr ⟨Or.inl ⟨_, _, _, _, _, _, rfl⟩, ?_⟩
  refine List.forall_mem_cons.mpr ⟨Or.inl ⟨_, _, _, _, _, _, rfl⟩, ?_⟩
  refine List.forall_mem_cons.mpr ⟨Or.inl ⟨_, _, _, _, _, _, rfl⟩, ?_⟩
  refine List.forall_mem_cons.mpr ⟨Or.inl ⟨_, _, _, _, _, _, rfl⟩, ?_⟩
  refine List.forall_mem_cons.mpr ⟨Or.inl ⟨_, _, _, _, _, _, rfl⟩, ?_⟩
  refine List.forall_mem_cons.mpr ⟨Or.inl ⟨_, _, _, _, _, _, rfl⟩, ?_⟩
  refine List.forall_mem_cons.mpr ⟨Or.inl ⟨_, _, _, _, _, _, rfl⟩, ?_⟩
  refine List.forall_mem_cons.mpr ⟨Or.inl ⟨_, _, _, _, _, _, rfl⟩, ?_⟩
  refine List.forall_mem_cons.mpr ⟨Or.inl ⟨_, _, _, _, _, _, rfl⟩, ?_⟩
  refine List.forall_mem_cons.mpr ⟨Or.inl ⟨_, _, _, _, _, _, rfl⟩, ?_⟩
  refine List.forall_mem_cons.mpr ⟨Or.inl ⟨_, _, _, _, _, _, rfl⟩, ?_⟩
  refine List.forall_mem_cons.mpr ⟨Or.inl ⟨_, _, _, _, _, _, rfl⟩, ?_⟩
  refine List.forall_mem_cons.mpr ⟨Or.inl ⟨_, _, _, _, _, _, rfl⟩, ?_⟩
  refine List.forall_mem_cons.mpr ⟨Or.inl ⟨_, _, _, _, _, _, rfl⟩, ?_⟩
  refine List.forall_mem_cons.mpr ⟨Or.inl ⟨_, _, _, _, _, _, rfl⟩, ?_⟩
  refine List.forall_mem_cons.mpr ⟨Or.inl ⟨_, _, _, _, _, _, rfl⟩, ?_⟩
  refine List.forall_mem_cons.mpr ⟨Or.inl ⟨_, _, _, _, _, _, rfl⟩, ?_⟩
  refine List.forall_mem_cons.mpr ⟨Or.inl ⟨_, _, _, _, _, _, rfl⟩, ?_⟩
  refine List.forall_mem_cons.mpr ⟨Or.inl ⟨_, _, _, _, _, _, rfl⟩, ?_⟩
  refine List.forall_mem_cons.mpr ⟨Or.inl ⟨_, _, _, _, _, _, rfl⟩, ?_⟩
  refine List.forall_mem_cons.mpr ⟨Or.inl ⟨_, _, _, _, _, _, rfl⟩, ?_⟩
  refine List.forall_mem_cons.mpr ⟨Or.inl ⟨_, _, _, _, _, _, rfl⟩, ?_⟩
  refine List.forall_mem_cons.mpr ⟨Or.inl ⟨_, _, _, _, _, _, rfl⟩, ?_⟩
  refine List.forall_mem_cons.mpr ⟨Or.inl ⟨_, _, _, _, _, _, rfl⟩, ?_⟩
  refine List.forall_mem_cons.mpr ⟨Or.inl ⟨_, _, _, _, _, _, rfl⟩, ?_⟩
  refine List.forall_mem_cons.mpr ⟨Or.inl ⟨_, _, _, _, _, _, rfl⟩, ?_⟩
  refine List.forall_mem_cons.mpr ⟨Or.inl ⟨_, _, _, _, _, _, rfl⟩, ?_⟩
  refine List.forall_mem_cons.mpr ⟨Or.inl ⟨_, _, _, _, _, _, rfl⟩, ?_⟩
  refine List.forall_mem_cons.mpr ⟨Or.inl ⟨_, _, _, _, _, _, rfl⟩, ?_⟩
  refine List.forall_mem_cons.mpr ⟨Or.inl ⟨_, _, _, _, _, _, rfl⟩, ?_⟩
  refine List.forall_mem_cons.mpr ⟨Or.inl ⟨_, _, _, _, _, _, rfl⟩, ?_⟩
  refine List.forall_mem_cons.mpr ⟨Or.inl ⟨_, _, _, _, _, _, rfl⟩, ?_⟩
  refine List.forall_mem_cons.mpr ⟨Or.inl ⟨_, _, _, _, _, _, rfl⟩, ?_⟩
  refine List.forall_mem_cons.mpr ⟨Or.inl ⟨_, _, _, _, _, _, rfl⟩, ?_⟩
  refine List.forall_mem_cons.mpr ⟨Or.inl ⟨_, _, _, _, _, _, rfl⟩, ?_⟩
  refine List.forall_mem_cons.mpr ⟨Or.inr ⟨_, _, _, _, rfl⟩, ?_⟩
  refine List.forall_mem_cons.mpr ⟨Or.inr ⟨_, _, _, _, rfl⟩, ?_⟩
  refine List.forall_mem_cons.mpr ⟨Or.inr ⟨_, _, _, _, rfl⟩, ?_⟩
  refine List.forall_mem_cons.mpr ⟨Or.inr ⟨_, _, _, _, rfl⟩, ?_⟩
  refine List.forall_mem_cons.mpr ⟨Or.inr ⟨_, _, _, _, rfl⟩, ?_⟩
  refine List.forall_mem_cons.mpr ⟨Or.inr ⟨_, _, _, _, rfl⟩, ?_⟩
  exact fun _ h => absurd h List.not_mem_nil
theorem NW_warm {s U : State} (hW : s.WarmedH U.vm) : ∀ w ∈ NW, va_Nw w s → va_Nw w U := by
  intro w hw h
  rcases NW_form w hw with ⟨_, _, _, _, _, _, rfl⟩ | ⟨_, _, _, _, rfl⟩
  · exact va_Nw.warmF hW h
  · exact va_Nw.warmM hW h
def sOwn (i : Nat) : String := match i with
  | 0 => RX2
  | 1 => RX2
  | 2 => RX4
  | _ => RX6
def sIdx (i : Nat) : Nat := match i with
  | 0 => 56
  | 1 => 126
  | 2 => 59
  | _ => 75
def sTxt (i : Nat) : String := match i with
  | 0 => "price free tier rest mode pause bulk less fee tax"
  | 1 => "adding whole"
  | 2 => "begin change seats stop on quit use days favour pay remind move turn"
  | _ => "chargecreditusage favourturnedfee   "
def sLen : List Nat := [49, 12, 68, 36]
def sByt : List (List Int32) := [[112, 114, 105, 99, 101, 32, 102, 114, 101, 101, 32, 116, 105, 101, 114, 32, 114, 101, 115, 116, 32, 109, 111, 100, 101, 32, 112, 97, 117, 115, 101, 32, 98, 117, 108, 107, 32, 108, 101, 115, 115, 32, 102, 101, 101, 32, 116, 97, 120], [97, 100, 100, 105, 110, 103, 32, 119, 104, 111, 108, 101], [98, 101, 103, 105, 110, 32, 99, 104, 97, 110, 103, 101, 32, 115, 101, 97, 116, 115, 32, 115, 116, 111, 112, 32, 111, 110, 32, 113, 117, 105, 116, 32, 117, 115, 101, 32, 100, 97, 121, 115, 32, 102, 97, 118, 111, 117, 114, 32, 112, 97, 121, 32, 114, 101, 109, 105, 110, 100, 32, 109, 111, 118, 101, 32, 116, 117, 114, 110], [99, 104, 97, 114, 103, 101, 99, 114, 101, 100, 105, 116, 117, 115, 97, 103, 101, 32, 102, 97, 118, 111, 117, 114, 116, 117, 114, 110, 101, 100, 102, 101, 101, 32, 32, 32]]
def folL : List Int32 := [7, 3, 5, 1, 1, 1, 5, 4, 5, 5, 1, 5, 4]
-- the shape of the heap: which cell is what, by its number
def kdL : List Nat := [10, 13, 3, 12, 1, 9, 16, 12, 12, 7, 12, 12, 12, 12, 7, 12, 12, 12, 12, 7, 12, 12, 12, 12, 7, 12, 12, 12, 12, 7, 12, 12, 12, 12, 7, 12, 12, 12, 12, 15, 5, 12, 12, 12, 12, 12, 12, 12, 12, 12, 12, 0, 0, 0, 0, 0, 0, 1, 9, 16, 12, 12, 7, 12, 12, 12, 12, 7, 12, 12, 12, 12, 7, 12, 12, 12, 12, 7, 12, 12, 12, 12, 7, 12, 12, 12, 12, 7, 12, 12, 12, 12, 15, 5, 12, 12, 12, 12, 12, 12, 12, 12, 12, 12, 0, 0, 0, 0, 0, 0, 1, 9, 16, 12, 12, 7, 12, 12, 12, 12, 7, 12, 12, 12, 12, 7, 12, 12, 12, 12, 7, 12, 12, 12, 12, 7, 12, 12, 12, 12, 7, 12, 12, 12, 12, 15, 5, 12, 12, 12, 12, 12, 12, 12, 12, 12, 12, 0, 0, 0, 0, 0, 0, 2, 9, 16, 12, 12, 7, 12, 12, 12, 12, 7, 12, 12, 12, 12, 7, 12, 12, 12, 12, 7, 12, 12, 12, 12, 7, 12, 12, 12, 12, 7, 12, 12, 12, 12, 8, 4, 12, 12, 12, 12, 8, 6, 13, 11, 12, 12, 13, 12, 14, 12, 12, 12, 13, 12]
def lnL : List Nat := [0, 400, 0, 123, 0, 0, 6, 4, 4, 0, 4, 4, 3, 3, 0, 4, 4, 3, 3, 0, 4, 4, 3, 3, 0, 4, 4, 3, 3, 0, 4, 4, 3, 3, 0, 4, 4, 3, 3, 6, 0, 400, 400, 400, 400, 400, 400, 400, 400, 400, 400, 0, 0, 0, 0, 0, 0, 0, 0, 6, 4, 4, 0, 4, 4, 3, 3, 0, 4, 4, 3, 3, 0, 4, 4, 3, 3, 0, 4, 4, 3, 3, 0, 4, 4, 3, 3, 0, 4, 4, 3, 3, 6, 0, 400, 400, 400, 400, 400, 400, 400, 400, 400, 400, 0, 0, 0, 0, 0, 0, 0, 0, 6, 4, 4, 0, 4, 4, 3, 3, 0, 4, 4, 3, 3, 0, 4, 4, 3, 3, 0, 4, 4, 3, 3, 0, 4, 4, 3, 3, 0, 4, 4, 3, 3, 6, 0, 400, 400, 400, 400, 400, 400, 400, 400, 400, 400, 0, 0, 0, 0, 0, 0, 0, 0, 6, 4, 4, 0, 4, 4, 3, 3, 0, 4, 4, 3, 3, 0, 4, 4, 3, 3, 0, 4, 4, 3, 3, 0, 4, 4, 3, 3, 0, 4, 4, 3, 3, 0, 0, 24, 24, 24, 24, 0, 0, 80, 0, 127, 12750, 400, 164, 24, 24, 24, 24, 80, 400]
def rfL : List (List (Option Nat)) := [[some 1, none, some 2, some 4, some 57, some 110, none, some 163, some 199, some 205], [], [some 3], [], [some 2, some 5, some 39, some 40], [some 6, none, none, none, none, some 7, some 8], [some 9, some 14, some 19, some 24, some 29, some 34], [], [], [none, none, none, some 10, some 11, none, none, none, none, some 12, some 13], [], [], [], [], [none, none, none, some 15, some 16, none, none, none, none, some 17, some 18], [], [], [], [], [none, none, none, some 20, some 21, none, none, none, none, some 22, some 23], [], [], [], [], [none, none, none, some 25, some 26, none, none, none, none, some 27, some 28], [], [], [], [], [none, none, none, some 30, some 31, none, none, none, none, some 32, some 33], [], [], [], [], [none, none, none, some 35, some 36, none, none, none, none, some 37, some 38], [], [], [], [], [some 51, some 52, some 53, some 54, some 55, some 56], [none, some 41, some 42, some 43, some 44, some 45, some 46, some 47, some 48, some 49, some 50], [], [], [], [], [], [], [], [], [], [], [], [], [], [], [], [], [some 2, some 58, some 92, some 93], [some 59, none, none, none, none, some 60, some 61], [some 62, some 67, some 72, some 77, some 82, some 87], [], [], [none, none, none, some 63, some 64, none, none, none, none, some 65, some 66], [], [], [], [], [none, none, none, some 68, some 69, none, none, none, none, some 70, some 71], [], [], [], [], [none, none, none, some 73, some 74, none, none, none, none, some 75, some 76], [], [], [], [], [none, none, none, some 78, some 79, none, none, none, none, some 80, some 81], [], [], [], [], [none, none, none, some 83, some 84, none, none, none, none, some 85, some 86], [], [], [], [], [none, none, none, some 88, some 89, none, none, none, none, some 90, some 91], [], [], [], [], [some 104, some 105, some 106, some 107, some 108, some 109], [none, some 94, some 95, some 96, some 97, some 98, some 99, some 100, some 101, some 102, some 103], [], [], [], [], [], [], [], [], [], [], [], [], [], [], [], [], [some 2, some 111, some 145, some 146], [some 112, none, none, none, none, some 113, some 114], [some 115, some 120, some 125, some 130, some 135, some 140], [], [], [none, none, none, some 116, some 117, none, none, none, none, some 118, some 119], [], [], [], [], [none, none, none, some 121, some 122, none, none, none, none, some 123, some 124], [], [], [], [], [none, none, none, some 126, some 127, none, none, none, none, some 128, some 129], [], [], [], [], [none, none, none, some 131, some 132, none, none, none, none, some 133, some 134], [], [], [], [], [none, none, none, some 136, some 137, none, none, none, none, some 138, some 139], [], [], [], [], [none, none, none, some 141, some 142, none, none, none, none, some 143, some 144], [], [], [], [], [some 157, some 158, some 159, some 160, some 161, some 162], [none, some 147, some 148, some 149, some 150, some 151, some 152, some 153, some 154, some 155, some 156], [], [], [], [], [], [], [], [], [], [], [], [], [], [], [], [], [some 198, some 164], [some 165, none, none, none, none, some 166, some 167], [some 168, some 173, some 178, some 183, some 188, some 193], [], [], [none, none, none, some 169, some 170, none, none, none, none, some 171, some 172], [], [], [], [], [none, none, none, some 174, some 175, none, none, none, none, some 176, some 177], [], [], [], [], [none, none, none, some 179, some 180, none, none, none, none, some 181, some 182], [], [], [], [], [none, none, none, some 184, some 185, none, none, none, none, some 186, some 187], [], [], [], [], [none, none, none, some 189, some 190, none, none, none, none, some 191, some 192], [], [], [], [], [none, none, none, some 194, some 195, none, none, none, none, some 196, some 197], [], [], [], [], [some 1], [some 204, none, some 200, some 201, some 202, some 203], [], [], [], [], [some 1], [some 2, some 206], [], [some 208, some 209, none, some 210, none, none, none, none, none, none, none, some 211, none, some 212, some 213, some 214, some 215, none, some 216, none, some 217], [], [], [], [], [], [], [], [], [], []]
def GS : (Nat → Nat) × (Nat → Nat) × (Nat → Nat → Option Nat) := (fun o => kdL.getD o 99, fun o => lnL.getD o 0, fun o k => (rfL.getD o []).getD k none)
