def Wd : List Cond := lw_tbl.filter goodWord
theorem wd_in {w : Cond} (i : Nat) (h : lw_tbl[i]? = some w) (hg : goodWord w = true) : w ∈ Wd := List.mem_filter.mpr ⟨List.mem_of_getElem? h, hg⟩
def nF (c : Nat) : Nat := match c with
  | 0 => 14
  | 1 => 5
  | 2 => 2
  | 3 => 1
  | 4 => 6
  | 5 => 11
  | 6 => 3
  | 7 => 11
  | 8 => 5
  | 9 => 8
  | 10 => 10
  | 11 => 22
  | _ => 0
def fkL : List (List Nat) := [[0, 0, 0, 0, 0, 0, 0, 0, 0, 0, 0, 0, 0, 0], [2, 2, 2, 2, 0], [2, 2], [2], [2, 0, 2, 2, 2, 2], [0, 2, 2, 2, 2, 2, 2, 2, 2, 2, 2], [2, 2, 0], [0, 0, 0, 2, 2, 0, 0, 0, 0, 2, 2], [2, 0, 0, 0, 0], [2, 0, 0, 0, 0, 2, 2, 0], [2, 0, 2, 2, 2, 2, 0, 2, 2, 2], [2, 2, 0, 2, 0, 0, 0, 0, 0, 0, 1, 2, 0, 2, 2, 2, 2, 0, 2, 0, 2, 0]]
def fk (c k : Nat) : Nat := (fkL.getD c []).getD k 0
def NW : List Cond := [.methodLinkNest RX9 24 yX7_init "SlicedBills", .fieldLinkNest RX2 113 "SlicedBills$PlanTerms" "price" "I" "SlicedBills", .fieldLinkNest RX9 76 "SlicedBills$PlanTerms" "price" "I" "SlicedBills", .fieldLinkNest RX2 116 "SlicedBills$PlanTerms" "free" "I" "SlicedBills", .fieldLinkNest RX2 104 "SlicedBills$PlanTerms" "tiers" "I" "SlicedBills", .fieldLinkNest RX2 123 "SlicedBills$PlanTerms" "rest" "I" "SlicedBills", .fieldLinkNest RX2 128 "SlicedBills$PlanTerms" "whole" "Z" "SlicedBills", .fieldLinkNest RX2 132 "SlicedBills$PlanTerms" "paused" "I" "SlicedBills", .fieldLinkNest RX9 74 "SlicedBills$PlanTerms" "paused" "I" "SlicedBills", .fieldLinkNest RX2 109 "SlicedBills$PlanTerms" "bulks" "I" "SlicedBills", .fieldLinkNest RX2 75 "SlicedBills$Tariff" "less" "I" "SlicedBills", .fieldLinkNest RX2 78 "SlicedBills$Tariff" "lessPeriods" "I" "SlicedBills", .fieldLinkNest RX2 81 "SlicedBills$Tariff" "fee" "I" "SlicedBills", .fieldLinkNest RX1 179 "SlicedBills$Tariff" "fee" "I" "SlicedBills", .fieldLinkNest RX2 62 "SlicedBills$Tariff" "taxes" "I" "SlicedBills", .fieldLinkNest RX2 45 "SlicedBills$Tariff" "clauses" "I" "SlicedBills", .fieldLinkNest RX10 96 "SlicedBills$Tariff" "clauses" "I" "SlicedBills", .methodLinkNest RX1 26 yX5_init "SlicedBills", .fieldLinkNest RX10 74 "SlicedBills$Entries" "size" "I" "SlicedBills", .fieldLinkNest RX1 244 "SlicedBills$Entries" "size" "I" "SlicedBills", .fieldLinkNest RX6 51 "SlicedBills$Entries" "kinds" "[I" "SlicedBills", .fieldLinkNest RX1 195 "SlicedBills$Entries" "kinds" "[I" "SlicedBills", .fieldLinkNest RX1 202 "SlicedBills$Entries" "owners" "[I" "SlicedBills", .fieldLinkNest RX10 244 "SlicedBills$Entries" "owners" "[I" "SlicedBills", .fieldLinkNest RX1 234 "SlicedBills$Entries" "writtenOn" "[I" "SlicedBills", .fieldLinkNest RX6 31 "SlicedBills$Entries" "numbers" "[I" "SlicedBills", .fieldLinkNest RX1 208 "SlicedBills$Entries" "numbers" "[I" "SlicedBills", .fieldLinkNest RX6 39 "SlicedBills$Entries" "firsts" "[I" "SlicedBills", .fieldLinkNest RX1 214 "SlicedBills$Entries" "firsts" "[I" "SlicedBills", .fieldLinkNest RX6 45 "SlicedBills$Entries" "ends" "[I" "SlicedBills", .fieldLinkNest RX1 217 "SlicedBills$Entries" "ends" "[I" "SlicedBills", .fieldLinkNest RX6 48 "SlicedBills$Entries" "plans" "[I" "SlicedBills", .fieldLinkNest RX1 211 "SlicedBills$Entries" "plans" "[I" "SlicedBills", .fieldLinkNest RX6 57 "SlicedBills$Entries" "cents" "[I" "SlicedBills", .fieldLinkNest RX10 129 "SlicedBills$Entries" "cents" "[I" "SlicedBills", .fieldLinkNest RX1 205 "SlicedBills$Entries" "cents" "[I" "SlicedBills", .fieldLinkNest RX1 199 "SlicedBills$Entries" "turnedBy" "[I" "SlicedBills", .fieldLinkNest RX1 66 "SlicedBills$Account" "index" "I" "SlicedBills", .fieldLinkNest RX1 56 "SlicedBills$Account" "begun" "Z" "SlicedBills", .fieldLinkNest RX1 63 "SlicedBills$Account" "ended" "Z" "SlicedBills", .fieldLinkNest RX9 70 "SlicedBills$Account" "paused" "Z" "SlicedBills", .fieldLinkNest RX1 159 "SlicedBills$Account" "paused" "Z" "SlicedBills", .fieldLinkNest RX1 76 "SlicedBills$Account" "plan" "I" "SlicedBills", .fieldLinkNest RX10 182 "SlicedBills$Account" "plan" "I" "SlicedBills", .fieldLinkNest RX1 117 "SlicedBills$Account" "anchor" "I" "SlicedBills", .fieldLinkNest RX9 58 "SlicedBills$Account" "seats" "I" "SlicedBills", .fieldLinkNest RX1 140 "SlicedBills$Account" "seats" "I" "SlicedBills", .fieldLinkNest RX1 73 "SlicedBills$Account" "number" "I" "SlicedBills", .fieldLinkNest RX9 67 "SlicedBills$Account" "number" "I" "SlicedBills", .fieldLinkNest RX1 114 "SlicedBills$Account" "first" "I" "SlicedBills", .fieldLinkNest RX1 86 "SlicedBills$Account" "end" "I" "SlicedBills", .fieldLinkNest RX10 219 "SlicedBills$Account" "end" "I" "SlicedBills", .fieldLinkNest RX1 125 "SlicedBills$Account" "spanFirst" "I" "SlicedBills", .fieldLinkNest RX1 105 "SlicedBills$Account" "units" "I" "SlicedBills", .fieldLinkNest RX1 168 "SlicedBills$Account" "paid" "I" "SlicedBills", .fieldLinkNest RX10 195 "SlicedBills$Account" "paid" "I" "SlicedBills", .fieldLinkNest RX1 83 "SlicedBills$Account" "all" "I" "SlicedBills", .fieldLinkNest RX10 120 "SlicedBills$Account" "all" "I" "SlicedBills", .fieldLinkNest RX10 83 "SlicedBills$Biller" "tariff" "LSlicedBills$Tariff;" "SlicedBills", .fieldLinkNest RX10 116 "SlicedBills$Biller" "accounts" "[LSlicedBills$Account;" "SlicedBills", .fieldLinkNest RX10 70 "SlicedBills$Biller" "entries" "LSlicedBills$Entries;" "SlicedBills", .fieldLinkNest RX10 137 "SlicedBills$Biller" "today" "I" "SlicedBills", .fieldLinkNest RX4 41 "SlicedBills$Reader" "place" "I" "SlicedBills", .fieldLinkNest RX2 34 "SlicedBills$Reader" "place" "I" "SlicedBills", .fieldLinkNest RX10 87 "SlicedBills$BookText" "draft" "LSlicedBills$Tariff;" "SlicedBills", .fieldLinkNest RX10 100 "SlicedBills$DeedText" "steps" "I" "SlicedBills", .fieldLinkNest RX10 259 "SlicedBills$LineText" "length" "I" "SlicedBills", .methodLinkNest RX1 52 yX10_isAccount "SlicedBills", .methodLinkNest RX1 131 yX10_isPlan "SlicedBills", .methodLinkNest RX1 134 yX10_isAnchor "SlicedBills", .methodLinkNest RX1 231 yX5_isOf "SlicedBills", .methodLinkNest RX7 75 yX10_tellOf "SlicedBills", .methodLinkNest RX9 82 yX10_tellOf "SlicedBills"]
theorem NW_tab : ∀ w ∈ NW, w.onTables = true := by decide +kernel
theorem NW_form : ∀ w ∈ NW, (∃ a i b n d h, w = .fieldLinkNest a i b n d h) ∨ (∃ a i x h, w = .methodLinkNest a i x h) := by
  unfold NW
  refine List.forall_mem_cons.mpr ⟨Or.inr ⟨_, _, _, _, rfl⟩, ?_⟩
  refine List.forall_mem_cons.mpr ⟨Or.inl ⟨_, _, _, _, _, _, rfl⟩, ?_⟩
  refine List.forall_mem_cons.mpr ⟨Or.inl ⟨_, _, _, _, _, _, rfl⟩, ?_⟩
  refine List.forall_mem_cons.mpr ⟨Or.inl ⟨_, _, _, _, _, _, rfl⟩, ?_⟩
  refine List.forall_mem_cons.mpr ⟨Or.inl ⟨_, _, _, _, _, _, rfl⟩, ?_⟩
  refine List.forall_mem_cons.mpr ⟨Or.inl ⟨_, _, _, _, _, _, rfl⟩, ?_⟩
  refine List.forall_mem_cons.mpr ⟨Or.inl ⟨_, _, _, _, _, _, rfl⟩, ?_⟩
  refine List.forall_mem_cons.mpr ⟨Or.inl ⟨_, _, _, _, _, _, rfl⟩, ?_⟩
  refine List.forall_mem_cons.mpr ⟨Or.inl ⟨_, _, _, _, _, _, rfl⟩, ?_⟩
  refine List.forall_mem_cons.mpr ⟨Or.inl ⟨_, _, _, _, _, _, rfl⟩, ?_⟩
  refine List.forall_mem_cons.mpr ⟨Or.inl ⟨_, _, _, _, _, _, rfl⟩, ?_⟩
  refine List.forall_mem_cons.mpr ⟨Or.inl ⟨_, _, _, _, _, _, rfl⟩, ?_⟩
  refine List.forall_mem_cons.mpr ⟨Or.inl ⟨_, _, _, _, _, _, rfl⟩, ?_⟩
  refine List.forall_mem_cons.mpr ⟨Or.inl ⟨_, _, _, _, _, _, rfl⟩, ?_⟩
  refine List.forall_mem_cons.mpr ⟨Or.inl ⟨_, _, _, _, _, _, rfl⟩, ?_⟩
  refine List.forall_mem_cons.mpr ⟨Or.inl ⟨_, _, _, _, _, _, rfl⟩, ?_⟩
  refine List.forall_mem_cons.mpr ⟨Or.inl ⟨_, _, _, _, _, _, rfl⟩, ?_⟩
  refine List.forall_mem_cons.mpr ⟨Or.inr ⟨_, _, _, _, rfl⟩, ?_⟩
  refine List.forall_mem_cons.mpr ⟨Or.inl ⟨_, _, _, _, _, _, rfl⟩, ?_⟩
  refine List.forall_mem_cons.mpr ⟨Or.inl ⟨_, _, _, _, _, _, rfl⟩, ?_⟩
  refine List.forall_mem_cons.mpr ⟨Or.inl ⟨_, _, _, _, _, _, rfl⟩, ?_⟩
  refine List.forall_mem_cons.mpr ⟨Or.inl ⟨_, _, _, _, _, _, rfl⟩, ?_⟩
  refine List.forall_mem_cons.mpr ⟨Or.inl ⟨_, _, _, _, _, _, rfl⟩, ?_⟩
  refine List.forall_mem_cons.mpr ⟨Or.inl ⟨_, _, _, _, _, _, rfl⟩, ?_⟩
  refine List.forall_mem_cons.mpr ⟨Or.inl ⟨_, _, _, _, _, _, rfl⟩, ?_⟩
  refine List.forall_mem_cons.mpr ⟨Or.inl ⟨_, _, _, _, _, _, rfl⟩, ?_⟩
  refine List.forall_mem_cons.mpr ⟨Or.inl ⟨_, _, _, _, _, _, rfl⟩, ?_⟩
  refine List.forall_mem_cons.mpr ⟨Or.inl ⟨_, _, _, _, _, _, rfl⟩, ?_⟩
  refine List.forall_mem_cons.mpr ⟨Or.inl ⟨_, _, _, _, _, _, rfl⟩, ?_⟩
  refine List.forall_mem_cons.mpr ⟨Or.inl ⟨_, _, _, _, _, _, rfl⟩, ?_⟩
  refine List.forall_mem_cons.mpr ⟨Or.inl ⟨_, _, _, _, _, _, rfl⟩, ?_⟩
  refine List.forall_mem_cons.mpr ⟨Or.inl ⟨_, _, _, _, _, _, rfl⟩, ?_⟩
  refine List.forall_mem_cons.mpr ⟨Or.inl ⟨_, _, _, _, _, _, rfl⟩, ?_⟩
  refine List.forall_mem_cons.mpr ⟨Or.inl ⟨_, _, _, _, _, _, rfl⟩, ?_⟩
  refine List.forall_mem_cons.mpr ⟨Or.inl ⟨_, _, _, _, _, _, rfl⟩, ?_⟩
  refine List.forall_mem_cons.mpr ⟨Or.inl ⟨_, _, _, _, _, _, rfl⟩, ?_⟩
  refine List.forall_mem_cons.mpr ⟨Or.inl ⟨_, _, _, _, _, _, rfl⟩, ?_⟩
  refine List.forall_mem_cons.mpr ⟨Or.inl ⟨_, _, _, _, _, _, rfl⟩, ?_⟩
  refine List.forall_mem_cons.mpr ⟨Or.inl ⟨_, _, _, _, _, _, rfl⟩, ?_⟩
  refine List.forall_mem_cons.mpr ⟨Or.inl ⟨_, _, _, _, _, _, rfl⟩, ?_⟩
  refine List.forall_mem_cons.mpr ⟨Or.inl ⟨_, _, _, _, _, _, rfl⟩, ?_⟩
  refine List.forall_mem_cons.mpr ⟨Or.inl ⟨_, _, _, _, _, _, rfl⟩, ?_⟩
  refine List.forall_mem_cons.mpr ⟨Or.inl ⟨_, _, _, _, _, _, rfl⟩, ?_⟩
  refine List.forall_mem_cons.mpr ⟨Or.inl ⟨_, _, _, _, _, _, rfl⟩, ?_⟩
  refine List.forall_mem_cons.mpr ⟨Or.inl ⟨_, _, _, _, _, _, rfl⟩, ?_⟩
  refine List.forall_mem_cons.mpr ⟨Or.inl ⟨_, _, _, _, _, _, rfl⟩, ?_⟩
  refine List.forall_mem_cons.mpr ⟨Or.inl ⟨_, _, _, _, _, _, rfl⟩, ?_⟩
  refine List.forall_mem_cons.mpr ⟨Or.inl ⟨_, _, _, _, _, _, rfl⟩, ?_⟩
  refine List.forall_mem_cons.mpr ⟨Or.inl ⟨_, _, _, _, _, _, rfl⟩, ?_⟩
  refine List.forall_mem_cons.mpr ⟨Or.inl ⟨_, _, _, _, _, _, rfl⟩, ?_⟩
  refine List.forall_mem_cons.mpr ⟨Or.inl ⟨_, _, _, _, _, _, rfl⟩, ?_⟩
  refine List.forall_mem_cons.mpr ⟨Or.inl ⟨_, _, _, _, _, _, rfl⟩, ?_⟩
  refine List.forall_mem_cons.mpr ⟨Or.inl ⟨_, _, _, _, _, _, rfl⟩, ?_⟩
  refine List.forall_mem_cons.mpr ⟨Or.inl ⟨_, _, _, _, _, _, rfl⟩, ?_⟩
  refine List.forall_mem_cons.mpr ⟨Or.inl ⟨_, _, _, _, _, _, rfl⟩, ?_⟩
  refine List.forall_mem_cons.mpr ⟨Or.inl ⟨_, _, _, _, _, _, rfl⟩, ?_⟩
  refine List.forall_mem_cons.mpr ⟨Or.inl ⟨_, _, _, _, _, _, rfl⟩, ?_⟩
  refine List.forall_mem_cons.mpr ⟨Or.inl ⟨_, _, _, _, _, _, rfl⟩, ?_⟩
  refine List.forall_mem_cons.mpr ⟨Or.inl ⟨_, _, _, _, _, _, rfl⟩, ?_⟩
  refine List.forall_mem_cons.mpr ⟨Or.inl ⟨_, _, _, _, _, _, rfl⟩, ?_⟩
  refine List.forall_mem_cons.mpr ⟨Or.inl ⟨_, _, _, _, _, _, rfl⟩, ?_⟩
  refine List.forall_mem_cons.mpr ⟨Or.inl ⟨_, _, _, _, _, _, rfl⟩, ?_⟩
  refine List.forall_mem_cons.mpr ⟨Or.inl ⟨_, _, _, _, _, _, rfl⟩, ?_⟩
  refine List.forall_mem_cons.mpr ⟨Or.inl ⟨_, _, _, _, _, _, rfl⟩, ?_⟩
  refine List.forall_mem_cons.mpr ⟨Or.inl ⟨_, _, _, _, _, _, rfl⟩, ?_⟩
  refine List.forall_mem_cons.mpr ⟨Or.inl ⟨_, _, _, _, _, _, rfl⟩, ?_⟩
  refine List.forall_mem_cons.mpr ⟨Or.inl ⟨_, _, _, _, _, _, rfl⟩, ?_⟩
  refine List.forall_mem_cons.mpr ⟨Or.inr ⟨_, _, _, _, rfl⟩, ?_⟩
  refine List.forall_mem_cons.mpr ⟨Or.inr ⟨_, _, _, _, rfl⟩, ?_⟩
  refine List.forall_mem_cons.mpr ⟨Or.inr ⟨_, _, _, _, rfl⟩, ?_⟩
  refine List.forall_mem_cons.mpr ⟨Or.inr ⟨_, _, _, _, rfl⟩, ?_⟩
  refine List.forall_mem_cons.mpr ⟨Or.inr ⟨_, _, _, _, rfl⟩, ?_⟩
  refine List.forall_mem_cons.mpr ⟨Or.inr ⟨_, _, _, _, rfl⟩, ?_⟩
  exact fun _ h => absurd h List.not_mem_nil
theorem NW_warm {s U : State} (hW : s.WarmedH U.vm) : ∀ w ∈ NW, va_Nw w s → va_Nw w U := by
  intro w hw h
  rcases NW_form w hw with ⟨_, _, _, _, _, _, rfl⟩ | ⟨_, _, _, _, rfl⟩
  · exact va_Nw.warmF hW h
  · exact va_Nw.warmM hW h
def sOwn (i : Nat) : String := match i with
  | 0 => RX2
  | 1 => RX2
  | 2 => RX4
  | _ => RX6
def sIdx (i : Nat) : Nat := match i with
  | 0 => 56
  | 1 => 126
  | 2 => 59
  | _ => 75
def sTxt (i : Nat) : String := match i with
  | 0 => "price free tier rest mode pause bulk less fee tax"
  | 1 => "adding whole"
  | 2 => "begin change seats stop on quit use days favour pay remind move turn"
  | _ => "chargecreditusage favourturnedfee   "
-- the shape of the heap: which cell is what, by its number
