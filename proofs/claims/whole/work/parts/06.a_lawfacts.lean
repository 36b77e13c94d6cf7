/-! what the law wants of the tables -/
def WL_0 : List Cond := [.methodLink RL 13 yX10_feed, .code yX10_feed cX10_feed 6 (some (.int)), .initialized RX10, .instanceMethod yX10_feed, .selects "SlicedBills" yX10_feed yX10_feed, .methodLink RL 17 yX11_feed, .code yX11_feed cX11_feed 6 (some (.int)), .initialized RX11, .instanceMethod yX11_feed, .selects "SlicedBillsModel" yX11_feed yX11_feed, .methodLink RL 18 yX10_book, .code yX10_book cX10_book 3 (some (.int)), .instanceMethod yX10_book, .selects "SlicedBills" yX10_book yX10_book, .methodLink RL 22 yX11_book, .code yX11_book cX11_book 4 (some (.int)), .instanceMethod yX11_book, .selects "SlicedBillsModel" yX11_book yX11_book, .methodLink RL 23 yX10_begin, .code yX10_begin cX10_begin 4 (some (.int)), .instanceMethod yX10_begin, .selects "SlicedBills" yX10_begin yX10_begin, .methodLink RL 27 yX11_begin, .code yX11_begin cX11_begin 5 (some (.int)), .instanceMethod yX11_begin, .selects "SlicedBillsModel" yX11_begin yX11_begin, .methodLink RL 28 yX10_change, .code yX10_change cX10_change 3 (some (.int)), .instanceMethod yX10_change, .selects "SlicedBills" yX10_change yX10_change, .methodLink RL 32 yX11_change, .code yX11_change cX11_change 4 (some (.int)), .instanceMethod yX11_change, .selects "SlicedBillsModel" yX11_change yX11_change, .methodLink RL 33 yX10_seats, .code yX10_seats cX10_seats 3 (some (.int)), .instanceMethod yX10_seats, .selects "SlicedBills" yX10_seats yX10_seats, .methodLink RL 36 yX11_seats, .code yX11_seats cX11_seats 4 (some (.int))]
theorem WL_0_in : ∀ w ∈ WL_0, w ∈ Wd := ws_in _ [496, 499, 95, 497, 498, 1425, 1428, 106, 1426, 1427, 504, 507, 505, 506, 1433, 1436, 1434, 1435, 948, 951, 949, 950, 1546, 1549, 1547, 1548, 953, 956, 954, 955, 1585, 1588, 1586, 1587, 958, 961, 959, 960, 1599, 1602] (by decide +kernel) (by decide +kernel)
theorem wl_0 : Cond.methodLink RL 13 yX10_feed ∈ Wd := WL_0_in _ (List.mem_of_getElem? (i := 0) rfl)
theorem wl_1 : Cond.code yX10_feed cX10_feed 6 (some (.int)) ∈ Wd := WL_0_in _ (List.mem_of_getElem? (i := 1) rfl)
theorem wl_2 : Cond.initialized RX10 ∈ Wd := WL_0_in _ (List.mem_of_getElem? (i := 2) rfl)
theorem wl_3 : Cond.instanceMethod yX10_feed ∈ Wd := WL_0_in _ (List.mem_of_getElem? (i := 3) rfl)
theorem wl_4 : Cond.selects "SlicedBills" yX10_feed yX10_feed ∈ Wd := WL_0_in _ (List.mem_of_getElem? (i := 4) rfl)
theorem wl_5 : Cond.methodLink RL 17 yX11_feed ∈ Wd := WL_0_in _ (List.mem_of_getElem? (i := 5) rfl)
theorem wl_6 : Cond.code yX11_feed cX11_feed 6 (some (.int)) ∈ Wd := WL_0_in _ (List.mem_of_getElem? (i := 6) rfl)
theorem wl_7 : Cond.initialized RX11 ∈ Wd := WL_0_in _ (List.mem_of_getElem? (i := 7) rfl)
theorem wl_8 : Cond.instanceMethod yX11_feed ∈ Wd := WL_0_in _ (List.mem_of_getElem? (i := 8) rfl)
theorem wl_9 : Cond.selects "SlicedBillsModel" yX11_feed yX11_feed ∈ Wd := WL_0_in _ (List.mem_of_getElem? (i := 9) rfl)
theorem wl_10 : Cond.methodLink RL 18 yX10_book ∈ Wd := WL_0_in _ (List.mem_of_getElem? (i := 10) rfl)
theorem wl_11 : Cond.code yX10_book cX10_book 3 (some (.int)) ∈ Wd := WL_0_in _ (List.mem_of_getElem? (i := 11) rfl)
theorem wl_12 : Cond.instanceMethod yX10_book ∈ Wd := WL_0_in _ (List.mem_of_getElem? (i := 12) rfl)
theorem wl_13 : Cond.selects "SlicedBills" yX10_book yX10_book ∈ Wd := WL_0_in _ (List.mem_of_getElem? (i := 13) rfl)
theorem wl_14 : Cond.methodLink RL 22 yX11_book ∈ Wd := WL_0_in _ (List.mem_of_getElem? (i := 14) rfl)
theorem wl_15 : Cond.code yX11_book cX11_book 4 (some (.int)) ∈ Wd := WL_0_in _ (List.mem_of_getElem? (i := 15) rfl)
theorem wl_16 : Cond.instanceMethod yX11_book ∈ Wd := WL_0_in _ (List.mem_of_getElem? (i := 16) rfl)
theorem wl_17 : Cond.selects "SlicedBillsModel" yX11_book yX11_book ∈ Wd := WL_0_in _ (List.mem_of_getElem? (i := 17) rfl)
theorem wl_18 : Cond.methodLink RL 23 yX10_begin ∈ Wd := WL_0_in _ (List.mem_of_getElem? (i := 18) rfl)
theorem wl_19 : Cond.code yX10_begin cX10_begin 4 (some (.int)) ∈ Wd := WL_0_in _ (List.mem_of_getElem? (i := 19) rfl)
theorem wl_20 : Cond.instanceMethod yX10_begin ∈ Wd := WL_0_in _ (List.mem_of_getElem? (i := 20) rfl)
theorem wl_21 : Cond.selects "SlicedBills" yX10_begin yX10_begin ∈ Wd := WL_0_in _ (List.mem_of_getElem? (i := 21) rfl)
theorem wl_22 : Cond.methodLink RL 27 yX11_begin ∈ Wd := WL_0_in _ (List.mem_of_getElem? (i := 22) rfl)
theorem wl_23 : Cond.code yX11_begin cX11_begin 5 (some (.int)) ∈ Wd := WL_0_in _ (List.mem_of_getElem? (i := 23) rfl)
theorem wl_24 : Cond.instanceMethod yX11_begin ∈ Wd := WL_0_in _ (List.mem_of_getElem? (i := 24) rfl)
theorem wl_25 : Cond.selects "SlicedBillsModel" yX11_begin yX11_begin ∈ Wd := WL_0_in _ (List.mem_of_getElem? (i := 25) rfl)
theorem wl_26 : Cond.methodLink RL 28 yX10_change ∈ Wd := WL_0_in _ (List.mem_of_getElem? (i := 26) rfl)
theorem wl_27 : Cond.code yX10_change cX10_change 3 (some (.int)) ∈ Wd := WL_0_in _ (List.mem_of_getElem? (i := 27) rfl)
theorem wl_28 : Cond.instanceMethod yX10_change ∈ Wd := WL_0_in _ (List.mem_of_getElem? (i := 28) rfl)
theorem wl_29 : Cond.selects "SlicedBills" yX10_change yX10_change ∈ Wd := WL_0_in _ (List.mem_of_getElem? (i := 29) rfl)
theorem wl_30 : Cond.methodLink RL 32 yX11_change ∈ Wd := WL_0_in _ (List.mem_of_getElem? (i := 30) rfl)
theorem wl_31 : Cond.code yX11_change cX11_change 4 (some (.int)) ∈ Wd := WL_0_in _ (List.mem_of_getElem? (i := 31) rfl)
theorem wl_32 : Cond.instanceMethod yX11_change ∈ Wd := WL_0_in _ (List.mem_of_getElem? (i := 32) rfl)
theorem wl_33 : Cond.selects "SlicedBillsModel" yX11_change yX11_change ∈ Wd := WL_0_in _ (List.mem_of_getElem? (i := 33) rfl)
theorem wl_34 : Cond.methodLink RL 33 yX10_seats ∈ Wd := WL_0_in _ (List.mem_of_getElem? (i := 34) rfl)
theorem wl_35 : Cond.code yX10_seats cX10_seats 3 (some (.int)) ∈ Wd := WL_0_in _ (List.mem_of_getElem? (i := 35) rfl)
theorem wl_36 : Cond.instanceMethod yX10_seats ∈ Wd := WL_0_in _ (List.mem_of_getElem? (i := 36) rfl)
theorem wl_37 : Cond.selects "SlicedBills" yX10_seats yX10_seats ∈ Wd := WL_0_in _ (List.mem_of_getElem? (i := 37) rfl)
theorem wl_38 : Cond.methodLink RL 36 yX11_seats ∈ Wd := WL_0_in _ (List.mem_of_getElem? (i := 38) rfl)
theorem wl_39 : Cond.code yX11_seats cX11_seats 4 (some (.int)) ∈ Wd := WL_0_in _ (List.mem_of_getElem? (i := 39) rfl)
def WL_1 : List Cond := [.instanceMethod yX11_seats, .selects "SlicedBillsModel" yX11_seats yX11_seats, .methodLink RL 37 yX10_tax, .code yX10_tax cX10_tax 2 (some (.int)), .instanceMethod yX10_tax, .selects "SlicedBills" yX10_tax yX10_tax, .methodLink RL 40 yX11_tax, .code yX11_tax cX11_tax 4 (some (.int)), .instanceMethod yX11_tax, .selects "SlicedBillsModel" yX11_tax yX11_tax, .methodLink RL 41 yX10_taxes, .code yX10_taxes cX10_taxes 3 (some (.int)), .instanceMethod yX10_taxes, .selects "SlicedBills" yX10_taxes yX10_taxes, .methodLink RL 44 yX11_taxes, .code yX11_taxes cX11_taxes 3 (some (.int)), .instanceMethod yX11_taxes, .selects "SlicedBillsModel" yX11_taxes yX11_taxes, .methodLink RL 45 yX10_pause, .code yX10_pause cX10_pause 3 (some (.int)), .instanceMethod yX10_pause, .selects "SlicedBills" yX10_pause yX10_pause, .methodLink RL 49 yX11_pause, .code yX11_pause cX11_pause 4 (some (.int)), .instanceMethod yX11_pause, .selects "SlicedBillsModel" yX11_pause yX11_pause, .methodLink RL 50 yX10_giveUp, .code yX10_giveUp cX10_giveUp 2 (some (.int)), .instanceMethod yX10_giveUp, .selects "SlicedBills" yX10_giveUp yX10_giveUp, .methodLink RL 53 yX11_giveUp, .code yX11_giveUp cX11_giveUp 3 (some (.int)), .instanceMethod yX11_giveUp, .selects "SlicedBillsModel" yX11_giveUp yX11_giveUp, .methodLink RL 54 yX10_move, .code yX10_move cX10_move 3 (some (.int)), .instanceMethod yX10_move, .selects "SlicedBills" yX10_move yX10_move, .methodLink RL 57 yX11_move, .code yX11_move cX11_move 4 (some (.int))]
theorem WL_1_in : ∀ w ∈ WL_1, w ∈ Wd := ws_in _ [1600, 1601, 1109, 1112, 1110, 1111, 1834, 1837, 1835, 1836, 1059, 1062, 1060, 1061, 1846, 1849, 1847, 1848, 963, 966, 964, 965, 1603, 1606, 1604, 1605, 968, 971, 969, 970, 1607, 1610, 1608, 1609, 973, 976, 974, 975, 1615, 1618] (by decide +kernel) (by decide +kernel)
theorem wl_40 : Cond.instanceMethod yX11_seats ∈ Wd := WL_1_in _ (List.mem_of_getElem? (i := 0) rfl)
theorem wl_41 : Cond.selects "SlicedBillsModel" yX11_seats yX11_seats ∈ Wd := WL_1_in _ (List.mem_of_getElem? (i := 1) rfl)
theorem wl_42 : Cond.methodLink RL 37 yX10_tax ∈ Wd := WL_1_in _ (List.mem_of_getElem? (i := 2) rfl)
theorem wl_43 : Cond.code yX10_tax cX10_tax 2 (some (.int)) ∈ Wd := WL_1_in _ (List.mem_of_getElem? (i := 3) rfl)
theorem wl_44 : Cond.instanceMethod yX10_tax ∈ Wd := WL_1_in _ (List.mem_of_getElem? (i := 4) rfl)
theorem wl_45 : Cond.selects "SlicedBills" yX10_tax yX10_tax ∈ Wd := WL_1_in _ (List.mem_of_getElem? (i := 5) rfl)
theorem wl_46 : Cond.methodLink RL 40 yX11_tax ∈ Wd := WL_1_in _ (List.mem_of_getElem? (i := 6) rfl)
theorem wl_47 : Cond.code yX11_tax cX11_tax 4 (some (.int)) ∈ Wd := WL_1_in _ (List.mem_of_getElem? (i := 7) rfl)
theorem wl_48 : Cond.instanceMethod yX11_tax ∈ Wd := WL_1_in _ (List.mem_of_getElem? (i := 8) rfl)
theorem wl_49 : Cond.selects "SlicedBillsModel" yX11_tax yX11_tax ∈ Wd := WL_1_in _ (List.mem_of_getElem? (i := 9) rfl)
theorem wl_50 : Cond.methodLink RL 41 yX10_taxes ∈ Wd := WL_1_in _ (List.mem_of_getElem? (i := 10) rfl)
theorem wl_51 : Cond.code yX10_taxes cX10_taxes 3 (some (.int)) ∈ Wd := WL_1_in _ (List.mem_of_getElem? (i := 11) rfl)
theorem wl_52 : Cond.instanceMethod yX10_taxes ∈ Wd := WL_1_in _ (List.mem_of_getElem? (i := 12) rfl)
theorem wl_53 : Cond.selects "SlicedBills" yX10_taxes yX10_taxes ∈ Wd := WL_1_in _ (List.mem_of_getElem? (i := 13) rfl)
theorem wl_54 : Cond.methodLink RL 44 yX11_taxes ∈ Wd := WL_1_in _ (List.mem_of_getElem? (i := 14) rfl)
theorem wl_55 : Cond.code yX11_taxes cX11_taxes 3 (some (.int)) ∈ Wd := WL_1_in _ (List.mem_of_getElem? (i := 15) rfl)
theorem wl_56 : Cond.instanceMethod yX11_taxes ∈ Wd := WL_1_in _ (List.mem_of_getElem? (i := 16) rfl)
theorem wl_57 : Cond.selects "SlicedBillsModel" yX11_taxes yX11_taxes ∈ Wd := WL_1_in _ (List.mem_of_getElem? (i := 17) rfl)
theorem wl_58 : Cond.methodLink RL 45 yX10_pause ∈ Wd := WL_1_in _ (List.mem_of_getElem? (i := 18) rfl)
theorem wl_59 : Cond.code yX10_pause cX10_pause 3 (some (.int)) ∈ Wd := WL_1_in _ (List.mem_of_getElem? (i := 19) rfl)
theorem wl_60 : Cond.instanceMethod yX10_pause ∈ Wd := WL_1_in _ (List.mem_of_getElem? (i := 20) rfl)
theorem wl_61 : Cond.selects "SlicedBills" yX10_pause yX10_pause ∈ Wd := WL_1_in _ (List.mem_of_getElem? (i := 21) rfl)
theorem wl_62 : Cond.methodLink RL 49 yX11_pause ∈ Wd := WL_1_in _ (List.mem_of_getElem? (i := 22) rfl)
theorem wl_63 : Cond.code yX11_pause cX11_pause 4 (some (.int)) ∈ Wd := WL_1_in _ (List.mem_of_getElem? (i := 23) rfl)
theorem wl_64 : Cond.instanceMethod yX11_pause ∈ Wd := WL_1_in _ (List.mem_of_getElem? (i := 24) rfl)
theorem wl_65 : Cond.selects "SlicedBillsModel" yX11_pause yX11_pause ∈ Wd := WL_1_in _ (List.mem_of_getElem? (i := 25) rfl)
theorem wl_66 : Cond.methodLink RL 50 yX10_giveUp ∈ Wd := WL_1_in _ (List.mem_of_getElem? (i := 26) rfl)
theorem wl_67 : Cond.code yX10_giveUp cX10_giveUp 2 (some (.int)) ∈ Wd := WL_1_in _ (List.mem_of_getElem? (i := 27) rfl)
theorem wl_68 : Cond.instanceMethod yX10_giveUp ∈ Wd := WL_1_in _ (List.mem_of_getElem? (i := 28) rfl)
theorem wl_69 : Cond.selects "SlicedBills" yX10_giveUp yX10_giveUp ∈ Wd := WL_1_in _ (List.mem_of_getElem? (i := 29) rfl)
theorem wl_70 : Cond.methodLink RL 53 yX11_giveUp ∈ Wd := WL_1_in _ (List.mem_of_getElem? (i := 30) rfl)
theorem wl_71 : Cond.code yX11_giveUp cX11_giveUp 3 (some (.int)) ∈ Wd := WL_1_in _ (List.mem_of_getElem? (i := 31) rfl)
theorem wl_72 : Cond.instanceMethod yX11_giveUp ∈ Wd := WL_1_in _ (List.mem_of_getElem? (i := 32) rfl)
theorem wl_73 : Cond.selects "SlicedBillsModel" yX11_giveUp yX11_giveUp ∈ Wd := WL_1_in _ (List.mem_of_getElem? (i := 33) rfl)
theorem wl_74 : Cond.methodLink RL 54 yX10_move ∈ Wd := WL_1_in _ (List.mem_of_getElem? (i := 34) rfl)
theorem wl_75 : Cond.code yX10_move cX10_move 3 (some (.int)) ∈ Wd := WL_1_in _ (List.mem_of_getElem? (i := 35) rfl)
theorem wl_76 : Cond.instanceMethod yX10_move ∈ Wd := WL_1_in _ (List.mem_of_getElem? (i := 36) rfl)
theorem wl_77 : Cond.selects "SlicedBills" yX10_move yX10_move ∈ Wd := WL_1_in _ (List.mem_of_getElem? (i := 37) rfl)
theorem wl_78 : Cond.methodLink RL 57 yX11_move ∈ Wd := WL_1_in _ (List.mem_of_getElem? (i := 38) rfl)
theorem wl_79 : Cond.code yX11_move cX11_move 4 (some (.int)) ∈ Wd := WL_1_in _ (List.mem_of_getElem? (i := 39) rfl)
def WL_2 : List Cond := [.instanceMethod yX11_move, .selects "SlicedBillsModel" yX11_move yX11_move, .methodLink RL 58 yX10_deeds, .code yX10_deeds cX10_deeds 4 (some (.int)), .instanceMethod yX10_deeds, .selects "SlicedBills" yX10_deeds yX10_deeds, .methodLink RL 61 yX11_deeds, .code yX11_deeds cX11_deeds 2 (some (.int)), .instanceMethod yX11_deeds, .selects "SlicedBillsModel" yX11_deeds yX11_deeds, .methodLink RL 62 yX10_tried, .code yX10_tried cX10_tried 5 (some (.int)), .instanceMethod yX10_tried, .selects "SlicedBills" yX10_tried yX10_tried, .methodLink RL 65 yX11_tried, .code yX11_tried cX11_tried 4 (some (.int)), .instanceMethod yX11_tried, .selects "SlicedBillsModel" yX11_tried yX11_tried, .methodLink RL 66 yX10_use, .code yX10_use cX10_use 3 (some (.int)), .instanceMethod yX10_use, .selects "SlicedBills" yX10_use yX10_use, .methodLink RL 69 yX11_use, .code yX11_use cX11_use 3 (some (.int)), .instanceMethod yX11_use, .selects "SlicedBillsModel" yX11_use yX11_use, .methodLink RL 70 yX10_days, .code yX10_days cX10_days 2 (some (.int)), .instanceMethod yX10_days, .selects "SlicedBills" yX10_days yX10_days, .methodLink RL 73 yX11_days, .code yX11_days cX11_days 2 (some (.int)), .instanceMethod yX11_days, .selects "SlicedBillsModel" yX11_days yX11_days, .methodLink RL 74 yX10_favour, .code yX10_favour cX10_favour 3 (some (.int)), .instanceMethod yX10_favour, .selects "SlicedBills" yX10_favour yX10_favour, .methodLink RL 77 yX11_favour, .code yX11_favour cX11_favour 3 (some (.int))]
theorem WL_2_in : ∀ w ∈ WL_2, w ∈ Wd := ws_in _ [1616, 1617, 686, 689, 687, 688, 1660, 1663, 1661, 1662, 909, 912, 910, 911, 1739, 1742, 1740, 1741, 978, 981, 979, 980, 1620, 1623, 1621, 1622, 983, 986, 984, 985, 1624, 1627, 1625, 1626, 988, 991, 989, 990, 1640, 1643] (by decide +kernel) (by decide +kernel)
theorem wl_80 : Cond.instanceMethod yX11_move ∈ Wd := WL_2_in _ (List.mem_of_getElem? (i := 0) rfl)
theorem wl_81 : Cond.selects "SlicedBillsModel" yX11_move yX11_move ∈ Wd := WL_2_in _ (List.mem_of_getElem? (i := 1) rfl)
theorem wl_82 : Cond.methodLink RL 58 yX10_deeds ∈ Wd := WL_2_in _ (List.mem_of_getElem? (i := 2) rfl)
theorem wl_83 : Cond.code yX10_deeds cX10_deeds 4 (some (.int)) ∈ Wd := WL_2_in _ (List.mem_of_getElem? (i := 3) rfl)
theorem wl_84 : Cond.instanceMethod yX10_deeds ∈ Wd := WL_2_in _ (List.mem_of_getElem? (i := 4) rfl)
theorem wl_85 : Cond.selects "SlicedBills" yX10_deeds yX10_deeds ∈ Wd := WL_2_in _ (List.mem_of_getElem? (i := 5) rfl)
theorem wl_86 : Cond.methodLink RL 61 yX11_deeds ∈ Wd := WL_2_in _ (List.mem_of_getElem? (i := 6) rfl)
theorem wl_87 : Cond.code yX11_deeds cX11_deeds 2 (some (.int)) ∈ Wd := WL_2_in _ (List.mem_of_getElem? (i := 7) rfl)
theorem wl_88 : Cond.instanceMethod yX11_deeds ∈ Wd := WL_2_in _ (List.mem_of_getElem? (i := 8) rfl)
theorem wl_89 : Cond.selects "SlicedBillsModel" yX11_deeds yX11_deeds ∈ Wd := WL_2_in _ (List.mem_of_getElem? (i := 9) rfl)
theorem wl_90 : Cond.methodLink RL 62 yX10_tried ∈ Wd := WL_2_in _ (List.mem_of_getElem? (i := 10) rfl)
theorem wl_91 : Cond.code yX10_tried cX10_tried 5 (some (.int)) ∈ Wd := WL_2_in _ (List.mem_of_getElem? (i := 11) rfl)
theorem wl_92 : Cond.instanceMethod yX10_tried ∈ Wd := WL_2_in _ (List.mem_of_getElem? (i := 12) rfl)
theorem wl_93 : Cond.selects "SlicedBills" yX10_tried yX10_tried ∈ Wd := WL_2_in _ (List.mem_of_getElem? (i := 13) rfl)
theorem wl_94 : Cond.methodLink RL 65 yX11_tried ∈ Wd := WL_2_in _ (List.mem_of_getElem? (i := 14) rfl)
theorem wl_95 : Cond.code yX11_tried cX11_tried 4 (some (.int)) ∈ Wd := WL_2_in _ (List.mem_of_getElem? (i := 15) rfl)
theorem wl_96 : Cond.instanceMethod yX11_tried ∈ Wd := WL_2_in _ (List.mem_of_getElem? (i := 16) rfl)
theorem wl_97 : Cond.selects "SlicedBillsModel" yX11_tried yX11_tried ∈ Wd := WL_2_in _ (List.mem_of_getElem? (i := 17) rfl)
theorem wl_98 : Cond.methodLink RL 66 yX10_use ∈ Wd := WL_2_in _ (List.mem_of_getElem? (i := 18) rfl)
theorem wl_99 : Cond.code yX10_use cX10_use 3 (some (.int)) ∈ Wd := WL_2_in _ (List.mem_of_getElem? (i := 19) rfl)
theorem wl_100 : Cond.instanceMethod yX10_use ∈ Wd := WL_2_in _ (List.mem_of_getElem? (i := 20) rfl)
theorem wl_101 : Cond.selects "SlicedBills" yX10_use yX10_use ∈ Wd := WL_2_in _ (List.mem_of_getElem? (i := 21) rfl)
theorem wl_102 : Cond.methodLink RL 69 yX11_use ∈ Wd := WL_2_in _ (List.mem_of_getElem? (i := 22) rfl)
theorem wl_103 : Cond.code yX11_use cX11_use 3 (some (.int)) ∈ Wd := WL_2_in _ (List.mem_of_getElem? (i := 23) rfl)
theorem wl_104 : Cond.instanceMethod yX11_use ∈ Wd := WL_2_in _ (List.mem_of_getElem? (i := 24) rfl)
theorem wl_105 : Cond.selects "SlicedBillsModel" yX11_use yX11_use ∈ Wd := WL_2_in _ (List.mem_of_getElem? (i := 25) rfl)
theorem wl_106 : Cond.methodLink RL 70 yX10_days ∈ Wd := WL_2_in _ (List.mem_of_getElem? (i := 26) rfl)
theorem wl_107 : Cond.code yX10_days cX10_days 2 (some (.int)) ∈ Wd := WL_2_in _ (List.mem_of_getElem? (i := 27) rfl)
theorem wl_108 : Cond.instanceMethod yX10_days ∈ Wd := WL_2_in _ (List.mem_of_getElem? (i := 28) rfl)
theorem wl_109 : Cond.selects "SlicedBills" yX10_days yX10_days ∈ Wd := WL_2_in _ (List.mem_of_getElem? (i := 29) rfl)
theorem wl_110 : Cond.methodLink RL 73 yX11_days ∈ Wd := WL_2_in _ (List.mem_of_getElem? (i := 30) rfl)
theorem wl_111 : Cond.code yX11_days cX11_days 2 (some (.int)) ∈ Wd := WL_2_in _ (List.mem_of_getElem? (i := 31) rfl)
theorem wl_112 : Cond.instanceMethod yX11_days ∈ Wd := WL_2_in _ (List.mem_of_getElem? (i := 32) rfl)
theorem wl_113 : Cond.selects "SlicedBillsModel" yX11_days yX11_days ∈ Wd := WL_2_in _ (List.mem_of_getElem? (i := 33) rfl)
theorem wl_114 : Cond.methodLink RL 74 yX10_favour ∈ Wd := WL_2_in _ (List.mem_of_getElem? (i := 34) rfl)
theorem wl_115 : Cond.code yX10_favour cX10_favour 3 (some (.int)) ∈ Wd := WL_2_in _ (List.mem_of_getElem? (i := 35) rfl)
theorem wl_116 : Cond.instanceMethod yX10_favour ∈ Wd := WL_2_in _ (List.mem_of_getElem? (i := 36) rfl)
theorem wl_117 : Cond.selects "SlicedBills" yX10_favour yX10_favour ∈ Wd := WL_2_in _ (List.mem_of_getElem? (i := 37) rfl)
theorem wl_118 : Cond.methodLink RL 77 yX11_favour ∈ Wd := WL_2_in _ (List.mem_of_getElem? (i := 38) rfl)
theorem wl_119 : Cond.code yX11_favour cX11_favour 3 (some (.int)) ∈ Wd := WL_2_in _ (List.mem_of_getElem? (i := 39) rfl)
def WL_3 : List Cond := [.instanceMethod yX11_favour, .selects "SlicedBillsModel" yX11_favour yX11_favour, .methodLink RL 78 yX10_pay, .code yX10_pay cX10_pay 3 (some (.int)), .instanceMethod yX10_pay, .selects "SlicedBills" yX10_pay yX10_pay, .methodLink RL 81 yX11_pay, .code yX11_pay cX11_pay 3 (some (.int)), .instanceMethod yX11_pay, .selects "SlicedBillsModel" yX11_pay yX11_pay, .methodLink RL 82 yX10_remind, .code yX10_remind cX10_remind 2 (some (.int)), .instanceMethod yX10_remind, .selects "SlicedBills" yX10_remind yX10_remind, .methodLink RL 85 yX11_remind, .code yX11_remind cX11_remind 3 (some (.int)), .instanceMethod yX11_remind, .selects "SlicedBillsModel" yX11_remind yX11_remind, .methodLink RL 86 yX10_late, .code yX10_late cX10_late 3 (some (.int)), .instanceMethod yX10_late, .selects "SlicedBills" yX10_late yX10_late, .methodLink RL 89 yX11_late, .code yX11_late cX11_late 3 (some (.int)), .instanceMethod yX11_late, .selects "SlicedBillsModel" yX11_late yX11_late, .methodLink RL 90 yX10_open, .code yX10_open cX10_open 3 (some (.int)), .instanceMethod yX10_open, .selects "SlicedBills" yX10_open yX10_open, .methodLink RL 93 yX11_open, .code yX11_open cX11_open 2 (some (.int)), .instanceMethod yX11_open, .selects "SlicedBillsModel" yX11_open yX11_open, .methodLink RL 94 yX10_owes, .code yX10_owes cX10_owes 3 (some (.int)), .instanceMethod yX10_owes, .selects "SlicedBills" yX10_owes yX10_owes, .methodLink RL 97 yX11_owes, .code yX11_owes cX11_owes 7 (some (.int))]
theorem WL_3_in : ∀ w ∈ WL_3, w ∈ Wd := ws_in _ [1641, 1642, 993, 996, 994, 995, 1808, 1714, 1712, 1713, 998, 1001, 999, 1000, 1821, 1718, 1716, 1717, 1026, 1029, 1027, 1028, 1809, 1812, 1810, 1811, 1117, 1120, 1118, 1119, 1813, 1816, 1814, 1815, 1031, 1034, 1032, 1033, 1817, 1820] (by decide +kernel) (by decide +kernel)
theorem wl_120 : Cond.instanceMethod yX11_favour ∈ Wd := WL_3_in _ (List.mem_of_getElem? (i := 0) rfl)
theorem wl_121 : Cond.selects "SlicedBillsModel" yX11_favour yX11_favour ∈ Wd := WL_3_in _ (List.mem_of_getElem? (i := 1) rfl)
theorem wl_122 : Cond.methodLink RL 78 yX10_pay ∈ Wd := WL_3_in _ (List.mem_of_getElem? (i := 2) rfl)
theorem wl_123 : Cond.code yX10_pay cX10_pay 3 (some (.int)) ∈ Wd := WL_3_in _ (List.mem_of_getElem? (i := 3) rfl)
theorem wl_124 : Cond.instanceMethod yX10_pay ∈ Wd := WL_3_in _ (List.mem_of_getElem? (i := 4) rfl)
theorem wl_125 : Cond.selects "SlicedBills" yX10_pay yX10_pay ∈ Wd := WL_3_in _ (List.mem_of_getElem? (i := 5) rfl)
theorem wl_126 : Cond.methodLink RL 81 yX11_pay ∈ Wd := WL_3_in _ (List.mem_of_getElem? (i := 6) rfl)
theorem wl_127 : Cond.code yX11_pay cX11_pay 3 (some (.int)) ∈ Wd := WL_3_in _ (List.mem_of_getElem? (i := 7) rfl)
theorem wl_128 : Cond.instanceMethod yX11_pay ∈ Wd := WL_3_in _ (List.mem_of_getElem? (i := 8) rfl)
theorem wl_129 : Cond.selects "SlicedBillsModel" yX11_pay yX11_pay ∈ Wd := WL_3_in _ (List.mem_of_getElem? (i := 9) rfl)
theorem wl_130 : Cond.methodLink RL 82 yX10_remind ∈ Wd := WL_3_in _ (List.mem_of_getElem? (i := 10) rfl)
theorem wl_131 : Cond.code yX10_remind cX10_remind 2 (some (.int)) ∈ Wd := WL_3_in _ (List.mem_of_getElem? (i := 11) rfl)
theorem wl_132 : Cond.instanceMethod yX10_remind ∈ Wd := WL_3_in _ (List.mem_of_getElem? (i := 12) rfl)
theorem wl_133 : Cond.selects "SlicedBills" yX10_remind yX10_remind ∈ Wd := WL_3_in _ (List.mem_of_getElem? (i := 13) rfl)
theorem wl_134 : Cond.methodLink RL 85 yX11_remind ∈ Wd := WL_3_in _ (List.mem_of_getElem? (i := 14) rfl)
theorem wl_135 : Cond.code yX11_remind cX11_remind 3 (some (.int)) ∈ Wd := WL_3_in _ (List.mem_of_getElem? (i := 15) rfl)
theorem wl_136 : Cond.instanceMethod yX11_remind ∈ Wd := WL_3_in _ (List.mem_of_getElem? (i := 16) rfl)
theorem wl_137 : Cond.selects "SlicedBillsModel" yX11_remind yX11_remind ∈ Wd := WL_3_in _ (List.mem_of_getElem? (i := 17) rfl)
theorem wl_138 : Cond.methodLink RL 86 yX10_late ∈ Wd := WL_3_in _ (List.mem_of_getElem? (i := 18) rfl)
theorem wl_139 : Cond.code yX10_late cX10_late 3 (some (.int)) ∈ Wd := WL_3_in _ (List.mem_of_getElem? (i := 19) rfl)
theorem wl_140 : Cond.instanceMethod yX10_late ∈ Wd := WL_3_in _ (List.mem_of_getElem? (i := 20) rfl)
theorem wl_141 : Cond.selects "SlicedBills" yX10_late yX10_late ∈ Wd := WL_3_in _ (List.mem_of_getElem? (i := 21) rfl)
theorem wl_142 : Cond.methodLink RL 89 yX11_late ∈ Wd := WL_3_in _ (List.mem_of_getElem? (i := 22) rfl)
theorem wl_143 : Cond.code yX11_late cX11_late 3 (some (.int)) ∈ Wd := WL_3_in _ (List.mem_of_getElem? (i := 23) rfl)
theorem wl_144 : Cond.instanceMethod yX11_late ∈ Wd := WL_3_in _ (List.mem_of_getElem? (i := 24) rfl)
theorem wl_145 : Cond.selects "SlicedBillsModel" yX11_late yX11_late ∈ Wd := WL_3_in _ (List.mem_of_getElem? (i := 25) rfl)
theorem wl_146 : Cond.methodLink RL 90 yX10_open ∈ Wd := WL_3_in _ (List.mem_of_getElem? (i := 26) rfl)
theorem wl_147 : Cond.code yX10_open cX10_open 3 (some (.int)) ∈ Wd := WL_3_in _ (List.mem_of_getElem? (i := 27) rfl)
theorem wl_148 : Cond.instanceMethod yX10_open ∈ Wd := WL_3_in _ (List.mem_of_getElem? (i := 28) rfl)
theorem wl_149 : Cond.selects "SlicedBills" yX10_open yX10_open ∈ Wd := WL_3_in _ (List.mem_of_getElem? (i := 29) rfl)
theorem wl_150 : Cond.methodLink RL 93 yX11_open ∈ Wd := WL_3_in _ (List.mem_of_getElem? (i := 30) rfl)
theorem wl_151 : Cond.code yX11_open cX11_open 2 (some (.int)) ∈ Wd := WL_3_in _ (List.mem_of_getElem? (i := 31) rfl)
theorem wl_152 : Cond.instanceMethod yX11_open ∈ Wd := WL_3_in _ (List.mem_of_getElem? (i := 32) rfl)
theorem wl_153 : Cond.selects "SlicedBillsModel" yX11_open yX11_open ∈ Wd := WL_3_in _ (List.mem_of_getElem? (i := 33) rfl)
theorem wl_154 : Cond.methodLink RL 94 yX10_owes ∈ Wd := WL_3_in _ (List.mem_of_getElem? (i := 34) rfl)
theorem wl_155 : Cond.code yX10_owes cX10_owes 3 (some (.int)) ∈ Wd := WL_3_in _ (List.mem_of_getElem? (i := 35) rfl)
theorem wl_156 : Cond.instanceMethod yX10_owes ∈ Wd := WL_3_in _ (List.mem_of_getElem? (i := 36) rfl)
theorem wl_157 : Cond.selects "SlicedBills" yX10_owes yX10_owes ∈ Wd := WL_3_in _ (List.mem_of_getElem? (i := 37) rfl)
theorem wl_158 : Cond.methodLink RL 97 yX11_owes ∈ Wd := WL_3_in _ (List.mem_of_getElem? (i := 38) rfl)
theorem wl_159 : Cond.code yX11_owes cX11_owes 7 (some (.int)) ∈ Wd := WL_3_in _ (List.mem_of_getElem? (i := 39) rfl)
def WL_4 : List Cond := [.instanceMethod yX11_owes, .selects "SlicedBillsModel" yX11_owes yX11_owes, .methodLink RL 98 yX10_earned, .code yX10_earned cX10_earned 3 (some (.int)), .instanceMethod yX10_earned, .selects "SlicedBills" yX10_earned yX10_earned, .methodLink RL 101 yX11_earned, .code yX11_earned cX11_earned 5 (some (.int)), .instanceMethod yX11_earned, .selects "SlicedBillsModel" yX11_earned yX11_earned, .methodLink RL 102 yX10_written, .code yX10_written cX10_written 3 (some (.int)), .instanceMethod yX10_written, .selects "SlicedBills" yX10_written yX10_written, .methodLink RL 105 yX11_written, .code yX11_written cX11_written 5 (some (.int)), .instanceMethod yX11_written, .selects "SlicedBillsModel" yX11_written yX11_written, .methodLink RL 106 yX10_turn, .code yX10_turn cX10_turn 2 (some (.int)), .instanceMethod yX10_turn, .selects "SlicedBills" yX10_turn yX10_turn, .methodLink RL 109 yX11_turn, .code yX11_turn cX11_turn 4 (some (.int)), .instanceMethod yX11_turn, .selects "SlicedBillsModel" yX11_turn yX11_turn, .methodLink RL 110 yX10_plan, .code yX10_plan cX10_plan 3 (some (.int)), .instanceMethod yX10_plan, .selects "SlicedBills" yX10_plan yX10_plan, .methodLink RL 113 yX11_plan, .code yX11_plan cX11_plan 4 (some (.int)), .instanceMethod yX11_plan, .selects "SlicedBillsModel" yX11_plan yX11_plan, .methodLink RL 114 yX10_billIs, .code yX10_billIs cX10_billIs 2 (some (.int)), .instanceMethod yX10_billIs, .selects "SlicedBills" yX10_billIs yX10_billIs, .methodLink RL 117 yX11_billIs, .code yX11_billIs cX11_billIs 2 (some (.int))]
theorem WL_4_in : ∀ w ∈ WL_4, w ∈ Wd := ws_in _ [1818, 1819, 1039, 1042, 1040, 1041, 1822, 1825, 1823, 1824, 1125, 1128, 1126, 1127, 1830, 1833, 1831, 1832, 1003, 1006, 1004, 1005, 1652, 1655, 1653, 1654, 1193, 1196, 1194, 1195, 1515, 1518, 1516, 1517, 1205, 1208, 1206, 1207, 1747, 1750] (by decide +kernel) (by decide +kernel)
theorem wl_160 : Cond.instanceMethod yX11_owes ∈ Wd := WL_4_in _ (List.mem_of_getElem? (i := 0) rfl)
theorem wl_161 : Cond.selects "SlicedBillsModel" yX11_owes yX11_owes ∈ Wd := WL_4_in _ (List.mem_of_getElem? (i := 1) rfl)
theorem wl_162 : Cond.methodLink RL 98 yX10_earned ∈ Wd := WL_4_in _ (List.mem_of_getElem? (i := 2) rfl)
theorem wl_163 : Cond.code yX10_earned cX10_earned 3 (some (.int)) ∈ Wd := WL_4_in _ (List.mem_of_getElem? (i := 3) rfl)
theorem wl_164 : Cond.instanceMethod yX10_earned ∈ Wd := WL_4_in _ (List.mem_of_getElem? (i := 4) rfl)
theorem wl_165 : Cond.selects "SlicedBills" yX10_earned yX10_earned ∈ Wd := WL_4_in _ (List.mem_of_getElem? (i := 5) rfl)
theorem wl_166 : Cond.methodLink RL 101 yX11_earned ∈ Wd := WL_4_in _ (List.mem_of_getElem? (i := 6) rfl)
theorem wl_167 : Cond.code yX11_earned cX11_earned 5 (some (.int)) ∈ Wd := WL_4_in _ (List.mem_of_getElem? (i := 7) rfl)
theorem wl_168 : Cond.instanceMethod yX11_earned ∈ Wd := WL_4_in _ (List.mem_of_getElem? (i := 8) rfl)
theorem wl_169 : Cond.selects "SlicedBillsModel" yX11_earned yX11_earned ∈ Wd := WL_4_in _ (List.mem_of_getElem? (i := 9) rfl)
theorem wl_170 : Cond.methodLink RL 102 yX10_written ∈ Wd := WL_4_in _ (List.mem_of_getElem? (i := 10) rfl)
theorem wl_171 : Cond.code yX10_written cX10_written 3 (some (.int)) ∈ Wd := WL_4_in _ (List.mem_of_getElem? (i := 11) rfl)
theorem wl_172 : Cond.instanceMethod yX10_written ∈ Wd := WL_4_in _ (List.mem_of_getElem? (i := 12) rfl)
theorem wl_173 : Cond.selects "SlicedBills" yX10_written yX10_written ∈ Wd := WL_4_in _ (List.mem_of_getElem? (i := 13) rfl)
theorem wl_174 : Cond.methodLink RL 105 yX11_written ∈ Wd := WL_4_in _ (List.mem_of_getElem? (i := 14) rfl)
theorem wl_175 : Cond.code yX11_written cX11_written 5 (some (.int)) ∈ Wd := WL_4_in _ (List.mem_of_getElem? (i := 15) rfl)
theorem wl_176 : Cond.instanceMethod yX11_written ∈ Wd := WL_4_in _ (List.mem_of_getElem? (i := 16) rfl)
theorem wl_177 : Cond.selects "SlicedBillsModel" yX11_written yX11_written ∈ Wd := WL_4_in _ (List.mem_of_getElem? (i := 17) rfl)
theorem wl_178 : Cond.methodLink RL 106 yX10_turn ∈ Wd := WL_4_in _ (List.mem_of_getElem? (i := 18) rfl)
theorem wl_179 : Cond.code yX10_turn cX10_turn 2 (some (.int)) ∈ Wd := WL_4_in _ (List.mem_of_getElem? (i := 19) rfl)
theorem wl_180 : Cond.instanceMethod yX10_turn ∈ Wd := WL_4_in _ (List.mem_of_getElem? (i := 20) rfl)
theorem wl_181 : Cond.selects "SlicedBills" yX10_turn yX10_turn ∈ Wd := WL_4_in _ (List.mem_of_getElem? (i := 21) rfl)
theorem wl_182 : Cond.methodLink RL 109 yX11_turn ∈ Wd := WL_4_in _ (List.mem_of_getElem? (i := 22) rfl)
theorem wl_183 : Cond.code yX11_turn cX11_turn 4 (some (.int)) ∈ Wd := WL_4_in _ (List.mem_of_getElem? (i := 23) rfl)
theorem wl_184 : Cond.instanceMethod yX11_turn ∈ Wd := WL_4_in _ (List.mem_of_getElem? (i := 24) rfl)
theorem wl_185 : Cond.selects "SlicedBillsModel" yX11_turn yX11_turn ∈ Wd := WL_4_in _ (List.mem_of_getElem? (i := 25) rfl)
theorem wl_186 : Cond.methodLink RL 110 yX10_plan ∈ Wd := WL_4_in _ (List.mem_of_getElem? (i := 26) rfl)
theorem wl_187 : Cond.code yX10_plan cX10_plan 3 (some (.int)) ∈ Wd := WL_4_in _ (List.mem_of_getElem? (i := 27) rfl)
theorem wl_188 : Cond.instanceMethod yX10_plan ∈ Wd := WL_4_in _ (List.mem_of_getElem? (i := 28) rfl)
theorem wl_189 : Cond.selects "SlicedBills" yX10_plan yX10_plan ∈ Wd := WL_4_in _ (List.mem_of_getElem? (i := 29) rfl)
theorem wl_190 : Cond.methodLink RL 113 yX11_plan ∈ Wd := WL_4_in _ (List.mem_of_getElem? (i := 30) rfl)
theorem wl_191 : Cond.code yX11_plan cX11_plan 4 (some (.int)) ∈ Wd := WL_4_in _ (List.mem_of_getElem? (i := 31) rfl)
theorem wl_192 : Cond.instanceMethod yX11_plan ∈ Wd := WL_4_in _ (List.mem_of_getElem? (i := 32) rfl)
theorem wl_193 : Cond.selects "SlicedBillsModel" yX11_plan yX11_plan ∈ Wd := WL_4_in _ (List.mem_of_getElem? (i := 33) rfl)
theorem wl_194 : Cond.methodLink RL 114 yX10_billIs ∈ Wd := WL_4_in _ (List.mem_of_getElem? (i := 34) rfl)
theorem wl_195 : Cond.code yX10_billIs cX10_billIs 2 (some (.int)) ∈ Wd := WL_4_in _ (List.mem_of_getElem? (i := 35) rfl)
theorem wl_196 : Cond.instanceMethod yX10_billIs ∈ Wd := WL_4_in _ (List.mem_of_getElem? (i := 36) rfl)
theorem wl_197 : Cond.selects "SlicedBills" yX10_billIs yX10_billIs ∈ Wd := WL_4_in _ (List.mem_of_getElem? (i := 37) rfl)
theorem wl_198 : Cond.methodLink RL 117 yX11_billIs ∈ Wd := WL_4_in _ (List.mem_of_getElem? (i := 38) rfl)
theorem wl_199 : Cond.code yX11_billIs cX11_billIs 2 (some (.int)) ∈ Wd := WL_4_in _ (List.mem_of_getElem? (i := 39) rfl)
def WL_5 : List Cond := [.instanceMethod yX11_billIs, .selects "SlicedBillsModel" yX11_billIs yX11_billIs, .methodLink RL 118 yX10_usage, .code yX10_usage cX10_usage 3 (some (.int)), .instanceMethod yX10_usage, .selects "SlicedBills" yX10_usage yX10_usage, .methodLink RL 121 yX11_usage, .code yX11_usage cX11_usage 3 (some (.int)), .instanceMethod yX11_usage, .selects "SlicedBillsModel" yX11_usage yX11_usage, .methodLink RL 122 yX10_units, .code yX10_units cX10_units 3 (some (.int)), .instanceMethod yX10_units, .selects "SlicedBills" yX10_units yX10_units, .methodLink RL 125 yX11_units, .code yX11_units cX11_units 4 (some (.int)), .instanceMethod yX11_units, .selects "SlicedBillsModel" yX11_units yX11_units, .methodLink RL 126 yX10_cheapest, .code yX10_cheapest cX10_cheapest 2 (some (.int)), .instanceMethod yX10_cheapest, .selects "SlicedBills" yX10_cheapest yX10_cheapest, .methodLink RL 129 yX11_cheapest, .code yX11_cheapest cX11_cheapest 4 (some (.int)), .instanceMethod yX11_cheapest, .selects "SlicedBillsModel" yX11_cheapest yX11_cheapest, .methodLink RL 130 yX10_accountIs, .code yX10_accountIs cX10_accountIs 4 (some (.int)), .instanceMethod yX10_accountIs, .selects "SlicedBills" yX10_accountIs yX10_accountIs, .methodLink RL 133 yX11_accountIs, .code yX11_accountIs cX11_accountIs 3 (some (.int)), .instanceMethod yX11_accountIs, .selects "SlicedBillsModel" yX11_accountIs yX11_accountIs, .methodLink RL 134 yX10_part, .code yX10_part cX10_part 7 (some (.int)), .instanceMethod yX10_part, .selects "SlicedBills" yX10_part yX10_part, .methodLink RL 138 yX11_part, .code yX11_part cX11_part 5 (some (.int))]
theorem WL_5_in : ∀ w ∈ WL_5, w ∈ Wd := ws_in _ [1748, 1749, 1226, 1229, 1227, 1228, 1526, 1529, 1527, 1528, 1234, 1237, 1235, 1236, 1537, 1540, 1538, 1539, 1251, 1254, 1252, 1253, 1542, 1545, 1543, 1544, 1008, 1011, 1009, 1010, 1755, 1758, 1756, 1757, 1260, 1263, 1261, 1262, 1416, 1419] (by decide +kernel) (by decide +kernel)
theorem wl_200 : Cond.instanceMethod yX11_billIs ∈ Wd := WL_5_in _ (List.mem_of_getElem? (i := 0) rfl)
theorem wl_201 : Cond.selects "SlicedBillsModel" yX11_billIs yX11_billIs ∈ Wd := WL_5_in _ (List.mem_of_getElem? (i := 1) rfl)
theorem wl_202 : Cond.methodLink RL 118 yX10_usage ∈ Wd := WL_5_in _ (List.mem_of_getElem? (i := 2) rfl)
theorem wl_203 : Cond.code yX10_usage cX10_usage 3 (some (.int)) ∈ Wd := WL_5_in _ (List.mem_of_getElem? (i := 3) rfl)
theorem wl_204 : Cond.instanceMethod yX10_usage ∈ Wd := WL_5_in _ (List.mem_of_getElem? (i := 4) rfl)
theorem wl_205 : Cond.selects "SlicedBills" yX10_usage yX10_usage ∈ Wd := WL_5_in _ (List.mem_of_getElem? (i := 5) rfl)
theorem wl_206 : Cond.methodLink RL 121 yX11_usage ∈ Wd := WL_5_in _ (List.mem_of_getElem? (i := 6) rfl)
theorem wl_207 : Cond.code yX11_usage cX11_usage 3 (some (.int)) ∈ Wd := WL_5_in _ (List.mem_of_getElem? (i := 7) rfl)
theorem wl_208 : Cond.instanceMethod yX11_usage ∈ Wd := WL_5_in _ (List.mem_of_getElem? (i := 8) rfl)
theorem wl_209 : Cond.selects "SlicedBillsModel" yX11_usage yX11_usage ∈ Wd := WL_5_in _ (List.mem_of_getElem? (i := 9) rfl)
theorem wl_210 : Cond.methodLink RL 122 yX10_units ∈ Wd := WL_5_in _ (List.mem_of_getElem? (i := 10) rfl)
theorem wl_211 : Cond.code yX10_units cX10_units 3 (some (.int)) ∈ Wd := WL_5_in _ (List.mem_of_getElem? (i := 11) rfl)
theorem wl_212 : Cond.instanceMethod yX10_units ∈ Wd := WL_5_in _ (List.mem_of_getElem? (i := 12) rfl)
theorem wl_213 : Cond.selects "SlicedBills" yX10_units yX10_units ∈ Wd := WL_5_in _ (List.mem_of_getElem? (i := 13) rfl)
theorem wl_214 : Cond.methodLink RL 125 yX11_units ∈ Wd := WL_5_in _ (List.mem_of_getElem? (i := 14) rfl)
theorem wl_215 : Cond.code yX11_units cX11_units 4 (some (.int)) ∈ Wd := WL_5_in _ (List.mem_of_getElem? (i := 15) rfl)
theorem wl_216 : Cond.instanceMethod yX11_units ∈ Wd := WL_5_in _ (List.mem_of_getElem? (i := 16) rfl)
theorem wl_217 : Cond.selects "SlicedBillsModel" yX11_units yX11_units ∈ Wd := WL_5_in _ (List.mem_of_getElem? (i := 17) rfl)
theorem wl_218 : Cond.methodLink RL 126 yX10_cheapest ∈ Wd := WL_5_in _ (List.mem_of_getElem? (i := 18) rfl)
theorem wl_219 : Cond.code yX10_cheapest cX10_cheapest 2 (some (.int)) ∈ Wd := WL_5_in _ (List.mem_of_getElem? (i := 19) rfl)
theorem wl_220 : Cond.instanceMethod yX10_cheapest ∈ Wd := WL_5_in _ (List.mem_of_getElem? (i := 20) rfl)
theorem wl_221 : Cond.selects "SlicedBills" yX10_cheapest yX10_cheapest ∈ Wd := WL_5_in _ (List.mem_of_getElem? (i := 21) rfl)
theorem wl_222 : Cond.methodLink RL 129 yX11_cheapest ∈ Wd := WL_5_in _ (List.mem_of_getElem? (i := 22) rfl)
theorem wl_223 : Cond.code yX11_cheapest cX11_cheapest 4 (some (.int)) ∈ Wd := WL_5_in _ (List.mem_of_getElem? (i := 23) rfl)
theorem wl_224 : Cond.instanceMethod yX11_cheapest ∈ Wd := WL_5_in _ (List.mem_of_getElem? (i := 24) rfl)
theorem wl_225 : Cond.selects "SlicedBillsModel" yX11_cheapest yX11_cheapest ∈ Wd := WL_5_in _ (List.mem_of_getElem? (i := 25) rfl)
theorem wl_226 : Cond.methodLink RL 130 yX10_accountIs ∈ Wd := WL_5_in _ (List.mem_of_getElem? (i := 26) rfl)
theorem wl_227 : Cond.code yX10_accountIs cX10_accountIs 4 (some (.int)) ∈ Wd := WL_5_in _ (List.mem_of_getElem? (i := 27) rfl)
theorem wl_228 : Cond.instanceMethod yX10_accountIs ∈ Wd := WL_5_in _ (List.mem_of_getElem? (i := 28) rfl)
theorem wl_229 : Cond.selects "SlicedBills" yX10_accountIs yX10_accountIs ∈ Wd := WL_5_in _ (List.mem_of_getElem? (i := 29) rfl)
theorem wl_230 : Cond.methodLink RL 133 yX11_accountIs ∈ Wd := WL_5_in _ (List.mem_of_getElem? (i := 30) rfl)
theorem wl_231 : Cond.code yX11_accountIs cX11_accountIs 3 (some (.int)) ∈ Wd := WL_5_in _ (List.mem_of_getElem? (i := 31) rfl)
theorem wl_232 : Cond.instanceMethod yX11_accountIs ∈ Wd := WL_5_in _ (List.mem_of_getElem? (i := 32) rfl)
theorem wl_233 : Cond.selects "SlicedBillsModel" yX11_accountIs yX11_accountIs ∈ Wd := WL_5_in _ (List.mem_of_getElem? (i := 33) rfl)
theorem wl_234 : Cond.methodLink RL 134 yX10_part ∈ Wd := WL_5_in _ (List.mem_of_getElem? (i := 34) rfl)
theorem wl_235 : Cond.code yX10_part cX10_part 7 (some (.int)) ∈ Wd := WL_5_in _ (List.mem_of_getElem? (i := 35) rfl)
theorem wl_236 : Cond.instanceMethod yX10_part ∈ Wd := WL_5_in _ (List.mem_of_getElem? (i := 36) rfl)
theorem wl_237 : Cond.selects "SlicedBills" yX10_part yX10_part ∈ Wd := WL_5_in _ (List.mem_of_getElem? (i := 37) rfl)
theorem wl_238 : Cond.methodLink RL 138 yX11_part ∈ Wd := WL_5_in _ (List.mem_of_getElem? (i := 38) rfl)
theorem wl_239 : Cond.code yX11_part cX11_part 5 (some (.int)) ∈ Wd := WL_5_in _ (List.mem_of_getElem? (i := 39) rfl)
def WL_6 : List Cond := [.instanceMethod yX11_part, .selects "SlicedBillsModel" yX11_part yX11_part, .methodLink RL 139 yX10_span, .code yX10_span cX10_span 6 (some (.int)), .instanceMethod yX10_span, .selects "SlicedBills" yX10_span yX10_span, .methodLink RL 142 yX11_span, .code yX11_span cX11_span 6 (some (.int)), .instanceMethod yX11_span, .selects "SlicedBillsModel" yX11_span yX11_span, .methodLink RL 143 yX10_date, .code yX10_date cX10_date 3 (some (.int)), .instanceMethod yX10_date, .selects "SlicedBills" yX10_date yX10_date, .methodLink RL 146 yX11_date, .code yX11_date cX11_date 3 (some (.int)), .instanceMethod yX11_date, .selects "SlicedBillsModel" yX11_date yX11_date, .methodLink RL 147 yX10_day, .code yX10_day cX10_day 4 (some (.int)), .instanceMethod yX10_day, .selects "SlicedBills" yX10_day yX10_day, .methodLink RL 150 yX11_day, .code yX11_day cX11_day 5 (some (.int)), .instanceMethod yX11_day, .selects "SlicedBillsModel" yX11_day yX11_day, .methodLink RL 151 yX10_entry, .code yX10_entry cX10_entry 3 (some (.int)), .instanceMethod yX10_entry, .selects "SlicedBills" yX10_entry yX10_entry, .methodLink RL 154 yX11_entry, .code yX11_entry cX11_entry 3 (some (.int)), .instanceMethod yX11_entry, .selects "SlicedBillsModel" yX11_entry yX11_entry, .methodLink RL 155 yX10_line, .code yX10_line cX10_line 3 (some (.int)), .instanceMethod yX10_line, .selects "SlicedBills" yX10_line yX10_line, .methodLink RL 158 yX11_line, .code yX11_line cX11_line 3 (some (.int))]
theorem WL_6_in : ∀ w ∈ WL_6, w ∈ Wd := ws_in _ [1417, 1418, 1272, 1275, 1273, 1274, 1368, 1371, 1369, 1370, 1276, 1279, 1277, 1278, 1400, 1403, 1401, 1402, 1283, 1286, 1284, 1285, 1412, 1415, 1413, 1414, 1133, 1136, 1134, 1135, 1767, 1770, 1768, 1769, 1142, 1145, 1143, 1144, 1775, 1778] (by decide +kernel) (by decide +kernel)
theorem wl_240 : Cond.instanceMethod yX11_part ∈ Wd := WL_6_in _ (List.mem_of_getElem? (i := 0) rfl)
theorem wl_241 : Cond.selects "SlicedBillsModel" yX11_part yX11_part ∈ Wd := WL_6_in _ (List.mem_of_getElem? (i := 1) rfl)
theorem wl_242 : Cond.methodLink RL 139 yX10_span ∈ Wd := WL_6_in _ (List.mem_of_getElem? (i := 2) rfl)
theorem wl_243 : Cond.code yX10_span cX10_span 6 (some (.int)) ∈ Wd := WL_6_in _ (List.mem_of_getElem? (i := 3) rfl)
theorem wl_244 : Cond.instanceMethod yX10_span ∈ Wd := WL_6_in _ (List.mem_of_getElem? (i := 4) rfl)
theorem wl_245 : Cond.selects "SlicedBills" yX10_span yX10_span ∈ Wd := WL_6_in _ (List.mem_of_getElem? (i := 5) rfl)
theorem wl_246 : Cond.methodLink RL 142 yX11_span ∈ Wd := WL_6_in _ (List.mem_of_getElem? (i := 6) rfl)
theorem wl_247 : Cond.code yX11_span cX11_span 6 (some (.int)) ∈ Wd := WL_6_in _ (List.mem_of_getElem? (i := 7) rfl)
theorem wl_248 : Cond.instanceMethod yX11_span ∈ Wd := WL_6_in _ (List.mem_of_getElem? (i := 8) rfl)
theorem wl_249 : Cond.selects "SlicedBillsModel" yX11_span yX11_span ∈ Wd := WL_6_in _ (List.mem_of_getElem? (i := 9) rfl)
theorem wl_250 : Cond.methodLink RL 143 yX10_date ∈ Wd := WL_6_in _ (List.mem_of_getElem? (i := 10) rfl)
theorem wl_251 : Cond.code yX10_date cX10_date 3 (some (.int)) ∈ Wd := WL_6_in _ (List.mem_of_getElem? (i := 11) rfl)
theorem wl_252 : Cond.instanceMethod yX10_date ∈ Wd := WL_6_in _ (List.mem_of_getElem? (i := 12) rfl)
theorem wl_253 : Cond.selects "SlicedBills" yX10_date yX10_date ∈ Wd := WL_6_in _ (List.mem_of_getElem? (i := 13) rfl)
theorem wl_254 : Cond.methodLink RL 146 yX11_date ∈ Wd := WL_6_in _ (List.mem_of_getElem? (i := 14) rfl)
theorem wl_255 : Cond.code yX11_date cX11_date 3 (some (.int)) ∈ Wd := WL_6_in _ (List.mem_of_getElem? (i := 15) rfl)
theorem wl_256 : Cond.instanceMethod yX11_date ∈ Wd := WL_6_in _ (List.mem_of_getElem? (i := 16) rfl)
theorem wl_257 : Cond.selects "SlicedBillsModel" yX11_date yX11_date ∈ Wd := WL_6_in _ (List.mem_of_getElem? (i := 17) rfl)
theorem wl_258 : Cond.methodLink RL 147 yX10_day ∈ Wd := WL_6_in _ (List.mem_of_getElem? (i := 18) rfl)
theorem wl_259 : Cond.code yX10_day cX10_day 4 (some (.int)) ∈ Wd := WL_6_in _ (List.mem_of_getElem? (i := 19) rfl)
theorem wl_260 : Cond.instanceMethod yX10_day ∈ Wd := WL_6_in _ (List.mem_of_getElem? (i := 20) rfl)
theorem wl_261 : Cond.selects "SlicedBills" yX10_day yX10_day ∈ Wd := WL_6_in _ (List.mem_of_getElem? (i := 21) rfl)
theorem wl_262 : Cond.methodLink RL 150 yX11_day ∈ Wd := WL_6_in _ (List.mem_of_getElem? (i := 22) rfl)
theorem wl_263 : Cond.code yX11_day cX11_day 5 (some (.int)) ∈ Wd := WL_6_in _ (List.mem_of_getElem? (i := 23) rfl)
theorem wl_264 : Cond.instanceMethod yX11_day ∈ Wd := WL_6_in _ (List.mem_of_getElem? (i := 24) rfl)
theorem wl_265 : Cond.selects "SlicedBillsModel" yX11_day yX11_day ∈ Wd := WL_6_in _ (List.mem_of_getElem? (i := 25) rfl)
theorem wl_266 : Cond.methodLink RL 151 yX10_entry ∈ Wd := WL_6_in _ (List.mem_of_getElem? (i := 26) rfl)
theorem wl_267 : Cond.code yX10_entry cX10_entry 3 (some (.int)) ∈ Wd := WL_6_in _ (List.mem_of_getElem? (i := 27) rfl)
theorem wl_268 : Cond.instanceMethod yX10_entry ∈ Wd := WL_6_in _ (List.mem_of_getElem? (i := 28) rfl)
theorem wl_269 : Cond.selects "SlicedBills" yX10_entry yX10_entry ∈ Wd := WL_6_in _ (List.mem_of_getElem? (i := 29) rfl)
theorem wl_270 : Cond.methodLink RL 154 yX11_entry ∈ Wd := WL_6_in _ (List.mem_of_getElem? (i := 30) rfl)
theorem wl_271 : Cond.code yX11_entry cX11_entry 3 (some (.int)) ∈ Wd := WL_6_in _ (List.mem_of_getElem? (i := 31) rfl)
theorem wl_272 : Cond.instanceMethod yX11_entry ∈ Wd := WL_6_in _ (List.mem_of_getElem? (i := 32) rfl)
theorem wl_273 : Cond.selects "SlicedBillsModel" yX11_entry yX11_entry ∈ Wd := WL_6_in _ (List.mem_of_getElem? (i := 33) rfl)
theorem wl_274 : Cond.methodLink RL 155 yX10_line ∈ Wd := WL_6_in _ (List.mem_of_getElem? (i := 34) rfl)
theorem wl_275 : Cond.code yX10_line cX10_line 3 (some (.int)) ∈ Wd := WL_6_in _ (List.mem_of_getElem? (i := 35) rfl)
theorem wl_276 : Cond.instanceMethod yX10_line ∈ Wd := WL_6_in _ (List.mem_of_getElem? (i := 36) rfl)
theorem wl_277 : Cond.selects "SlicedBills" yX10_line yX10_line ∈ Wd := WL_6_in _ (List.mem_of_getElem? (i := 37) rfl)
theorem wl_278 : Cond.methodLink RL 158 yX11_line ∈ Wd := WL_6_in _ (List.mem_of_getElem? (i := 38) rfl)
theorem wl_279 : Cond.code yX11_line cX11_line 3 (some (.int)) ∈ Wd := WL_6_in _ (List.mem_of_getElem? (i := 39) rfl)
def WL_7 : List Cond := [.instanceMethod yX11_line, .selects "SlicedBillsModel" yX11_line yX11_line, .methodLink RL 159 yX10_period, .code yX10_period cX10_period 3 (some (.int)), .instanceMethod yX10_period, .selects "SlicedBills" yX10_period yX10_period, .methodLink RL 162 yX11_period, .code yX11_period cX11_period 5 (some (.int)), .instanceMethod yX11_period, .selects "SlicedBillsModel" yX11_period yX11_period, .methodLink RL 163 yX10_quote, .code yX10_quote cX10_quote 5 (some (.int)), .instanceMethod yX10_quote, .selects "SlicedBills" yX10_quote yX10_quote, .methodLink RL 166 yX11_quote, .code yX11_quote cX11_quote 4 (some (.int)), .instanceMethod yX11_quote, .selects "SlicedBillsModel" yX11_quote yX11_quote, .methodLink RL 167 yX10_best, .code yX10_best cX10_best 5 (some (.int)), .instanceMethod yX10_best, .selects "SlicedBills" yX10_best yX10_best, .methodLink RL 170 yX11_best, .code yX11_best cX11_best 7 (some (.int)), .instanceMethod yX11_best, .selects "SlicedBillsModel" yX11_best yX11_best, .methodLink RL 171 yX10_ahead, .code yX10_ahead cX10_ahead 3 (some (.int)), .instanceMethod yX10_ahead, .selects "SlicedBills" yX10_ahead yX10_ahead, .methodLink RL 174 yX11_ahead, .code yX11_ahead cX11_ahead 4 (some (.int)), .instanceMethod yX11_ahead, .selects "SlicedBillsModel" yX11_ahead yX11_ahead, .methodLink RL 175 yX10_when, .code yX10_when cX10_when 4 (some (.int)), .instanceMethod yX10_when, .selects "SlicedBills" yX10_when yX10_when, .methodLink RL 178 yX11_when, .code yX11_when cX11_when 6 (some (.int))]
theorem WL_7_in : ∀ w ∈ WL_7, w ∈ Wd := ws_in _ [1776, 1777, 1051, 1054, 1052, 1053, 1771, 1774, 1772, 1773, 1076, 1079, 1077, 1078, 1850, 1853, 1851, 1852, 1086, 1089, 1087, 1088, 1858, 1861, 1859, 1860, 1099, 1102, 1100, 1101, 1862, 1865, 1863, 1864, 1103, 1106, 1104, 1105, 1866, 1869] (by decide +kernel) (by decide +kernel)
theorem wl_280 : Cond.instanceMethod yX11_line ∈ Wd := WL_7_in _ (List.mem_of_getElem? (i := 0) rfl)
theorem wl_281 : Cond.selects "SlicedBillsModel" yX11_line yX11_line ∈ Wd := WL_7_in _ (List.mem_of_getElem? (i := 1) rfl)
theorem wl_282 : Cond.methodLink RL 159 yX10_period ∈ Wd := WL_7_in _ (List.mem_of_getElem? (i := 2) rfl)
theorem wl_283 : Cond.code yX10_period cX10_period 3 (some (.int)) ∈ Wd := WL_7_in _ (List.mem_of_getElem? (i := 3) rfl)
theorem wl_284 : Cond.instanceMethod yX10_period ∈ Wd := WL_7_in _ (List.mem_of_getElem? (i := 4) rfl)
theorem wl_285 : Cond.selects "SlicedBills" yX10_period yX10_period ∈ Wd := WL_7_in _ (List.mem_of_getElem? (i := 5) rfl)
theorem wl_286 : Cond.methodLink RL 162 yX11_period ∈ Wd := WL_7_in _ (List.mem_of_getElem? (i := 6) rfl)
theorem wl_287 : Cond.code yX11_period cX11_period 5 (some (.int)) ∈ Wd := WL_7_in _ (List.mem_of_getElem? (i := 7) rfl)
theorem wl_288 : Cond.instanceMethod yX11_period ∈ Wd := WL_7_in _ (List.mem_of_getElem? (i := 8) rfl)
theorem wl_289 : Cond.selects "SlicedBillsModel" yX11_period yX11_period ∈ Wd := WL_7_in _ (List.mem_of_getElem? (i := 9) rfl)
theorem wl_290 : Cond.methodLink RL 163 yX10_quote ∈ Wd := WL_7_in _ (List.mem_of_getElem? (i := 10) rfl)
theorem wl_291 : Cond.code yX10_quote cX10_quote 5 (some (.int)) ∈ Wd := WL_7_in _ (List.mem_of_getElem? (i := 11) rfl)
theorem wl_292 : Cond.instanceMethod yX10_quote ∈ Wd := WL_7_in _ (List.mem_of_getElem? (i := 12) rfl)
theorem wl_293 : Cond.selects "SlicedBills" yX10_quote yX10_quote ∈ Wd := WL_7_in _ (List.mem_of_getElem? (i := 13) rfl)
theorem wl_294 : Cond.methodLink RL 166 yX11_quote ∈ Wd := WL_7_in _ (List.mem_of_getElem? (i := 14) rfl)
theorem wl_295 : Cond.code yX11_quote cX11_quote 4 (some (.int)) ∈ Wd := WL_7_in _ (List.mem_of_getElem? (i := 15) rfl)
theorem wl_296 : Cond.instanceMethod yX11_quote ∈ Wd := WL_7_in _ (List.mem_of_getElem? (i := 16) rfl)
theorem wl_297 : Cond.selects "SlicedBillsModel" yX11_quote yX11_quote ∈ Wd := WL_7_in _ (List.mem_of_getElem? (i := 17) rfl)
theorem wl_298 : Cond.methodLink RL 167 yX10_best ∈ Wd := WL_7_in _ (List.mem_of_getElem? (i := 18) rfl)
theorem wl_299 : Cond.code yX10_best cX10_best 5 (some (.int)) ∈ Wd := WL_7_in _ (List.mem_of_getElem? (i := 19) rfl)
theorem wl_300 : Cond.instanceMethod yX10_best ∈ Wd := WL_7_in _ (List.mem_of_getElem? (i := 20) rfl)
theorem wl_301 : Cond.selects "SlicedBills" yX10_best yX10_best ∈ Wd := WL_7_in _ (List.mem_of_getElem? (i := 21) rfl)
theorem wl_302 : Cond.methodLink RL 170 yX11_best ∈ Wd := WL_7_in _ (List.mem_of_getElem? (i := 22) rfl)
theorem wl_303 : Cond.code yX11_best cX11_best 7 (some (.int)) ∈ Wd := WL_7_in _ (List.mem_of_getElem? (i := 23) rfl)
theorem wl_304 : Cond.instanceMethod yX11_best ∈ Wd := WL_7_in _ (List.mem_of_getElem? (i := 24) rfl)
theorem wl_305 : Cond.selects "SlicedBillsModel" yX11_best yX11_best ∈ Wd := WL_7_in _ (List.mem_of_getElem? (i := 25) rfl)
theorem wl_306 : Cond.methodLink RL 171 yX10_ahead ∈ Wd := WL_7_in _ (List.mem_of_getElem? (i := 26) rfl)
theorem wl_307 : Cond.code yX10_ahead cX10_ahead 3 (some (.int)) ∈ Wd := WL_7_in _ (List.mem_of_getElem? (i := 27) rfl)
theorem wl_308 : Cond.instanceMethod yX10_ahead ∈ Wd := WL_7_in _ (List.mem_of_getElem? (i := 28) rfl)
theorem wl_309 : Cond.selects "SlicedBills" yX10_ahead yX10_ahead ∈ Wd := WL_7_in _ (List.mem_of_getElem? (i := 29) rfl)
theorem wl_310 : Cond.methodLink RL 174 yX11_ahead ∈ Wd := WL_7_in _ (List.mem_of_getElem? (i := 30) rfl)
theorem wl_311 : Cond.code yX11_ahead cX11_ahead 4 (some (.int)) ∈ Wd := WL_7_in _ (List.mem_of_getElem? (i := 31) rfl)
theorem wl_312 : Cond.instanceMethod yX11_ahead ∈ Wd := WL_7_in _ (List.mem_of_getElem? (i := 32) rfl)
theorem wl_313 : Cond.selects "SlicedBillsModel" yX11_ahead yX11_ahead ∈ Wd := WL_7_in _ (List.mem_of_getElem? (i := 33) rfl)
theorem wl_314 : Cond.methodLink RL 175 yX10_when ∈ Wd := WL_7_in _ (List.mem_of_getElem? (i := 34) rfl)
theorem wl_315 : Cond.code yX10_when cX10_when 4 (some (.int)) ∈ Wd := WL_7_in _ (List.mem_of_getElem? (i := 35) rfl)
theorem wl_316 : Cond.instanceMethod yX10_when ∈ Wd := WL_7_in _ (List.mem_of_getElem? (i := 36) rfl)
theorem wl_317 : Cond.selects "SlicedBills" yX10_when yX10_when ∈ Wd := WL_7_in _ (List.mem_of_getElem? (i := 37) rfl)
theorem wl_318 : Cond.methodLink RL 178 yX11_when ∈ Wd := WL_7_in _ (List.mem_of_getElem? (i := 38) rfl)
theorem wl_319 : Cond.code yX11_when cX11_when 6 (some (.int)) ∈ Wd := WL_7_in _ (List.mem_of_getElem? (i := 39) rfl)
def WL_8 : List Cond := [.instanceMethod yX11_when, .selects "SlicedBillsModel" yX11_when yX11_when, .methodLink RL 179 yX10_keep, .code yX10_keep cX10_keep 1 (some (.int)), .instanceMethod yX10_keep, .selects "SlicedBills" yX10_keep yX10_keep, .methodLink RL 183 yX11_keep, .code yX11_keep cX11_keep 1 (some (.int)), .instanceMethod yX11_keep, .selects "SlicedBillsModel" yX11_keep yX11_keep, .methodLink RL 184 yX10_undo, .code yX10_undo cX10_undo 1 (some (.boolean)), .instanceMethod yX10_undo, .selects "SlicedBills" yX10_undo yX10_undo, .methodLink RL 188 yX11_undo, .code yX11_undo cX11_undo 1 (some (.boolean)), .instanceMethod yX11_undo, .selects "SlicedBillsModel" yX11_undo yX11_undo, .methodLink RL 189 yX10_check, .code yX10_check cX10_check 3 (some (.int)), .instanceMethod yX10_check, .selects "SlicedBills" yX10_check yX10_check, .methodLink RL 192 yX11_check, .code yX11_check cX11_check 4 (some (.int)), .instanceMethod yX11_check, .selects "SlicedBillsModel" yX11_check yX11_check, .methodLink RL 193 yX10_count, .code yX10_count cX10_count 2 (some (.int)), .instanceMethod yX10_count, .selects "SlicedBills" yX10_count yX10_count, .methodLink RL 196 yX11_count, .code yX11_count cX11_count 2 (some (.int)), .instanceMethod yX11_count, .selects "SlicedBillsModel" yX11_count yX11_count]
theorem WL_8_in : ∀ w ∈ WL_8, w ∈ Wd := ws_in _ [1867, 1868, 936, 939, 937, 938, 1870, 1873, 1871, 1872, 940, 943, 941, 942, 1874, 1877, 1875, 1876, 931, 934, 932, 933, 1878, 1881, 1879, 1880, 944, 947, 945, 946, 1882, 1885, 1883, 1884] (by decide +kernel) (by decide +kernel)
theorem wl_320 : Cond.instanceMethod yX11_when ∈ Wd := WL_8_in _ (List.mem_of_getElem? (i := 0) rfl)
theorem wl_321 : Cond.selects "SlicedBillsModel" yX11_when yX11_when ∈ Wd := WL_8_in _ (List.mem_of_getElem? (i := 1) rfl)
theorem wl_322 : Cond.methodLink RL 179 yX10_keep ∈ Wd := WL_8_in _ (List.mem_of_getElem? (i := 2) rfl)
theorem wl_323 : Cond.code yX10_keep cX10_keep 1 (some (.int)) ∈ Wd := WL_8_in _ (List.mem_of_getElem? (i := 3) rfl)
theorem wl_324 : Cond.instanceMethod yX10_keep ∈ Wd := WL_8_in _ (List.mem_of_getElem? (i := 4) rfl)
theorem wl_325 : Cond.selects "SlicedBills" yX10_keep yX10_keep ∈ Wd := WL_8_in _ (List.mem_of_getElem? (i := 5) rfl)
theorem wl_326 : Cond.methodLink RL 183 yX11_keep ∈ Wd := WL_8_in _ (List.mem_of_getElem? (i := 6) rfl)
theorem wl_327 : Cond.code yX11_keep cX11_keep 1 (some (.int)) ∈ Wd := WL_8_in _ (List.mem_of_getElem? (i := 7) rfl)
theorem wl_328 : Cond.instanceMethod yX11_keep ∈ Wd := WL_8_in _ (List.mem_of_getElem? (i := 8) rfl)
theorem wl_329 : Cond.selects "SlicedBillsModel" yX11_keep yX11_keep ∈ Wd := WL_8_in _ (List.mem_of_getElem? (i := 9) rfl)
theorem wl_330 : Cond.methodLink RL 184 yX10_undo ∈ Wd := WL_8_in _ (List.mem_of_getElem? (i := 10) rfl)
theorem wl_331 : Cond.code yX10_undo cX10_undo 1 (some (.boolean)) ∈ Wd := WL_8_in _ (List.mem_of_getElem? (i := 11) rfl)
theorem wl_332 : Cond.instanceMethod yX10_undo ∈ Wd := WL_8_in _ (List.mem_of_getElem? (i := 12) rfl)
theorem wl_333 : Cond.selects "SlicedBills" yX10_undo yX10_undo ∈ Wd := WL_8_in _ (List.mem_of_getElem? (i := 13) rfl)
theorem wl_334 : Cond.methodLink RL 188 yX11_undo ∈ Wd := WL_8_in _ (List.mem_of_getElem? (i := 14) rfl)
theorem wl_335 : Cond.code yX11_undo cX11_undo 1 (some (.boolean)) ∈ Wd := WL_8_in _ (List.mem_of_getElem? (i := 15) rfl)
theorem wl_336 : Cond.instanceMethod yX11_undo ∈ Wd := WL_8_in _ (List.mem_of_getElem? (i := 16) rfl)
theorem wl_337 : Cond.selects "SlicedBillsModel" yX11_undo yX11_undo ∈ Wd := WL_8_in _ (List.mem_of_getElem? (i := 17) rfl)
theorem wl_338 : Cond.methodLink RL 189 yX10_check ∈ Wd := WL_8_in _ (List.mem_of_getElem? (i := 18) rfl)
theorem wl_339 : Cond.code yX10_check cX10_check 3 (some (.int)) ∈ Wd := WL_8_in _ (List.mem_of_getElem? (i := 19) rfl)
theorem wl_340 : Cond.instanceMethod yX10_check ∈ Wd := WL_8_in _ (List.mem_of_getElem? (i := 20) rfl)
theorem wl_341 : Cond.selects "SlicedBills" yX10_check yX10_check ∈ Wd := WL_8_in _ (List.mem_of_getElem? (i := 21) rfl)
theorem wl_342 : Cond.methodLink RL 192 yX11_check ∈ Wd := WL_8_in _ (List.mem_of_getElem? (i := 22) rfl)
theorem wl_343 : Cond.code yX11_check cX11_check 4 (some (.int)) ∈ Wd := WL_8_in _ (List.mem_of_getElem? (i := 23) rfl)
theorem wl_344 : Cond.instanceMethod yX11_check ∈ Wd := WL_8_in _ (List.mem_of_getElem? (i := 24) rfl)
theorem wl_345 : Cond.selects "SlicedBillsModel" yX11_check yX11_check ∈ Wd := WL_8_in _ (List.mem_of_getElem? (i := 25) rfl)
theorem wl_346 : Cond.methodLink RL 193 yX10_count ∈ Wd := WL_8_in _ (List.mem_of_getElem? (i := 26) rfl)
theorem wl_347 : Cond.code yX10_count cX10_count 2 (some (.int)) ∈ Wd := WL_8_in _ (List.mem_of_getElem? (i := 27) rfl)
theorem wl_348 : Cond.instanceMethod yX10_count ∈ Wd := WL_8_in _ (List.mem_of_getElem? (i := 28) rfl)
theorem wl_349 : Cond.selects "SlicedBills" yX10_count yX10_count ∈ Wd := WL_8_in _ (List.mem_of_getElem? (i := 29) rfl)
theorem wl_350 : Cond.methodLink RL 196 yX11_count ∈ Wd := WL_8_in _ (List.mem_of_getElem? (i := 30) rfl)
theorem wl_351 : Cond.code yX11_count cX11_count 2 (some (.int)) ∈ Wd := WL_8_in _ (List.mem_of_getElem? (i := 31) rfl)
theorem wl_352 : Cond.instanceMethod yX11_count ∈ Wd := WL_8_in _ (List.mem_of_getElem? (i := 32) rfl)
theorem wl_353 : Cond.selects "SlicedBillsModel" yX11_count yX11_count ∈ Wd := WL_8_in _ (List.mem_of_getElem? (i := 33) rfl)
theorem ck_L_13 : CKV RL 13 yX10_feed cX10_feed 6 (some .int) 5 10 := ⟨⟨Or.inl wl_0, wl_1, wl_2, ⟨by decide +kernel, by decide +kernel⟩, by decide +kernel⟩, wl_3, wl_4, by decide, TX10, 10, rfl⟩
theorem ck_L_17 : CKV RL 17 yX11_feed cX11_feed 6 (some .int) 5 11 := ⟨⟨Or.inl wl_5, wl_6, wl_7, ⟨by decide +kernel, by decide +kernel⟩, by decide +kernel⟩, wl_8, wl_9, by decide, TX11, 22, rfl⟩
theorem ck_L_18 : CKV RL 18 yX10_book cX10_book 3 (some .int) 1 10 := ⟨⟨Or.inl wl_10, wl_11, wl_2, ⟨by decide +kernel, by decide +kernel⟩, by decide +kernel⟩, wl_12, wl_13, by decide, TX10, 10, rfl⟩
theorem ck_L_22 : CKV RL 22 yX11_book cX11_book 4 (some .int) 1 11 := ⟨⟨Or.inl wl_14, wl_15, wl_7, ⟨by decide +kernel, by decide +kernel⟩, by decide +kernel⟩, wl_16, wl_17, by decide, TX11, 22, rfl⟩
theorem ck_L_23 : CKV RL 23 yX10_begin cX10_begin 4 (some .int) 3 10 := ⟨⟨Or.inl wl_18, wl_19, wl_2, ⟨by decide +kernel, by decide +kernel⟩, by decide +kernel⟩, wl_20, wl_21, by decide, TX10, 10, rfl⟩
theorem ck_L_27 : CKV RL 27 yX11_begin cX11_begin 5 (some .int) 3 11 := ⟨⟨Or.inl wl_22, wl_23, wl_7, ⟨by decide +kernel, by decide +kernel⟩, by decide +kernel⟩, wl_24, wl_25, by decide, TX11, 22, rfl⟩
theorem ck_L_28 : CKV RL 28 yX10_change cX10_change 3 (some .int) 2 10 := ⟨⟨Or.inl wl_26, wl_27, wl_2, ⟨by decide +kernel, by decide +kernel⟩, by decide +kernel⟩, wl_28, wl_29, by decide, TX10, 10, rfl⟩
theorem ck_L_32 : CKV RL 32 yX11_change cX11_change 4 (some .int) 2 11 := ⟨⟨Or.inl wl_30, wl_31, wl_7, ⟨by decide +kernel, by decide +kernel⟩, by decide +kernel⟩, wl_32, wl_33, by decide, TX11, 22, rfl⟩
theorem ck_L_33 : CKV RL 33 yX10_seats cX10_seats 3 (some .int) 2 10 := ⟨⟨Or.inl wl_34, wl_35, wl_2, ⟨by decide +kernel, by decide +kernel⟩, by decide +kernel⟩, wl_36, wl_37, by decide, TX10, 10, rfl⟩
theorem ck_L_36 : CKV RL 36 yX11_seats cX11_seats 4 (some .int) 2 11 := ⟨⟨Or.inl wl_38, wl_39, wl_7, ⟨by decide +kernel, by decide +kernel⟩, by decide +kernel⟩, wl_40, wl_41, by decide, TX11, 22, rfl⟩
theorem ck_L_37 : CKV RL 37 yX10_tax cX10_tax 2 (some .int) 1 10 := ⟨⟨Or.inl wl_42, wl_43, wl_2, ⟨by decide +kernel, by decide +kernel⟩, by decide +kernel⟩, wl_44, wl_45, by decide, TX10, 10, rfl⟩
theorem ck_L_40 : CKV RL 40 yX11_tax cX11_tax 4 (some .int) 1 11 := ⟨⟨Or.inl wl_46, wl_47, wl_7, ⟨by decide +kernel, by decide +kernel⟩, by decide +kernel⟩, wl_48, wl_49, by decide, TX11, 22, rfl⟩
theorem ck_L_41 : CKV RL 41 yX10_taxes cX10_taxes 3 (some .int) 2 10 := ⟨⟨Or.inl wl_50, wl_51, wl_2, ⟨by decide +kernel, by decide +kernel⟩, by decide +kernel⟩, wl_52, wl_53, by decide, TX10, 10, rfl⟩
theorem ck_L_44 : CKV RL 44 yX11_taxes cX11_taxes 3 (some .int) 2 11 := ⟨⟨Or.inl wl_54, wl_55, wl_7, ⟨by decide +kernel, by decide +kernel⟩, by decide +kernel⟩, wl_56, wl_57, by decide, TX11, 22, rfl⟩
theorem ck_L_45 : CKV RL 45 yX10_pause cX10_pause 3 (some .int) 2 10 := ⟨⟨Or.inl wl_58, wl_59, wl_2, ⟨by decide +kernel, by decide +kernel⟩, by decide +kernel⟩, wl_60, wl_61, by decide, TX10, 10, rfl⟩
theorem ck_L_49 : CKV RL 49 yX11_pause cX11_pause 4 (some .int) 2 11 := ⟨⟨Or.inl wl_62, wl_63, wl_7, ⟨by decide +kernel, by decide +kernel⟩, by decide +kernel⟩, wl_64, wl_65, by decide, TX11, 22, rfl⟩
theorem ck_L_50 : CKV RL 50 yX10_giveUp cX10_giveUp 2 (some .int) 1 10 := ⟨⟨Or.inl wl_66, wl_67, wl_2, ⟨by decide +kernel, by decide +kernel⟩, by decide +kernel⟩, wl_68, wl_69, by decide, TX10, 10, rfl⟩
theorem ck_L_53 : CKV RL 53 yX11_giveUp cX11_giveUp 3 (some .int) 1 11 := ⟨⟨Or.inl wl_70, wl_71, wl_7, ⟨by decide +kernel, by decide +kernel⟩, by decide +kernel⟩, wl_72, wl_73, by decide, TX11, 22, rfl⟩
theorem ck_L_54 : CKV RL 54 yX10_move cX10_move 3 (some .int) 2 10 := ⟨⟨Or.inl wl_74, wl_75, wl_2, ⟨by decide +kernel, by decide +kernel⟩, by decide +kernel⟩, wl_76, wl_77, by decide, TX10, 10, rfl⟩
theorem ck_L_57 : CKV RL 57 yX11_move cX11_move 4 (some .int) 2 11 := ⟨⟨Or.inl wl_78, wl_79, wl_7, ⟨by decide +kernel, by decide +kernel⟩, by decide +kernel⟩, wl_80, wl_81, by decide, TX11, 22, rfl⟩
theorem ck_L_58 : CKV RL 58 yX10_deeds cX10_deeds 4 (some .int) 1 10 := ⟨⟨Or.inl wl_82, wl_83, wl_2, ⟨by decide +kernel, by decide +kernel⟩, by decide +kernel⟩, wl_84, wl_85, by decide, TX10, 10, rfl⟩
theorem ck_L_61 : CKV RL 61 yX11_deeds cX11_deeds 2 (some .int) 1 11 := ⟨⟨Or.inl wl_86, wl_87, wl_7, ⟨by decide +kernel, by decide +kernel⟩, by decide +kernel⟩, wl_88, wl_89, by decide, TX11, 22, rfl⟩
theorem ck_L_62 : CKV RL 62 yX10_tried cX10_tried 5 (some .int) 2 10 := ⟨⟨Or.inl wl_90, wl_91, wl_2, ⟨by decide +kernel, by decide +kernel⟩, by decide +kernel⟩, wl_92, wl_93, by decide, TX10, 10, rfl⟩
theorem ck_L_65 : CKV RL 65 yX11_tried cX11_tried 4 (some .int) 2 11 := ⟨⟨Or.inl wl_94, wl_95, wl_7, ⟨by decide +kernel, by decide +kernel⟩, by decide +kernel⟩, wl_96, wl_97, by decide, TX11, 22, rfl⟩
theorem ck_L_66 : CKV RL 66 yX10_use cX10_use 3 (some .int) 2 10 := ⟨⟨Or.inl wl_98, wl_99, wl_2, ⟨by decide +kernel, by decide +kernel⟩, by decide +kernel⟩, wl_100, wl_101, by decide, TX10, 10, rfl⟩
theorem ck_L_69 : CKV RL 69 yX11_use cX11_use 3 (some .int) 2 11 := ⟨⟨Or.inl wl_102, wl_103, wl_7, ⟨by decide +kernel, by decide +kernel⟩, by decide +kernel⟩, wl_104, wl_105, by decide, TX11, 22, rfl⟩
theorem ck_L_70 : CKV RL 70 yX10_days cX10_days 2 (some .int) 1 10 := ⟨⟨Or.inl wl_106, wl_107, wl_2, ⟨by decide +kernel, by decide +kernel⟩, by decide +kernel⟩, wl_108, wl_109, by decide, TX10, 10, rfl⟩
theorem ck_L_73 : CKV RL 73 yX11_days cX11_days 2 (some .int) 1 11 := ⟨⟨Or.inl wl_110, wl_111, wl_7, ⟨by decide +kernel, by decide +kernel⟩, by decide +kernel⟩, wl_112, wl_113, by decide, TX11, 22, rfl⟩
theorem ck_L_74 : CKV RL 74 yX10_favour cX10_favour 3 (some .int) 2 10 := ⟨⟨Or.inl wl_114, wl_115, wl_2, ⟨by decide +kernel, by decide +kernel⟩, by decide +kernel⟩, wl_116, wl_117, by decide, TX10, 10, rfl⟩
theorem ck_L_77 : CKV RL 77 yX11_favour cX11_favour 3 (some .int) 2 11 := ⟨⟨Or.inl wl_118, wl_119, wl_7, ⟨by decide +kernel, by decide +kernel⟩, by decide +kernel⟩, wl_120, wl_121, by decide, TX11, 22, rfl⟩
theorem ck_L_78 : CKV RL 78 yX10_pay cX10_pay 3 (some .int) 2 10 := ⟨⟨Or.inl wl_122, wl_123, wl_2, ⟨by decide +kernel, by decide +kernel⟩, by decide +kernel⟩, wl_124, wl_125, by decide, TX10, 10, rfl⟩
theorem ck_L_81 : CKV RL 81 yX11_pay cX11_pay 3 (some .int) 2 11 := ⟨⟨Or.inl wl_126, wl_127, wl_7, ⟨by decide +kernel, by decide +kernel⟩, by decide +kernel⟩, wl_128, wl_129, by decide, TX11, 22, rfl⟩
theorem ck_L_82 : CKV RL 82 yX10_remind cX10_remind 2 (some .int) 1 10 := ⟨⟨Or.inl wl_130, wl_131, wl_2, ⟨by decide +kernel, by decide +kernel⟩, by decide +kernel⟩, wl_132, wl_133, by decide, TX10, 10, rfl⟩
theorem ck_L_85 : CKV RL 85 yX11_remind cX11_remind 3 (some .int) 1 11 := ⟨⟨Or.inl wl_134, wl_135, wl_7, ⟨by decide +kernel, by decide +kernel⟩, by decide +kernel⟩, wl_136, wl_137, by decide, TX11, 22, rfl⟩
theorem ck_L_86 : CKV RL 86 yX10_late cX10_late 3 (some .int) 2 10 := ⟨⟨Or.inl wl_138, wl_139, wl_2, ⟨by decide +kernel, by decide +kernel⟩, by decide +kernel⟩, wl_140, wl_141, by decide, TX10, 10, rfl⟩
theorem ck_L_89 : CKV RL 89 yX11_late cX11_late 3 (some .int) 2 11 := ⟨⟨Or.inl wl_142, wl_143, wl_7, ⟨by decide +kernel, by decide +kernel⟩, by decide +kernel⟩, wl_144, wl_145, by decide, TX11, 22, rfl⟩
theorem ck_L_90 : CKV RL 90 yX10_open cX10_open 3 (some .int) 1 10 := ⟨⟨Or.inl wl_146, wl_147, wl_2, ⟨by decide +kernel, by decide +kernel⟩, by decide +kernel⟩, wl_148, wl_149, by decide, TX10, 10, rfl⟩
theorem ck_L_93 : CKV RL 93 yX11_open cX11_open 2 (some .int) 1 11 := ⟨⟨Or.inl wl_150, wl_151, wl_7, ⟨by decide +kernel, by decide +kernel⟩, by decide +kernel⟩, wl_152, wl_153, by decide, TX11, 22, rfl⟩
theorem ck_L_94 : CKV RL 94 yX10_owes cX10_owes 3 (some .int) 2 10 := ⟨⟨Or.inl wl_154, wl_155, wl_2, ⟨by decide +kernel, by decide +kernel⟩, by decide +kernel⟩, wl_156, wl_157, by decide, TX10, 10, rfl⟩
theorem ck_L_97 : CKV RL 97 yX11_owes cX11_owes 7 (some .int) 2 11 := ⟨⟨Or.inl wl_158, wl_159, wl_7, ⟨by decide +kernel, by decide +kernel⟩, by decide +kernel⟩, wl_160, wl_161, by decide, TX11, 22, rfl⟩
theorem ck_L_98 : CKV RL 98 yX10_earned cX10_earned 3 (some .int) 2 10 := ⟨⟨Or.inl wl_162, wl_163, wl_2, ⟨by decide +kernel, by decide +kernel⟩, by decide +kernel⟩, wl_164, wl_165, by decide, TX10, 10, rfl⟩
theorem ck_L_101 : CKV RL 101 yX11_earned cX11_earned 5 (some .int) 2 11 := ⟨⟨Or.inl wl_166, wl_167, wl_7, ⟨by decide +kernel, by decide +kernel⟩, by decide +kernel⟩, wl_168, wl_169, by decide, TX11, 22, rfl⟩
theorem ck_L_102 : CKV RL 102 yX10_written cX10_written 3 (some .int) 2 10 := ⟨⟨Or.inl wl_170, wl_171, wl_2, ⟨by decide +kernel, by decide +kernel⟩, by decide +kernel⟩, wl_172, wl_173, by decide, TX10, 10, rfl⟩
theorem ck_L_105 : CKV RL 105 yX11_written cX11_written 5 (some .int) 2 11 := ⟨⟨Or.inl wl_174, wl_175, wl_7, ⟨by decide +kernel, by decide +kernel⟩, by decide +kernel⟩, wl_176, wl_177, by decide, TX11, 22, rfl⟩
theorem ck_L_106 : CKV RL 106 yX10_turn cX10_turn 2 (some .int) 1 10 := ⟨⟨Or.inl wl_178, wl_179, wl_2, ⟨by decide +kernel, by decide +kernel⟩, by decide +kernel⟩, wl_180, wl_181, by decide, TX10, 10, rfl⟩
theorem ck_L_109 : CKV RL 109 yX11_turn cX11_turn 4 (some .int) 1 11 := ⟨⟨Or.inl wl_182, wl_183, wl_7, ⟨by decide +kernel, by decide +kernel⟩, by decide +kernel⟩, wl_184, wl_185, by decide, TX11, 22, rfl⟩
theorem ck_L_110 : CKV RL 110 yX10_plan cX10_plan 3 (some .int) 2 10 := ⟨⟨Or.inl wl_186, wl_187, wl_2, ⟨by decide +kernel, by decide +kernel⟩, by decide +kernel⟩, wl_188, wl_189, by decide, TX10, 10, rfl⟩
theorem ck_L_113 : CKV RL 113 yX11_plan cX11_plan 4 (some .int) 2 11 := ⟨⟨Or.inl wl_190, wl_191, wl_7, ⟨by decide +kernel, by decide +kernel⟩, by decide +kernel⟩, wl_192, wl_193, by decide, TX11, 22, rfl⟩
theorem ck_L_114 : CKV RL 114 yX10_billIs cX10_billIs 2 (some .int) 1 10 := ⟨⟨Or.inl wl_194, wl_195, wl_2, ⟨by decide +kernel, by decide +kernel⟩, by decide +kernel⟩, wl_196, wl_197, by decide, TX10, 10, rfl⟩
theorem ck_L_117 : CKV RL 117 yX11_billIs cX11_billIs 2 (some .int) 1 11 := ⟨⟨Or.inl wl_198, wl_199, wl_7, ⟨by decide +kernel, by decide +kernel⟩, by decide +kernel⟩, wl_200, wl_201, by decide, TX11, 22, rfl⟩
theorem ck_L_118 : CKV RL 118 yX10_usage cX10_usage 3 (some .int) 2 10 := ⟨⟨Or.inl wl_202, wl_203, wl_2, ⟨by decide +kernel, by decide +kernel⟩, by decide +kernel⟩, wl_204, wl_205, by decide, TX10, 10, rfl⟩
theorem ck_L_121 : CKV RL 121 yX11_usage cX11_usage 3 (some .int) 2 11 := ⟨⟨Or.inl wl_206, wl_207, wl_7, ⟨by decide +kernel, by decide +kernel⟩, by decide +kernel⟩, wl_208, wl_209, by decide, TX11, 22, rfl⟩
theorem ck_L_122 : CKV RL 122 yX10_units cX10_units 3 (some .int) 2 10 := ⟨⟨Or.inl wl_210, wl_211, wl_2, ⟨by decide +kernel, by decide +kernel⟩, by decide +kernel⟩, wl_212, wl_213, by decide, TX10, 10, rfl⟩
theorem ck_L_125 : CKV RL 125 yX11_units cX11_units 4 (some .int) 2 11 := ⟨⟨Or.inl wl_214, wl_215, wl_7, ⟨by decide +kernel, by decide +kernel⟩, by decide +kernel⟩, wl_216, wl_217, by decide, TX11, 22, rfl⟩
theorem ck_L_126 : CKV RL 126 yX10_cheapest cX10_cheapest 2 (some .int) 1 10 := ⟨⟨Or.inl wl_218, wl_219, wl_2, ⟨by decide +kernel, by decide +kernel⟩, by decide +kernel⟩, wl_220, wl_221, by decide, TX10, 10, rfl⟩
theorem ck_L_129 : CKV RL 129 yX11_cheapest cX11_cheapest 4 (some .int) 1 11 := ⟨⟨Or.inl wl_222, wl_223, wl_7, ⟨by decide +kernel, by decide +kernel⟩, by decide +kernel⟩, wl_224, wl_225, by decide, TX11, 22, rfl⟩
theorem ck_L_130 : CKV RL 130 yX10_accountIs cX10_accountIs 4 (some .int) 2 10 := ⟨⟨Or.inl wl_226, wl_227, wl_2, ⟨by decide +kernel, by decide +kernel⟩, by decide +kernel⟩, wl_228, wl_229, by decide, TX10, 10, rfl⟩
theorem ck_L_133 : CKV RL 133 yX11_accountIs cX11_accountIs 3 (some .int) 2 11 := ⟨⟨Or.inl wl_230, wl_231, wl_7, ⟨by decide +kernel, by decide +kernel⟩, by decide +kernel⟩, wl_232, wl_233, by decide, TX11, 22, rfl⟩
theorem ck_L_134 : CKV RL 134 yX10_part cX10_part 7 (some .int) 4 10 := ⟨⟨Or.inl wl_234, wl_235, wl_2, ⟨by decide +kernel, by decide +kernel⟩, by decide +kernel⟩, wl_236, wl_237, by decide, TX10, 10, rfl⟩
theorem ck_L_138 : CKV RL 138 yX11_part cX11_part 5 (some .int) 4 11 := ⟨⟨Or.inl wl_238, wl_239, wl_7, ⟨by decide +kernel, by decide +kernel⟩, by decide +kernel⟩, wl_240, wl_241, by decide, TX11, 22, rfl⟩
theorem ck_L_139 : CKV RL 139 yX10_span cX10_span 6 (some .int) 3 10 := ⟨⟨Or.inl wl_242, wl_243, wl_2, ⟨by decide +kernel, by decide +kernel⟩, by decide +kernel⟩, wl_244, wl_245, by decide, TX10, 10, rfl⟩
theorem ck_L_142 : CKV RL 142 yX11_span cX11_span 6 (some .int) 3 11 := ⟨⟨Or.inl wl_246, wl_247, wl_7, ⟨by decide +kernel, by decide +kernel⟩, by decide +kernel⟩, wl_248, wl_249, by decide, TX11, 22, rfl⟩
theorem ck_L_143 : CKV RL 143 yX10_date cX10_date 3 (some .int) 2 10 := ⟨⟨Or.inl wl_250, wl_251, wl_2, ⟨by decide +kernel, by decide +kernel⟩, by decide +kernel⟩, wl_252, wl_253, by decide, TX10, 10, rfl⟩
theorem ck_L_146 : CKV RL 146 yX11_date cX11_date 3 (some .int) 2 11 := ⟨⟨Or.inl wl_254, wl_255, wl_7, ⟨by decide +kernel, by decide +kernel⟩, by decide +kernel⟩, wl_256, wl_257, by decide, TX11, 22, rfl⟩
theorem ck_L_147 : CKV RL 147 yX10_day cX10_day 4 (some .int) 3 10 := ⟨⟨Or.inl wl_258, wl_259, wl_2, ⟨by decide +kernel, by decide +kernel⟩, by decide +kernel⟩, wl_260, wl_261, by decide, TX10, 10, rfl⟩
theorem ck_L_150 : CKV RL 150 yX11_day cX11_day 5 (some .int) 3 11 := ⟨⟨Or.inl wl_262, wl_263, wl_7, ⟨by decide +kernel, by decide +kernel⟩, by decide +kernel⟩, wl_264, wl_265, by decide, TX11, 22, rfl⟩
theorem ck_L_151 : CKV RL 151 yX10_entry cX10_entry 3 (some .int) 2 10 := ⟨⟨Or.inl wl_266, wl_267, wl_2, ⟨by decide +kernel, by decide +kernel⟩, by decide +kernel⟩, wl_268, wl_269, by decide, TX10, 10, rfl⟩
theorem ck_L_154 : CKV RL 154 yX11_entry cX11_entry 3 (some .int) 2 11 := ⟨⟨Or.inl wl_270, wl_271, wl_7, ⟨by decide +kernel, by decide +kernel⟩, by decide +kernel⟩, wl_272, wl_273, by decide, TX11, 22, rfl⟩
theorem ck_L_155 : CKV RL 155 yX10_line cX10_line 3 (some .int) 2 10 := ⟨⟨Or.inl wl_274, wl_275, wl_2, ⟨by decide +kernel, by decide +kernel⟩, by decide +kernel⟩, wl_276, wl_277, by decide, TX10, 10, rfl⟩
theorem ck_L_158 : CKV RL 158 yX11_line cX11_line 3 (some .int) 2 11 := ⟨⟨Or.inl wl_278, wl_279, wl_7, ⟨by decide +kernel, by decide +kernel⟩, by decide +kernel⟩, wl_280, wl_281, by decide, TX11, 22, rfl⟩
theorem ck_L_159 : CKV RL 159 yX10_period cX10_period 3 (some .int) 2 10 := ⟨⟨Or.inl wl_282, wl_283, wl_2, ⟨by decide +kernel, by decide +kernel⟩, by decide +kernel⟩, wl_284, wl_285, by decide, TX10, 10, rfl⟩
theorem ck_L_162 : CKV RL 162 yX11_period cX11_period 5 (some .int) 2 11 := ⟨⟨Or.inl wl_286, wl_287, wl_7, ⟨by decide +kernel, by decide +kernel⟩, by decide +kernel⟩, wl_288, wl_289, by decide, TX11, 22, rfl⟩
theorem ck_L_163 : CKV RL 163 yX10_quote cX10_quote 5 (some .int) 3 10 := ⟨⟨Or.inl wl_290, wl_291, wl_2, ⟨by decide +kernel, by decide +kernel⟩, by decide +kernel⟩, wl_292, wl_293, by decide, TX10, 10, rfl⟩
theorem ck_L_166 : CKV RL 166 yX11_quote cX11_quote 4 (some .int) 3 11 := ⟨⟨Or.inl wl_294, wl_295, wl_7, ⟨by decide +kernel, by decide +kernel⟩, by decide +kernel⟩, wl_296, wl_297, by decide, TX11, 22, rfl⟩
theorem ck_L_167 : CKV RL 167 yX10_best cX10_best 5 (some .int) 3 10 := ⟨⟨Or.inl wl_298, wl_299, wl_2, ⟨by decide +kernel, by decide +kernel⟩, by decide +kernel⟩, wl_300, wl_301, by decide, TX10, 10, rfl⟩
theorem ck_L_170 : CKV RL 170 yX11_best cX11_best 7 (some .int) 3 11 := ⟨⟨Or.inl wl_302, wl_303, wl_7, ⟨by decide +kernel, by decide +kernel⟩, by decide +kernel⟩, wl_304, wl_305, by decide, TX11, 22, rfl⟩
theorem ck_L_171 : CKV RL 171 yX10_ahead cX10_ahead 3 (some .int) 2 10 := ⟨⟨Or.inl wl_306, wl_307, wl_2, ⟨by decide +kernel, by decide +kernel⟩, by decide +kernel⟩, wl_308, wl_309, by decide, TX10, 10, rfl⟩
theorem ck_L_174 : CKV RL 174 yX11_ahead cX11_ahead 4 (some .int) 2 11 := ⟨⟨Or.inl wl_310, wl_311, wl_7, ⟨by decide +kernel, by decide +kernel⟩, by decide +kernel⟩, wl_312, wl_313, by decide, TX11, 22, rfl⟩
theorem ck_L_175 : CKV RL 175 yX10_when cX10_when 4 (some .int) 2 10 := ⟨⟨Or.inl wl_314, wl_315, wl_2, ⟨by decide +kernel, by decide +kernel⟩, by decide +kernel⟩, wl_316, wl_317, by decide, TX10, 10, rfl⟩
theorem ck_L_178 : CKV RL 178 yX11_when cX11_when 6 (some .int) 2 11 := ⟨⟨Or.inl wl_318, wl_319, wl_7, ⟨by decide +kernel, by decide +kernel⟩, by decide +kernel⟩, wl_320, wl_321, by decide, TX11, 22, rfl⟩
theorem ck_L_179 : CKV RL 179 yX10_keep cX10_keep 1 (some .int) 0 10 := ⟨⟨Or.inl wl_322, wl_323, wl_2, ⟨by decide +kernel, by decide +kernel⟩, by decide +kernel⟩, wl_324, wl_325, by decide, TX10, 10, rfl⟩
theorem ck_L_183 : CKV RL 183 yX11_keep cX11_keep 1 (some .int) 0 11 := ⟨⟨Or.inl wl_326, wl_327, wl_7, ⟨by decide +kernel, by decide +kernel⟩, by decide +kernel⟩, wl_328, wl_329, by decide, TX11, 22, rfl⟩
theorem ck_L_184 : CKV RL 184 yX10_undo cX10_undo 1 (some .boolean) 0 10 := ⟨⟨Or.inl wl_330, wl_331, wl_2, ⟨by decide +kernel, by decide +kernel⟩, by decide +kernel⟩, wl_332, wl_333, by decide, TX10, 10, rfl⟩
theorem ck_L_188 : CKV RL 188 yX11_undo cX11_undo 1 (some .boolean) 0 11 := ⟨⟨Or.inl wl_334, wl_335, wl_7, ⟨by decide +kernel, by decide +kernel⟩, by decide +kernel⟩, wl_336, wl_337, by decide, TX11, 22, rfl⟩
theorem ck_L_189 : CKV RL 189 yX10_check cX10_check 3 (some .int) 1 10 := ⟨⟨Or.inl wl_338, wl_339, wl_2, ⟨by decide +kernel, by decide +kernel⟩, by decide +kernel⟩, wl_340, wl_341, by decide, TX10, 10, rfl⟩
theorem ck_L_192 : CKV RL 192 yX11_check cX11_check 4 (some .int) 1 11 := ⟨⟨Or.inl wl_342, wl_343, wl_7, ⟨by decide +kernel, by decide +kernel⟩, by decide +kernel⟩, wl_344, wl_345, by decide, TX11, 22, rfl⟩
theorem ck_L_193 : CKV RL 193 yX10_count cX10_count 2 (some .int) 1 10 := ⟨⟨Or.inl wl_346, wl_347, wl_2, ⟨by decide +kernel, by decide +kernel⟩, by decide +kernel⟩, wl_348, wl_349, by decide, TX10, 10, rfl⟩
theorem ck_L_196 : CKV RL 196 yX11_count cX11_count 2 (some .int) 1 11 := ⟨⟨Or.inl wl_350, wl_351, wl_7, ⟨by decide +kernel, by decide +kernel⟩, by decide +kernel⟩, wl_352, wl_353, by decide, TX11, 22, rfl⟩
