/-! ===== what the tables say, by places (written by program) ===== -/
theorem sk_memB (ws : List Jvm.Cond) (ps : List Nat) (hp : ws = ps.filterMap (fun i => lw_tbl[i]?)) (h : ws.all goodWord = true) : ∀ w ∈ ws, w ∈ sk_B := by
  intro w hw
  have h1 := List.all_eq_true.mp h w hw
  rw [hp] at hw
  obtain ⟨i, -, hi⟩ := List.mem_filterMap.mp hw
  exact sk_B_of (List.mem_of_getElem? hi) h1
def sk_ownL : List String := [RX0, RX1, RX2, RX3, RX4, RX5, RX6, RX7, RX8, RX9, RX10, RX11, RX12, RL, RJ7, RJ9, RJxf58ca]
def sk_own (o : Nat) : String := sk_ownL.getD o ""
def sk_infL : List sk_I := [(yL_law, code, 0, none),
  (yX11_isUnder, cX11_isUnder, 4, some .boolean),
  (yX12_kindOf, cX12_kindOf, 2, some .int),
  (yX0_of, cX0_of, 4, some .int),
  (yX0_single, cX0_single, 4, some .int),
  (yX0_tallest, cX0_tallest, 5, some .int),
  (yX0_together, cX0_together, 7, some .int),
  (yX0_isShared, cX0_isShared, 1, some .boolean),
  (yX0_shares, cX0_shares, 1, some .int),
  (yX0_weight, cX0_weight, 6, some .int),
  (yX1_init, cX1_init, 1, none),
  (yX1_takeFrom, cX1_takeFrom, 4, none),
  (yX1_leastStages, cX1_leastStages, 3, some .int),
  (yX1_stagesFrom, cX1_stagesFrom, 6, some .int),
  (yX1_cut, cX1_cut, 7, some .int),
  (yX1_isFree, cX1_isFree, 6, some .boolean),
  (yX1_numberPieces, cX1_numberPieces, 5, some .int),
  (yX2_init, cX2_init, 1, none),
  (yX2_runAll, cX2_runAll, 5, some .int),
  (yX2_layOne, cX2_layOne, 3, some .boolean),
  (yX2_find, cX2_find, 3, none),
  (yX2_findInWaste, cX2_findInWaste, 11, none),
  (yX2_findOnSkyline, cX2_findOnSkyline, 13, none),
  (yX2_settle, cX2_settle, 4, none),
  (yX3_init, cX3_init, 1, none),
  (yX3_begin, cX3_begin, 5, none),
  (yX3_becomeLike, cX3_becomeLike, 2, none),
  (yX3_lies, cX3_lies, 1, some .boolean),
  (yX3_isLaid, cX3_isLaid, 1, some .boolean),
  (yX3_lieAt, cX3_lieAt, 5, none),
  (yX3_ways, cX3_ways, 2, some .int),
  (yX3_acrossIf, cX3_acrossIf, 2, some .int),
  (yX3_tallIf, cX3_tallIf, 3, some .int),
  (yX3_mayLieAt, cX3_mayLieAt, 4, some .boolean),
  (yX3_isLike, cX3_isLike, 2, some .boolean),
  (yX4_init, cX4_init, 2, none),
  (yX4_becomeLike, cX4_becomeLike, 3, none),
  (yX4_empty, cX4_empty, 2, none),
  (yX4_clearLaid, cX4_clearLaid, 2, none),
  (yX4_isPart, cX4_isPart, 2, some .boolean),
  (yX4_isInOrder, cX4_isInOrder, 3, some .boolean),
  (yX4_hasLaid, cX4_hasLaid, 2, some .boolean),
  (yX4_lying, cX4_lying, 3, some .int),
  (yX4_top, cX4_top, 4, some .int),
  (yX4_orderAll, cX4_orderAll, 2, none),
  (yX4_mayBeOrder, cX4_mayBeOrder, 4, some .boolean),
  (yX4_orderBy, cX4_orderBy, 3, none),
  (yX4_exchange, cX4_exchange, 4, none),
  (yX4_segments, cX4_segments, 3, some .int),
  (yX4_segmentStart, cX4_segmentStart, 4, some .int),
  (yX4_segmentEnd, cX4_segmentEnd, 3, some .int),
  (yX4_topOfFixedIn, cX4_topOfFixedIn, 10, some .int),
  (yX4_restingY, cX4_restingY, 7, some .int),
  (yX4_wastedAt, cX4_wastedAt, 6, some .int),
  (yX4_touchingAt, cX4_touchingAt, 9, some .int),
  (yX4_costByRule, cX4_costByRule, 6, some .int),
  (yX4_raise, cX4_raise, 10, none),
  (yX4_area, cX4_area, 4, some .int),
  (yX4_middle, cX4_middle, 9, some .float),
  (yX4_fill, cX4_fill, 2, some .float),
  (yX4_unlikeParts, cX4_unlikeParts, 5, some .int),
  (yX4_unlikeOrders, cX4_unlikeOrders, 5, some .int),
  (yX5_init, cX5_init, 1, none),
  (yX5_isMissing, cX5_isMissing, 1, some .boolean),
  (yX5_begin, cX5_begin, 3, none),
  (yX5_empty, cX5_empty, 1, none),
  (yX5_takes, cX5_takes, 3, some .boolean),
  (yX5_firstPlaceOf, cX5_firstPlaceOf, 3, some .int),
  (yX6_init, cX6_init, 1, none),
  (yX6_findBest, cX6_findBest, 5, none),
  (yX6_findLayouts, cX6_findLayouts, 4, none),
  (yX6_mostAlike, cX6_mostAlike, 3, some .int),
  (yX6_goToNextOrder, cX6_goToNextOrder, 7, some .boolean),
  (yX6_readLayout, cX6_readLayout, 4, none),
  (yX6_numberOf, cX6_numberOf, 2, some .int),
  (yX6_countLayout, cX6_countLayout, 2, none),
  (yX6_isRow, cX6_isRow, 3, some .boolean),
  (yX6_sort, cX6_sort, 5, none),
  (yX7_init, cX7_init, 1, none),
  (yX7_isMissing, cX7_isMissing, 1, some .boolean),
  (yX7_begin, cX7_begin, 3, none),
  (yX7_firstUnlike, cX7_firstUnlike, 4, some .int),
  (yX8_init, cX8_init, 1, none),
  (yX8_take, cX8_take, 6, none),
  (yX9_init, cX9_init, 2, none),
  (yX9_append, cX9_append, 2, none),
  (yX9_read, cX9_read, 3, some .int),
  (yX9_look, cX9_look, 1, some .int),
  (yX9_skipBlanks, cX9_skipBlanks, 1, none),
  (yX9_readItem, cX9_readItem, 8, some .boolean),
  (yX9_kindOf, cX9_kindOf, 1, some .int),
  (yX9_isDigit, cX9_isDigit, 1, some .boolean),
  (yX9_readWidth, cX9_readWidth, 5, some .int),
  (yX9_readFigure, cX9_readFigure, 2, some .int),
  (yX9_readMarked, cX9_readMarked, 2, some .int),
  (yX10_init, cX10_init, 1, none),
  (yX10_becomeLike, cX10_becomeLike, 2, none),
  (yX10_add, cX10_add, 6, none),
  (yX10_takeCorner, cX10_takeCorner, 8, none),
  (yX10_drop, cX10_drop, 3, none),
  (yX10_isBehind, cX10_isBehind, 4, some .boolean),
  (yX11_init, cX11_init, 2, none),
  (yX11_feed, cX11_feed, 7, some .int),
  (yX11_strip, cX11_strip, 3, some .int),
  (yX11_parts, cX11_parts, 3, some .int),
  (yX11_told, cX11_told, 4, some .int),
  (yX11_taken, cX11_taken, 4, some .int),
  (yX11_fix, cX11_fix, 6, some .int),
  (yX11_order, cX11_order, 3, some .int),
  (yX11_swap, cX11_swap, 3, some .int),
  (yX11_rule, cX11_rule, 4, some .int),
  (yX11_place, cX11_place, 5, some .int),
  (yX11_lay, cX11_lay, 3, some .int),
  (yX11_run, cX11_run, 1, some .int),
  (yX11_sky, cX11_sky, 4, some .int),
  (yX11_waste, cX11_waste, 4, some .int),
  (yX11_bound, cX11_bound, 2, some .int),
  (yX11_best, cX11_best, 2, some .int),
  (yX11_layouts, cX11_layouts, 2, some .int),
  (yX11_stages, cX11_stages, 1, some .int),
  (yX11_centre, cX11_centre, 2, some .int),
  (yX11_drawn, cX11_drawn, 3, some .int),
  (yX11_chance, cX11_chance, 7, some .int),
  (yX11_tells, cX11_tells, 4, some .int),
  (yX11_rack, cX11_rack, 4, some .int),
  (yX11_puts, cX11_puts, 5, some .int),
  (yX11_moved, cX11_moved, 9, some .int),
  (yX11_laid, cX11_laid, 4, some .int),
  (yX11_image, cX11_image, 1, some .int),
  (yX11_back, cX11_back, 1, some .int),
  (yX11_count, cX11_count, 2, some .int),
  (yX11_sheet, cX11_sheet, 4, some .int),
  (yX11_put, cX11_put, 5, some .int),
  (yX11_copy, cX11_copy, 8, some .int),
  (yX11_isByte, cX11_isByte, 1, some .boolean),
  (yX11_isKind, cX11_isKind, 1, some .boolean),
  (yX11_isHolder, cX11_isHolder, 1, some .boolean),
  (yX11_isRange, cX11_isRange, 3, some .boolean),
  (yX11_greatestDivisor, cX11_greatestDivisor, 6, some .int),
  (yX11_bitsOf, cX11_bitsOf, 4, some .int),
  (yX11_emptyRacks, cX11_emptyRacks, 2, none),
  (yX11_topDrawn, cX11_topDrawn, 8, some .int),
  (yX11_rulesThatTell, cX11_rulesThatTell, 4, some .int),
  (yX11_pairsThatTell, cX11_pairsThatTell, 5, some .int),
  (yX12_in, cX12_in, 3, some .boolean),
  (yX12_init, cX12_init, 1, none),
  (yX12_keep, cX12_keep, 2, none),
  (yX12_layBack, cX12_layBack, 2, none),
  (yX12_isPart, cX12_isPart, 2, some .boolean),
  (yX12_isUnder, cX12_isUnder, 2, some .boolean),
  (yX12_mayTurn, cX12_mayTurn, 2, some .boolean),
  (yX12_w, cX12_w, 3, some .int),
  (yX12_t, cX12_t, 4, some .int),
  (yX12_mayLie, cX12_mayLie, 7, some .boolean),
  (yX12_wOf, cX12_wOf, 2, some .int),
  (yX12_tOf, cX12_tOf, 2, some .int),
  (yX12_areOver, cX12_areOver, 8, some .boolean),
  (yX12_isOverFixed, cX12_isOverFixed, 6, some .boolean),
  (yX12_feed, cX12_feed, 9, some .int),
  (yX12_strip, cX12_strip, 6, some .int),
  (yX12_byteAt, cX12_byteAt, 2, some .int),
  (yX12_isDigit, cX12_isDigit, 3, some .boolean),
  (yX12_isBlank, cX12_isBlank, 2, some .boolean),
  (yX12_reads, cX12_reads, 9, some .int),
  (yX12_parts, cX12_parts, 6, some .int),
  (yX12_told, cX12_told, 4, some .int),
  (yX12_taken, cX12_taken, 3, some .int),
  (yX12_liesLoose, cX12_liesLoose, 2, some .boolean),
  (yX12_isOrdered, cX12_isOrdered, 3, some .boolean),
  (yX12_fix, cX12_fix, 5, some .int),
  (yX12_order, cX12_order, 5, some .int),
  (yX12_exchange, cX12_exchange, 4, none),
  (yX12_swap, cX12_swap, 3, some .int),
  (yX12_rule, cX12_rule, 4, some .int),
  (yX12_wastedAt, cX12_wastedAt, 6, some .int),
  (yX12_yAt, cX12_yAt, 6, some .int),
  (yX12_touchingAt, cX12_touchingAt, 7, some .int),
  (yX12_valueAt, cX12_valueAt, 5, some .int),
  (yX12_finds, cX12_finds, 11, some .boolean),
  (yX12_addPiece, cX12_addPiece, 6, none),
  (yX12_intoPiece, cX12_intoPiece, 6, none),
  (yX12_ontoSky, cX12_ontoSky, 6, none),
  (yX12_lays, cX12_lays, 2, some .boolean),
  (yX12_clears, cX12_clears, 2, none),
  (yX12_runs, cX12_runs, 3, some .int),
  (yX12_top, cX12_top, 3, some .int),
  (yX12_place, cX12_place, 3, some .int),
  (yX12_lay, cX12_lay, 2, some .int),
  (yX12_run, cX12_run, 1, some .int),
  (yX12_sky, cX12_sky, 6, some .int),
  (yX12_waste, cX12_waste, 3, some .int),
  (yX12_by, cX12_by, 2, some .int),
  (yX12_counted, cX12_counted, 7, some .int),
  (yX12_summed, cX12_summed, 7, some .int),
  (yX12_tallest, cX12_tallest, 3, some .int),
  (yX12_boundOf, cX12_boundOf, 4, some .int),
  (yX12_bound, cX12_bound, 2, some .int),
  (yX12_sorts, cX12_sorts, 3, none),
  (yX12_steps, cX12_steps, 6, some .boolean),
  (yX12_bestTop, cX12_bestTop, 2, some .int),
  (yX12_best, cX12_best, 3, some .int),
  (yX12_tellsLayout, cX12_tellsLayout, 8, some .int),
  (yX12_areRowsAlike, cX12_areRowsAlike, 5, some .boolean),
  (yX12_layouts, cX12_layouts, 5, some .int),
  (yX12_low, cX12_low, 3, some .int),
  (yX12_high, cX12_high, 3, some .int),
  (yX12_isCut, cX12_isCut, 5, some .boolean),
  (yX12_areParted, cX12_areParted, 7, some .boolean),
  (yX12_cuts, cX12_cuts, 4, none),
  (yX12_areAlone, cX12_areAlone, 3, some .boolean),
  (yX12_stagesFrom, cX12_stagesFrom, 3, some .int),
  (yX12_stages, cX12_stages, 3, some .int),
  (yX12_isAnyThere, cX12_isAnyThere, 2, some .boolean),
  (yX12_centre, cX12_centre, 8, some .int),
  (yX12_drawnTop, cX12_drawnTop, 7, some .int),
  (yX12_drawn, cX12_drawn, 3, some .int),
  (yX12_chance, cX12_chance, 7, some .int),
  (yX12_firstOther, cX12_firstOther, 3, some .int),
  (yX12_runsTo, cX12_runsTo, 2, some .boolean),
  (yX12_tells, cX12_tells, 6, some .int),
  (yX12_isRack, cX12_isRack, 1, some .boolean),
  (yX12_emptyRacks, cX12_emptyRacks, 3, none),
  (yX12_rack, cX12_rack, 5, some .int),
  (yX12_isFor, cX12_isFor, 3, some .boolean),
  (yX12_puts, cX12_puts, 4, some .int),
  (yX12_moved, cX12_moved, 7, some .int),
  (yX12_laid, cX12_laid, 3, some .int),
  (yX12_image, cX12_image, 1, some .int),
  (yX12_back, cX12_back, 1, some .int),
  (yX12_areAlike, cX12_areAlike, 3, some .boolean),
  (yX12_unlike, cX12_unlike, 4, some .int),
  (yX12_orders, cX12_orders, 5, some .int),
  (yX12_count, cX12_count, 4, some .int),
  (yX12_isSheet, cX12_isSheet, 1, some .boolean),
  (yX12_sheet, cX12_sheet, 5, some .int),
  (yX12_put, cX12_put, 4, some .int),
  (yX12_copy, cX12_copy, 6, some .int),
  (yJxf58ca_isNaN_12338, cJxf58ca_isNaN_12338, 1, some .boolean),
  (yJxf58ca_floatToIntBits_5c35a, cJxf58ca_floatToIntBits_5c35a, 1, some .int),
  (yJ9_max_7cf53, cJ9_max_7cf53, 2, some .int),
  (yJ9_min_7cf53, cJ9_min_7cf53, 2, some .int),
  (yJ7_rangeCheck_23922, cJ7_rangeCheck_23922, 3, none),
  (yJ7_fill_53178, cJ7_fill_53178, 4, none),
  (yJ7_fill_fda19, cJ7_fill_fda19, 5, none),
  (yL_law, code, 4, some .boolean)]
def sk_inf (mi : Nat) : sk_I := sk_infL.getD mi (yL_law, code, 0, none)
def sk_codeW : List Jvm.Cond := ((sk_infL.drop 1).take 243).map fun I => Jvm.Cond.code I.1 I.2.1 I.2.2.1 I.2.2.2
set_option maxRecDepth 100000 in
theorem sk_codeW_ok : ∀ w ∈ sk_codeW, w ∈ sk_B := sk_memB _ [588, 1159, 785, 788, 791, 803, 809, 812, 806, 385, 885, 890, 894, 899, 903, 907, 304, 756, 715, 667, 671, 689, 720, 120, 562, 566, 578, 510, 615, 675, 619, 594, 681, 1023, 207, 820, 499, 503, 574, 607, 603, 916, 841, 631, 639, 647, 655, 765, 769, 773, 611, 693, 698, 706, 702, 741, 926, 930, 921, 1019, 1027, 416, 635, 980, 518, 989, 643, 351, 833, 856, 876, 847, 860, 864, 868, 872, 836, 435, 959, 1035, 963, 310, 685, 113, 491, 527, 539, 531, 535, 542, 550, 546, 554, 558, 214, 828, 733, 725, 729, 737, 105, 484, 495, 523, 570, 582, 599, 624, 651, 659, 663, 710, 752, 761, 778, 782, 816, 852, 881, 912, 938, 948, 955, 976, 985, 995, 1003, 1007, 1011, 1015, 1031, 1040, 1044, 487, 585, 627, 998, 951, 933, 514, 942, 968, 972, 1132, 1049, 1384, 1400, 1213, 1220, 1286, 1224, 1228, 1290, 1248, 1252, 1255, 1244, 1129, 1136, 1156, 1204, 1152, 1148, 1144, 1209, 1217, 1236, 1240, 1232, 1259, 1270, 1266, 1274, 1299, 1294, 1307, 1303, 1282, 1327, 1332, 1323, 1319, 1315, 1340, 1392, 1278, 1311, 1336, 1344, 1348, 1372, 1369, 1365, 1360, 1356, 1352, 1388, 1396, 1380, 1376, 1408, 1412, 1404, 1440, 1436, 1444, 1432, 1428, 1424, 1420, 1416, 1452, 1448, 1470, 1466, 1475, 1486, 1490, 1479, 1262, 1140, 1494, 1502, 1498, 1506, 1510, 1514, 1518, 1530, 1526, 1534, 1522, 1482, 1538, 1542, 1546, 1458, 1455, 794, 800, 748, 506, 745] rfl rfl
def sk_initW : List Jvm.Cond := ["SkylineNester", "SkylineNester$Bounds", "SkylineNester$Cuts", "SkylineNester$Layer", "SkylineNester$Part", "SkylineNester$Plan", "SkylineNester$Rack", "SkylineNester$Search", "SkylineNester$Sheet", "SkylineNester$Spot", "SkylineNester$Tape", "SkylineNester$Waste", "SkylineNesterModel", "java/lang/Float", "java/lang/Math", "java/util/Arrays", "java/lang/System"].map Jvm.Cond.initialized
theorem sk_initW_ok : ∀ w ∈ sk_initW, w ∈ sk_B := sk_memB _ [79, 98, 87, 84, 81, 82, 88, 86, 89, 85, 80, 83, 90, 100, 96, 91, 97] (by decide +kernel) (by decide +kernel)
def sk_instL : List Nat := [10, 11, 12, 13, 14, 15, 16, 17, 18, 19, 20, 21, 22, 23, 24, 25, 26, 27, 28, 29, 30, 31, 32, 33, 34, 35, 36, 37, 38, 39, 40, 41, 42, 43, 44, 45, 46, 47, 48, 49, 50, 51, 52, 53, 54, 55, 56, 57, 58, 59, 60, 61, 62, 63, 64, 65, 66, 67, 68, 69, 70, 71, 72, 73, 75, 76, 78, 79, 80, 81, 82, 83, 84, 85, 86, 87, 88, 89, 91, 92, 93, 94, 95, 96, 97, 98, 99, 100, 101, 102, 103, 104, 105, 106, 107, 108, 109, 110, 111, 112, 113, 114, 115, 116, 117, 118, 119, 120, 121, 122, 123, 124, 125, 126, 127, 128, 129, 130, 131, 132, 133, 140, 141, 142, 143, 145, 146, 147, 148, 150, 151, 152, 153, 154, 155, 157, 158, 159, 160, 161, 162, 163, 164, 165, 166, 167, 168, 169, 170, 171, 172, 173, 174, 175, 176, 177, 178, 179, 180, 181, 182, 183, 184, 185, 186, 187, 188, 189, 190, 192, 193, 194, 195, 196, 197, 198, 199, 200, 201, 202, 203, 204, 205, 206, 207, 208, 209, 210, 211, 212, 213, 214, 215, 216, 217, 218, 219, 221, 222, 223, 224, 225, 226, 227, 228, 229, 230, 231, 232, 234, 235, 236]
theorem sk_instW_ok : ∀ w ∈ sk_instL.map (fun mi => Jvm.Cond.instanceMethod (sk_inf mi).1), w ∈ sk_B := sk_memB _ [384, 883, 888, 893, 898, 902, 906, 303, 754, 713, 665, 670, 688, 719, 119, 560, 564, 576, 508, 613, 673, 617, 592, 679, 1021, 206, 818, 497, 501, 572, 605, 601, 914, 839, 629, 637, 645, 653, 763, 767, 771, 609, 691, 696, 704, 700, 739, 924, 928, 919, 1017, 1025, 415, 633, 978, 516, 987, 641, 350, 831, 854, 874, 846, 859, 867, 871, 434, 957, 1033, 961, 309, 683, 112, 489, 525, 538, 530, 534, 549, 545, 553, 557, 213, 826, 731, 723, 728, 736, 104, 482, 493, 521, 568, 580, 597, 622, 649, 657, 661, 708, 750, 759, 776, 780, 814, 850, 879, 910, 936, 946, 953, 974, 983, 993, 1001, 1005, 1009, 1013, 1029, 1038, 1042, 513, 941, 967, 971, 1048, 1383, 1399, 1212, 1285, 1223, 1227, 1289, 1247, 1251, 1243, 1127, 1134, 1155, 1203, 1151, 1147, 1142, 1207, 1215, 1235, 1239, 1230, 1257, 1269, 1264, 1272, 1298, 1293, 1306, 1302, 1281, 1326, 1331, 1322, 1318, 1314, 1339, 1391, 1276, 1309, 1334, 1342, 1346, 1368, 1364, 1359, 1355, 1350, 1387, 1395, 1379, 1374, 1407, 1411, 1402, 1439, 1435, 1443, 1431, 1427, 1423, 1419, 1414, 1451, 1446, 1469, 1464, 1473, 1485, 1489, 1477, 1139, 1492, 1501, 1496, 1504, 1508, 1512, 1516, 1529, 1525, 1533, 1520, 1536, 1540, 1544] (by decide +kernel) (by decide +kernel)
def sk_selL : List Nat := [11, 12, 13, 14, 15, 16, 18, 19, 20, 21, 22, 23, 25, 26, 27, 28, 29, 30, 31, 32, 33, 34, 36, 37, 38, 39, 40, 41, 42, 43, 44, 45, 46, 47, 48, 49, 50, 51, 52, 53, 54, 55, 56, 57, 58, 59, 60, 61, 63, 64, 65, 66, 67, 69, 70, 71, 72, 73, 75, 76, 79, 80, 81, 83, 85, 86, 87, 88, 89, 91, 92, 93, 94, 96, 97, 98, 99, 100, 102, 103, 104, 105, 106, 107, 108, 109, 110, 111, 112, 113, 114, 115, 116, 117, 118, 119, 120, 121, 122, 123, 124, 125, 126, 127, 128, 129, 130, 131, 132, 133, 140, 141, 142, 143, 146, 147, 148, 150, 151, 152, 153, 154, 155, 157, 158, 159, 160, 161, 162, 163, 164, 165, 166, 167, 168, 169, 170, 171, 172, 173, 174, 175, 176, 177, 178, 179, 180, 181, 182, 183, 184, 185, 186, 187, 188, 189, 190, 192, 193, 194, 195, 196, 197, 198, 199, 200, 201, 202, 203, 204, 205, 206, 207, 208, 209, 210, 211, 212, 213, 214, 215, 216, 217, 218, 219, 221, 222, 223, 224, 225, 226, 227, 228, 229, 230, 231, 232, 234, 235, 236]
theorem sk_selW_ok : ∀ w ∈ sk_selL.map (fun mi => Jvm.Cond.selects (sk_inf mi).1.cls (sk_inf mi).1 (sk_inf mi).1), w ∈ sk_B := sk_memB _ [884, 889, 17, 18, 19, 20, 755, 714, 666, 8, 9, 10, 561, 565, 577, 509, 614, 674, 618, 593, 680, 1022, 819, 498, 502, 573, 606, 602, 915, 840, 630, 638, 646, 654, 764, 768, 772, 610, 692, 697, 705, 701, 740, 925, 929, 920, 1018, 1026, 634, 979, 517, 988, 642, 832, 855, 875, 13, 14, 15, 16, 958, 1034, 962, 684, 490, 526, 3, 1, 2, 5, 4, 6, 7, 827, 732, 724, 11, 12, 483, 494, 522, 569, 581, 598, 623, 650, 658, 662, 709, 751, 760, 777, 781, 815, 851, 880, 911, 937, 947, 954, 975, 984, 994, 1002, 1006, 1010, 1014, 1030, 1039, 1043, 0, 21, 22, 23, 56, 60, 29, 39, 30, 31, 40, 35, 36, 34, 1128, 1135, 27, 28, 26, 25, 1143, 1208, 1216, 32, 33, 1231, 1258, 37, 1265, 1273, 42, 41, 44, 43, 38, 48, 49, 47, 46, 45, 50, 58, 1277, 1310, 1335, 1343, 1347, 54, 53, 52, 51, 1351, 57, 59, 55, 1375, 61, 62, 1403, 68, 67, 69, 66, 65, 64, 63, 1415, 70, 1447, 71, 1465, 1474, 72, 73, 1478, 24, 1493, 74, 1497, 1505, 1509, 1513, 1517, 76, 75, 77, 1521, 1537, 1541, 1545] (by decide +kernel) (by decide +kernel)
def sk_statL : List Nat := [1, 2, 3, 4, 5, 6, 7, 8, 9, 74, 77, 90, 134, 135, 136, 137, 138, 139, 144, 149, 156, 191, 220, 233, 237, 238, 239, 240, 241, 242, 243]
theorem sk_statW_ok : ∀ w ∈ sk_statL.map (fun mi => Jvm.Cond.static (sk_inf mi).1), w ∈ sk_B := sk_memB _ [587, 1158, 784, 787, 790, 802, 808, 811, 805, 863, 835, 541, 486, 584, 626, 997, 950, 932, 1131, 1219, 1254, 1371, 1261, 1481, 1457, 1454, 793, 799, 747, 505, 744] (by decide +kernel) (by decide +kernel)
def sk_FL : List (Nat × Nat × Nat × Nat) := [(11, 10, 10, 0), (11, 19, 10, 1), (11, 23, 10, 2), (11, 26, 10, 3), (11, 32, 10, 4), (11, 39, 10, 5), (11, 46, 10, 6), (11, 52, 10, 7), (11, 58, 10, 8), (11, 62, 10, 9), (11, 72, 8, 1), (11, 80, 3, 4), (11, 93, 3, 5), (11, 96, 3, 0), (11, 100, 8, 2), (11, 112, 2, 0), (11, 115, 2, 1), (11, 118, 2, 2), (11, 121, 2, 3), (11, 128, 2, 5), (11, 131, 2, 6), (11, 134, 2, 7), (11, 137, 2, 4), (11, 171, 3, 6), (11, 189, 3, 1), (11, 193, 3, 7), (11, 196, 3, 8), (11, 203, 1, 0), (11, 207, 7, 0), (11, 212, 7, 1), (11, 213, 7, 2), (11, 214, 7, 3), (11, 215, 7, 4), (11, 239, 3, 2), (11, 242, 3, 3), (11, 246, 9, 4), (11, 249, 9, 0), (11, 251, 9, 1), (11, 253, 9, 2), (11, 255, 9, 3), (11, 270, 5, 1), (11, 273, 5, 0), (11, 279, 5, 2), (11, 314, 6, 2), (11, 328, 4, 2), (11, 333, 4, 0), (11, 355, 6, 1), (11, 359, 6, 0), (0, 29, 3, 4), (0, 35, 3, 5), (0, 38, 3, 0), (0, 42, 2, 4), (0, 47, 2, 6), (0, 50, 2, 9), (0, 68, 2, 1), (0, 75, 2, 2), (1, 9, 0, 0), (1, 15, 0, 1), (1, 18, 0, 2), (1, 21, 0, 3), (1, 24, 0, 4), (1, 27, 0, 5), (1, 30, 0, 6), (1, 34, 3, 5), (1, 39, 3, 0), (1, 49, 2, 5), (1, 52, 2, 8), (1, 55, 2, 6), (1, 58, 2, 9), (2, 12, 1, 0), (2, 23, 3, 6), (2, 27, 3, 0), (2, 31, 3, 1), (2, 39, 7, 0), (2, 46, 3, 8), (2, 55, 3, 3), (2, 59, 3, 4), (2, 68, 9, 4), (2, 80, 9, 2), (2, 83, 9, 3), (2, 86, 9, 0), (2, 89, 9, 1), (2, 96, 7, 5), (2, 114, 7, 2), (2, 116, 7, 4), (2, 119, 7, 1), (2, 121, 7, 3), (2, 128, 2, 8), (2, 131, 2, 9), (2, 138, 2, 5), (2, 139, 2, 6), (3, 9, 2, 0), (3, 15, 2, 1), (3, 18, 2, 2), (3, 21, 2, 3), (3, 24, 2, 4), (3, 27, 2, 5), (3, 30, 2, 6), (3, 33, 2, 7), (3, 37, 2, 8), (3, 40, 2, 9), (4, 11, 3, 0), (4, 17, 3, 1), (4, 21, 3, 2), (4, 27, 3, 3), (4, 31, 3, 4), (4, 35, 3, 5), (4, 38, 3, 6), (4, 41, 3, 7), (4, 44, 3, 8), (4, 71, 9, 4), (4, 78, 2, 4), (4, 90, 2, 6), (4, 93, 2, 9), (4, 96, 4, 2), (4, 99, 4, 0), (4, 109, 2, 5), (4, 112, 2, 8), (5, 9, 4, 0), (5, 15, 4, 1), (5, 19, 4, 2), (5, 37, 3, 0), (5, 41, 2, 0), (6, 9, 5, 0), (6, 15, 5, 3), (6, 18, 5, 4), (6, 21, 5, 5), (6, 24, 5, 6), (6, 27, 5, 1), (6, 31, 3, 1), (6, 36, 3, 6), (6, 63, 5, 2), (6, 83, 5, 7), (6, 86, 3, 5), (6, 89, 3, 0), (6, 99, 2, 5), (6, 106, 3, 4), (6, 109, 2, 8), (6, 112, 2, 6), (6, 115, 2, 9), (7, 9, 6, 0), (7, 15, 6, 1), (7, 19, 6, 2), (7, 28, 3, 4), (7, 39, 3, 2), (8, 7, 7, 0), (8, 13, 7, 1), (8, 17, 7, 2), (8, 20, 7, 3), (8, 23, 7, 4), (8, 26, 7, 5), (9, 9, 8, 0), (9, 15, 8, 1), (9, 21, 8, 2), (9, 26, 8, 4), (9, 29, 8, 3), (10, 9, 9, 0), (10, 15, 9, 1), (10, 18, 9, 2), (10, 21, 9, 3), (10, 24, 9, 4), (12, 11, 11, 0), (12, 14, 11, 1), (12, 18, 11, 3), (12, 21, 11, 5), (12, 24, 11, 11), (12, 27, 11, 12), (12, 30, 11, 13), (12, 33, 11, 14), (12, 36, 11, 15), (12, 39, 11, 16), (12, 42, 11, 17), (12, 45, 11, 18), (12, 48, 11, 19), (12, 51, 11, 20), (12, 54, 11, 21), (12, 57, 11, 22), (12, 60, 11, 23), (12, 95, 11, 4), (12, 113, 11, 6), (12, 170, 11, 10), (12, 173, 11, 9), (12, 176, 11, 7), (12, 179, 11, 8), (12, 299, 11, 2)]
def sk_flw (q : Nat × Nat × Nat × Nat) : Jvm.Cond := .fieldLink (sk_own q.1) q.2.1 ((sk_q q.2.2.1).2.1 q.2.2.2).1 ((sk_q q.2.2.1).2.1 q.2.2.2).2.1 ((sk_q q.2.2.1).2.1 q.2.2.2).2.2.1
theorem sk_FL_ok : ∀ w ∈ sk_FL.map sk_flw, w ∈ sk_B := sk_memB _ [450, 451, 452, 453, 454, 455, 456, 457, 458, 459, 187, 262, 270, 248, 189, 124, 127, 129, 132, 139, 146, 151, 136, 275, 254, 277, 280, 343, 314, 317, 320, 323, 326, 257, 260, 231, 218, 221, 224, 227, 356, 354, 358, 442, 424, 420, 440, 438, 263, 269, 247, 134, 145, 159, 126, 130, 387, 388, 389, 390, 391, 392, 393, 268, 245, 137, 152, 143, 157, 342, 273, 246, 253, 313, 279, 259, 265, 230, 223, 226, 217, 220, 328, 319, 325, 316, 322, 155, 161, 141, 148, 122, 125, 128, 131, 133, 138, 144, 150, 153, 158, 244, 251, 255, 258, 261, 267, 272, 276, 278, 229, 135, 149, 162, 423, 419, 142, 156, 418, 421, 422, 249, 123, 353, 359, 360, 361, 362, 355, 252, 274, 357, 363, 271, 250, 140, 266, 154, 147, 160, 437, 439, 441, 264, 256, 312, 315, 318, 321, 324, 327, 185, 186, 188, 191, 190, 216, 219, 222, 225, 228, 1053, 1054, 1056, 1058, 1064, 1065, 1066, 1067, 1068, 1069, 1070, 1071, 1072, 1073, 1074, 1075, 1076, 1057, 1059, 1063, 1062, 1060, 1061, 1055] (by decide +kernel) (by decide +kernel)
def sk_ML : List (Nat × Nat × Nat) := [(11, 9, 84), (11, 18, 35), (11, 68, 134), (11, 76, 85), (11, 83, 37), (11, 86, 140), (11, 89, 86), (11, 103, 26), (11, 109, 39), (11, 124, 27), (11, 140, 135), (11, 143, 1), (11, 147, 32), (11, 151, 41), (11, 154, 40), (11, 157, 51), (11, 161, 29), (11, 165, 136), (11, 168, 44), (11, 174, 63), (11, 177, 45), (11, 181, 46), (11, 185, 47), (11, 199, 20), (11, 218, 38), (11, 221, 19), (11, 225, 18), (11, 229, 48), (11, 233, 49), (11, 236, 50), (11, 257, 3), (11, 263, 36), (11, 266, 69), (11, 276, 70), (11, 282, 71), (11, 285, 11), (11, 288, 12), (11, 291, 42), (11, 294, 59), (11, 298, 58), (11, 302, 139), (11, 306, 141), (11, 310, 138), (11, 313, 79), (11, 315, 81), (11, 318, 142), (11, 322, 143), (11, 325, 64), (11, 329, 66), (11, 336, 137), (11, 346, 43), (11, 349, 60), (11, 352, 61), (11, 358, 80), (11, 365, 65), (0, 9, 4), (0, 15, 239), (0, 21, 5), (0, 25, 6), (0, 53, 40), (0, 57, 32), (0, 61, 30), (0, 65, 240), (0, 71, 9), (0, 78, 7), (0, 81, 8), (1, 43, 27), (1, 61, 13), (1, 65, 240), (1, 71, 242), (1, 77, 14), (1, 81, 15), (1, 85, 16), (2, 18, 38), (2, 35, 20), (2, 43, 23), (2, 49, 21), (2, 52, 22), (2, 62, 30), (2, 73, 31), (2, 77, 32), (2, 92, 33), (2, 99, 83), (2, 103, 52), (2, 107, 53), (2, 110, 55), (2, 124, 29), (2, 134, 98), (2, 140, 56), (3, 43, 31), (3, 47, 32), (4, 49, 26), (4, 59, 96), (4, 62, 38), (4, 65, 242), (4, 74, 28), (4, 81, 27), (4, 84, 239), (4, 102, 67), (4, 106, 50), (4, 115, 51), (4, 119, 54), (4, 122, 97), (4, 126, 243), (4, 129, 43), (4, 133, 57), (4, 136, 34), (5, 22, 65), (5, 25, 242), (5, 31, 39), (6, 39, 77), (6, 43, 18), (6, 49, 43), (6, 59, 72), (6, 66, 73), (6, 70, 75), (6, 73, 239), (6, 79, 47), (6, 93, 27), (6, 102, 74), (6, 118, 76), (7, 22, 242), (7, 33, 240), (9, 32, 88), (9, 35, 89), (9, 39, 87), (9, 43, 90), (9, 47, 92), (9, 50, 93), (9, 53, 94), (9, 57, 25), (9, 61, 91), (10, 34, 100), (10, 38, 99), (10, 42, 97), (13, 9, 101), (13, 12, 145), (13, 13, 102), (13, 17, 158), (13, 18, 103), (13, 22, 159), (13, 23, 104), (13, 27, 164), (13, 28, 105), (13, 32, 165), (13, 33, 106), (13, 36, 166), (13, 37, 107), (13, 41, 169), (13, 42, 108), (13, 45, 170), (13, 46, 109), (13, 49, 172), (13, 50, 110), (13, 53, 173), (13, 54, 111), (13, 57, 186), (13, 58, 112), (13, 61, 187), (13, 62, 113), (13, 65, 188), (13, 66, 114), (13, 69, 189), (13, 70, 115), (13, 73, 190), (13, 74, 116), (13, 77, 196), (13, 78, 117), (13, 81, 200), (13, 82, 118), (13, 85, 203), (13, 86, 119), (13, 89, 211), (13, 90, 120), (13, 93, 213), (13, 94, 121), (13, 97, 215), (13, 98, 122), (13, 102, 216), (13, 103, 123), (13, 106, 219), (13, 107, 124), (13, 110, 222), (13, 111, 125), (13, 114, 224), (13, 115, 126), (13, 119, 225), (13, 120, 127), (13, 123, 226), (13, 124, 128), (13, 127, 227), (13, 128, 129), (13, 131, 228), (13, 132, 130), (13, 135, 232), (13, 136, 131), (13, 139, 234), (13, 140, 132), (13, 143, 235), (13, 144, 133), (13, 147, 236), (12, 69, 144), (12, 73, 149), (12, 77, 151), (12, 81, 152), (12, 84, 154), (12, 88, 155), (12, 91, 156), (12, 99, 221), (12, 102, 160), (12, 116, 162), (12, 120, 2), (12, 123, 161), (12, 126, 163), (12, 130, 148), (12, 133, 167), (12, 137, 168), (12, 140, 157), (12, 144, 220), (12, 147, 171), (12, 151, 239), (12, 156, 174), (12, 160, 176), (12, 164, 150), (12, 167, 153), (12, 182, 175), (12, 185, 177), (12, 188, 179), (12, 192, 178), (12, 195, 181), (12, 198, 180), (12, 201, 183), (12, 204, 182), (12, 207, 184), (12, 210, 192), (12, 213, 240), (12, 216, 194), (12, 219, 193), (12, 222, 191), (12, 225, 195), (12, 228, 146), (12, 232, 197), (12, 234, 185), (12, 237, 198), (12, 240, 147), (12, 243, 199), (12, 246, 201), (12, 250, 202), (12, 253, 204), (12, 256, 205), (12, 259, 206), (12, 262, 207), (12, 265, 209), (12, 268, 208), (12, 271, 210), (12, 274, 212), (12, 277, 238), (12, 284, 214), (12, 287, 217), (12, 290, 233), (12, 293, 218), (12, 296, 223), (12, 303, 229), (12, 306, 230), (12, 309, 231), (16, 59, 237), (14, 13, 241)]
theorem sk_ML_ok : ∀ w ∈ sk_ML.map (fun q => Jvm.Cond.methodLink (sk_own q.1) q.2.1 (sk_inf q.2.2).1), w ∈ sk_B := sk_memB _ [111, 205, 485, 488, 496, 511, 524, 563, 571, 575, 583, 586, 591, 600, 604, 608, 612, 625, 628, 632, 636, 644, 652, 664, 711, 712, 753, 762, 766, 774, 783, 817, 830, 853, 873, 882, 887, 913, 918, 927, 931, 939, 949, 956, 960, 965, 969, 977, 986, 996, 944, 1016, 1024, 1032, 515, 786, 792, 789, 801, 795, 796, 797, 798, 804, 807, 810, 886, 891, 908, 895, 896, 900, 904, 757, 716, 717, 668, 686, 672, 676, 677, 678, 682, 690, 695, 699, 721, 722, 738, 616, 620, 821, 825, 500, 504, 507, 917, 842, 640, 770, 694, 703, 742, 743, 922, 923, 1020, 981, 519, 990, 834, 837, 838, 844, 857, 865, 877, 848, 861, 862, 869, 1036, 964, 528, 532, 536, 540, 543, 551, 555, 559, 547, 734, 726, 730, 103, 1047, 481, 1126, 492, 1133, 520, 1141, 567, 1206, 579, 1214, 596, 1229, 621, 1256, 648, 1263, 656, 1271, 660, 1275, 707, 1308, 749, 1333, 758, 1341, 775, 1345, 779, 1349, 813, 1373, 849, 1401, 878, 1413, 909, 1445, 935, 1463, 945, 1472, 952, 1476, 973, 1491, 982, 1495, 992, 1503, 1000, 1507, 1004, 1511, 1008, 1515, 1012, 1519, 1028, 1535, 1037, 1539, 1041, 1543, 1130, 1218, 1221, 1225, 1245, 1249, 1253, 1137, 1153, 1149, 1157, 1201, 1145, 1210, 1233, 1237, 1241, 1260, 1267, 1295, 1296, 1304, 1283, 1287, 1291, 1300, 1324, 1279, 1320, 1329, 1312, 1316, 1337, 1366, 1361, 1357, 1362, 1370, 1353, 1381, 1385, 1389, 1393, 1397, 1377, 1405, 1409, 1437, 1433, 1441, 1429, 1421, 1425, 1417, 1449, 1453, 1467, 1483, 1480, 1487, 1499, 1527, 1523, 1531, 1456, 746] (by decide +kernel) (by decide +kernel)
def sk_NL : List (Nat × Nat × Nat) := [(11, 31, 17), (11, 38, 68), (11, 45, 10), (11, 66, 62), (11, 67, 78), (2, 11, 82), (3, 50, 1), (4, 26, 95), (4, 48, 24), (5, 44, 1), (9, 25, 24)]
def sk_nest : List Jvm.Cond := sk_NL.map fun q => Jvm.Cond.methodLinkNest (sk_own q.1) q.2.1 (sk_inf q.2.2).1 RX11
theorem sk_nest_ok : sk_nestOK sk_nest := by
  intro x hx
  obtain ⟨q, -, rfl⟩ := List.mem_map.mp hx
  exact ⟨_, _, _, _, rfl⟩
theorem sk_nest_tbl : ∀ w ∈ sk_nest, w ∈ lw_tbl := by
  intro w hw
  have h : sk_nest = [302, 349, 383, 414, 433, 308, 595, 212, 243, 991, 118].filterMap (fun i => lw_tbl[i]?) := by decide +kernel
  rw [h] at hw
  obtain ⟨i, -, hi⟩ := List.mem_filterMap.mp hw
  exact List.mem_of_getElem? hi
def sk_CL : List (Nat × Nat × Nat) := [(11, 7, 8), (11, 16, 3), (11, 29, 1), (11, 36, 5), (11, 43, 0), (11, 50, 4), (11, 56, 6), (2, 9, 7), (4, 9, 2), (4, 24, 9), (9, 19, 2), (13, 7, 10), (13, 10, 11)]
theorem sk_CL_ok : ∀ w ∈ sk_CL.map (fun q => Jvm.Cond.classLink (sk_own q.1) q.2.1 (sk_q q.2.2).1), w ∈ sk_B := sk_memB _ [109, 203, 300, 347, 381, 409, 411, 306, 209, 210, 115, 101, 1045] (by decide +kernel) (by decide +kernel)
def sk_oddW : List Jvm.Cond := [.classLink RX12 9 "[[I",
  .arrayClass .int,
  .constant RX11 367 1103515245,
  .constant RX12 283 1103515245,
  .constant RJxf58ca 77 2143289344,
  .constantFloat RX11 364 1258291200,
  .static arraycopyName,
  .native arraycopyName,
  .methodLink RX11 340 arraycopyName,
  .methodLink RX4 53 arraycopyName,
  .methodLink RX6 53 arraycopyName,
  .methodLink RX10 28 arraycopyName,
  .methodLink RX12 63 arraycopyName,
  .static sk_bits,
  .native sk_bits,
  .methodLink RJxf58ca 74 sk_bits,
  .methodLink RX11 1 objectInit,
  .methodLink RX1 3 objectInit,
  .methodLink RX2 3 objectInit,
  .methodLink RX3 3 objectInit,
  .methodLink RX4 3 objectInit,
  .methodLink RX5 3 objectInit,
  .methodLink RX6 3 objectInit,
  .methodLink RX7 3 objectInit,
  .methodLink RX8 1 objectInit,
  .methodLink RX9 3 objectInit,
  .methodLink RX10 3 objectInit,
  .methodLink RX12 3 objectInit,
  .instanceMethod objectInit,
  .code objectInit ⟨#[0xb1]⟩ 1 none]
theorem sk_oddW_ok : ∀ w ∈ sk_oddW, w ∈ sk_B := sk_memB _ [1051, 184, 943, 1471, 1462, 934, 823, 824, 999, 822, 843, 829, 1328, 1460, 1461, 1459, 106, 386, 305, 121, 208, 417, 352, 436, 311, 114, 215, 1050, 107, 108] (by decide +kernel) (by decide +kernel)
theorem sk_cls_0 : sk_cls 0 := ⟨rfl, sk_memB (u_ws RX1 TX1 7) [394, 396, 398, 400, 402, 404, 406] (by decide +kernel) (by decide +kernel), tyX1_ok, nmX1, sk_memB [Jvm.Cond.instantiable RX1 7, Jvm.Cond.initialized RX1] [382, 87] (by decide +kernel) (by decide +kernel) _ List.mem_cons_self, sk_memB [Jvm.Cond.instantiable RX1 7, Jvm.Cond.initialized RX1] [382, 87] (by decide +kernel) (by decide +kernel) _ (List.mem_cons_of_mem _ List.mem_cons_self)⟩
theorem sk_cls_1 : sk_cls 1 := ⟨rfl, sk_memB (u_ws RX2 TX2 1) [344] (by decide +kernel) (by decide +kernel), tyX2_ok, nmX2, sk_memB [Jvm.Cond.instantiable RX2 1, Jvm.Cond.initialized RX2] [301, 84] (by decide +kernel) (by decide +kernel) _ List.mem_cons_self, sk_memB [Jvm.Cond.instantiable RX2 1, Jvm.Cond.initialized RX2] [301, 84] (by decide +kernel) (by decide +kernel) _ (List.mem_cons_of_mem _ List.mem_cons_self)⟩
theorem sk_cls_2 : sk_cls 2 := ⟨rfl, sk_memB (u_ws RX3 TX3 10) [163, 165, 167, 169, 171, 173, 175, 177, 179, 181] (by decide +kernel) (by decide +kernel), tyX3_ok, nmX3, sk_memB [Jvm.Cond.instantiable RX3 10, Jvm.Cond.initialized RX3] [117, 81] (by decide +kernel) (by decide +kernel) _ List.mem_cons_self, sk_memB [Jvm.Cond.instantiable RX3 10, Jvm.Cond.initialized RX3] [117, 81] (by decide +kernel) (by decide +kernel) _ (List.mem_cons_of_mem _ List.mem_cons_self)⟩
theorem sk_cls_3 : sk_cls 3 := ⟨rfl, sk_memB (u_ws RX4 TX4 9) [281, 283, 285, 287, 289, 291, 293, 295, 297] (by decide +kernel) (by decide +kernel), tyX4_ok, nmX4, sk_memB [Jvm.Cond.instantiable RX4 9, Jvm.Cond.initialized RX4] [204, 82] (by decide +kernel) (by decide +kernel) _ List.mem_cons_self, sk_memB [Jvm.Cond.instantiable RX4 9, Jvm.Cond.initialized RX4] [204, 82] (by decide +kernel) (by decide +kernel) _ (List.mem_cons_of_mem _ List.mem_cons_self)⟩
theorem sk_cls_4 : sk_cls 4 := ⟨rfl, sk_memB (u_ws RX5 TX5 3) [425, 427, 429] (by decide +kernel) (by decide +kernel), tyX5_ok, nmX5, sk_memB [Jvm.Cond.instantiable RX5 3, Jvm.Cond.initialized RX5] [413, 88] (by decide +kernel) (by decide +kernel) _ List.mem_cons_self, sk_memB [Jvm.Cond.instantiable RX5 3, Jvm.Cond.initialized RX5] [413, 88] (by decide +kernel) (by decide +kernel) _ (List.mem_cons_of_mem _ List.mem_cons_self)⟩
theorem sk_cls_5 : sk_cls 5 := ⟨rfl, sk_memB (u_ws RX6 TX6 8) [364, 366, 368, 370, 372, 374, 376, 378] (by decide +kernel) (by decide +kernel), tyX6_ok, nmX6, sk_memB [Jvm.Cond.instantiable RX6 8, Jvm.Cond.initialized RX6] [348, 86] (by decide +kernel) (by decide +kernel) _ List.mem_cons_self, sk_memB [Jvm.Cond.instantiable RX6 8, Jvm.Cond.initialized RX6] [348, 86] (by decide +kernel) (by decide +kernel) _ (List.mem_cons_of_mem _ List.mem_cons_self)⟩
theorem sk_cls_6 : sk_cls 6 := ⟨rfl, sk_memB (u_ws RX7 TX7 3) [443, 445, 447] (by decide +kernel) (by decide +kernel), tyX7_ok, nmX7, sk_memB [Jvm.Cond.instantiable RX7 3, Jvm.Cond.initialized RX7] [432, 89] (by decide +kernel) (by decide +kernel) _ List.mem_cons_self, sk_memB [Jvm.Cond.instantiable RX7 3, Jvm.Cond.initialized RX7] [432, 89] (by decide +kernel) (by decide +kernel) _ (List.mem_cons_of_mem _ List.mem_cons_self)⟩
theorem sk_cls_7 : sk_cls 7 := ⟨rfl, sk_memB (u_ws RX8 TX8 6) [329, 331, 333, 335, 337, 339] (by decide +kernel) (by decide +kernel), tyX8_ok, nmX8, sk_memB [Jvm.Cond.instantiable RX8 6, Jvm.Cond.initialized RX8] [307, 85] (by decide +kernel) (by decide +kernel) _ List.mem_cons_self, sk_memB [Jvm.Cond.instantiable RX8 6, Jvm.Cond.initialized RX8] [307, 85] (by decide +kernel) (by decide +kernel) _ (List.mem_cons_of_mem _ List.mem_cons_self)⟩
theorem sk_cls_8 : sk_cls 8 := ⟨rfl, sk_memB (u_ws RX9 TX9 5) [192, 194, 196, 198, 200] (by decide +kernel) (by decide +kernel), tyX9_ok, nmX9, sk_memB [Jvm.Cond.instantiable RX9 5, Jvm.Cond.initialized RX9] [110, 80] (by decide +kernel) (by decide +kernel) _ List.mem_cons_self, sk_memB [Jvm.Cond.instantiable RX9 5, Jvm.Cond.initialized RX9] [110, 80] (by decide +kernel) (by decide +kernel) _ (List.mem_cons_of_mem _ List.mem_cons_self)⟩
theorem sk_cls_9 : sk_cls 9 := ⟨rfl, sk_memB (u_ws RX10 TX10 5) [232, 234, 236, 238, 240] (by decide +kernel) (by decide +kernel), tyX10_ok, nmX10, sk_memB [Jvm.Cond.instantiable RX10 5, Jvm.Cond.initialized RX10] [211, 83] (by decide +kernel) (by decide +kernel) _ List.mem_cons_self, sk_memB [Jvm.Cond.instantiable RX10 5, Jvm.Cond.initialized RX10] [211, 83] (by decide +kernel) (by decide +kernel) _ (List.mem_cons_of_mem _ List.mem_cons_self)⟩
theorem sk_cls_10 : sk_cls 10 := ⟨rfl, sk_memB (u_ws RX11 TX11 10) [460, 462, 464, 466, 468, 470, 472, 474, 476, 478] (by decide +kernel) (by decide +kernel), tyX11_ok, nmX11, sk_memB [Jvm.Cond.instantiable RX11 10, Jvm.Cond.initialized RX11] [102, 79] (by decide +kernel) (by decide +kernel) _ List.mem_cons_self, sk_memB [Jvm.Cond.instantiable RX11 10, Jvm.Cond.initialized RX11] [102, 79] (by decide +kernel) (by decide +kernel) _ (List.mem_cons_of_mem _ List.mem_cons_self)⟩
theorem sk_cls_11 : sk_cls 11 := ⟨rfl, sk_memB (u_ws RX12 TX12 24) [1077, 1079, 1081, 1083, 1085, 1087, 1089, 1091, 1093, 1095, 1097, 1099, 1101, 1103, 1105, 1107, 1109, 1111, 1113, 1115, 1117, 1119, 1121, 1123] (by decide +kernel) (by decide +kernel), tyX12_ok, nmX12, sk_memB [Jvm.Cond.instantiable RX12 24, Jvm.Cond.initialized RX12] [1046, 90] (by decide +kernel) (by decide +kernel) _ List.mem_cons_self, sk_memB [Jvm.Cond.instantiable RX12 24, Jvm.Cond.initialized RX12] [1046, 90] (by decide +kernel) (by decide +kernel) _ (List.mem_cons_of_mem _ List.mem_cons_self)⟩
theorem sk_cls_all : ∀ ci : Nat, ci < 12 → sk_cls ci := by
  intro ci h
  match ci, h with
  | 0, _ => exact sk_cls_0
  | 1, _ => exact sk_cls_1
  | 2, _ => exact sk_cls_2
  | 3, _ => exact sk_cls_3
  | 4, _ => exact sk_cls_4
  | 5, _ => exact sk_cls_5
  | 6, _ => exact sk_cls_6
  | 7, _ => exact sk_cls_7
  | 8, _ => exact sk_cls_8
  | 9, _ => exact sk_cls_9
  | 10, _ => exact sk_cls_10
  | 11, _ => exact sk_cls_11
  | ci + 12, h => omega
