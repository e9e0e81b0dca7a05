theorem fk_ml_of {a b ne j : Nat} {q : Nat × fk_Me × Nat} (h1 : fk_lk fk_mT a b = some (ne, j)) (h2 : fk_qs[j]? = some q) : fk_ml a b = some (ne, q) := by
  unfold fk_ml
  rw [h1]
  dsimp only
  rw [h2]
theorem fk_ml_no {a b : Nat} (h1 : fk_lk fk_mT a b = none) : fk_ml a b = none := by
  unfold fk_ml
  rw [h1]
set_option maxRecDepth 10000 in
theorem lq_X0_init : fk_qs[0]? = some (4, qX0_init, 1) := rfl
set_option maxRecDepth 10000 in
theorem lq_X0_copyFrom : fk_qs[1]? = some (0, qX0_copyFrom, 1) := rfl
set_option maxRecDepth 10000 in
theorem lq_X0_beNew : fk_qs[2]? = some (0, qX0_beNew, 3) := rfl
set_option maxRecDepth 10000 in
theorem lq_X0_standAt : fk_qs[3]? = some (0, qX0_standAt, 1) := rfl
set_option maxRecDepth 10000 in
theorem lq_X0_goOn : fk_qs[4]? = some (0, qX0_goOn, 2) := rfl
set_option maxRecDepth 10000 in
theorem lq_X0_know : fk_qs[5]? = some (0, qX0_know, 2) := rfl
set_option maxRecDepth 10000 in
theorem lq_X0_knows : fk_qs[6]? = some (0, qX0_knows, 1) := rfl
set_option maxRecDepth 10000 in
theorem lq_X0_clash : fk_qs[7]? = some (0, qX0_clash, 1) := rfl
set_option maxRecDepth 10000 in
theorem lq_X0_takeIn : fk_qs[8]? = some (0, qX0_takeIn, 2) := rfl
set_option maxRecDepth 10000 in
theorem lq_X1_init : fk_qs[9]? = some (4, qX1_init, 1) := rfl
set_option maxRecDepth 10000 in
theorem lq_X1_read : fk_qs[10]? = some (0, qX1_read, 1) := rfl
set_option maxRecDepth 10000 in
theorem lq_X1_step : fk_qs[11]? = some (0, qX1_step, 0) := rfl
set_option maxRecDepth 10000 in
theorem lq_X1_peek : fk_qs[12]? = some (0, qX1_peek, 0) := rfl
set_option maxRecDepth 10000 in
theorem lq_X1_digits : fk_qs[13]? = some (0, qX1_digits, 1) := rfl
set_option maxRecDepth 10000 in
theorem lq_X2_init : fk_qs[14]? = some (4, qX2_init, 0) := rfl
set_option maxRecDepth 10000 in
theorem lq_X2_take : fk_qs[15]? = some (0, qX2_take, 3) := rfl
set_option maxRecDepth 10000 in
theorem lq_X2_seek : fk_qs[16]? = some (0, qX2_seek, 2) := rfl
set_option maxRecDepth 10000 in
theorem lq_X2_factsOf : fk_qs[17]? = some (0, qX2_factsOf, 2) := rfl
set_option maxRecDepth 10000 in
theorem lq_X2_goOn : fk_qs[18]? = some (0, qX2_goOn, 0) := rfl
set_option maxRecDepth 10000 in
theorem lq_X2_swap : fk_qs[19]? = some (0, qX2_swap, 2) := rfl
set_option maxRecDepth 10000 in
theorem lq_X3_init : fk_qs[20]? = some (4, qX3_init, 0) := rfl
set_option maxRecDepth 10000 in
theorem lq_X3_clear : fk_qs[21]? = some (0, qX3_clear, 0) := rfl
set_option maxRecDepth 10000 in
theorem lq_X3_add : fk_qs[22]? = some (0, qX3_add, 2) := rfl
set_option maxRecDepth 10000 in
theorem lq_X3_value : fk_qs[23]? = some (0, qX3_value, 3) := rfl
set_option maxRecDepth 10000 in
theorem lq_X3_run : fk_qs[24]? = some (0, qX3_run, 3) := rfl
set_option maxRecDepth 10000 in
theorem lq_X4_init : fk_qs[25]? = some (4, qX4_init, 2) := rfl
set_option maxRecDepth 10000 in
theorem lq_X4_read : fk_qs[26]? = some (0, qX4_read, 2) := rfl
set_option maxRecDepth 10000 in
theorem lq_X4_advance : fk_qs[27]? = some (0, qX4_advance, 0) := rfl
set_option maxRecDepth 10000 in
theorem lq_X4_isOneOf : fk_qs[28]? = some (0, qX4_isOneOf, 1) := rfl
set_option maxRecDepth 10000 in
theorem lq_X4_sign : fk_qs[29]? = some (0, qX4_sign, 1) := rfl
set_option maxRecDepth 10000 in
theorem lq_X4_clause : fk_qs[30]? = some (0, qX4_clause, 0) := rfl
set_option maxRecDepth 10000 in
theorem lq_X4_land : fk_qs[31]? = some (0, qX4_land, 2) := rfl
set_option maxRecDepth 10000 in
theorem lq_X4_anyOf : fk_qs[32]? = some (0, qX4_anyOf, 1) := rfl
set_option maxRecDepth 10000 in
theorem lq_X4_allOf : fk_qs[33]? = some (0, qX4_allOf, 1) := rfl
set_option maxRecDepth 10000 in
theorem lq_X4_piece : fk_qs[34]? = some (0, qX4_piece, 1) := rfl
set_option maxRecDepth 10000 in
theorem lq_X4_sum : fk_qs[35]? = some (0, qX4_sum, 1) := rfl
set_option maxRecDepth 10000 in
theorem lq_X4_product : fk_qs[36]? = some (0, qX4_product, 1) := rfl
set_option maxRecDepth 10000 in
theorem lq_X4_factor : fk_qs[37]? = some (0, qX4_factor, 1) := rfl
set_option maxRecDepth 10000 in
theorem lq_X4_number : fk_qs[38]? = some (0, qX4_number, 0) := rfl
set_option maxRecDepth 10000 in
theorem lq_X5_init : fk_qs[39]? = some (4, qX5_init, 0) := rfl
set_option maxRecDepth 10000 in
theorem lq_X5_tellRoad : fk_qs[40]? = some (0, qX5_tellRoad, 4) := rfl
set_option maxRecDepth 10000 in
theorem lq_X5_isTold : fk_qs[41]? = some (0, qX5_isTold, 1) := rfl
set_option maxRecDepth 10000 in
theorem lq_X5_toldRoads : fk_qs[42]? = some (0, qX5_toldRoads, 0) := rfl
set_option maxRecDepth 10000 in
theorem lq_X5_tell : fk_qs[43]? = some (0, qX5_tell, 1) := rfl
set_option maxRecDepth 10000 in
theorem lq_X5_goalOf : fk_qs[44]? = some (0, qX5_goalOf, 1) := rfl
set_option maxRecDepth 10000 in
theorem lq_X5_reach : fk_qs[45]? = some (0, qX5_reach, 2) := rfl
set_option maxRecDepth 10000 in
theorem lq_X5_groupOf : fk_qs[46]? = some (0, qX5_groupOf, 1) := rfl
set_option maxRecDepth 10000 in
theorem lq_X5_fewestClosed : fk_qs[47]? = some (0, qX5_fewestClosed, 2) := rfl
set_option maxRecDepth 10000 in
theorem lq_X5_onTheWay : fk_qs[48]? = some (0, qX5_onTheWay, 2) := rfl
set_option maxRecDepth 10000 in
theorem lq_X5_forkPlaces : fk_qs[49]? = some (0, qX5_forkPlaces, 0) := rfl
set_option maxRecDepth 10000 in
theorem lq_X5_forked : fk_qs[50]? = some (0, qX5_forked, 2) := rfl
set_option maxRecDepth 10000 in
theorem lq_X5_forkedOnce : fk_qs[51]? = some (0, qX5_forkedOnce, 2) := rfl
set_option maxRecDepth 10000 in
theorem lq_X6_init : fk_qs[52]? = some (4, qX6_init, 3) := rfl
set_option maxRecDepth 10000 in
theorem lq_X6_begin : fk_qs[53]? = some (0, qX6_begin, 2) := rfl
set_option maxRecDepth 10000 in
theorem lq_X6_beginPlan : fk_qs[54]? = some (0, qX6_beginPlan, 2) := rfl
set_option maxRecDepth 10000 in
theorem lq_X6_goBy : fk_qs[55]? = some (0, qX6_goBy, 0) := rfl
set_option maxRecDepth 10000 in
theorem lq_X6_comeNearer : fk_qs[56]? = some (0, qX6_comeNearer, 0) := rfl
set_option maxRecDepth 10000 in
theorem lq_X6_meetAgain : fk_qs[57]? = some (0, qX6_meetAgain, 0) := rfl
set_option maxRecDepth 10000 in
theorem lq_X6_arrive : fk_qs[58]? = some (0, qX6_arrive, 0) := rfl
set_option maxRecDepth 10000 in
theorem lq_X6_die : fk_qs[59]? = some (0, qX6_die, 0) := rfl
set_option maxRecDepth 10000 in
theorem lq_X6_setOut : fk_qs[60]? = some (0, qX6_setOut, 0) := rfl
set_option maxRecDepth 10000 in
theorem lq_X6_speakOf : fk_qs[61]? = some (0, qX6_speakOf, 1) := rfl
set_option maxRecDepth 10000 in
theorem lq_X6_gladness : fk_qs[62]? = some (0, qX6_gladness, 2) := rfl
set_option maxRecDepth 10000 in
theorem lq_X6_fillGladness : fk_qs[63]? = some (0, qX6_fillGladness, 2) := rfl
set_option maxRecDepth 10000 in
theorem lq_X6_doubt : fk_qs[64]? = some (0, qX6_doubt, 1) := rfl
set_option maxRecDepth 10000 in
theorem lq_X6_believed : fk_qs[65]? = some (0, qX6_believed, 3) := rfl
set_option maxRecDepth 10000 in
theorem lq_X7_init : fk_qs[66]? = some (4, qX7_init, 0) := rfl
set_option maxRecDepth 10000 in
theorem lq_X7_copyFrom : fk_qs[67]? = some (0, qX7_copyFrom, 1) := rfl
set_option maxRecDepth 10000 in
theorem lq_X7_remember : fk_qs[68]? = some (0, qX7_remember, 1) := rfl
set_option maxRecDepth 10000 in
theorem lq_X7_isRemembered : fk_qs[69]? = some (0, qX7_isRemembered, 2) := rfl
set_option maxRecDepth 10000 in
theorem lq_X7_whereWas : fk_qs[70]? = some (0, qX7_whereWas, 3) := rfl
set_option maxRecDepth 10000 in
theorem lq_X7_isBeforeIt : fk_qs[71]? = some (0, qX7_isBeforeIt, 3) := rfl
set_option maxRecDepth 10000 in
theorem lq_X8_init : fk_qs[72]? = some (4, qX8_init, 0) := rfl
set_option maxRecDepth 10000 in
theorem lq_X8_copyFrom : fk_qs[73]? = some (0, qX8_copyFrom, 1) := rfl
set_option maxRecDepth 10000 in
theorem lq_X8_clearTallies : fk_qs[74]? = some (0, qX8_clearTallies, 0) := rfl
set_option maxRecDepth 10000 in
theorem lq_X8_hasBeen : fk_qs[75]? = some (0, qX8_hasBeen, 1) := rfl
set_option maxRecDepth 10000 in
theorem lq_X8_isLiving : fk_qs[76]? = some (0, qX8_isLiving, 1) := rfl
set_option maxRecDepth 10000 in
theorem lq_X8_isAtPlace : fk_qs[77]? = some (0, qX8_isAtPlace, 1) := rfl
set_option maxRecDepth 10000 in
theorem lq_X8_livingInAll : fk_qs[78]? = some (0, qX8_livingInAll, 0) := rfl
set_option maxRecDepth 10000 in
theorem lq_X8_welcome : fk_qs[79]? = some (0, qX8_welcome, 2) := rfl
set_option maxRecDepth 10000 in
theorem lq_X8_part : fk_qs[80]? = some (0, qX8_part, 3) := rfl
set_option maxRecDepth 10000 in
theorem lq_X8_merge : fk_qs[81]? = some (0, qX8_merge, 3) := rfl
set_option maxRecDepth 10000 in
theorem lq_X8_bury : fk_qs[82]? = some (0, qX8_bury, 1) := rfl
set_option maxRecDepth 10000 in
theorem lq_X8_draw : fk_qs[83]? = some (0, qX8_draw, 0) := rfl
set_option maxRecDepth 10000 in
theorem lq_X8_onlyOneOf : fk_qs[84]? = some (0, qX8_onlyOneOf, 1) := rfl
set_option maxRecDepth 10000 in
theorem lq_X8_together : fk_qs[85]? = some (0, qX8_together, 2) := rfl
set_option maxRecDepth 10000 in
theorem lq_X8_weightOf : fk_qs[86]? = some (0, qX8_weightOf, 3) := rfl
set_option maxRecDepth 10000 in
theorem lq_X8_shareOf : fk_qs[87]? = some (0, qX8_shareOf, 2) := rfl
set_option maxRecDepth 10000 in
theorem lq_X8_nearestInCommon : fk_qs[88]? = some (0, qX8_nearestInCommon, 2) := rfl
set_option maxRecDepth 10000 in
theorem lq_X9_init : fk_qs[89]? = some (4, qX9_init, 3) := rfl
set_option maxRecDepth 10000 in
theorem lq_X9_seek : fk_qs[90]? = some (0, qX9_seek, 5) := rfl
set_option maxRecDepth 10000 in
theorem lq_X9_attempt : fk_qs[91]? = some (0, qX9_attempt, 3) := rfl
set_option maxRecDepth 10000 in
theorem lq_X10_init : fk_qs[92]? = some (4, qX10_init, 0) := rfl
set_option maxRecDepth 10000 in
theorem lq_X10_hasRoomFor : fk_qs[93]? = some (0, qX10_hasRoomFor, 1) := rfl
set_option maxRecDepth 10000 in
theorem lq_X10_put : fk_qs[94]? = some (0, qX10_put, 1) := rfl
set_option maxRecDepth 10000 in
theorem lq_X10_byteAt : fk_qs[95]? = some (0, qX10_byteAt, 1) := rfl
set_option maxRecDepth 10000 in
theorem lq_X10_numberAt : fk_qs[96]? = some (0, qX10_numberAt, 1) := rfl
set_option maxRecDepth 10000 in
theorem lq_X10_clear : fk_qs[97]? = some (0, qX10_clear, 0) := rfl
set_option maxRecDepth 10000 in
theorem lq_X11_init : fk_qs[98]? = some (4, qX11_init, 0) := rfl
set_option maxRecDepth 10000 in
theorem lq_X11_road : fk_qs[99]? = some (0, qX11_road, 4) := rfl
set_option maxRecDepth 10000 in
theorem lq_X11_notice : fk_qs[100]? = some (0, qX11_notice, 3) := rfl
set_option maxRecDepth 10000 in
theorem lq_X11_comes : fk_qs[101]? = some (0, qX11_comes, 2) := rfl
set_option maxRecDepth 10000 in
theorem lq_X11_learns : fk_qs[102]? = some (0, qX11_learns, 3) := rfl
set_option maxRecDepth 10000 in
theorem lq_X11_owes : fk_qs[103]? = some (0, qX11_owes, 2) := rfl
set_option maxRecDepth 10000 in
theorem lq_X11_feed : fk_qs[104]? = some (0, qX11_feed, 5) := rfl
set_option maxRecDepth 10000 in
theorem lq_X11_law : fk_qs[105]? = some (0, qX11_law, 1) := rfl
set_option maxRecDepth 10000 in
theorem lq_X11_hours : fk_qs[106]? = some (0, qX11_hours, 1) := rfl
set_option maxRecDepth 10000 in
theorem lq_X11_tried : fk_qs[107]? = some (0, qX11_tried, 2) := rfl
set_option maxRecDepth 10000 in
theorem lq_X11_half : fk_qs[108]? = some (0, qX11_half, 2) := rfl
set_option maxRecDepth 10000 in
theorem lq_X11_gladly : fk_qs[109]? = some (0, qX11_gladly, 2) := rfl
set_option maxRecDepth 10000 in
theorem lq_X11_halves : fk_qs[110]? = some (0, qX11_halves, 2) := rfl
set_option maxRecDepth 10000 in
theorem lq_X11_was : fk_qs[111]? = some (0, qX11_was, 2) := rfl
set_option maxRecDepth 10000 in
theorem lq_X11_byForks : fk_qs[112]? = some (0, qX11_byForks, 2) := rfl
set_option maxRecDepth 10000 in
theorem lq_X11_plan : fk_qs[113]? = some (0, qX11_plan, 4) := rfl
set_option maxRecDepth 10000 in
theorem lq_X11_joined : fk_qs[114]? = some (0, qX11_joined, 2) := rfl
set_option maxRecDepth 10000 in
theorem lq_X11_chosen : fk_qs[115]? = some (0, qX11_chosen, 3) := rfl
set_option maxRecDepth 10000 in
theorem lq_X11_whoWas : fk_qs[116]? = some (0, qX11_whoWas, 2) := rfl
set_option maxRecDepth 10000 in
theorem lq_X11_meet : fk_qs[117]? = some (0, qX11_meet, 1) := rfl
set_option maxRecDepth 10000 in
theorem lq_X11_built : fk_qs[118]? = some (0, qX11_built, 1) := rfl
set_option maxRecDepth 10000 in
theorem lq_X11_closed : fk_qs[119]? = some (0, qX11_closed, 3) := rfl
set_option maxRecDepth 10000 in
theorem lq_X11_history : fk_qs[120]? = some (0, qX11_history, 2) := rfl
set_option maxRecDepth 10000 in
theorem lq_X11_kin : fk_qs[121]? = some (0, qX11_kin, 3) := rfl
set_option maxRecDepth 10000 in
theorem lq_X11_bread : fk_qs[122]? = some (0, qX11_bread, 2) := rfl
set_option maxRecDepth 10000 in
theorem lq_X11_vote : fk_qs[123]? = some (0, qX11_vote, 3) := rfl
set_option maxRecDepth 10000 in
theorem lq_X11_seed : fk_qs[124]? = some (0, qX11_seed, 1) := rfl
set_option maxRecDepth 10000 in
theorem lq_X11_keep : fk_qs[125]? = some (0, qX11_keep, 0) := rfl
set_option maxRecDepth 10000 in
theorem lq_X11_undo : fk_qs[126]? = some (0, qX11_undo, 0) := rfl
set_option maxRecDepth 10000 in
theorem lq_X11_check : fk_qs[127]? = some (0, qX11_check, 1) := rfl
set_option maxRecDepth 10000 in
theorem lq_X11_count : fk_qs[128]? = some (0, qX11_count, 1) := rfl
set_option maxRecDepth 10000 in
theorem lq_X11_within : fk_qs[129]? = some (2, qX11_within, 2) := rfl
set_option maxRecDepth 10000 in
theorem lq_X11_faultAt : fk_qs[130]? = some (2, qX11_faultAt, 2) := rfl
set_option maxRecDepth 10000 in
theorem lq_X11_canPass : fk_qs[131]? = some (0, qX11_canPass, 1) := rfl
set_option maxRecDepth 10000 in
theorem lq_X11_isTriable : fk_qs[132]? = some (2, qX11_isTriable, 1) := rfl
set_option maxRecDepth 10000 in
theorem lq_X11_isSettled : fk_qs[133]? = some (0, qX11_isSettled, 2) := rfl
set_option maxRecDepth 10000 in
theorem lq_X11_seenHour : fk_qs[134]? = some (0, qX11_seenHour, 1) := rfl
set_option maxRecDepth 10000 in
theorem lq_X11_seenPlace : fk_qs[135]? = some (0, qX11_seenPlace, 1) := rfl
set_option maxRecDepth 10000 in
theorem lq_X11_wasSeen : fk_qs[136]? = some (0, qX11_wasSeen, 2) := rfl
set_option maxRecDepth 10000 in
theorem lq_X11_isSo : fk_qs[137]? = some (0, qX11_isSo, 3) := rfl
set_option maxRecDepth 10000 in
theorem lq_X12_init : fk_qs[138]? = some (4, qX12_init, 0) := rfl
set_option maxRecDepth 10000 in
theorem lq_X12_in : fk_qs[139]? = some (2, qX12_in, 3) := rfl
set_option maxRecDepth 10000 in
theorem lq_X12_min : fk_qs[140]? = some (2, qX12_min, 2) := rfl
set_option maxRecDepth 10000 in
theorem lq_X12_max : fk_qs[141]? = some (2, qX12_max, 2) := rfl
set_option maxRecDepth 10000 in
theorem lq_X12_has : fk_qs[142]? = some (2, qX12_has, 2) := rfl
set_option maxRecDepth 10000 in
theorem lq_X12_bits : fk_qs[143]? = some (2, qX12_bits, 1) := rfl
set_option maxRecDepth 10000 in
theorem lq_X12_copies : fk_qs[144]? = some (2, qX12_copies, 2) := rfl
set_option maxRecDepth 10000 in
theorem lq_X12_begins : fk_qs[145]? = some (0, qX12_begins, 0) := rfl
set_option maxRecDepth 10000 in
theorem lq_X12_again : fk_qs[146]? = some (0, qX12_again, 0) := rfl
set_option maxRecDepth 10000 in
theorem lq_X12_isPlace : fk_qs[147]? = some (2, qX12_isPlace, 1) := rfl
set_option maxRecDepth 10000 in
theorem lq_X12_isRoad : fk_qs[148]? = some (0, qX12_isRoad, 1) := rfl
set_option maxRecDepth 10000 in
theorem lq_X12_isOne : fk_qs[149]? = some (2, qX12_isOne, 1) := rfl
set_option maxRecDepth 10000 in
theorem lq_X12_isFact : fk_qs[150]? = some (2, qX12_isFact, 1) := rfl
set_option maxRecDepth 10000 in
theorem lq_X12_road : fk_qs[151]? = some (0, qX12_road, 4) := rfl
set_option maxRecDepth 10000 in
theorem lq_X12_notice : fk_qs[152]? = some (0, qX12_notice, 3) := rfl
set_option maxRecDepth 10000 in
theorem lq_X12_lives : fk_qs[153]? = some (0, qX12_lives, 1) := rfl
set_option maxRecDepth 10000 in
theorem lq_X12_isHalf : fk_qs[154]? = some (0, qX12_isHalf, 1) := rfl
set_option maxRecDepth 10000 in
theorem lq_X12_isLiving : fk_qs[155]? = some (0, qX12_isLiving, 1) := rfl
set_option maxRecDepth 10000 in
theorem lq_X12_isAt : fk_qs[156]? = some (0, qX12_isAt, 1) := rfl
set_option maxRecDepth 10000 in
theorem lq_X12_livingOf : fk_qs[157]? = some (0, qX12_livingOf, 1) := rfl
set_option maxRecDepth 10000 in
theorem lq_X12_living : fk_qs[158]? = some (0, qX12_living, 0) := rfl
set_option maxRecDepth 10000 in
theorem lq_X12_begin : fk_qs[159]? = some (0, qX12_begin, 3) := rfl
set_option maxRecDepth 10000 in
theorem lq_X12_comes : fk_qs[160]? = some (0, qX12_comes, 2) := rfl
set_option maxRecDepth 10000 in
theorem lq_X12_knows : fk_qs[161]? = some (0, qX12_knows, 3) := rfl
set_option maxRecDepth 10000 in
theorem lq_X12_learns : fk_qs[162]? = some (0, qX12_learns, 3) := rfl
set_option maxRecDepth 10000 in
theorem lq_X12_owes : fk_qs[163]? = some (0, qX12_owes, 2) := rfl
set_option maxRecDepth 10000 in
theorem lq_X12_types : fk_qs[164]? = some (0, qX12_types, 1) := rfl
set_option maxRecDepth 10000 in
theorem lq_X12_feed : fk_qs[165]? = some (0, qX12_feed, 5) := rfl
set_option maxRecDepth 10000 in
theorem lq_X12_here : fk_qs[166]? = some (0, qX12_here, 0) := rfl
set_option maxRecDepth 10000 in
theorem lq_X12_isDigit : fk_qs[167]? = some (0, qX12_isDigit, 0) := rfl
set_option maxRecDepth 10000 in
theorem lq_X12_wrongAt : fk_qs[168]? = some (0, qX12_wrongAt, 2) := rfl
set_option maxRecDepth 10000 in
theorem lq_X12_takes : fk_qs[169]? = some (0, qX12_takes, 1) := rfl
set_option maxRecDepth 10000 in
theorem lq_X12_readsNumber : fk_qs[170]? = some (0, qX12_readsNumber, 0) := rfl
set_option maxRecDepth 10000 in
theorem lq_X12_notes : fk_qs[171]? = some (0, qX12_notes, 2) := rfl
set_option maxRecDepth 10000 in
theorem lq_X12_opens : fk_qs[172]? = some (0, qX12_opens, 1) := rfl
set_option maxRecDepth 10000 in
theorem lq_X12_waitTop : fk_qs[173]? = some (0, qX12_waitTop, 0) := rfl
set_option maxRecDepth 10000 in
theorem lq_X12_factOf : fk_qs[174]? = some (2, qX12_factOf, 1) := rfl
set_option maxRecDepth 10000 in
theorem lq_X12_sumSign : fk_qs[175]? = some (2, qX12_sumSign, 1) := rfl
set_option maxRecDepth 10000 in
theorem lq_X12_closesSums : fk_qs[176]? = some (0, qX12_closesSums, 1) := rfl
set_option maxRecDepth 10000 in
theorem lq_X12_readsFactor : fk_qs[177]? = some (0, qX12_readsFactor, 0) := rfl
set_option maxRecDepth 10000 in
theorem lq_X12_hasOpenSum : fk_qs[178]? = some (0, qX12_hasOpenSum, 1) := rfl
set_option maxRecDepth 10000 in
theorem lq_X12_readsSum : fk_qs[179]? = some (0, qX12_readsSum, 0) := rfl
set_option maxRecDepth 10000 in
theorem lq_X12_endsPiece : fk_qs[180]? = some (0, qX12_endsPiece, 0) := rfl
set_option maxRecDepth 10000 in
theorem lq_X12_lands : fk_qs[181]? = some (0, qX12_lands, 1) := rfl
set_option maxRecDepth 10000 in
theorem lq_X12_jumps : fk_qs[182]? = some (0, qX12_jumps, 1) := rfl
set_option maxRecDepth 10000 in
theorem lq_X12_readsCompared : fk_qs[183]? = some (0, qX12_readsCompared, 0) := rfl
set_option maxRecDepth 10000 in
theorem lq_X12_readsCondition : fk_qs[184]? = some (0, qX12_readsCondition, 0) := rfl
set_option maxRecDepth 10000 in
theorem lq_X12_isClause : fk_qs[185]? = some (2, qX12_isClause, 1) := rfl
set_option maxRecDepth 10000 in
theorem lq_X12_readsClause : fk_qs[186]? = some (0, qX12_readsClause, 0) := rfl
set_option maxRecDepth 10000 in
theorem lq_X12_law : fk_qs[187]? = some (0, qX12_law, 1) := rfl
set_option maxRecDepth 10000 in
theorem lq_X12_reckon : fk_qs[188]? = some (2, qX12_reckon, 3) := rfl
set_option maxRecDepth 10000 in
theorem lq_X12_comesTo : fk_qs[189]? = some (0, qX12_comesTo, 2) := rfl
set_option maxRecDepth 10000 in
theorem lq_X12_byLaw : fk_qs[190]? = some (0, qX12_byLaw, 2) := rfl
set_option maxRecDepth 10000 in
theorem lq_X12_isElder : fk_qs[191]? = some (0, qX12_isElder, 0) := rfl
set_option maxRecDepth 10000 in
theorem lq_X12_feels : fk_qs[192]? = some (0, qX12_feels, 1) := rfl
set_option maxRecDepth 10000 in
theorem lq_X12_gladlyFor : fk_qs[193]? = some (0, qX12_gladlyFor, 2) := rfl
set_option maxRecDepth 10000 in
theorem lq_X12_remembers : fk_qs[194]? = some (0, qX12_remembers, 0) := rfl
set_option maxRecDepth 10000 in
theorem lq_X12_goesOn : fk_qs[195]? = some (0, qX12_goesOn, 1) := rfl
set_option maxRecDepth 10000 in
theorem lq_X12_merges : fk_qs[196]? = some (0, qX12_merges, 2) := rfl
set_option maxRecDepth 10000 in
theorem lq_X12_arrives : fk_qs[197]? = some (0, qX12_arrives, 1) := rfl
set_option maxRecDepth 10000 in
theorem lq_X12_mayDie : fk_qs[198]? = some (0, qX12_mayDie, 1) := rfl
set_option maxRecDepth 10000 in
theorem lq_X12_doubtOf : fk_qs[199]? = some (0, qX12_doubtOf, 1) := rfl
set_option maxRecDepth 10000 in
theorem lq_X12_bestRoad : fk_qs[200]? = some (0, qX12_bestRoad, 2) := rfl
set_option maxRecDepth 10000 in
theorem lq_X12_sets : fk_qs[201]? = some (0, qX12_sets, 2) := rfl
set_option maxRecDepth 10000 in
theorem lq_X12_leaves : fk_qs[202]? = some (0, qX12_leaves, 1) := rfl
set_option maxRecDepth 10000 in
theorem lq_X12_hourGoes : fk_qs[203]? = some (0, qX12_hourGoes, 0) := rfl
set_option maxRecDepth 10000 in
theorem lq_X12_hours : fk_qs[204]? = some (0, qX12_hours, 1) := rfl
set_option maxRecDepth 10000 in
theorem lq_X12_sumFor : fk_qs[205]? = some (0, qX12_sumFor, 2) := rfl
set_option maxRecDepth 10000 in
theorem lq_X12_triedBy : fk_qs[206]? = some (0, qX12_triedBy, 1) := rfl
set_option maxRecDepth 10000 in
theorem lq_X12_tried : fk_qs[207]? = some (0, qX12_tried, 2) := rfl
set_option maxRecDepth 10000 in
theorem lq_X12_half : fk_qs[208]? = some (0, qX12_half, 2) := rfl
set_option maxRecDepth 10000 in
theorem lq_X12_gladly : fk_qs[209]? = some (0, qX12_gladly, 2) := rfl
set_option maxRecDepth 10000 in
theorem lq_X12_halves : fk_qs[210]? = some (0, qX12_halves, 2) := rfl
set_option maxRecDepth 10000 in
theorem lq_X12_isRemembered : fk_qs[211]? = some (0, qX12_isRemembered, 1) := rfl
set_option maxRecDepth 10000 in
theorem lq_X12_wasAt : fk_qs[212]? = some (0, qX12_wasAt, 2) := rfl
set_option maxRecDepth 10000 in
theorem lq_X12_was : fk_qs[213]? = some (0, qX12_was, 2) := rfl
set_option maxRecDepth 10000 in
theorem lq_X12_byForks : fk_qs[214]? = some (0, qX12_byForks, 2) := rfl
set_option maxRecDepth 10000 in
theorem lq_X12_forksOf : fk_qs[215]? = some (0, qX12_forksOf, 0) := rfl
set_option maxRecDepth 10000 in
theorem lq_X12_aliveOf : fk_qs[216]? = some (0, qX12_aliveOf, 1) := rfl
set_option maxRecDepth 10000 in
theorem lq_X12_triesPlan : fk_qs[217]? = some (0, qX12_triesPlan, 3) := rfl
set_option maxRecDepth 10000 in
theorem lq_X12_plan : fk_qs[218]? = some (0, qX12_plan, 4) := rfl
set_option maxRecDepth 10000 in
theorem lq_X12_takesHalves : fk_qs[219]? = some (0, qX12_takesHalves, 1) := rfl
set_option maxRecDepth 10000 in
theorem lq_X12_readsJoins : fk_qs[220]? = some (0, qX12_readsJoins, 1) := rfl
set_option maxRecDepth 10000 in
theorem lq_X12_knownBy : fk_qs[221]? = some (0, qX12_knownBy, 0) := rfl
set_option maxRecDepth 10000 in
theorem lq_X12_joined : fk_qs[222]? = some (0, qX12_joined, 2) := rfl
set_option maxRecDepth 10000 in
theorem lq_X12_gainOf : fk_qs[223]? = some (0, qX12_gainOf, 3) := rfl
set_option maxRecDepth 10000 in
theorem lq_X12_isGlad : fk_qs[224]? = some (0, qX12_isGlad, 2) := rfl
set_option maxRecDepth 10000 in
theorem lq_X12_rests : fk_qs[225]? = some (0, qX12_rests, 4) := rfl
set_option maxRecDepth 10000 in
theorem lq_X12_chosen : fk_qs[226]? = some (0, qX12_chosen, 3) := rfl
set_option maxRecDepth 10000 in
theorem lq_X12_hourAt : fk_qs[227]? = some (0, qX12_hourAt, 1) := rfl
set_option maxRecDepth 10000 in
theorem lq_X12_wasThere : fk_qs[228]? = some (0, qX12_wasThere, 2) := rfl
set_option maxRecDepth 10000 in
theorem lq_X12_whoWas : fk_qs[229]? = some (0, qX12_whoWas, 2) := rfl
set_option maxRecDepth 10000 in
theorem lq_X12_reachedFrom : fk_qs[230]? = some (0, qX12_reachedFrom, 2) := rfl
set_option maxRecDepth 10000 in
theorem lq_X12_meet : fk_qs[231]? = some (0, qX12_meet, 1) := rfl
set_option maxRecDepth 10000 in
theorem lq_X12_isLast : fk_qs[232]? = some (0, qX12_isLast, 1) := rfl
set_option maxRecDepth 10000 in
theorem lq_X12_built : fk_qs[233]? = some (0, qX12_built, 1) := rfl
set_option maxRecDepth 10000 in
theorem lq_X12_closed : fk_qs[234]? = some (0, qX12_closed, 3) := rfl
set_option maxRecDepth 10000 in
theorem lq_X12_readsDigits : fk_qs[235]? = some (0, qX12_readsDigits, 1) := rfl
set_option maxRecDepth 10000 in
theorem lq_X12_readsStep : fk_qs[236]? = some (0, qX12_readsStep, 0) := rfl
set_option maxRecDepth 10000 in
theorem lq_X12_history : fk_qs[237]? = some (0, qX12_history, 2) := rfl
set_option maxRecDepth 10000 in
theorem lq_X12_isFrom : fk_qs[238]? = some (0, qX12_isFrom, 2) := rfl
set_option maxRecDepth 10000 in
theorem lq_X12_kin : fk_qs[239]? = some (0, qX12_kin, 3) := rfl
set_option maxRecDepth 10000 in
theorem lq_X12_bread : fk_qs[240]? = some (0, qX12_bread, 2) := rfl
set_option maxRecDepth 10000 in
theorem lq_X12_weightFor : fk_qs[241]? = some (0, qX12_weightFor, 3) := rfl
set_option maxRecDepth 10000 in
theorem lq_X12_vote : fk_qs[242]? = some (0, qX12_vote, 3) := rfl
set_option maxRecDepth 10000 in
theorem lq_X12_seed : fk_qs[243]? = some (0, qX12_seed, 1) := rfl
set_option maxRecDepth 10000 in
theorem lq_X12_keep : fk_qs[244]? = some (0, qX12_keep, 0) := rfl
set_option maxRecDepth 10000 in
theorem lq_X12_undo : fk_qs[245]? = some (0, qX12_undo, 0) := rfl
set_option maxRecDepth 10000 in
theorem lq_X12_tapeNumber : fk_qs[246]? = some (0, qX12_tapeNumber, 1) := rfl
set_option maxRecDepth 10000 in
theorem lq_X12_check : fk_qs[247]? = some (0, qX12_check, 1) := rfl
set_option maxRecDepth 10000 in
theorem lq_X12_roadMany : fk_qs[248]? = some (0, qX12_roadMany, 0) := rfl
set_option maxRecDepth 10000 in
theorem lq_X12_count : fk_qs[249]? = some (0, qX12_count, 1) := rfl
set_option maxRecDepth 10000 in
theorem lq_J6_bitCount_0f7a4 : fk_qs[250]? = some (2, qJ6_bitCount_0f7a4, 1) := rfl
set_option maxRecDepth 10000 in
theorem lq_J0_length_8abf5 : fk_qs[251]? = some (8, qJ0_length_8abf5, 0) := rfl
set_option maxRecDepth 10000 in
theorem lq_J0_indexOf_0f7a4 : fk_qs[252]? = some (8, qJ0_indexOf_0f7a4, 1) := rfl
set_option maxRecDepth 10000 in
theorem lq_J0_indexOf_7cf53 : fk_qs[253]? = some (8, qJ0_indexOf_7cf53, 2) := rfl
set_option maxRecDepth 10000 in
theorem lq_J0_coder_7d493 : fk_qs[254]? = some (8, qJ0_coder_7d493, 0) := rfl
set_option maxRecDepth 10000 in
theorem lq_J0_isLatin1_aae02 : fk_qs[255]? = some (8, qJ0_isLatin1_aae02, 0) := rfl
set_option maxRecDepth 10000 in
theorem lq_J1_canEncode_9a6ad : fk_qs[256]? = some (2, qJ1_canEncode_9a6ad, 1) := rfl
set_option maxRecDepth 10000 in
theorem lq_J1_indexOf_4cfef : fk_qs[257]? = some (2, qJ1_indexOf_4cfef, 4) := rfl
set_option maxRecDepth 10000 in
theorem lq_J1_indexOfChar_4cfef : fk_qs[258]? = some (2, qJ1_indexOfChar_4cfef, 4) := rfl
set_option maxRecDepth 10000 in
theorem lq_J7_fill_53178 : fk_qs[259]? = some (2, qJ7_fill_53178, 2) := rfl
theorem lf_3_9 : fk_fl 3 9 = some (3, 0, 2) := by decide +kernel
theorem lf_4_105 : fk_fl 4 105 = some (3, 0, 3) := by decide +kernel
theorem lf_3_15 : fk_fl 3 15 = some (3, 1, 2) := by decide +kernel
theorem lf_4_108 : fk_fl 4 108 = some (3, 1, 3) := by decide +kernel
theorem lf_3_18 : fk_fl 3 18 = some (3, 2, 2) := by decide +kernel
theorem lf_4_80 : fk_fl 4 80 = some (3, 2, 3) := by decide +kernel
theorem lf_3_21 : fk_fl 3 21 = some (3, 3, 2) := by decide +kernel
theorem lf_4_83 : fk_fl 4 83 = some (3, 3, 3) := by decide +kernel
theorem lf_3_24 : fk_fl 3 24 = some (3, 4, 2) := by decide +kernel
theorem lf_4_96 : fk_fl 4 96 = some (3, 4, 3) := by decide +kernel
theorem lf_3_27 : fk_fl 3 27 = some (3, 5, 2) := by decide +kernel
theorem lf_4_102 : fk_fl 4 102 = some (3, 5, 3) := by decide +kernel
theorem lf_3_30 : fk_fl 3 30 = some (3, 6, 2) := by decide +kernel
theorem lf_3_33 : fk_fl 3 33 = some (3, 7, 0) := by decide +kernel
theorem lf_4_86 : fk_fl 4 86 = some (3, 7, 1) := by decide +kernel
theorem lf_3_37 : fk_fl 3 37 = some (3, 8, 0) := by decide +kernel
theorem lf_4_77 : fk_fl 4 77 = some (3, 8, 1) := by decide +kernel
theorem lf_11_170 : fk_fl 11 170 = some (3, 8, 1) := by decide +kernel
theorem lf_5_9 : fk_fl 5 9 = some (5, 0, 2) := by decide +kernel
theorem lf_6_159 : fk_fl 6 159 = some (5, 0, 3) := by decide +kernel
theorem lf_11_258 : fk_fl 11 258 = some (5, 0, 3) := by decide +kernel
theorem lf_5_15 : fk_fl 5 15 = some (5, 1, 2) := by decide +kernel
theorem lf_6_88 : fk_fl 6 88 = some (5, 1, 3) := by decide +kernel
theorem lf_5_18 : fk_fl 5 18 = some (5, 2, 2) := by decide +kernel
theorem lf_6_172 : fk_fl 6 172 = some (5, 2, 3) := by decide +kernel
theorem lf_5_21 : fk_fl 5 21 = some (5, 3, 2) := by decide +kernel
theorem lf_11_118 : fk_fl 11 118 = some (5, 3, 3) := by decide +kernel
theorem lf_6_119 : fk_fl 6 119 = some (5, 3, 3) := by decide +kernel
theorem lf_5_24 : fk_fl 5 24 = some (5, 4, 2) := by decide +kernel
theorem lf_11_121 : fk_fl 11 121 = some (5, 4, 3) := by decide +kernel
theorem lf_6_122 : fk_fl 6 122 = some (5, 4, 3) := by decide +kernel
theorem lf_5_27 : fk_fl 5 27 = some (5, 5, 2) := by decide +kernel
theorem lf_5_30 : fk_fl 5 30 = some (5, 6, 2) := by decide +kernel
theorem lf_10_9 : fk_fl 10 9 = some (10, 0, 2) := by decide +kernel
theorem lf_10_15 : fk_fl 10 15 = some (10, 1, 0) := by decide +kernel
theorem lf_11_160 : fk_fl 11 160 = some (10, 1, 1) := by decide +kernel
theorem lf_4_25 : fk_fl 4 25 = some (4, 0, 2) := by decide +kernel
theorem lf_4_9 : fk_fl 4 9 = some (4, 1, 2) := by decide +kernel
theorem lf_4_29 : fk_fl 4 29 = some (4, 2, 0) := by decide +kernel
theorem lf_4_15 : fk_fl 4 15 = some (4, 3, 0) := by decide +kernel
theorem lf_4_19 : fk_fl 4 19 = some (4, 4, 0) := by decide +kernel
theorem lf_4_22 : fk_fl 4 22 = some (4, 5, 0) := by decide +kernel
theorem lf_1_9 : fk_fl 1 9 = some (1, 0, 2) := by decide +kernel
theorem lf_11_352 : fk_fl 11 352 = some (1, 0, 3) := by decide +kernel
theorem lf_1_15 : fk_fl 1 15 = some (1, 1, 2) := by decide +kernel
theorem lf_11_355 : fk_fl 11 355 = some (1, 1, 3) := by decide +kernel
theorem lf_1_28 : fk_fl 1 28 = some (1, 2, 2) := by decide +kernel
theorem lf_1_18 : fk_fl 1 18 = some (1, 3, 0) := by decide +kernel
theorem lf_11_349 : fk_fl 11 349 = some (1, 3, 1) := by decide +kernel
theorem lf_1_22 : fk_fl 1 22 = some (1, 4, 0) := by decide +kernel
theorem lf_1_25 : fk_fl 1 25 = some (1, 5, 0) := by decide +kernel
theorem lf_0_9 : fk_fl 0 9 = some (0, 0, 2) := by decide +kernel
theorem lf_2_66 : fk_fl 2 66 = some (0, 0, 3) := by decide +kernel
theorem lf_8_71 : fk_fl 8 71 = some (0, 0, 3) := by decide +kernel
theorem lf_6_183 : fk_fl 6 183 = some (0, 0, 3) := by decide +kernel
theorem lf_0_15 : fk_fl 0 15 = some (0, 1, 0) := by decide +kernel
theorem lf_2_41 : fk_fl 2 41 = some (0, 1, 1) := by decide +kernel
theorem lf_9_67 : fk_fl 9 67 = some (0, 1, 1) := by decide +kernel
theorem lf_6_95 : fk_fl 6 95 = some (0, 1, 1) := by decide +kernel
theorem lf_8_90 : fk_fl 8 90 = some (0, 1, 1) := by decide +kernel
theorem lf_11_218 : fk_fl 11 218 = some (0, 1, 1) := by decide +kernel
theorem lf_0_18 : fk_fl 0 18 = some (0, 2, 0) := by decide +kernel
theorem lf_7_48 : fk_fl 7 48 = some (0, 2, 1) := by decide +kernel
theorem lf_8_74 : fk_fl 8 74 = some (0, 2, 1) := by decide +kernel
theorem lf_11_221 : fk_fl 11 221 = some (0, 2, 1) := by decide +kernel
theorem lf_0_21 : fk_fl 0 21 = some (0, 3, 0) := by decide +kernel
theorem lf_7_58 : fk_fl 7 58 = some (0, 3, 1) := by decide +kernel
theorem lf_8_77 : fk_fl 8 77 = some (0, 3, 1) := by decide +kernel
theorem lf_6_198 : fk_fl 6 198 = some (0, 3, 1) := by decide +kernel
theorem lf_11_224 : fk_fl 11 224 = some (0, 3, 1) := by decide +kernel
theorem lf_0_24 : fk_fl 0 24 = some (0, 4, 0) := by decide +kernel
theorem lf_8_60 : fk_fl 8 60 = some (0, 4, 1) := by decide +kernel
theorem lf_6_73 : fk_fl 6 73 = some (0, 4, 1) := by decide +kernel
theorem lf_11_227 : fk_fl 11 227 = some (0, 4, 1) := by decide +kernel
theorem lf_0_28 : fk_fl 0 28 = some (0, 5, 0) := by decide +kernel
theorem lf_8_80 : fk_fl 8 80 = some (0, 5, 1) := by decide +kernel
theorem lf_6_166 : fk_fl 6 166 = some (0, 5, 1) := by decide +kernel
theorem lf_11_230 : fk_fl 11 230 = some (0, 5, 1) := by decide +kernel
theorem lf_9_42 : fk_fl 9 42 = some (0, 6, 1) := by decide +kernel
theorem lf_0_31 : fk_fl 0 31 = some (0, 6, 0) := by decide +kernel
theorem lf_7_35 : fk_fl 7 35 = some (0, 6, 1) := by decide +kernel
theorem lf_6_98 : fk_fl 6 98 = some (0, 6, 1) := by decide +kernel
theorem lf_5_54 : fk_fl 5 54 = some (0, 6, 1) := by decide +kernel
theorem lf_8_64 : fk_fl 8 64 = some (0, 6, 1) := by decide +kernel
theorem lf_11_233 : fk_fl 11 233 = some (0, 6, 1) := by decide +kernel
theorem lf_0_34 : fk_fl 0 34 = some (0, 7, 0) := by decide +kernel
theorem lf_6_76 : fk_fl 6 76 = some (0, 7, 1) := by decide +kernel
theorem lf_5_48 : fk_fl 5 48 = some (0, 7, 1) := by decide +kernel
theorem lf_11_236 : fk_fl 11 236 = some (0, 7, 1) := by decide +kernel
theorem lf_0_37 : fk_fl 0 37 = some (0, 8, 0) := by decide +kernel
theorem lf_6_85 : fk_fl 6 85 = some (0, 8, 1) := by decide +kernel
theorem lf_11_239 : fk_fl 11 239 = some (0, 8, 1) := by decide +kernel
theorem lf_0_40 : fk_fl 0 40 = some (0, 9, 0) := by decide +kernel
theorem lf_6_101 : fk_fl 6 101 = some (0, 9, 1) := by decide +kernel
theorem lf_8_103 : fk_fl 8 103 = some (0, 9, 1) := by decide +kernel
theorem lf_11_242 : fk_fl 11 242 = some (0, 9, 1) := by decide +kernel
theorem lf_0_43 : fk_fl 0 43 = some (0, 10, 0) := by decide +kernel
theorem lf_11_150 : fk_fl 11 150 = some (0, 10, 1) := by decide +kernel
theorem lf_6_134 : fk_fl 6 134 = some (0, 10, 1) := by decide +kernel
theorem lf_8_113 : fk_fl 8 113 = some (0, 10, 1) := by decide +kernel
theorem lf_0_46 : fk_fl 0 46 = some (0, 11, 0) := by decide +kernel
theorem lf_2_60 : fk_fl 2 60 = some (0, 11, 1) := by decide +kernel
theorem lf_6_189 : fk_fl 6 189 = some (0, 11, 1) := by decide +kernel
theorem lf_0_49 : fk_fl 0 49 = some (0, 12, 0) := by decide +kernel
theorem lf_2_63 : fk_fl 2 63 = some (0, 12, 1) := by decide +kernel
theorem lf_0_52 : fk_fl 0 52 = some (0, 13, 0) := by decide +kernel
theorem lf_11_245 : fk_fl 11 245 = some (0, 13, 1) := by decide +kernel
theorem lf_0_55 : fk_fl 0 55 = some (0, 14, 0) := by decide +kernel
theorem lf_6_67 : fk_fl 6 67 = some (0, 14, 1) := by decide +kernel
theorem lf_8_83 : fk_fl 8 83 = some (0, 14, 1) := by decide +kernel
theorem lf_8_11 : fk_fl 8 11 = some (8, 0, 2) := by decide +kernel
theorem lf_9_36 : fk_fl 9 36 = some (8, 0, 3) := by decide +kernel
theorem lf_2_37 : fk_fl 2 37 = some (8, 0, 3) := by decide +kernel
theorem lf_7_31 : fk_fl 7 31 = some (8, 0, 3) := by decide +kernel
theorem lf_6_63 : fk_fl 6 63 = some (8, 0, 3) := by decide +kernel
theorem lf_11_139 : fk_fl 11 139 = some (8, 0, 3) := by decide +kernel
theorem lf_8_17 : fk_fl 8 17 = some (8, 1, 2) := by decide +kernel
theorem lf_9_84 : fk_fl 9 84 = some (8, 1, 3) := by decide +kernel
theorem lf_11_124 : fk_fl 11 124 = some (8, 1, 3) := by decide +kernel
theorem lf_6_186 : fk_fl 6 186 = some (8, 1, 3) := by decide +kernel
theorem lf_8_21 : fk_fl 8 21 = some (8, 2, 0) := by decide +kernel
theorem lf_11_127 : fk_fl 11 127 = some (8, 2, 1) := by decide +kernel
theorem lf_6_60 : fk_fl 6 60 = some (8, 2, 1) := by decide +kernel
theorem lf_8_25 : fk_fl 8 25 = some (8, 3, 0) := by decide +kernel
theorem lf_7_21 : fk_fl 7 21 = some (8, 3, 1) := by decide +kernel
theorem lf_6_55 : fk_fl 6 55 = some (8, 3, 1) := by decide +kernel
theorem lf_11_380 : fk_fl 11 380 = some (8, 3, 1) := by decide +kernel
theorem lf_8_28 : fk_fl 8 28 = some (8, 4, 0) := by decide +kernel
theorem lf_11_371 : fk_fl 11 371 = some (8, 4, 1) := by decide +kernel
theorem lf_8_31 : fk_fl 8 31 = some (8, 5, 0) := by decide +kernel
theorem lf_11_200 : fk_fl 11 200 = some (8, 5, 1) := by decide +kernel
theorem lf_8_34 : fk_fl 8 34 = some (8, 6, 0) := by decide +kernel
theorem lf_11_203 : fk_fl 11 203 = some (8, 6, 1) := by decide +kernel
theorem lf_8_37 : fk_fl 8 37 = some (8, 7, 0) := by decide +kernel
theorem lf_11_206 : fk_fl 11 206 = some (8, 7, 1) := by decide +kernel
theorem lf_8_40 : fk_fl 8 40 = some (8, 8, 0) := by decide +kernel
theorem lf_11_209 : fk_fl 11 209 = some (8, 8, 1) := by decide +kernel
theorem lf_7_9 : fk_fl 7 9 = some (7, 0, 2) := by decide +kernel
theorem lf_6_28 : fk_fl 6 28 = some (6, 0, 2) := by decide +kernel
theorem lf_6_9 : fk_fl 6 9 = some (6, 1, 2) := by decide +kernel
theorem lf_6_32 : fk_fl 6 32 = some (6, 2, 0) := by decide +kernel
theorem lf_6_36 : fk_fl 6 36 = some (6, 3, 0) := by decide +kernel
theorem lf_6_15 : fk_fl 6 15 = some (6, 4, 0) := by decide +kernel
theorem lf_6_19 : fk_fl 6 19 = some (6, 5, 0) := by decide +kernel
theorem lf_6_22 : fk_fl 6 22 = some (6, 6, 0) := by decide +kernel
theorem lf_9_78 : fk_fl 9 78 = some (6, 6, 1) := by decide +kernel
theorem lf_6_25 : fk_fl 6 25 = some (6, 7, 0) := by decide +kernel
theorem lf_9_93 : fk_fl 9 93 = some (6, 7, 1) := by decide +kernel
theorem lf_9_24 : fk_fl 9 24 = some (9, 0, 2) := by decide +kernel
theorem lf_9_28 : fk_fl 9 28 = some (9, 1, 2) := by decide +kernel
theorem lf_9_32 : fk_fl 9 32 = some (9, 2, 2) := by decide +kernel
theorem lf_9_9 : fk_fl 9 9 = some (9, 3, 0) := by decide +kernel
theorem lf_11_283 : fk_fl 11 283 = some (9, 3, 1) := by decide +kernel
theorem lf_9_15 : fk_fl 9 15 = some (9, 4, 0) := by decide +kernel
theorem lf_11_286 : fk_fl 11 286 = some (9, 4, 1) := by decide +kernel
theorem lf_9_18 : fk_fl 9 18 = some (9, 5, 0) := by decide +kernel
theorem lf_11_289 : fk_fl 11 289 = some (9, 5, 1) := by decide +kernel
theorem lf_9_21 : fk_fl 9 21 = some (9, 6, 0) := by decide +kernel
theorem lf_2_9 : fk_fl 2 9 = some (2, 0, 2) := by decide +kernel
theorem lf_2_15 : fk_fl 2 15 = some (2, 1, 2) := by decide +kernel
theorem lf_11_300 : fk_fl 11 300 = some (2, 1, 3) := by decide +kernel
theorem lf_2_18 : fk_fl 2 18 = some (2, 2, 0) := by decide +kernel
theorem lf_2_22 : fk_fl 2 22 = some (2, 3, 0) := by decide +kernel
theorem lf_11_299 : fk_fl 11 299 = some (2, 3, 1) := by decide +kernel
theorem lf_11_10 : fk_fl 11 10 = some (11, 0, 0) := by decide +kernel
theorem lf_11_16 : fk_fl 11 16 = some (11, 1, 0) := by decide +kernel
theorem lf_11_19 : fk_fl 11 19 = some (11, 2, 0) := by decide +kernel
theorem lf_11_26 : fk_fl 11 26 = some (11, 3, 2) := by decide +kernel
theorem lf_11_33 : fk_fl 11 33 = some (11, 4, 2) := by decide +kernel
theorem lf_11_42 : fk_fl 11 42 = some (11, 5, 2) := by decide +kernel
theorem lf_11_51 : fk_fl 11 51 = some (11, 6, 2) := by decide +kernel
theorem lf_11_58 : fk_fl 11 58 = some (11, 7, 2) := by decide +kernel
theorem lf_11_62 : fk_fl 11 62 = some (11, 8, 2) := by decide +kernel
theorem lf_11_65 : fk_fl 11 65 = some (11, 9, 2) := by decide +kernel
theorem lf_11_71 : fk_fl 11 71 = some (11, 10, 2) := by decide +kernel
theorem lf_11_75 : fk_fl 11 75 = some (11, 11, 2) := by decide +kernel
theorem lf_11_83 : fk_fl 11 83 = some (11, 12, 2) := by decide +kernel
theorem lf_11_92 : fk_fl 11 92 = some (11, 13, 2) := by decide +kernel
theorem lf_11_99 : fk_fl 11 99 = some (11, 14, 2) := by decide +kernel
theorem lf_11_103 : fk_fl 11 103 = some (11, 15, 2) := by decide +kernel
theorem lf_11_107 : fk_fl 11 107 = some (11, 16, 2) := by decide +kernel
theorem lf_12_7 : fk_fl 12 7 = some (12, 0, 2) := by decide +kernel
theorem lf_12_13 : fk_fl 12 13 = some (12, 1, 2) := by decide +kernel
theorem lf_12_16 : fk_fl 12 16 = some (12, 2, 2) := by decide +kernel
theorem lf_12_105 : fk_fl 12 105 = some (12, 3, 0) := by decide +kernel
theorem lf_12_19 : fk_fl 12 19 = some (12, 4, 2) := by decide +kernel
theorem lf_12_22 : fk_fl 12 22 = some (12, 5, 2) := by decide +kernel
theorem lf_12_25 : fk_fl 12 25 = some (12, 6, 2) := by decide +kernel
theorem lf_12_28 : fk_fl 12 28 = some (12, 7, 2) := by decide +kernel
theorem lf_12_31 : fk_fl 12 31 = some (12, 8, 2) := by decide +kernel
theorem lf_12_35 : fk_fl 12 35 = some (12, 9, 2) := by decide +kernel
theorem lf_12_148 : fk_fl 12 148 = some (12, 10, 0) := by decide +kernel
theorem lf_12_155 : fk_fl 12 155 = some (12, 11, 0) := by decide +kernel
theorem lf_12_158 : fk_fl 12 158 = some (12, 12, 0) := by decide +kernel
theorem lf_12_165 : fk_fl 12 165 = some (12, 13, 0) := by decide +kernel
theorem lf_12_171 : fk_fl 12 171 = some (12, 14, 0) := by decide +kernel
theorem lf_12_182 : fk_fl 12 182 = some (12, 15, 0) := by decide +kernel
theorem lf_12_178 : fk_fl 12 178 = some (12, 16, 0) := by decide +kernel
theorem lf_12_185 : fk_fl 12 185 = some (12, 17, 0) := by decide +kernel
theorem lf_12_235 : fk_fl 12 235 = some (12, 18, 0) := by decide +kernel
theorem lf_12_247 : fk_fl 12 247 = some (12, 19, 0) := by decide +kernel
theorem lf_12_39 : fk_fl 12 39 = some (12, 20, 2) := by decide +kernel
theorem lf_12_42 : fk_fl 12 42 = some (12, 21, 2) := by decide +kernel
theorem lf_12_45 : fk_fl 12 45 = some (12, 22, 2) := by decide +kernel
theorem lf_12_48 : fk_fl 12 48 = some (12, 23, 2) := by decide +kernel
theorem lf_12_51 : fk_fl 12 51 = some (12, 24, 2) := by decide +kernel
theorem lf_12_54 : fk_fl 12 54 = some (12, 25, 2) := by decide +kernel
theorem lf_12_57 : fk_fl 12 57 = some (12, 26, 2) := by decide +kernel
theorem lf_12_60 : fk_fl 12 60 = some (12, 27, 2) := by decide +kernel
theorem lf_12_63 : fk_fl 12 63 = some (12, 28, 2) := by decide +kernel
theorem lf_12_66 : fk_fl 12 66 = some (12, 29, 2) := by decide +kernel
theorem lf_12_69 : fk_fl 12 69 = some (12, 30, 2) := by decide +kernel
theorem lf_12_72 : fk_fl 12 72 = some (12, 31, 2) := by decide +kernel
theorem lf_12_75 : fk_fl 12 75 = some (12, 32, 2) := by decide +kernel
theorem lf_12_97 : fk_fl 12 97 = some (12, 33, 0) := by decide +kernel
theorem lf_12_286 : fk_fl 12 286 = some (12, 34, 0) := by decide +kernel
theorem lf_12_272 : fk_fl 12 272 = some (12, 35, 0) := by decide +kernel
theorem lf_12_281 : fk_fl 12 281 = some (12, 36, 0) := by decide +kernel
theorem lf_12_78 : fk_fl 12 78 = some (12, 37, 2) := by decide +kernel
theorem lf_12_81 : fk_fl 12 81 = some (12, 38, 2) := by decide +kernel
theorem lf_12_351 : fk_fl 12 351 = some (12, 39, 0) := by decide +kernel
theorem lf_12_354 : fk_fl 12 354 = some (12, 40, 0) := by decide +kernel
theorem lf_12_357 : fk_fl 12 357 = some (12, 41, 0) := by decide +kernel
theorem lf_12_85 : fk_fl 12 85 = some (12, 42, 2) := by decide +kernel
theorem lf_12_88 : fk_fl 12 88 = some (12, 43, 2) := by decide +kernel
theorem lf_12_369 : fk_fl 12 369 = some (12, 44, 0) := by decide +kernel
theorem lf_12_406 : fk_fl 12 406 = some (12, 45, 0) := by decide +kernel
theorem lf_12_409 : fk_fl 12 409 = some (12, 46, 0) := by decide +kernel
theorem lf_12_91 : fk_fl 12 91 = some (12, 47, 2) := by decide +kernel
theorem lf_12_94 : fk_fl 12 94 = some (12, 48, 2) := by decide +kernel
theorem lf_12_422 : fk_fl 12 422 = some (12, 49, 0) := by decide +kernel
theorem lc_11_149 : fk_ct 11 149 = some (99999 : Int32) := by decide +kernel
theorem lc_15_265 : fk_ct 15 265 = some (1431655765 : Int32) := by decide +kernel
theorem lc_15_266 : fk_ct 15 266 = some (858993459 : Int32) := by decide +kernel
theorem lc_15_267 : fk_ct 15 267 = some (252645135 : Int32) := by decide +kernel
theorem lc_0_62 : fk_ct 0 62 = some (99999 : Int32) := by decide +kernel
theorem lc_6_133 : fk_ct 6 133 = some (99999 : Int32) := by decide +kernel
theorem lc_8_112 : fk_ct 8 112 = some (65535 : Int32) := by decide +kernel
theorem lc_11_275 : fk_ct 11 275 = some (65536 : Int32) := by decide +kernel
theorem lc_11_323 : fk_ct 11 323 = some (65535 : Int32) := by decide +kernel
theorem lc_5_64 : fk_ct 5 64 = some (65535 : Int32) := by decide +kernel
theorem lc_12_147 : fk_ct 12 147 = some (99999 : Int32) := by decide +kernel
theorem lc_12_181 : fk_ct 12 181 = some (1048576 : Int32) := by decide +kernel
theorem lc_12_285 : fk_ct 12 285 = some (65536 : Int32) := by decide +kernel
theorem lc_12_360 : fk_ct 12 360 = some (65535 : Int32) := by decide +kernel
theorem lc_12_364 : fk_ct 12 364 = some (1000000000 : Int32) := by decide +kernel
theorem lm_13_9 : fk_ml 13 9 = some (0, 4, qX11_init, 0) := fk_ml_of (j := 98) (by decide +kernel) lq_X11_init
theorem ln_11_1 : fk_ml 11 1 = none := fk_ml_no (by decide +kernel)
theorem lp_11_1 : fk_pl 11 1 = some 6 := by decide +kernel
theorem lm_11_9 : fk_ml 11 9 = some (1, 4, qX3_init, 0) := fk_ml_of (j := 20) (by decide +kernel) lq_X3_init
theorem ln_3_3 : fk_ml 3 3 = none := fk_ml_no (by decide +kernel)
theorem lp_3_3 : fk_pl 3 3 = some 6 := by decide +kernel
theorem lm_11_25 : fk_ml 11 25 = some (0, 4, qX5_init, 0) := fk_ml_of (j := 39) (by decide +kernel) lq_X5_init
theorem ln_5_3 : fk_ml 5 3 = none := fk_ml_no (by decide +kernel)
theorem lp_5_3 : fk_pl 5 3 = some 6 := by decide +kernel
theorem lm_5_34 : fk_ml 5 34 = some (0, 2, qJ7_fill_53178, 2) := fk_ml_of (j := 259) (by decide +kernel) lq_J7_fill_53178
theorem lm_11_32 : fk_ml 11 32 = some (1, 4, qX10_init, 0) := fk_ml_of (j := 92) (by decide +kernel) lq_X10_init
theorem ln_10_3 : fk_ml 10 3 = none := fk_ml_no (by decide +kernel)
theorem lp_10_3 : fk_pl 10 3 = some 6 := by decide +kernel
theorem lm_11_39 : fk_ml 11 39 = some (0, 4, qX4_init, 2) := fk_ml_of (j := 25) (by decide +kernel) lq_X4_init
theorem ln_4_3 : fk_ml 4 3 = none := fk_ml_no (by decide +kernel)
theorem lp_4_3 : fk_pl 4 3 = some 6 := by decide +kernel
theorem lm_11_48 : fk_ml 11 48 = some (0, 4, qX1_init, 1) := fk_ml_of (j := 9) (by decide +kernel) lq_X1_init
theorem ln_1_3 : fk_ml 1 3 = none := fk_ml_no (by decide +kernel)
theorem lp_1_3 : fk_pl 1 3 = some 6 := by decide +kernel
theorem lm_11_57 : fk_ml 11 57 = some (0, 4, qX8_init, 0) := fk_ml_of (j := 72) (by decide +kernel) lq_X8_init
theorem ln_8_3 : fk_ml 8 3 = none := fk_ml_no (by decide +kernel)
theorem lp_8_3 : fk_pl 8 3 = some 6 := by decide +kernel
theorem lm_8_43 : fk_ml 8 43 = some (0, 4, qX0_init, 1) := fk_ml_of (j := 0) (by decide +kernel) lq_X0_init
theorem ln_0_3 : fk_ml 0 3 = none := fk_ml_no (by decide +kernel)
theorem lp_0_3 : fk_pl 0 3 = some 6 := by decide +kernel
theorem lm_11_70 : fk_ml 11 70 = some (1, 4, qX7_init, 0) := fk_ml_of (j := 66) (by decide +kernel) lq_X7_init
theorem ln_7_3 : fk_ml 7 3 = none := fk_ml_no (by decide +kernel)
theorem lp_7_3 : fk_pl 7 3 = some 6 := by decide +kernel
theorem lm_11_80 : fk_ml 11 80 = some (0, 4, qX6_init, 3) := fk_ml_of (j := 52) (by decide +kernel) lq_X6_init
theorem ln_6_3 : fk_ml 6 3 = none := fk_ml_no (by decide +kernel)
theorem lp_6_3 : fk_pl 6 3 = some 6 := by decide +kernel
theorem lm_11_89 : fk_ml 11 89 = some (0, 4, qX9_init, 3) := fk_ml_of (j := 89) (by decide +kernel) lq_X9_init
theorem ln_9_3 : fk_ml 9 3 = none := fk_ml_no (by decide +kernel)
theorem lp_9_3 : fk_pl 9 3 = some 6 := by decide +kernel
theorem lm_11_98 : fk_ml 11 98 = some (1, 4, qX2_init, 0) := fk_ml_of (j := 14) (by decide +kernel) lq_X2_init
theorem ln_2_3 : fk_ml 2 3 = none := fk_ml_no (by decide +kernel)
theorem lp_2_3 : fk_pl 2 3 = some 6 := by decide +kernel
theorem lm_13_13 : fk_ml 13 13 = some (0, 0, qX11_road, 4) := fk_ml_of (j := 99) (by decide +kernel) lq_X11_road
theorem lm_11_110 : fk_ml 11 110 = some (0, 2, qX11_within, 2) := fk_ml_of (j := 129) (by decide +kernel) lq_X11_within
theorem lm_11_114 : fk_ml 11 114 = some (0, 0, qX5_tellRoad, 4) := fk_ml_of (j := 40) (by decide +kernel) lq_X5_tellRoad
theorem lm_5_40 : fk_ml 5 40 = some (0, 0, qX5_isTold, 1) := fk_ml_of (j := 41) (by decide +kernel) lq_X5_isTold
theorem lm_5_44 : fk_ml 5 44 = some (1, 2, qX11_within, 2) := fk_ml_of (j := 129) (by decide +kernel) lq_X11_within
theorem lm_13_18 : fk_ml 13 18 = some (0, 0, qX11_notice, 3) := fk_ml_of (j := 100) (by decide +kernel) lq_X11_notice
theorem lm_13_23 : fk_ml 13 23 = some (0, 0, qX11_comes, 2) := fk_ml_of (j := 101) (by decide +kernel) lq_X11_comes
theorem lm_11_131 : fk_ml 11 131 = some (0, 0, qX8_welcome, 2) := fk_ml_of (j := 79) (by decide +kernel) lq_X8_welcome
theorem lm_8_56 : fk_ml 8 56 = some (1, 2, qX11_within, 2) := fk_ml_of (j := 129) (by decide +kernel) lq_X11_within
theorem lm_8_67 : fk_ml 8 67 = some (0, 0, qX0_beNew, 3) := fk_ml_of (j := 2) (by decide +kernel) lq_X0_beNew
theorem lm_0_58 : fk_ml 0 58 = some (0, 0, qX0_standAt, 1) := fk_ml_of (j := 3) (by decide +kernel) lq_X0_standAt
theorem lm_13_28 : fk_ml 13 28 = some (0, 0, qX11_learns, 3) := fk_ml_of (j := 102) (by decide +kernel) lq_X11_learns
theorem lm_11_135 : fk_ml 11 135 = some (0, 0, qX8_isLiving, 1) := fk_ml_of (j := 76) (by decide +kernel) lq_X8_isLiving
theorem lm_11_143 : fk_ml 11 143 = some (0, 0, qX0_know, 2) := fk_ml_of (j := 5) (by decide +kernel) lq_X0_know
theorem lm_13_32 : fk_ml 13 32 = some (0, 0, qX11_owes, 2) := fk_ml_of (j := 103) (by decide +kernel) lq_X11_owes
theorem lm_13_37 : fk_ml 13 37 = some (0, 0, qX11_feed, 5) := fk_ml_of (j := 104) (by decide +kernel) lq_X11_feed
theorem lm_11_153 : fk_ml 11 153 = some (0, 0, qX10_hasRoomFor, 1) := fk_ml_of (j := 93) (by decide +kernel) lq_X10_hasRoomFor
theorem lm_11_156 : fk_ml 11 156 = some (0, 0, qX10_put, 1) := fk_ml_of (j := 94) (by decide +kernel) lq_X10_put
theorem lm_10_19 : fk_ml 10 19 = some (0, 0, qX10_hasRoomFor, 1) := fk_ml_of (j := 93) (by decide +kernel) lq_X10_hasRoomFor
theorem lm_13_42 : fk_ml 13 42 = some (0, 0, qX11_law, 1) := fk_ml_of (j := 105) (by decide +kernel) lq_X11_law
theorem lm_11_163 : fk_ml 11 163 = some (0, 0, qX4_read, 2) := fk_ml_of (j := 26) (by decide +kernel) lq_X4_read
theorem lm_4_33 : fk_ml 4 33 = some (0, 0, qX3_clear, 0) := fk_ml_of (j := 21) (by decide +kernel) lq_X3_clear
theorem ln_4_38 : fk_ml 4 38 = none := fk_ml_no (by decide +kernel)
theorem lp_4_38 : fk_pl 4 38 = some 8 := by decide +kernel
theorem ln_4_44 : fk_ml 4 44 = none := fk_ml_no (by decide +kernel)
theorem lp_4_44 : fk_pl 4 44 = some 7 := by decide +kernel
theorem lm_4_47 : fk_ml 4 47 = some (0, 0, qX10_byteAt, 1) := fk_ml_of (j := 95) (by decide +kernel) lq_X10_byteAt
theorem lm_10_23 : fk_ml 10 23 = some (1, 2, qX11_within, 2) := fk_ml_of (j := 129) (by decide +kernel) lq_X11_within
theorem lm_4_53 : fk_ml 4 53 = some (0, 0, qX4_clause, 0) := fk_ml_of (j := 30) (by decide +kernel) lq_X4_clause
theorem lm_4_73 : fk_ml 4 73 = some (0, 0, qX4_isOneOf, 1) := fk_ml_of (j := 28) (by decide +kernel) lq_X4_isOneOf
theorem lm_4_63 : fk_ml 4 63 = some (0, 8, qJ0_indexOf_0f7a4, 1) := fk_ml_of (j := 252) (by decide +kernel) lq_J0_indexOf_0f7a4
theorem lm_17_633 : fk_ml 17 633 = some (0, 8, qJ0_indexOf_7cf53, 2) := fk_ml_of (j := 253) (by decide +kernel) lq_J0_indexOf_7cf53
theorem lm_17_492 : fk_ml 17 492 = some (0, 8, qJ0_isLatin1_aae02, 0) := fk_ml_of (j := 255) (by decide +kernel) lq_J0_isLatin1_aae02
theorem lm_17_505 : fk_ml 17 505 = some (0, 8, qJ0_length_8abf5, 0) := fk_ml_of (j := 251) (by decide +kernel) lq_J0_length_8abf5
theorem lm_17_335 : fk_ml 17 335 = some (0, 8, qJ0_coder_7d493, 0) := fk_ml_of (j := 254) (by decide +kernel) lq_J0_coder_7d493
theorem lm_17_637 : fk_ml 17 637 = some (0, 2, qJ1_indexOf_4cfef, 4) := fk_ml_of (j := 257) (by decide +kernel) lq_J1_indexOf_4cfef
theorem lm_18_88 : fk_ml 18 88 = some (0, 2, qJ1_canEncode_9a6ad, 1) := fk_ml_of (j := 256) (by decide +kernel) lq_J1_canEncode_9a6ad
theorem ln_18_92 : fk_ml 18 92 = none := fk_ml_no (by decide +kernel)
theorem lp_18_92 : fk_pl 18 92 = some 7 := by decide +kernel
theorem ln_18_38 : fk_ml 18 38 = none := fk_ml_no (by decide +kernel)
theorem lp_18_38 : fk_pl 18 38 = some 8 := by decide +kernel
theorem lm_18_95 : fk_ml 18 95 = some (0, 2, qJ1_indexOfChar_4cfef, 4) := fk_ml_of (j := 258) (by decide +kernel) lq_J1_indexOfChar_4cfef
theorem lm_4_60 : fk_ml 4 60 = some (1, 2, qX11_faultAt, 2) := fk_ml_of (j := 130) (by decide +kernel) lq_X11_faultAt
theorem lm_4_68 : fk_ml 4 68 = some (0, 0, qX4_advance, 0) := fk_ml_of (j := 27) (by decide +kernel) lq_X4_advance
theorem lm_4_89 : fk_ml 4 89 = some (0, 0, qX3_add, 2) := fk_ml_of (j := 22) (by decide +kernel) lq_X3_add
theorem lm_4_93 : fk_ml 4 93 = some (0, 0, qX4_sum, 1) := fk_ml_of (j := 35) (by decide +kernel) lq_X4_sum
theorem lm_4_122 : fk_ml 4 122 = some (0, 0, qX4_product, 1) := fk_ml_of (j := 36) (by decide +kernel) lq_X4_product
theorem lm_4_125 : fk_ml 4 125 = some (0, 0, qX4_factor, 1) := fk_ml_of (j := 37) (by decide +kernel) lq_X4_factor
theorem lm_4_130 : fk_ml 4 130 = some (0, 0, qX4_number, 0) := fk_ml_of (j := 38) (by decide +kernel) lq_X4_number
theorem lm_4_57 : fk_ml 4 57 = some (0, 0, qX4_sign, 1) := fk_ml_of (j := 29) (by decide +kernel) lq_X4_sign
theorem lm_4_99 : fk_ml 4 99 = some (0, 0, qX4_anyOf, 1) := fk_ml_of (j := 32) (by decide +kernel) lq_X4_anyOf
theorem lm_4_111 : fk_ml 4 111 = some (0, 0, qX4_allOf, 1) := fk_ml_of (j := 33) (by decide +kernel) lq_X4_allOf
theorem lm_4_117 : fk_ml 4 117 = some (0, 0, qX4_piece, 1) := fk_ml_of (j := 34) (by decide +kernel) lq_X4_piece
theorem lm_4_114 : fk_ml 4 114 = some (0, 0, qX4_land, 2) := fk_ml_of (j := 31) (by decide +kernel) lq_X4_land
theorem lm_11_167 : fk_ml 11 167 = some (0, 0, qX10_clear, 0) := fk_ml_of (j := 97) (by decide +kernel) lq_X10_clear
theorem lm_13_47 : fk_ml 13 47 = some (0, 0, qX11_hours, 1) := fk_ml_of (j := 106) (by decide +kernel) lq_X11_hours
theorem lm_11_173 : fk_ml 11 173 = some (0, 0, qX11_canPass, 1) := fk_ml_of (j := 131) (by decide +kernel) lq_X11_canPass
theorem lm_11_176 : fk_ml 11 176 = some (0, 0, qX6_begin, 2) := fk_ml_of (j := 53) (by decide +kernel) lq_X6_begin
theorem lm_11_180 : fk_ml 11 180 = some (0, 0, qX7_remember, 1) := fk_ml_of (j := 68) (by decide +kernel) lq_X7_remember
theorem lm_7_27 : fk_ml 7 27 = some (0, 0, qX8_isAtPlace, 1) := fk_ml_of (j := 77) (by decide +kernel) lq_X8_isAtPlace
theorem lm_11_184 : fk_ml 11 184 = some (0, 0, qX6_goBy, 0) := fk_ml_of (j := 55) (by decide +kernel) lq_X6_goBy
theorem lm_6_40 : fk_ml 6 40 = some (0, 0, qX6_comeNearer, 0) := fk_ml_of (j := 56) (by decide +kernel) lq_X6_comeNearer
theorem lm_6_79 : fk_ml 6 79 = some (0, 0, qX5_isTold, 1) := fk_ml_of (j := 41) (by decide +kernel) lq_X5_isTold
theorem lm_6_91 : fk_ml 6 91 = some (0, 0, qX0_standAt, 1) := fk_ml_of (j := 3) (by decide +kernel) lq_X0_standAt
theorem lm_6_43 : fk_ml 6 43 = some (0, 0, qX6_meetAgain, 0) := fk_ml_of (j := 57) (by decide +kernel) lq_X6_meetAgain
theorem lm_6_104 : fk_ml 6 104 = some (0, 0, qX8_isAtPlace, 1) := fk_ml_of (j := 77) (by decide +kernel) lq_X8_isAtPlace
theorem lm_6_107 : fk_ml 6 107 = some (0, 0, qX0_clash, 1) := fk_ml_of (j := 7) (by decide +kernel) lq_X0_clash
theorem lm_6_111 : fk_ml 6 111 = some (0, 0, qX6_believed, 3) := fk_ml_of (j := 65) (by decide +kernel) lq_X6_believed
theorem lm_6_129 : fk_ml 6 129 = some (0, 0, qX6_speakOf, 1) := fk_ml_of (j := 61) (by decide +kernel) lq_X6_speakOf
theorem ln_6_149 : fk_ml 6 149 = none := fk_ml_no (by decide +kernel)
theorem lp_6_149 : fk_pl 6 149 = some 7 := by decide +kernel
theorem lm_6_192 : fk_ml 6 192 = some (0, 2, qJ6_bitCount_0f7a4, 1) := fk_ml_of (j := 250) (by decide +kernel) lq_J6_bitCount_0f7a4
theorem lm_6_137 : fk_ml 6 137 = some (0, 0, qX3_value, 3) := fk_ml_of (j := 23) (by decide +kernel) lq_X3_value
theorem lm_3_40 : fk_ml 3 40 = some (0, 0, qX3_run, 3) := fk_ml_of (j := 24) (by decide +kernel) lq_X3_run
theorem ln_3_44 : fk_ml 3 44 = none := fk_ml_no (by decide +kernel)
theorem lp_3_44 : fk_pl 3 44 = some 8 := by decide +kernel
theorem ln_3_50 : fk_ml 3 50 = none := fk_ml_no (by decide +kernel)
theorem lp_3_50 : fk_pl 3 50 = some 7 := by decide +kernel
theorem lm_6_115 : fk_ml 6 115 = some (0, 0, qX8_merge, 3) := fk_ml_of (j := 81) (by decide +kernel) lq_X8_merge
theorem lm_8_93 : fk_ml 8 93 = some (0, 0, qX0_takeIn, 2) := fk_ml_of (j := 8) (by decide +kernel) lq_X0_takeIn
theorem ln_0_63 : fk_ml 0 63 = none := fk_ml_no (by decide +kernel)
theorem lp_0_63 : fk_pl 0 63 = some 8 := by decide +kernel
theorem ln_0_69 : fk_ml 0 69 = none := fk_ml_no (by decide +kernel)
theorem lp_0_69 : fk_pl 0 69 = some 7 := by decide +kernel
theorem lm_8_97 : fk_ml 8 97 = some (0, 2, qJ6_bitCount_0f7a4, 1) := fk_ml_of (j := 250) (by decide +kernel) lq_J6_bitCount_0f7a4
theorem lm_6_46 : fk_ml 6 46 = some (0, 0, qX6_arrive, 0) := fk_ml_of (j := 58) (by decide +kernel) lq_X6_arrive
theorem lm_6_125 : fk_ml 6 125 = some (0, 0, qX0_know, 2) := fk_ml_of (j := 5) (by decide +kernel) lq_X0_know
theorem ln_6_143 : fk_ml 6 143 = none := fk_ml_no (by decide +kernel)
theorem lp_6_143 : fk_pl 6 143 = some 8 := by decide +kernel
theorem lm_6_49 : fk_ml 6 49 = some (0, 0, qX6_die, 0) := fk_ml_of (j := 59) (by decide +kernel) lq_X6_die
theorem lm_6_152 : fk_ml 6 152 = some (0, 0, qX8_draw, 0) := fk_ml_of (j := 83) (by decide +kernel) lq_X8_draw
theorem lm_6_156 : fk_ml 6 156 = some (0, 0, qX8_bury, 1) := fk_ml_of (j := 82) (by decide +kernel) lq_X8_bury
theorem ln_8_106 : fk_ml 8 106 = none := fk_ml_no (by decide +kernel)
theorem lp_8_106 : fk_pl 8 106 = some 8 := by decide +kernel
theorem lm_6_52 : fk_ml 6 52 = some (0, 0, qX6_setOut, 0) := fk_ml_of (j := 60) (by decide +kernel) lq_X6_setOut
theorem lm_6_162 : fk_ml 6 162 = some (0, 0, qX6_gladness, 2) := fk_ml_of (j := 62) (by decide +kernel) lq_X6_gladness
theorem lm_6_169 : fk_ml 6 169 = some (0, 0, qX6_doubt, 1) := fk_ml_of (j := 64) (by decide +kernel) lq_X6_doubt
theorem lm_6_175 : fk_ml 6 175 = some (0, 0, qX8_part, 3) := fk_ml_of (j := 80) (by decide +kernel) lq_X8_part
theorem lm_8_46 : fk_ml 8 46 = some (0, 0, qX0_copyFrom, 1) := fk_ml_of (j := 1) (by decide +kernel) lq_X0_copyFrom
theorem lm_8_86 : fk_ml 8 86 = some (0, 0, qX0_goOn, 2) := fk_ml_of (j := 4) (by decide +kernel) lq_X0_goOn
theorem lm_6_179 : fk_ml 6 179 = some (0, 0, qX0_goOn, 2) := fk_ml_of (j := 4) (by decide +kernel) lq_X0_goOn
theorem lm_11_187 : fk_ml 11 187 = some (0, 0, qX8_livingInAll, 0) := fk_ml_of (j := 78) (by decide +kernel) lq_X8_livingInAll
theorem lm_13_51 : fk_ml 13 51 = some (0, 0, qX11_tried, 2) := fk_ml_of (j := 107) (by decide +kernel) lq_X11_tried
theorem lm_11_191 : fk_ml 11 191 = some (0, 2, qX11_isTriable, 1) := fk_ml_of (j := 132) (by decide +kernel) lq_X11_isTriable
theorem lm_11_194 : fk_ml 11 194 = some (0, 0, qX8_copyFrom, 1) := fk_ml_of (j := 73) (by decide +kernel) lq_X8_copyFrom
theorem ln_8_50 : fk_ml 8 50 = none := fk_ml_no (by decide +kernel)
theorem lp_8_50 : fk_pl 8 50 = some 9 := by decide +kernel
theorem lm_11_197 : fk_ml 11 197 = some (0, 0, qX8_clearTallies, 0) := fk_ml_of (j := 74) (by decide +kernel) lq_X8_clearTallies
theorem lm_11_212 : fk_ml 11 212 = some (0, 0, qX8_together, 2) := fk_ml_of (j := 85) (by decide +kernel) lq_X8_together
theorem lm_13_55 : fk_ml 13 55 = some (0, 0, qX11_half, 2) := fk_ml_of (j := 108) (by decide +kernel) lq_X11_half
theorem lm_11_215 : fk_ml 11 215 = some (0, 0, qX8_hasBeen, 1) := fk_ml_of (j := 75) (by decide +kernel) lq_X8_hasBeen
theorem lm_11_248 : fk_ml 11 248 = some (0, 0, qX0_knows, 1) := fk_ml_of (j := 6) (by decide +kernel) lq_X0_knows
theorem lm_13_59 : fk_ml 13 59 = some (0, 0, qX11_gladly, 2) := fk_ml_of (j := 109) (by decide +kernel) lq_X11_gladly
theorem lm_11_252 : fk_ml 11 252 = some (0, 0, qX8_isAtPlace, 1) := fk_ml_of (j := 77) (by decide +kernel) lq_X8_isAtPlace
theorem lm_11_255 : fk_ml 11 255 = some (0, 0, qX5_isTold, 1) := fk_ml_of (j := 41) (by decide +kernel) lq_X5_isTold
theorem lm_11_261 : fk_ml 11 261 = some (0, 0, qX6_gladness, 2) := fk_ml_of (j := 62) (by decide +kernel) lq_X6_gladness
theorem lm_13_63 : fk_ml 13 63 = some (0, 0, qX11_halves, 2) := fk_ml_of (j := 110) (by decide +kernel) lq_X11_halves
theorem lm_13_67 : fk_ml 13 67 = some (0, 0, qX11_was, 2) := fk_ml_of (j := 111) (by decide +kernel) lq_X11_was
theorem lm_11_265 : fk_ml 11 265 = some (0, 0, qX7_whereWas, 3) := fk_ml_of (j := 70) (by decide +kernel) lq_X7_whereWas
theorem lm_7_40 : fk_ml 7 40 = some (0, 0, qX7_isRemembered, 2) := fk_ml_of (j := 69) (by decide +kernel) lq_X7_isRemembered
theorem lm_7_44 : fk_ml 7 44 = some (0, 0, qX7_isBeforeIt, 3) := fk_ml_of (j := 71) (by decide +kernel) lq_X7_isBeforeIt
theorem lm_7_55 : fk_ml 7 55 = some (0, 0, qX8_hasBeen, 1) := fk_ml_of (j := 75) (by decide +kernel) lq_X8_hasBeen
theorem lm_7_51 : fk_ml 7 51 = some (1, 2, qX11_within, 2) := fk_ml_of (j := 129) (by decide +kernel) lq_X11_within
theorem lm_13_71 : fk_ml 13 71 = some (0, 0, qX11_byForks, 2) := fk_ml_of (j := 112) (by decide +kernel) lq_X11_byForks
theorem lm_11_271 : fk_ml 11 271 = some (0, 0, qX5_forked, 2) := fk_ml_of (j := 50) (by decide +kernel) lq_X5_forked
theorem lm_5_73 : fk_ml 5 73 = some (0, 0, qX5_forkedOnce, 2) := fk_ml_of (j := 51) (by decide +kernel) lq_X5_forkedOnce
theorem lm_13_76 : fk_ml 13 76 = some (0, 0, qX11_plan, 4) := fk_ml_of (j := 113) (by decide +kernel) lq_X11_plan
theorem lm_11_276 : fk_ml 11 276 = some (0, 0, qX8_onlyOneOf, 1) := fk_ml_of (j := 84) (by decide +kernel) lq_X8_onlyOneOf
theorem lm_11_279 : fk_ml 11 279 = some (0, 0, qX9_seek, 5) := fk_ml_of (j := 90) (by decide +kernel) lq_X9_seek
theorem lm_9_47 : fk_ml 9 47 = some (0, 0, qX5_reach, 2) := fk_ml_of (j := 45) (by decide +kernel) lq_X5_reach
theorem lm_9_53 : fk_ml 9 53 = some (0, 0, qX5_forkPlaces, 0) := fk_ml_of (j := 49) (by decide +kernel) lq_X5_forkPlaces
theorem lm_5_65 : fk_ml 5 65 = some (0, 2, qJ6_bitCount_0f7a4, 1) := fk_ml_of (j := 250) (by decide +kernel) lq_J6_bitCount_0f7a4
theorem lm_9_57 : fk_ml 9 57 = some (0, 0, qX8_copyFrom, 1) := fk_ml_of (j := 73) (by decide +kernel) lq_X8_copyFrom
theorem lm_9_61 : fk_ml 9 61 = some (0, 0, qX6_begin, 2) := fk_ml_of (j := 53) (by decide +kernel) lq_X6_begin
theorem lm_9_70 : fk_ml 9 70 = some (0, 0, qX6_beginPlan, 2) := fk_ml_of (j := 54) (by decide +kernel) lq_X6_beginPlan
theorem lm_9_74 : fk_ml 9 74 = some (0, 0, qX9_attempt, 3) := fk_ml_of (j := 91) (by decide +kernel) lq_X9_attempt
theorem lm_9_81 : fk_ml 9 81 = some (0, 0, qX6_goBy, 0) := fk_ml_of (j := 55) (by decide +kernel) lq_X6_goBy
theorem ln_9_88 : fk_ml 9 88 = none := fk_ml_no (by decide +kernel)
theorem lp_9_88 : fk_pl 9 88 = some 7 := by decide +kernel
theorem lm_13_81 : fk_ml 13 81 = some (0, 0, qX11_joined, 2) := fk_ml_of (j := 114) (by decide +kernel) lq_X11_joined
theorem lm_11_292 : fk_ml 11 292 = some (0, 0, qX2_take, 3) := fk_ml_of (j := 15) (by decide +kernel) lq_X2_take
theorem lm_2_25 : fk_ml 2 25 = some (0, 0, qX10_byteAt, 1) := fk_ml_of (j := 95) (by decide +kernel) lq_X10_byteAt
theorem lm_2_31 : fk_ml 2 31 = some (0, 0, qX8_isLiving, 1) := fk_ml_of (j := 76) (by decide +kernel) lq_X8_isLiving
theorem lm_11_296 : fk_ml 11 296 = some (0, 0, qX2_seek, 2) := fk_ml_of (j := 16) (by decide +kernel) lq_X2_seek
theorem lm_2_46 : fk_ml 2 46 = some (0, 0, qX2_factsOf, 2) := fk_ml_of (j := 17) (by decide +kernel) lq_X2_factsOf
theorem ln_2_69 : fk_ml 2 69 = none := fk_ml_no (by decide +kernel)
theorem lp_2_69 : fk_pl 2 69 = some 8 := by decide +kernel
theorem ln_2_75 : fk_ml 2 75 = none := fk_ml_no (by decide +kernel)
theorem lp_2_75 : fk_pl 2 75 = some 7 := by decide +kernel
theorem lm_2_78 : fk_ml 2 78 = some (0, 0, qX6_believed, 3) := fk_ml_of (j := 65) (by decide +kernel) lq_X6_believed
theorem lm_2_84 : fk_ml 2 84 = some (0, 2, qJ6_bitCount_0f7a4, 1) := fk_ml_of (j := 250) (by decide +kernel) lq_J6_bitCount_0f7a4
theorem ln_2_50 : fk_ml 2 50 = none := fk_ml_no (by decide +kernel)
theorem lp_2_50 : fk_pl 2 50 = some 9 := by decide +kernel
theorem lm_2_56 : fk_ml 2 56 = some (0, 0, qX2_goOn, 0) := fk_ml_of (j := 18) (by decide +kernel) lq_X2_goOn
theorem lm_2_89 : fk_ml 2 89 = some (0, 0, qX2_swap, 2) := fk_ml_of (j := 19) (by decide +kernel) lq_X2_swap
theorem lm_13_85 : fk_ml 13 85 = some (0, 0, qX11_chosen, 3) := fk_ml_of (j := 115) (by decide +kernel) lq_X11_chosen
theorem lm_11_303 : fk_ml 11 303 = some (0, 0, qX6_fillGladness, 2) := fk_ml_of (j := 63) (by decide +kernel) lq_X6_fillGladness
theorem lm_11_307 : fk_ml 11 307 = some (0, 0, qX11_isSettled, 2) := fk_ml_of (j := 133) (by decide +kernel) lq_X11_isSettled
theorem lm_13_90 : fk_ml 13 90 = some (0, 0, qX11_whoWas, 2) := fk_ml_of (j := 116) (by decide +kernel) lq_X11_whoWas
theorem lm_11_310 : fk_ml 11 310 = some (0, 0, qX11_seenPlace, 1) := fk_ml_of (j := 135) (by decide +kernel) lq_X11_seenPlace
theorem lm_11_389 : fk_ml 11 389 = some (0, 0, qX10_byteAt, 1) := fk_ml_of (j := 95) (by decide +kernel) lq_X10_byteAt
theorem lm_11_313 : fk_ml 11 313 = some (0, 0, qX11_seenHour, 1) := fk_ml_of (j := 134) (by decide +kernel) lq_X11_seenHour
theorem lm_11_316 : fk_ml 11 316 = some (0, 0, qX7_isRemembered, 2) := fk_ml_of (j := 69) (by decide +kernel) lq_X7_isRemembered
theorem lm_11_320 : fk_ml 11 320 = some (0, 0, qX11_wasSeen, 2) := fk_ml_of (j := 136) (by decide +kernel) lq_X11_wasSeen
theorem lm_13_94 : fk_ml 13 94 = some (0, 0, qX11_meet, 1) := fk_ml_of (j := 117) (by decide +kernel) lq_X11_meet
theorem lm_11_324 : fk_ml 11 324 = some (0, 0, qX5_goalOf, 1) := fk_ml_of (j := 44) (by decide +kernel) lq_X5_goalOf
theorem lm_11_328 : fk_ml 11 328 = some (0, 0, qX5_reach, 2) := fk_ml_of (j := 45) (by decide +kernel) lq_X5_reach
theorem lm_13_98 : fk_ml 13 98 = some (0, 0, qX11_built, 1) := fk_ml_of (j := 118) (by decide +kernel) lq_X11_built
theorem lm_11_331 : fk_ml 11 331 = some (0, 0, qX5_groupOf, 1) := fk_ml_of (j := 46) (by decide +kernel) lq_X5_groupOf
theorem lm_5_57 : fk_ml 5 57 = some (0, 0, qX5_reach, 2) := fk_ml_of (j := 45) (by decide +kernel) lq_X5_reach
theorem ln_11_334 : fk_ml 11 334 = none := fk_ml_no (by decide +kernel)
theorem lp_11_334 : fk_pl 11 334 = some 7 := by decide +kernel
theorem lm_13_102 : fk_ml 13 102 = some (0, 0, qX11_closed, 3) := fk_ml_of (j := 119) (by decide +kernel) lq_X11_closed
theorem lm_11_339 : fk_ml 11 339 = some (0, 0, qX5_fewestClosed, 2) := fk_ml_of (j := 47) (by decide +kernel) lq_X5_fewestClosed
theorem lm_5_61 : fk_ml 5 61 = some (0, 0, qX5_onTheWay, 2) := fk_ml_of (j := 48) (by decide +kernel) lq_X5_onTheWay
theorem lm_11_342 : fk_ml 11 342 = some (0, 2, qJ6_bitCount_0f7a4, 1) := fk_ml_of (j := 250) (by decide +kernel) lq_J6_bitCount_0f7a4
theorem lm_13_106 : fk_ml 13 106 = some (0, 0, qX11_history, 2) := fk_ml_of (j := 120) (by decide +kernel) lq_X11_history
theorem lm_11_347 : fk_ml 11 347 = some (0, 0, qX1_read, 1) := fk_ml_of (j := 10) (by decide +kernel) lq_X1_read
theorem lm_1_32 : fk_ml 1 32 = some (0, 0, qX1_step, 0) := fk_ml_of (j := 11) (by decide +kernel) lq_X1_step
theorem lm_1_43 : fk_ml 1 43 = some (0, 0, qX1_digits, 1) := fk_ml_of (j := 13) (by decide +kernel) lq_X1_digits
theorem lm_1_36 : fk_ml 1 36 = some (0, 0, qX1_peek, 0) := fk_ml_of (j := 12) (by decide +kernel) lq_X1_peek
theorem lm_1_47 : fk_ml 1 47 = some (0, 0, qX10_byteAt, 1) := fk_ml_of (j := 95) (by decide +kernel) lq_X10_byteAt
theorem ln_1_52 : fk_ml 1 52 = none := fk_ml_no (by decide +kernel)
theorem lp_1_52 : fk_pl 1 52 = some 7 := by decide +kernel
theorem lm_1_39 : fk_ml 1 39 = some (1, 2, qX11_faultAt, 2) := fk_ml_of (j := 130) (by decide +kernel) lq_X11_faultAt
theorem lm_11_357 : fk_ml 11 357 = some (0, 0, qX11_isSo, 3) := fk_ml_of (j := 137) (by decide +kernel) lq_X11_isSo
theorem lm_13_110 : fk_ml 13 110 = some (0, 0, qX11_kin, 3) := fk_ml_of (j := 121) (by decide +kernel) lq_X11_kin
theorem lm_11_361 : fk_ml 11 361 = some (0, 0, qX8_nearestInCommon, 2) := fk_ml_of (j := 88) (by decide +kernel) lq_X8_nearestInCommon
theorem lm_8_122 : fk_ml 8 122 = some (0, 0, qX8_hasBeen, 1) := fk_ml_of (j := 75) (by decide +kernel) lq_X8_hasBeen
theorem lm_13_114 : fk_ml 13 114 = some (0, 0, qX11_bread, 2) := fk_ml_of (j := 122) (by decide +kernel) lq_X11_bread
theorem lm_11_364 : fk_ml 11 364 = some (0, 0, qX8_shareOf, 2) := fk_ml_of (j := 87) (by decide +kernel) lq_X8_shareOf
theorem lm_8_119 : fk_ml 8 119 = some (0, 0, qX8_together, 2) := fk_ml_of (j := 85) (by decide +kernel) lq_X8_together
theorem lm_13_118 : fk_ml 13 118 = some (0, 0, qX11_vote, 3) := fk_ml_of (j := 123) (by decide +kernel) lq_X11_vote
theorem lm_11_367 : fk_ml 11 367 = some (0, 0, qX8_weightOf, 3) := fk_ml_of (j := 86) (by decide +kernel) lq_X8_weightOf
theorem lm_8_116 : fk_ml 8 116 = some (0, 0, qX0_knows, 1) := fk_ml_of (j := 6) (by decide +kernel) lq_X0_knows
theorem lm_13_122 : fk_ml 13 122 = some (0, 0, qX11_seed, 1) := fk_ml_of (j := 124) (by decide +kernel) lq_X11_seed
theorem lm_13_127 : fk_ml 13 127 = some (0, 0, qX11_keep, 0) := fk_ml_of (j := 125) (by decide +kernel) lq_X11_keep
theorem lm_11_374 : fk_ml 11 374 = some (0, 0, qX7_copyFrom, 1) := fk_ml_of (j := 67) (by decide +kernel) lq_X7_copyFrom
theorem ln_7_15 : fk_ml 7 15 = none := fk_ml_no (by decide +kernel)
theorem lp_7_15 : fk_pl 7 15 = some 9 := by decide +kernel
theorem lm_13_132 : fk_ml 13 132 = some (0, 0, qX11_undo, 0) := fk_ml_of (j := 126) (by decide +kernel) lq_X11_undo
theorem lm_13_137 : fk_ml 13 137 = some (0, 0, qX11_check, 1) := fk_ml_of (j := 127) (by decide +kernel) lq_X11_check
theorem lm_11_377 : fk_ml 11 377 = some (0, 0, qX10_numberAt, 1) := fk_ml_of (j := 96) (by decide +kernel) lq_X10_numberAt
theorem lm_10_27 : fk_ml 10 27 = some (0, 0, qX10_byteAt, 1) := fk_ml_of (j := 95) (by decide +kernel) lq_X10_byteAt
theorem lm_13_141 : fk_ml 13 141 = some (0, 0, qX11_count, 1) := fk_ml_of (j := 128) (by decide +kernel) lq_X11_count
theorem lm_11_383 : fk_ml 11 383 = some (0, 0, qX5_toldRoads, 0) := fk_ml_of (j := 42) (by decide +kernel) lq_X5_toldRoads
theorem lm_11_386 : fk_ml 11 386 = some (0, 0, qX5_tell, 1) := fk_ml_of (j := 43) (by decide +kernel) lq_X5_tell
theorem lm_13_12 : fk_ml 13 12 = some (0, 4, qX12_init, 0) := fk_ml_of (j := 138) (by decide +kernel) lq_X12_init
theorem ln_12_1 : fk_ml 12 1 = none := fk_ml_no (by decide +kernel)
theorem lp_12_1 : fk_pl 12 1 = some 6 := by decide +kernel
theorem lm_13_17 : fk_ml 13 17 = some (0, 0, qX12_road, 4) := fk_ml_of (j := 151) (by decide +kernel) lq_X12_road
theorem lm_12_112 : fk_ml 12 112 = some (0, 2, qX12_in, 3) := fk_ml_of (j := 139) (by decide +kernel) lq_X12_in
theorem lm_12_116 : fk_ml 12 116 = some (0, 2, qX12_isPlace, 1) := fk_ml_of (j := 147) (by decide +kernel) lq_X12_isPlace
theorem lm_13_22 : fk_ml 13 22 = some (0, 0, qX12_notice, 3) := fk_ml_of (j := 152) (by decide +kernel) lq_X12_notice
theorem lm_12_120 : fk_ml 12 120 = some (0, 2, qX12_isFact, 1) := fk_ml_of (j := 150) (by decide +kernel) lq_X12_isFact
theorem lm_13_27 : fk_ml 13 27 = some (0, 0, qX12_comes, 2) := fk_ml_of (j := 160) (by decide +kernel) lq_X12_comes
theorem lm_12_132 : fk_ml 12 132 = some (0, 2, qX12_isOne, 1) := fk_ml_of (j := 149) (by decide +kernel) lq_X12_isOne
theorem lm_12_135 : fk_ml 12 135 = some (0, 0, qX12_livingOf, 1) := fk_ml_of (j := 157) (by decide +kernel) lq_X12_livingOf
theorem lm_12_126 : fk_ml 12 126 = some (0, 0, qX12_lives, 1) := fk_ml_of (j := 153) (by decide +kernel) lq_X12_lives
theorem lm_12_139 : fk_ml 12 139 = some (0, 0, qX12_begin, 3) := fk_ml_of (j := 159) (by decide +kernel) lq_X12_begin
theorem lm_13_31 : fk_ml 13 31 = some (0, 0, qX12_learns, 3) := fk_ml_of (j := 162) (by decide +kernel) lq_X12_learns
theorem lm_12_129 : fk_ml 12 129 = some (0, 0, qX12_isLiving, 1) := fk_ml_of (j := 155) (by decide +kernel) lq_X12_isLiving
theorem lm_12_123 : fk_ml 12 123 = some (0, 0, qX12_isHalf, 1) := fk_ml_of (j := 154) (by decide +kernel) lq_X12_isHalf
theorem lm_12_143 : fk_ml 12 143 = some (0, 0, qX12_knows, 3) := fk_ml_of (j := 161) (by decide +kernel) lq_X12_knows
theorem lm_13_36 : fk_ml 13 36 = some (0, 0, qX12_owes, 2) := fk_ml_of (j := 163) (by decide +kernel) lq_X12_owes
theorem lm_13_41 : fk_ml 13 41 = some (0, 0, qX12_feed, 5) := fk_ml_of (j := 165) (by decide +kernel) lq_X12_feed
theorem lm_12_151 : fk_ml 12 151 = some (0, 0, qX12_types, 1) := fk_ml_of (j := 164) (by decide +kernel) lq_X12_types
theorem lm_13_46 : fk_ml 13 46 = some (0, 0, qX12_law, 1) := fk_ml_of (j := 187) (by decide +kernel) lq_X12_law
theorem lm_12_241 : fk_ml 12 241 = some (0, 0, qX12_readsClause, 0) := fk_ml_of (j := 186) (by decide +kernel) lq_X12_readsClause
theorem lm_12_161 : fk_ml 12 161 = some (0, 0, qX12_here, 0) := fk_ml_of (j := 166) (by decide +kernel) lq_X12_here
theorem lm_12_232 : fk_ml 12 232 = some (0, 2, qX12_isClause, 1) := fk_ml_of (j := 185) (by decide +kernel) lq_X12_isClause
theorem lm_12_168 : fk_ml 12 168 = some (0, 0, qX12_wrongAt, 2) := fk_ml_of (j := 168) (by decide +kernel) lq_X12_wrongAt
theorem lm_12_217 : fk_ml 12 217 = some (0, 0, qX12_readsSum, 0) := fk_ml_of (j := 179) (by decide +kernel) lq_X12_readsSum
theorem lm_12_204 : fk_ml 12 204 = some (0, 0, qX12_readsFactor, 0) := fk_ml_of (j := 177) (by decide +kernel) lq_X12_readsFactor
theorem lm_12_195 : fk_ml 12 195 = some (0, 0, qX12_opens, 1) := fk_ml_of (j := 172) (by decide +kernel) lq_X12_opens
theorem lm_12_174 : fk_ml 12 174 = some (0, 0, qX12_isDigit, 0) := fk_ml_of (j := 167) (by decide +kernel) lq_X12_isDigit
theorem lm_12_198 : fk_ml 12 198 = some (0, 0, qX12_readsNumber, 0) := fk_ml_of (j := 170) (by decide +kernel) lq_X12_readsNumber
theorem lm_12_191 : fk_ml 12 191 = some (0, 0, qX12_notes, 2) := fk_ml_of (j := 171) (by decide +kernel) lq_X12_notes
theorem lm_12_201 : fk_ml 12 201 = some (0, 2, qX12_factOf, 1) := fk_ml_of (j := 174) (by decide +kernel) lq_X12_factOf
theorem lm_12_207 : fk_ml 12 207 = some (0, 2, qX12_sumSign, 1) := fk_ml_of (j := 175) (by decide +kernel) lq_X12_sumSign
theorem lm_12_210 : fk_ml 12 210 = some (0, 0, qX12_closesSums, 1) := fk_ml_of (j := 176) (by decide +kernel) lq_X12_closesSums
theorem lm_12_188 : fk_ml 12 188 = some (0, 0, qX12_waitTop, 0) := fk_ml_of (j := 173) (by decide +kernel) lq_X12_waitTop
theorem lm_12_214 : fk_ml 12 214 = some (0, 0, qX12_hasOpenSum, 1) := fk_ml_of (j := 178) (by decide +kernel) lq_X12_hasOpenSum
theorem lm_12_238 : fk_ml 12 238 = some (0, 0, qX12_readsCondition, 0) := fk_ml_of (j := 184) (by decide +kernel) lq_X12_readsCondition
theorem lm_12_223 : fk_ml 12 223 = some (0, 0, qX12_readsCompared, 0) := fk_ml_of (j := 183) (by decide +kernel) lq_X12_readsCompared
theorem lm_12_220 : fk_ml 12 220 = some (0, 0, qX12_endsPiece, 0) := fk_ml_of (j := 180) (by decide +kernel) lq_X12_endsPiece
theorem lm_12_226 : fk_ml 12 226 = some (0, 0, qX12_lands, 1) := fk_ml_of (j := 181) (by decide +kernel) lq_X12_lands
theorem lm_12_229 : fk_ml 12 229 = some (0, 0, qX12_jumps, 1) := fk_ml_of (j := 182) (by decide +kernel) lq_X12_jumps
theorem lm_12_244 : fk_ml 12 244 = some (0, 0, qX12_takes, 1) := fk_ml_of (j := 169) (by decide +kernel) lq_X12_takes
theorem lm_13_50 : fk_ml 13 50 = some (0, 0, qX12_hours, 1) := fk_ml_of (j := 204) (by decide +kernel) lq_X12_hours
theorem lm_12_322 : fk_ml 12 322 = some (0, 0, qX12_hourGoes, 0) := fk_ml_of (j := 203) (by decide +kernel) lq_X12_hourGoes
theorem lm_12_304 : fk_ml 12 304 = some (0, 0, qX12_remembers, 0) := fk_ml_of (j := 194) (by decide +kernel) lq_X12_remembers
theorem lm_12_269 : fk_ml 12 269 = some (0, 0, qX12_isAt, 1) := fk_ml_of (j := 156) (by decide +kernel) lq_X12_isAt
theorem lm_12_307 : fk_ml 12 307 = some (0, 0, qX12_goesOn, 1) := fk_ml_of (j := 195) (by decide +kernel) lq_X12_goesOn
theorem lm_12_310 : fk_ml 12 310 = some (0, 0, qX12_merges, 2) := fk_ml_of (j := 196) (by decide +kernel) lq_X12_merges
theorem lm_12_263 : fk_ml 12 263 = some (0, 0, qX12_feels, 1) := fk_ml_of (j := 192) (by decide +kernel) lq_X12_feels
theorem lm_12_257 : fk_ml 12 257 = some (0, 2, qX12_max, 2) := fk_ml_of (j := 141) (by decide +kernel) lq_X12_max
theorem lm_12_260 : fk_ml 12 260 = some (0, 2, qX12_bits, 1) := fk_ml_of (j := 143) (by decide +kernel) lq_X12_bits
theorem lm_12_108 : fk_ml 12 108 = some (0, 2, qX12_has, 2) := fk_ml_of (j := 142) (by decide +kernel) lq_X12_has
theorem lm_12_275 : fk_ml 12 275 = some (0, 0, qX12_isElder, 0) := fk_ml_of (j := 191) (by decide +kernel) lq_X12_isElder
theorem lm_12_253 : fk_ml 12 253 = some (0, 0, qX12_comesTo, 2) := fk_ml_of (j := 189) (by decide +kernel) lq_X12_comesTo
theorem lm_12_250 : fk_ml 12 250 = some (0, 2, qX12_reckon, 3) := fk_ml_of (j := 188) (by decide +kernel) lq_X12_reckon
theorem lm_12_278 : fk_ml 12 278 = some (0, 2, qX12_min, 2) := fk_ml_of (j := 140) (by decide +kernel) lq_X12_min
theorem lm_12_313 : fk_ml 12 313 = some (0, 0, qX12_arrives, 1) := fk_ml_of (j := 197) (by decide +kernel) lq_X12_arrives
theorem lm_12_266 : fk_ml 12 266 = some (0, 0, qX12_byLaw, 2) := fk_ml_of (j := 190) (by decide +kernel) lq_X12_byLaw
theorem lm_12_316 : fk_ml 12 316 = some (0, 0, qX12_mayDie, 1) := fk_ml_of (j := 198) (by decide +kernel) lq_X12_mayDie
theorem lm_12_319 : fk_ml 12 319 = some (0, 0, qX12_leaves, 1) := fk_ml_of (j := 202) (by decide +kernel) lq_X12_leaves
theorem lm_12_295 : fk_ml 12 295 = some (0, 0, qX12_bestRoad, 2) := fk_ml_of (j := 200) (by decide +kernel) lq_X12_bestRoad
theorem lm_12_289 : fk_ml 12 289 = some (0, 0, qX12_isRoad, 1) := fk_ml_of (j := 148) (by decide +kernel) lq_X12_isRoad
theorem lm_12_292 : fk_ml 12 292 = some (0, 0, qX12_gladlyFor, 2) := fk_ml_of (j := 193) (by decide +kernel) lq_X12_gladlyFor
theorem lm_12_298 : fk_ml 12 298 = some (0, 0, qX12_doubtOf, 1) := fk_ml_of (j := 199) (by decide +kernel) lq_X12_doubtOf
theorem lm_12_301 : fk_ml 12 301 = some (0, 0, qX12_sets, 2) := fk_ml_of (j := 201) (by decide +kernel) lq_X12_sets
theorem lm_12_325 : fk_ml 12 325 = some (0, 0, qX12_living, 0) := fk_ml_of (j := 158) (by decide +kernel) lq_X12_living
theorem lm_13_54 : fk_ml 13 54 = some (0, 0, qX12_tried, 2) := fk_ml_of (j := 207) (by decide +kernel) lq_X12_tried
theorem lm_12_331 : fk_ml 12 331 = some (0, 0, qX12_begins, 0) := fk_ml_of (j := 145) (by decide +kernel) lq_X12_begins
theorem lm_12_101 : fk_ml 12 101 = some (0, 2, qX12_copies, 2) := fk_ml_of (j := 144) (by decide +kernel) lq_X12_copies
theorem lm_12_334 : fk_ml 12 334 = some (0, 0, qX12_triedBy, 1) := fk_ml_of (j := 206) (by decide +kernel) lq_X12_triedBy
theorem lm_12_328 : fk_ml 12 328 = some (0, 0, qX12_sumFor, 2) := fk_ml_of (j := 205) (by decide +kernel) lq_X12_sumFor
theorem lm_12_337 : fk_ml 12 337 = some (0, 0, qX12_again, 0) := fk_ml_of (j := 146) (by decide +kernel) lq_X12_again
theorem lm_13_58 : fk_ml 13 58 = some (0, 0, qX12_half, 2) := fk_ml_of (j := 208) (by decide +kernel) lq_X12_half
theorem lm_13_62 : fk_ml 13 62 = some (0, 0, qX12_gladly, 2) := fk_ml_of (j := 209) (by decide +kernel) lq_X12_gladly
theorem lm_13_66 : fk_ml 13 66 = some (0, 0, qX12_halves, 2) := fk_ml_of (j := 210) (by decide +kernel) lq_X12_halves
theorem lm_13_70 : fk_ml 13 70 = some (0, 0, qX12_was, 2) := fk_ml_of (j := 213) (by decide +kernel) lq_X12_was
theorem lm_12_340 : fk_ml 12 340 = some (0, 0, qX12_isRemembered, 1) := fk_ml_of (j := 211) (by decide +kernel) lq_X12_isRemembered
theorem lm_12_343 : fk_ml 12 343 = some (0, 0, qX12_wasAt, 2) := fk_ml_of (j := 212) (by decide +kernel) lq_X12_wasAt
theorem lm_13_75 : fk_ml 13 75 = some (0, 0, qX12_byForks, 2) := fk_ml_of (j := 214) (by decide +kernel) lq_X12_byForks
theorem lm_13_80 : fk_ml 13 80 = some (0, 0, qX12_plan, 4) := fk_ml_of (j := 218) (by decide +kernel) lq_X12_plan
theorem lm_12_348 : fk_ml 12 348 = some (0, 0, qX12_aliveOf, 1) := fk_ml_of (j := 216) (by decide +kernel) lq_X12_aliveOf
theorem lm_12_361 : fk_ml 12 361 = some (0, 0, qX12_forksOf, 0) := fk_ml_of (j := 215) (by decide +kernel) lq_X12_forksOf
theorem lm_12_365 : fk_ml 12 365 = some (0, 0, qX12_triesPlan, 3) := fk_ml_of (j := 217) (by decide +kernel) lq_X12_triesPlan
theorem lm_13_84 : fk_ml 13 84 = some (0, 0, qX12_joined, 2) := fk_ml_of (j := 222) (by decide +kernel) lq_X12_joined
theorem lm_12_372 : fk_ml 12 372 = some (0, 0, qX12_takesHalves, 1) := fk_ml_of (j := 219) (by decide +kernel) lq_X12_takesHalves
theorem lm_12_375 : fk_ml 12 375 = some (0, 0, qX12_readsJoins, 1) := fk_ml_of (j := 220) (by decide +kernel) lq_X12_readsJoins
theorem lm_12_378 : fk_ml 12 378 = some (0, 0, qX12_knownBy, 0) := fk_ml_of (j := 221) (by decide +kernel) lq_X12_knownBy
theorem lm_13_89 : fk_ml 13 89 = some (0, 0, qX12_chosen, 3) := fk_ml_of (j := 226) (by decide +kernel) lq_X12_chosen
theorem lm_12_381 : fk_ml 12 381 = some (0, 0, qX12_isGlad, 2) := fk_ml_of (j := 224) (by decide +kernel) lq_X12_isGlad
theorem lm_12_387 : fk_ml 12 387 = some (0, 0, qX12_rests, 4) := fk_ml_of (j := 225) (by decide +kernel) lq_X12_rests
theorem lm_12_384 : fk_ml 12 384 = some (0, 0, qX12_gainOf, 3) := fk_ml_of (j := 223) (by decide +kernel) lq_X12_gainOf
theorem lm_13_93 : fk_ml 13 93 = some (0, 0, qX12_whoWas, 2) := fk_ml_of (j := 229) (by decide +kernel) lq_X12_whoWas
theorem lm_12_391 : fk_ml 12 391 = some (0, 0, qX12_hourAt, 1) := fk_ml_of (j := 227) (by decide +kernel) lq_X12_hourAt
theorem lm_12_394 : fk_ml 12 394 = some (0, 0, qX12_wasThere, 2) := fk_ml_of (j := 228) (by decide +kernel) lq_X12_wasThere
theorem lm_13_97 : fk_ml 13 97 = some (0, 0, qX12_meet, 1) := fk_ml_of (j := 231) (by decide +kernel) lq_X12_meet
theorem lm_12_397 : fk_ml 12 397 = some (0, 0, qX12_reachedFrom, 2) := fk_ml_of (j := 230) (by decide +kernel) lq_X12_reachedFrom
theorem lm_13_101 : fk_ml 13 101 = some (0, 0, qX12_built, 1) := fk_ml_of (j := 233) (by decide +kernel) lq_X12_built
theorem lm_12_400 : fk_ml 12 400 = some (0, 0, qX12_isLast, 1) := fk_ml_of (j := 232) (by decide +kernel) lq_X12_isLast
theorem lm_13_105 : fk_ml 13 105 = some (0, 0, qX12_closed, 3) := fk_ml_of (j := 234) (by decide +kernel) lq_X12_closed
theorem lm_13_109 : fk_ml 13 109 = some (0, 0, qX12_history, 2) := fk_ml_of (j := 237) (by decide +kernel) lq_X12_history
theorem lm_12_412 : fk_ml 12 412 = some (0, 0, qX12_readsStep, 0) := fk_ml_of (j := 236) (by decide +kernel) lq_X12_readsStep
theorem lm_12_403 : fk_ml 12 403 = some (0, 0, qX12_readsDigits, 1) := fk_ml_of (j := 235) (by decide +kernel) lq_X12_readsDigits
theorem lm_13_113 : fk_ml 13 113 = some (0, 0, qX12_kin, 3) := fk_ml_of (j := 239) (by decide +kernel) lq_X12_kin
theorem lm_12_415 : fk_ml 12 415 = some (0, 0, qX12_isFrom, 2) := fk_ml_of (j := 238) (by decide +kernel) lq_X12_isFrom
theorem lm_13_117 : fk_ml 13 117 = some (0, 0, qX12_bread, 2) := fk_ml_of (j := 240) (by decide +kernel) lq_X12_bread
theorem lm_13_121 : fk_ml 13 121 = some (0, 0, qX12_vote, 3) := fk_ml_of (j := 242) (by decide +kernel) lq_X12_vote
theorem lm_12_418 : fk_ml 12 418 = some (0, 0, qX12_weightFor, 3) := fk_ml_of (j := 241) (by decide +kernel) lq_X12_weightFor
theorem lm_13_126 : fk_ml 13 126 = some (0, 0, qX12_seed, 1) := fk_ml_of (j := 243) (by decide +kernel) lq_X12_seed
theorem lm_13_131 : fk_ml 13 131 = some (0, 0, qX12_keep, 0) := fk_ml_of (j := 244) (by decide +kernel) lq_X12_keep
theorem lm_13_136 : fk_ml 13 136 = some (0, 0, qX12_undo, 0) := fk_ml_of (j := 245) (by decide +kernel) lq_X12_undo
theorem lm_13_140 : fk_ml 13 140 = some (0, 0, qX12_check, 1) := fk_ml_of (j := 247) (by decide +kernel) lq_X12_check
theorem lm_12_425 : fk_ml 12 425 = some (0, 0, qX12_tapeNumber, 1) := fk_ml_of (j := 246) (by decide +kernel) lq_X12_tapeNumber
theorem lm_13_144 : fk_ml 13 144 = some (0, 0, qX12_count, 1) := fk_ml_of (j := 249) (by decide +kernel) lq_X12_count
theorem lm_12_428 : fk_ml 12 428 = some (0, 0, qX12_roadMany, 0) := fk_ml_of (j := 248) (by decide +kernel) lq_X12_roadMany
/-! rows by the method: what they need -/
theorem fk_at_1 : fk_at 1 11 := ⟨by decide, by decide, by decide +kernel⟩
theorem fk_at_2 : fk_at 2 3 := ⟨by decide, by decide, by decide +kernel⟩
theorem fk_at_3 : fk_at 3 20 := ⟨by decide, by decide, by decide +kernel⟩
theorem fk_ln_3 : (fk_shp 3).2 = 240 := by decide +kernel
theorem fk_at_4 : fk_at 4 20 := ⟨by decide, by decide, by decide +kernel⟩
theorem fk_ln_4 : (fk_shp 4).2 = 240 := by decide +kernel
theorem fk_at_5 : fk_at 5 20 := ⟨by decide, by decide, by decide +kernel⟩
theorem fk_ln_5 : (fk_shp 5).2 = 16 := by decide +kernel
theorem fk_at_6 : fk_at 6 20 := ⟨by decide, by decide, by decide +kernel⟩
theorem fk_ln_6 : (fk_shp 6).2 = 16 := by decide +kernel
theorem fk_at_7 : fk_at 7 20 := ⟨by decide, by decide, by decide +kernel⟩
theorem fk_ln_7 : (fk_shp 7).2 = 16 := by decide +kernel
theorem fk_at_8 : fk_at 8 20 := ⟨by decide, by decide, by decide +kernel⟩
theorem fk_ln_8 : (fk_shp 8).2 = 16 := by decide +kernel
theorem fk_at_9 : fk_at 9 20 := ⟨by decide, by decide, by decide +kernel⟩
theorem fk_ln_9 : (fk_shp 9).2 = 32 := by decide +kernel
theorem fk_at_10 : fk_at 10 3 := ⟨by decide, by decide, by decide +kernel⟩
theorem fk_at_11 : fk_at 11 20 := ⟨by decide, by decide, by decide +kernel⟩
theorem fk_ln_11 : (fk_shp 11).2 = 240 := by decide +kernel
theorem fk_at_12 : fk_at 12 20 := ⟨by decide, by decide, by decide +kernel⟩
theorem fk_ln_12 : (fk_shp 12).2 = 240 := by decide +kernel
theorem fk_at_13 : fk_at 13 20 := ⟨by decide, by decide, by decide +kernel⟩
theorem fk_ln_13 : (fk_shp 13).2 = 16 := by decide +kernel
theorem fk_at_14 : fk_at 14 20 := ⟨by decide, by decide, by decide +kernel⟩
theorem fk_ln_14 : (fk_shp 14).2 = 16 := by decide +kernel
theorem fk_at_15 : fk_at 15 20 := ⟨by decide, by decide, by decide +kernel⟩
theorem fk_ln_15 : (fk_shp 15).2 = 16 := by decide +kernel
theorem fk_at_16 : fk_at 16 20 := ⟨by decide, by decide, by decide +kernel⟩
theorem fk_ln_16 : (fk_shp 16).2 = 16 := by decide +kernel
theorem fk_at_17 : fk_at 17 20 := ⟨by decide, by decide, by decide +kernel⟩
theorem fk_ln_17 : (fk_shp 17).2 = 32 := by decide +kernel
theorem fk_at_18 : fk_at 18 5 := ⟨by decide, by decide, by decide +kernel⟩
theorem fk_at_19 : fk_at 19 20 := ⟨by decide, by decide, by decide +kernel⟩
theorem fk_ln_19 : (fk_shp 19).2 = 32 := by decide +kernel
theorem fk_at_20 : fk_at 20 20 := ⟨by decide, by decide, by decide +kernel⟩
theorem fk_ln_20 : (fk_shp 20).2 = 32 := by decide +kernel
theorem fk_at_21 : fk_at 21 20 := ⟨by decide, by decide, by decide +kernel⟩
theorem fk_ln_21 : (fk_shp 21).2 = 32 := by decide +kernel
theorem fk_at_22 : fk_at 22 20 := ⟨by decide, by decide, by decide +kernel⟩
theorem fk_ln_22 : (fk_shp 22).2 = 16 := by decide +kernel
theorem fk_at_23 : fk_at 23 20 := ⟨by decide, by decide, by decide +kernel⟩
theorem fk_ln_23 : (fk_shp 23).2 = 16 := by decide +kernel
theorem fk_at_24 : fk_at 24 20 := ⟨by decide, by decide, by decide +kernel⟩
theorem fk_ln_24 : (fk_shp 24).2 = 16 := by decide +kernel
theorem fk_at_25 : fk_at 25 23 := ⟨by decide, by decide, by decide +kernel⟩
theorem fk_ln_25 : (fk_shp 25).2 = 976 := by decide +kernel
theorem fk_at_26 : fk_at 26 10 := ⟨by decide, by decide, by decide +kernel⟩
theorem fk_at_27 : fk_at 27 20 := ⟨by decide, by decide, by decide +kernel⟩
theorem fk_ln_27 : (fk_shp 27).2 = 260 := by decide +kernel
theorem fk_at_28 : fk_at 28 4 := ⟨by decide, by decide, by decide +kernel⟩
theorem fk_at_29 : fk_at 29 20 := ⟨by decide, by decide, by decide +kernel⟩
theorem fk_ln_29 : (fk_shp 29).2 = 241 := by decide +kernel
theorem fk_at_30 : fk_at 30 1 := ⟨by decide, by decide, by decide +kernel⟩
theorem fk_at_31 : fk_at 31 20 := ⟨by decide, by decide, by decide +kernel⟩
theorem fk_ln_31 : (fk_shp 31).2 = 16 := by decide +kernel
theorem fk_at_32 : fk_at 32 20 := ⟨by decide, by decide, by decide +kernel⟩
theorem fk_ln_32 : (fk_shp 32).2 = 16 := by decide +kernel
theorem fk_at_33 : fk_at 33 8 := ⟨by decide, by decide, by decide +kernel⟩
theorem fk_at_34 : fk_at 34 24 := ⟨by decide, by decide, by decide +kernel⟩
theorem fk_ln_34 : (fk_shp 34).2 = 64 := by decide +kernel
theorem fk_at_35 : fk_at 35 20 := ⟨by decide, by decide, by decide +kernel⟩
theorem fk_ln_35 : (fk_shp 35).2 = 4 := by decide +kernel
theorem fk_at_100 : fk_at 100 8 := ⟨by decide, by decide, by decide +kernel⟩
theorem fk_at_101 : fk_at 101 24 := ⟨by decide, by decide, by decide +kernel⟩
theorem fk_ln_101 : (fk_shp 101).2 = 64 := by decide +kernel
theorem fk_at_102 : fk_at 102 20 := ⟨by decide, by decide, by decide +kernel⟩
theorem fk_ln_102 : (fk_shp 102).2 = 4 := by decide +kernel
theorem fk_at_167 : fk_at 167 8 := ⟨by decide, by decide, by decide +kernel⟩
theorem fk_at_168 : fk_at 168 24 := ⟨by decide, by decide, by decide +kernel⟩
theorem fk_ln_168 : (fk_shp 168).2 = 64 := by decide +kernel
theorem fk_at_169 : fk_at 169 20 := ⟨by decide, by decide, by decide +kernel⟩
theorem fk_ln_169 : (fk_shp 169).2 = 4 := by decide +kernel
theorem fk_at_234 : fk_at 234 7 := ⟨by decide, by decide, by decide +kernel⟩
theorem fk_at_235 : fk_at 235 20 := ⟨by decide, by decide, by decide +kernel⟩
theorem fk_ln_235 : (fk_shp 235).2 = 3072 := by decide +kernel
theorem fk_at_236 : fk_at 236 7 := ⟨by decide, by decide, by decide +kernel⟩
theorem fk_at_237 : fk_at 237 20 := ⟨by decide, by decide, by decide +kernel⟩
theorem fk_ln_237 : (fk_shp 237).2 = 3072 := by decide +kernel
theorem fk_at_238 : fk_at 238 6 := ⟨by decide, by decide, by decide +kernel⟩
theorem fk_at_239 : fk_at 239 20 := ⟨by decide, by decide, by decide +kernel⟩
theorem fk_ln_239 : (fk_shp 239).2 = 26 := by decide +kernel
theorem fk_at_240 : fk_at 240 9 := ⟨by decide, by decide, by decide +kernel⟩
theorem fk_at_241 : fk_at 241 2 := ⟨by decide, by decide, by decide +kernel⟩
theorem fk_at_242 : fk_at 242 20 := ⟨by decide, by decide, by decide +kernel⟩
theorem fk_ln_242 : (fk_shp 242).2 = 5 := by decide +kernel
theorem fk_at_243 : fk_at 243 20 := ⟨by decide, by decide, by decide +kernel⟩
theorem fk_ln_243 : (fk_shp 243).2 = 5 := by decide +kernel
theorem fk_at_244 : fk_at 244 20 := ⟨by decide, by decide, by decide +kernel⟩
theorem fk_ln_244 : (fk_shp 244).2 = 32 := by decide +kernel
theorem fk_at_245 : fk_at 245 20 := ⟨by decide, by decide, by decide +kernel⟩
theorem fk_ln_245 : (fk_shp 245).2 = 32 := by decide +kernel
theorem fk_at_246 : fk_at 246 12 := ⟨by decide, by decide, by decide +kernel⟩
theorem fk_at_247 : fk_at 247 20 := ⟨by decide, by decide, by decide +kernel⟩
theorem fk_ln_247 : (fk_shp 247).2 = 3912 := by decide +kernel
theorem fk_at_248 : fk_at 248 20 := ⟨by decide, by decide, by decide +kernel⟩
theorem fk_ln_248 : (fk_shp 248).2 = 3912 := by decide +kernel
theorem fk_at_249 : fk_at 249 20 := ⟨by decide, by decide, by decide +kernel⟩
theorem fk_ln_249 : (fk_shp 249).2 = 3912 := by decide +kernel
theorem fk_at_250 : fk_at 250 20 := ⟨by decide, by decide, by decide +kernel⟩
theorem fk_ln_250 : (fk_shp 250).2 = 32 := by decide +kernel
theorem fk_at_251 : fk_at 251 20 := ⟨by decide, by decide, by decide +kernel⟩
theorem fk_ln_251 : (fk_shp 251).2 = 32 := by decide +kernel
theorem fk_at_252 : fk_at 252 20 := ⟨by decide, by decide, by decide +kernel⟩
theorem fk_ln_252 : (fk_shp 252).2 = 32 := by decide +kernel
theorem fk_at_253 : fk_at 253 20 := ⟨by decide, by decide, by decide +kernel⟩
theorem fk_ln_253 : (fk_shp 253).2 = 16 := by decide +kernel
theorem fk_at_254 : fk_at 254 22 := ⟨by decide, by decide, by decide +kernel⟩
theorem fk_ln_254 : (fk_shp 254).2 = 16 := by decide +kernel
theorem fk_at_255 : fk_at 255 21 := ⟨by decide, by decide, by decide +kernel⟩
theorem fk_ln_255 : (fk_shp 255).2 = 260 := by decide +kernel
theorem fk_at_256 : fk_at 256 20 := ⟨by decide, by decide, by decide +kernel⟩
theorem fk_ln_256 : (fk_shp 256).2 = 260 := by decide +kernel
theorem fk_at_257 : fk_at 257 20 := ⟨by decide, by decide, by decide +kernel⟩
theorem fk_ln_257 : (fk_shp 257).2 = 260 := by decide +kernel
theorem fk_at_258 : fk_at 258 20 := ⟨by decide, by decide, by decide +kernel⟩
theorem fk_ln_258 : (fk_shp 258).2 = 16 := by decide +kernel
theorem fk_at_259 : fk_at 259 20 := ⟨by decide, by decide, by decide +kernel⟩
theorem fk_ln_259 : (fk_shp 259).2 = 16 := by decide +kernel
theorem fk_at_260 : fk_at 260 20 := ⟨by decide, by decide, by decide +kernel⟩
theorem fk_ln_260 : (fk_shp 260).2 = 16 := by decide +kernel
theorem fk_at_261 : fk_at 261 20 := ⟨by decide, by decide, by decide +kernel⟩
theorem fk_ln_261 : (fk_shp 261).2 = 16 := by decide +kernel
theorem fk_at_262 : fk_at 262 20 := ⟨by decide, by decide, by decide +kernel⟩
theorem fk_ln_262 : (fk_shp 262).2 = 260 := by decide +kernel
theorem fk_at_263 : fk_at 263 20 := ⟨by decide, by decide, by decide +kernel⟩
theorem fk_ln_263 : (fk_shp 263).2 = 16 := by decide +kernel
theorem fk_at_264 : fk_at 264 20 := ⟨by decide, by decide, by decide +kernel⟩
theorem fk_ln_264 : (fk_shp 264).2 = 16 := by decide +kernel
theorem fk_at_265 : fk_at 265 20 := ⟨by decide, by decide, by decide +kernel⟩
theorem fk_ln_265 : (fk_shp 265).2 = 16 := by decide +kernel
theorem fk_at_266 : fk_at 266 20 := ⟨by decide, by decide, by decide +kernel⟩
theorem fk_ln_266 : (fk_shp 266).2 = 16 := by decide +kernel
theorem fk_at_267 : fk_at 267 20 := ⟨by decide, by decide, by decide +kernel⟩
theorem fk_ln_267 : (fk_shp 267).2 = 260 := by decide +kernel
theorem fk_at_268 : fk_at 268 20 := ⟨by decide, by decide, by decide +kernel⟩
theorem fk_ln_268 : (fk_shp 268).2 = 14 := by decide +kernel
theorem fk_at_269 : fk_at 269 22 := ⟨by decide, by decide, by decide +kernel⟩
theorem fk_ln_269 : (fk_shp 269).2 = 64 := by decide +kernel
theorem fk_at_270 : fk_at 270 23 := ⟨by decide, by decide, by decide +kernel⟩
theorem fk_ln_270 : (fk_shp 270).2 = 976 := by decide +kernel
theorem fk_at_271 : fk_at 271 20 := ⟨by decide, by decide, by decide +kernel⟩
theorem fk_ln_271 : (fk_shp 271).2 = 5 := by decide +kernel
theorem fk_at_272 : fk_at 272 20 := ⟨by decide, by decide, by decide +kernel⟩
theorem fk_ln_272 : (fk_shp 272).2 = 5 := by decide +kernel
theorem fk_at_273 : fk_at 273 20 := ⟨by decide, by decide, by decide +kernel⟩
theorem fk_ln_273 : (fk_shp 273).2 = 20 := by decide +kernel
theorem fk_at_274 : fk_at 274 20 := ⟨by decide, by decide, by decide +kernel⟩
theorem fk_ln_274 : (fk_shp 274).2 = 20 := by decide +kernel
def fk_b (p : Prop) [Decidable p] : Int32 := if p then nI 1 else nI 0
theorem fk_b_01 {p : Prop} [Decidable p] : fk_b p = nI 0 ∨ fk_b p = nI 1 := by
  unfold fk_b
  split
  · exact Or.inr rfl
  · exact Or.inl rfl
section FKR
variable {d pc : Nat} {me : fk_Me} {L st r : List Value} {h : fk_H}
theorem fk_w_iconst {n : Int} {v : Int32} (hd : decode me.2.2.1 pc = .ok (.iconst n, 1)) (hv : Int32.ofInt n = v) : fk_ev d me pc L st h = fk_ev d me (pc + 1) L (.int v :: st) h := by
  subst hv
  exact fk_r_iconst hd
theorem fk_w_lconst {n : Fin 2} {v : Int64} (hd : decode me.2.2.1 pc = .ok (.lconst n, 1)) (hv : Int64.ofNat (n : Nat) = v) : fk_ev d me pc L st h = fk_ev d me (pc + 1) L (.long v :: st) h := by
  subst hv
  exact fk_r_lconst hd
theorem fk_w_bipush {n : Int} {v : Int32} (hd : decode me.2.2.1 pc = .ok (.bipush n, 2)) (hv : (Int8.ofInt n).toInt32 = v) : fk_ev d me pc L st h = fk_ev d me (pc + 2) L (.int v :: st) h := by
  subst hv
  exact fk_r_bipush hd
theorem fk_w_sipush {n : Int} {v : Int32} (hd : decode me.2.2.1 pc = .ok (.sipush n, 3)) (hv : (Int16.ofInt n).toInt32 = v) : fk_ev d me pc L st h = fk_ev d me (pc + 3) L (.int v :: st) h := by
  subst hv
  exact fk_r_sipush hd
theorem fk_w_ldc {ix : Nat} {v w : Int32} (hd : decode me.2.2.1 pc = .ok (.ldc ix, 2)) (hv : fk_ct me.1 ix = some v) (hw : v = w) : fk_ev d me pc L st h = fk_ev d me (pc + 2) L (.int w :: st) h := by
  subst hw
  exact fk_r_ldc hd hv
theorem fk_w_ldcw {ix : Nat} {v w : Int32} (hd : decode me.2.2.1 pc = .ok (.ldc_w ix, 3)) (hv : fk_ct me.1 ix = some v) (hw : v = w) : fk_ev d me pc L st h = fk_ev d me (pc + 3) L (.int w :: st) h := by
  subst hw
  exact fk_r_ldcw hd hv
theorem fk_p_max {ix : Nat} {x y : Int32} (hd : decode me.2.2.1 pc = .ok (.invokestatic ix, 3)) (hm : fk_ml me.1 ix = none) (hp : fk_pl me.1 ix = some 7) (hr : 2 * r.length ≤ 8) : fk_ev d me pc L (.int y :: .int x :: r) h = fk_ev d me (pc + 3) L (.int (if x < y then y else x) :: r) h := by
  refine fk_ev_go hd (Or.inr rfl) ?_
  show fk_inv me (fun k => k == 2) (fun k => k == 7 || k == 8 || k == 9) ix pc L (.int y :: .int x :: r) h = _
  unfold fk_inv
  rw [hm]
  dsimp only
  rw [fk_so_of hp, fk_if_of (show ((7 : Nat) == 7 || (7 : Nat) == 8 || (7 : Nat) == 9) = true from rfl)]
  unfold fk_prim
  rw [if_neg (by decide), if_pos rfl]
  show fk_if _ _ = _
  rw [fk_if_of hr]
  rfl
theorem fk_p_min {ix : Nat} {x y : Int32} (hd : decode me.2.2.1 pc = .ok (.invokestatic ix, 3)) (hm : fk_ml me.1 ix = none) (hp : fk_pl me.1 ix = some 8) (hr : 2 * r.length ≤ 8) : fk_ev d me pc L (.int y :: .int x :: r) h = fk_ev d me (pc + 3) L (.int (if y < x then y else x) :: r) h := by
  refine fk_ev_go hd (Or.inr rfl) ?_
  show fk_inv me (fun k => k == 2) (fun k => k == 7 || k == 8 || k == 9) ix pc L (.int y :: .int x :: r) h = _
  unfold fk_inv
  rw [hm]
  dsimp only
  rw [fk_so_of hp, fk_if_of (show ((8 : Nat) == 7 || (8 : Nat) == 8 || (8 : Nat) == 9) = true from rfl)]
  unfold fk_prim
  rw [if_neg (by decide), if_neg (by decide), if_pos rfl]
  show fk_if _ _ = _
  rw [fk_if_of hr]
  rfl
end FKR
section FKQ
variable {d pc cn : Nat} {me : fk_Me} {L r : List Value} {N : Nat} {y : Nat → Nat → Int32} {l : Nat → Nat → Int64} {c : Nat}
theorem fk_g_getI {ix ci k f : Nat} (hm : me.1 = cn) (hf : fk_fl cn ix = some (ci, k, f)) (hs : ci < 13 ∧ fk_ss ci k = 0) (hd : decode me.2.2.1 pc = .ok (.getfield ix, 3)) (hc : fk_at c ci) : fk_ev d me pc L (.ref c :: r) (fk_E N y l) = fk_ev d me (pc + 3) L (.int (y c k) :: r) (fk_E N y l) := fk_h_getI hd (by rw [hm]; exact hf) hs hc
theorem fk_g_getC {ix ci k f t : Nat} (hm : me.1 = cn) (hf : fk_fl cn ix = some (ci, k, f)) (hs : ci < 13 ∧ fk_ss ci k = 1) (ht : fk_cr c k = t) (hd : decode me.2.2.1 pc = .ok (.getfield ix, 3)) (hc : fk_at c ci) : fk_ev d me pc L (.ref c :: r) (fk_E N y l) = fk_ev d me (pc + 3) L (.ref t :: r) (fk_E N y l) := by
  rw [← ht]
  exact fk_h_getC hd (by rw [hm]; exact hf) hs hc
theorem fk_g_getM {ix ci k f : Nat} (hm : me.1 = cn) (hf : fk_fl cn ix = some (ci, k, f)) (hs : ci < 13 ∧ fk_ss ci k = 2) (hd : decode me.2.2.1 pc = .ok (.getfield ix, 3)) (hc : fk_at c ci) : fk_ev d me pc L (.ref c :: r) (fk_E N y l) = fk_ev d me (pc + 3) L (.ref (y c k).toNatClampNeg :: r) (fk_E N y l) := fk_h_getM hd (by rw [hm]; exact hf) hs hc
theorem fk_g_putI {ix ci k f : Nat} {v : Int32} (hm : me.1 = cn) (hf : fk_fl cn ix = some (ci, k, f)) (hs : ci < 13 ∧ fk_ss ci k = 0 ∧ f ≠ 3 ∧ f ≠ 2) (hd : decode me.2.2.1 pc = .ok (.putfield ix, 3)) (ht : fk_okv (fk_ty ci k) (.int v) = true) (hc : fk_at c ci) : fk_ev d me pc L (.int v :: .ref c :: r) (fk_E N y l) = fk_ev d me (pc + 3) L r (fk_E N (fk_u y c k v) l) := fk_h_putI hd (by rw [hm]; exact hf) ⟨hs.1, hs.2.1, hs.2.2.1, fun z => absurd z hs.2.2.2⟩ ht hc
theorem fk_g_putM {ix ci k f v : Nat} (hm : me.1 = cn) (hf : fk_fl cn ix = some (ci, k, f)) (hs : ci < 13 ∧ fk_ss ci k = 2 ∧ f ≠ 3 ∧ f ≠ 2) (hd : decode me.2.2.1 pc = .ok (.putfield ix, 3)) (ht : fk_okv (fk_ty ci k) (.ref v) = true) (hv : v < 2 ^ 31) (hc : fk_at c ci) : fk_ev d me pc L (.ref v :: .ref c :: r) (fk_E N y l) = fk_ev d me (pc + 3) L r (fk_E N (fk_u y c k (nI v)) l) := fk_h_putM hd (by rw [hm]; exact hf) ⟨hs.1, hs.2.1, hs.2.2.1, fun z => absurd z hs.2.2.2⟩ ht hv hc
theorem fk_g_call {ix n : Nat} {q : fk_Me} {ne : Nat} (as : List Value) (r : List Value) (hm : me.1 = cn) (hq : fk_ml cn ix = some (ne, 0, q, n)) (hd : decode me.2.2.1 pc = .ok (.invokevirtual ix, 3)) (ha : as.all fk_arg = true) (hn : as.length = n ∧ n + 1 ≤ q.2.2.2.1) (hr : 2 * r.length ≤ 8) (hc : fk_at c q.1) : fk_ev (d + 1) me pc L (as.reverse ++ .ref c :: r) (fk_E N y l) = (fk_ev d q 0 (fk_loc q (.ref c :: as)) [] (fk_E N y l)).bind fun o => fk_ev (d + 1) me (pc + 3) L (o.1.toList ++ r) o.2 := fk_h_call hd (by rw [hm]; exact hq) ha hn hr hc
theorem fk_g_calls {ix n : Nat} {q : fk_Me} {ne : Nat} {h : fk_H} (as : List Value) (r : List Value) (hm : me.1 = cn) (hq : fk_ml cn ix = some (ne, 2, q, n)) (hd : decode me.2.2.1 pc = .ok (.invokestatic ix, 3)) (ha : as.all fk_arg = true) (hn : as.length = n ∧ n ≤ q.2.2.2.1) (hr : 2 * r.length ≤ 8) : fk_ev (d + 1) me pc L (as.reverse ++ r) h = (fk_ev d q 0 (fk_loc q as) [] h).bind fun o => fk_ev (d + 1) me (pc + 3) L (o.1.toList ++ r) o.2 := fk_h_calls hd (by rw [hm]; exact hq) ha hn hr
end FKQ

section FKT
variable {d pc : Nat} {me : fk_Me} {st r : List Value} {h : fk_H}
theorem fk_w_istore (i : Nat) (n : Nat) (S : List Nat) (L L' : List Value) {x : Int32} (hd : decode me.2.2.1 pc = .ok (.istore i, 2)) (hs : me.2.2.2.2.2 = S) (hl : L.length = n) (hi : i < n ∧ i ∉ S) (hL : L.set i (.int x) = L') : fk_ev d me pc L (.int x :: r) h = fk_ev d me (pc + 2) L' r h := by
  subst hL
  exact fk_r_istore hd ⟨by rw [hl]; exact hi.1, by rw [hs]; exact hi.2⟩
theorem fk_w_iload (i : Nat) (L : List Value) {x : Int32} (hd : decode me.2.2.1 pc = .ok (.iload i, 2)) (hx : L[i]? = some (.int x)) : fk_ev d me pc L st h = fk_ev d me (pc + 2) L (.int x :: st) h := fk_r_iload hd hx
theorem fk_w_istoren (i : Fin 4) (n : Nat) (S : List Nat) (L L' : List Value) {x : Int32} (hd : decode me.2.2.1 pc = .ok (.istore_n i, 1)) (hs : me.2.2.2.2.2 = S) (hl : L.length = n) (hi : (i : Nat) < n ∧ (i : Nat) ∉ S) (hL : L.set (i : Nat) (.int x) = L') : fk_ev d me pc L (.int x :: r) h = fk_ev d me (pc + 1) L' r h := by
  subst hL
  exact fk_r_istoren hd ⟨by rw [hl]; exact hi.1, by rw [hs]; exact hi.2⟩
theorem fk_w_iloadn (i : Fin 4) (L : List Value) {x : Int32} (hd : decode me.2.2.1 pc = .ok (.iload_n i, 1)) (hx : L[(i : Nat)]? = some (.int x)) : fk_ev d me pc L st h = fk_ev d me (pc + 1) L (.int x :: st) h := fk_r_iloadn hd hx
theorem fk_w_astore (i : Nat) (n : Nat) (S : List Nat) (L L' : List Value) {x : Nat} (hd : decode me.2.2.1 pc = .ok (.astore i, 2)) (hs : me.2.2.2.2.2 = S) (hl : L.length = n) (hi : i < n ∧ i ∉ S) (hL : L.set i (.ref x) = L') : fk_ev d me pc L (.ref x :: r) h = fk_ev d me (pc + 2) L' r h := by
  subst hL
  exact fk_r_astore hd ⟨by rw [hl]; exact hi.1, by rw [hs]; exact hi.2⟩
theorem fk_w_aload (i : Nat) (L : List Value) {x : Nat} (hd : decode me.2.2.1 pc = .ok (.aload i, 2)) (hx : L[i]? = some (.ref x)) : fk_ev d me pc L st h = fk_ev d me (pc + 2) L (.ref x :: st) h := fk_r_aload hd hx
theorem fk_w_astoren (i : Fin 4) (n : Nat) (S : List Nat) (L L' : List Value) {x : Nat} (hd : decode me.2.2.1 pc = .ok (.astore_n i, 1)) (hs : me.2.2.2.2.2 = S) (hl : L.length = n) (hi : (i : Nat) < n ∧ (i : Nat) ∉ S) (hL : L.set (i : Nat) (.ref x) = L') : fk_ev d me pc L (.ref x :: r) h = fk_ev d me (pc + 1) L' r h := by
  subst hL
  exact fk_r_astoren hd ⟨by rw [hl]; exact hi.1, by rw [hs]; exact hi.2⟩
theorem fk_w_aloadn (i : Fin 4) (L : List Value) {x : Nat} (hd : decode me.2.2.1 pc = .ok (.aload_n i, 1)) (hx : L[(i : Nat)]? = some (.ref x)) : fk_ev d me pc L st h = fk_ev d me (pc + 1) L (.ref x :: st) h := fk_r_aloadn hd hx
theorem fk_w_lstore (i : Nat) (n : Nat) (S : List Nat) (L L' : List Value) {x : Int64} (hd : decode me.2.2.1 pc = .ok (.lstore i, 2)) (hs : me.2.2.2.2.2 = S) (hl : L.length = n) (hi : i + 1 < n ∧ i ∉ S ∧ i + 1 ∈ S) (hn : L[i + 1]? = some .null) (hL : L.set i (.long x) = L') : fk_ev d me pc L (.long x :: r) h = fk_ev d me (pc + 2) L' r h := by
  subst hL
  exact fk_r_lstore hd ⟨by rw [hl]; exact hi.1, by rw [hs]; exact hi.2.1, by rw [hs]; exact hi.2.2, hn⟩
theorem fk_w_lload (i : Nat) (L : List Value) {x : Int64} (hd : decode me.2.2.1 pc = .ok (.lload i, 2)) (hx : L[i]? = some (.long x)) : fk_ev d me pc L st h = fk_ev d me (pc + 2) L (.long x :: st) h := fk_r_lload hd hx
theorem fk_w_lstoren (i : Fin 4) (n : Nat) (S : List Nat) (L L' : List Value) {x : Int64} (hd : decode me.2.2.1 pc = .ok (.lstore_n i, 1)) (hs : me.2.2.2.2.2 = S) (hl : L.length = n) (hi : (i : Nat) + 1 < n ∧ (i : Nat) ∉ S ∧ (i : Nat) + 1 ∈ S) (hn : L[(i : Nat) + 1]? = some .null) (hL : L.set (i : Nat) (.long x) = L') : fk_ev d me pc L (.long x :: r) h = fk_ev d me (pc + 1) L' r h := by
  subst hL
  exact fk_r_lstoren hd ⟨by rw [hl]; exact hi.1, by rw [hs]; exact hi.2.1, by rw [hs]; exact hi.2.2, hn⟩
theorem fk_w_lloadn (i : Fin 4) (L : List Value) {x : Int64} (hd : decode me.2.2.1 pc = .ok (.lload_n i, 1)) (hx : L[(i : Nat)]? = some (.long x)) : fk_ev d me pc L st h = fk_ev d me (pc + 1) L (.long x :: st) h := fk_r_lloadn hd hx
theorem fk_w_iinc (i n : Nat) (k : Int) (S : List Nat) (L L' : List Value) {x : Int32} (hd : decode me.2.2.1 pc = .ok (.iinc i k, 3)) (hx : L[i]? = some (.int x)) (hs : me.2.2.2.2.2 = S) (hl : L.length = n) (hi : i < n ∧ i ∉ S) (hL : L.set i (.int (x + Int32.ofInt k)) = L') : fk_ev d me pc L st h = fk_ev d me (pc + 3) L' st h := by
  subst hL
  exact fk_r_iinc hd hx ⟨by rw [hl]; exact hi.1, by rw [hs]; exact hi.2⟩
end FKT

section FKU
variable {d pc : Nat} {me : fk_Me} {L r : List Value} {h : fk_H}
theorem fk_w_tab (kk : Int) {x : Int32} {dflt lo hi off : Int} {offs : Array Int} {len t : Nat} (hd : decode me.2.2.1 pc = .ok (.tableswitch dflt lo hi offs, len)) (hx : x.toInt = kk) (hk : ¬ (kk < lo ∨ hi < kk)) (ho : offs[(kk - lo).toNat]? = some off) (ht : (pc : Int) + off = (t : Int)) : fk_ev d me pc L (.int x :: r) h = fk_ev d me t L r h := by
  refine fk_ev_go hd (Or.inl rfl) ?_
  show (if x.toInt < lo ∨ hi < x.toInt then fk_jp pc dflt (fun t => fk_nx t L r h) else fk_so offs[(x.toInt - lo).toNat]? fun off => fk_jp pc off fun t => fk_nx t L r h) = _
  rw [hx, if_neg hk, fk_so_of ho, fk_jp_of ht]
  rfl
theorem fk_w_tabo {x : Int32} {dflt lo hi : Int} {offs : Array Int} {len t : Nat} (hd : decode me.2.2.1 pc = .ok (.tableswitch dflt lo hi offs, len)) (hx : x.toInt < lo ∨ hi < x.toInt) (ht : (pc : Int) + dflt = (t : Int)) : fk_ev d me pc L (.int x :: r) h = fk_ev d me t L r h := by
  refine fk_ev_go hd (Or.inl rfl) ?_
  show (if x.toInt < lo ∨ hi < x.toInt then fk_jp pc dflt (fun t => fk_nx t L r h) else fk_so offs[(x.toInt - lo).toNat]? fun off => fk_jp pc off fun t => fk_nx t L r h) = _
  rw [if_pos hx, fk_jp_of ht]
  rfl
theorem fk_w_look {x : Int32} {dflt off : Int} {ps : Array (Int × Int)} {len t : Nat} (hd : decode me.2.2.1 pc = .ok (.lookupswitch dflt ps, len)) (hp : (ps.toList.zip (ps.toList.drop 1)).all (fun (a, next) => a.1 < next.1) = true) (ho : Op.lookupswitch.offset ps.toList dflt x.toInt = off) (ht : (pc : Int) + off = (t : Int)) : fk_ev d me pc L (.int x :: r) h = fk_ev d me t L r h := by
  refine fk_ev_go hd (Or.inl rfl) ?_
  show fk_if _ (fk_jp pc (Op.lookupswitch.offset ps.toList dflt x.toInt) fun t => fk_nx t L r h) = _
  rw [fk_if_of hp, ho, fk_jp_of ht]
  rfl
theorem fk_p_copy {ix a a0 : Nat} {N : Nat} {y : Nat → Nat → Int32} {l : Nat → Nat → Int64} {n dp sp : Nat} (hd : decode me.2.2.1 pc = .ok (.invokestatic ix, 3)) (hm : fk_ml me.1 ix = none) (hp : fk_pl me.1 ix = some 9) (hr : 2 * r.length ≤ 8) (ha : fk_at a 20) (ha0 : fk_at a0 20) (h1 : sp + n ≤ (fk_shp a0).2) (h2 : dp + n ≤ (fk_shp a).2) (hb : (fk_shp a0).2 < 2 ^ 31 ∧ (fk_shp a).2 < 2 ^ 31) : fk_ev d me pc L (.int (nI n) :: .int (nI dp) :: .ref a :: .int (nI sp) :: .ref a0 :: r) (fk_E N y l) = fk_ev d me (pc + 3) L r (fk_E N (fk_uc y a0 sp a dp n) l) := by
  refine fk_ev_go hd (Or.inr rfl) ?_
  show fk_inv me (fun k => k == 2) (fun k => k == 7 || k == 8 || k == 9) ix pc L (.int (nI n) :: .int (nI dp) :: .ref a :: .int (nI sp) :: .ref a0 :: r) (fk_E N y l) = _
  unfold fk_inv
  rw [hm]
  dsimp only
  rw [fk_so_of hp, fk_if_of (show ((9 : Nat) == 7 || (9 : Nat) == 8 || (9 : Nat) == 9) = true from rfl)]
  unfold fk_prim
  rw [if_neg (by decide), if_neg (by decide), if_neg (by decide), if_pos rfl]
  show fk_if _ _ = _
  rw [fk_if_of ⟨hr, fk_at_is ha, fk_at_is ha0, nI_pos (by omega), nI_pos (by omega), nI_pos (by omega), by rw [fk_at_len ha0, nI_clamp (by omega), nI_clamp (by omega)]; exact h1, by rw [fk_at_len ha, nI_clamp (by omega), nI_clamp (by omega)]; exact h2⟩, nI_clamp (by omega), nI_clamp (by omega), nI_clamp (by omega)]
  have e : fk_cpy (fk_E N y l) a0 sp a dp n = fk_E N (fk_uc y a0 sp a dp n) l := by
    unfold fk_cpy fk_E
    dsimp only
    congr 3
    funext c j
    by_cases hc : c = a
    · subst hc
      rw [show va_up (fk_G y l) c (va_cpy (fk_G y l a0) (fk_G y l c) sp dp n) c j = va_cpy (fk_G y l a0) (fk_G y l c) sp dp n j by simp [va_up], fk_G_a ha.2.2 (Or.inl rfl)]
      unfold va_cpy fk_uc
      by_cases hj : dp ≤ j ∧ j < dp + n
      · rw [if_pos hj, if_pos ⟨rfl, hj⟩, fk_G_a ha0.2.2 (Or.inl rfl)]
      · rw [if_neg hj, if_neg (fun z => hj z.2), fk_G_a ha.2.2 (Or.inl rfl)]
    · rw [show va_up (fk_G y l) a (va_cpy (fk_G y l a0) (fk_G y l a) sp dp n) c j = fk_G y l c j by simp [va_up, hc]]
      unfold fk_G fk_uc
      rw [if_neg (fun z : c = a ∧ dp ≤ j ∧ j < dp + n => hc z.1)]
  rw [e]
  rfl
end FKU

section FKV
variable {d pc cn : Nat} {me : fk_Me} {L st r : List Value} {h : fk_H} {N : Nat} {y : Nat → Nat → Int32} {l : Nat → Nat → Int64} {c n i : Nat}
theorem fk_g_ldc {ix : Nat} {v w : Int32} (hm : me.1 = cn) (hv : fk_ct cn ix = some v) (hw : v = w) (hd : decode me.2.2.1 pc = .ok (.ldc ix, 2)) : fk_ev d me pc L st h = fk_ev d me (pc + 2) L (.int w :: st) h := by
  subst hw
  exact fk_r_ldc hd (by rw [hm]; exact hv)
theorem fk_g_ldcw {ix : Nat} {v w : Int32} (hm : me.1 = cn) (hv : fk_ct cn ix = some v) (hw : v = w) (hd : decode me.2.2.1 pc = .ok (.ldc_w ix, 3)) : fk_ev d me pc L st h = fk_ev d me (pc + 3) L (.int w :: st) h := by
  subst hw
  exact fk_r_ldcw hd (by rw [hm]; exact hv)
theorem fk_g_iald (hc : fk_at c 20) (hs : (fk_shp c).2 = n) (hn : n < 2 ^ 31) (hd : decode me.2.2.1 pc = .ok (.iaload, 1)) (hi : i < n) : fk_ev d me pc L (.int (nI i) :: .ref c :: r) (fk_E N y l) = fk_ev d me (pc + 1) L (.int (y c i) :: r) (fk_E N y l) := by
  subst hs
  exact fk_h_iald hd hc hi hn
theorem fk_g_bald {k : Nat} (hk : k = 21 ∨ k = 22) (hc : fk_at c k) (hs : (fk_shp c).2 = n) (hn : n < 2 ^ 31) (hd : decode me.2.2.1 pc = .ok (.baload, 1)) (hi : i < n) : fk_ev d me pc L (.int (nI i) :: .ref c :: r) (fk_E N y l) = fk_ev d me (pc + 1) L (.int (y c i) :: r) (fk_E N y l) := by
  subst hs
  exact fk_h_bald hd hk hc hi hn
theorem fk_g_lald (hc : fk_at c 23) (hs : (fk_shp c).2 = n) (hn : n < 2 ^ 31) (hd : decode me.2.2.1 pc = .ok (.laload, 1)) (hi : i < n) : fk_ev d me pc L (.int (nI i) :: .ref c :: r) (fk_E N y l) = fk_ev d me (pc + 1) L (.long (l c i) :: r) (fk_E N y l) := by
  subst hs
  exact fk_h_lald hd hc hi hn
theorem fk_g_iast {v : Int32} (hc : fk_at c 20) (hs : (fk_shp c).2 = n) (hn : n < 2 ^ 31) (hd : decode me.2.2.1 pc = .ok (.iastore, 1)) (hi : i < n) : fk_ev d me pc L (.int v :: .int (nI i) :: .ref c :: r) (fk_E N y l) = fk_ev d me (pc + 1) L r (fk_E N (fk_u y c i v) l) := by
  subst hs
  exact fk_h_iast hd hc hi hn
theorem fk_g_bast21 {v : Int32} (hc : fk_at c 21) (hs : (fk_shp c).2 = n) (hn : n < 2 ^ 31) (hd : decode me.2.2.1 pc = .ok (.bastore, 1)) (hi : i < n) : fk_ev d me pc L (.int v :: .int (nI i) :: .ref c :: r) (fk_E N y l) = fk_ev d me (pc + 1) L r (fk_E N (fk_u y c i (vp_nar .byte v)) l) := by
  subst hs
  have e := fk_h_bast (d := d) (L := L) (r := r) (N := N) (y := y) (l := l) (v := v) hd (Or.inl rfl) hc hi hn
  rw [if_pos rfl] at e
  exact e
theorem fk_g_bast22 {v : Int32} (hc : fk_at c 22) (hs : (fk_shp c).2 = n) (hn : n < 2 ^ 31) (hd : decode me.2.2.1 pc = .ok (.bastore, 1)) (hi : i < n) : fk_ev d me pc L (.int v :: .int (nI i) :: .ref c :: r) (fk_E N y l) = fk_ev d me (pc + 1) L r (fk_E N (fk_u y c i (vp_nar .boolean v)) l) := by
  subst hs
  have e := fk_h_bast (d := d) (L := L) (r := r) (N := N) (y := y) (l := l) (v := v) hd (Or.inr rfl) hc hi hn
  rw [if_neg (show ¬ (22 : Nat) = 21 by decide)] at e
  exact e
theorem fk_g_last {v : Int64} (hc : fk_at c 23) (hs : (fk_shp c).2 = n) (hn : n < 2 ^ 31) (hd : decode me.2.2.1 pc = .ok (.lastore, 1)) (hi : i < n) : fk_ev d me pc L (.long v :: .int (nI i) :: .ref c :: r) (fk_E N y l) = fk_ev d me (pc + 1) L r (fk_E N y (fk_ul l c i v)) := by
  subst hs
  exact fk_h_last hd hc hi hn
theorem fk_g_alen (hc : fk_at c 20) (hs : (fk_shp c).2 = n) (hd : decode me.2.2.1 pc = .ok (.arraylength, 1)) : fk_ev d me pc L (.ref c :: r) (fk_E N y l) = fk_ev d me (pc + 1) L (.int (nI n) :: r) (fk_E N y l) := by
  subst hs
  exact fk_h_alen hd hc
end FKV

