abbrev fk_Me : Type := Nat × MethodName × ByteArray × Nat × Option FieldType × List Nat
def fk_cn (k : Nat) : String := match k with
  | 0 => RX0
  | 1 => RX1
  | 2 => RX2
  | 3 => RX3
  | 4 => RX4
  | 5 => RX5
  | 6 => RX6
  | 7 => RX7
  | 8 => RX8
  | 9 => RX9
  | 10 => RX10
  | 11 => RX11
  | 12 => RX12
  | 13 => RL
  | 14 => RJ7
  | 15 => RJ6
  | 16 => RJ9
  | 17 => RJ0
  | 18 => RJ1
  | _ => ""
def qX0_init : fk_Me := (0, yX0_init, cX0_init, 2, none, [])
def qX0_copyFrom : fk_Me := (0, yX0_copyFrom, cX0_copyFrom, 2, none, [])
def qX0_beNew : fk_Me := (0, yX0_beNew, cX0_beNew, 4, none, [])
def qX0_standAt : fk_Me := (0, yX0_standAt, cX0_standAt, 2, none, [])
def qX0_goOn : fk_Me := (0, yX0_goOn, cX0_goOn, 3, none, [])
def qX0_know : fk_Me := (0, yX0_know, cX0_know, 4, none, [])
def qX0_knows : fk_Me := (0, yX0_knows, cX0_knows, 2, some .int, [])
def qX0_clash : fk_Me := (0, yX0_clash, cX0_clash, 2, some .int, [])
def qX0_takeIn : fk_Me := (0, yX0_takeIn, cX0_takeIn, 3, none, [])
def qX1_init : fk_Me := (1, yX1_init, cX1_init, 2, none, [])
def qX1_read : fk_Me := (1, yX1_read, cX1_read, 4, some .int, [])
def qX1_step : fk_Me := (1, yX1_step, cX1_step, 4, some .int, [])
def qX1_peek : fk_Me := (1, yX1_peek, cX1_peek, 1, some .int, [])
def qX1_digits : fk_Me := (1, yX1_digits, cX1_digits, 4, some .int, [])
def qX2_init : fk_Me := (2, yX2_init, cX2_init, 1, none, [])
def qX2_take : fk_Me := (2, yX2_take, cX2_take, 9, some .boolean, [])
def qX2_seek : fk_Me := (2, yX2_seek, cX2_seek, 5, none, [])
def qX2_factsOf : fk_Me := (2, yX2_factsOf, cX2_factsOf, 12, some .int, [])
def qX2_goOn : fk_Me := (2, yX2_goOn, cX2_goOn, 5, some .boolean, [])
def qX2_swap : fk_Me := (2, yX2_swap, cX2_swap, 4, none, [])
def qX3_init : fk_Me := (3, yX3_init, cX3_init, 1, none, [])
def qX3_clear : fk_Me := (3, yX3_clear, cX3_clear, 1, none, [])
def qX3_add : fk_Me := (3, yX3_add, cX3_add, 3, none, [])
def qX3_value : fk_Me := (3, yX3_value, cX3_value, 5, some .int, [])
def qX3_run : fk_Me := (3, yX3_run, cX3_run, 9, some .int, [])
def qX4_init : fk_Me := (4, yX4_init, cX4_init, 3, none, [])
def qX4_read : fk_Me := (4, yX4_read, cX4_read, 5, some .int, [])
def qX4_advance : fk_Me := (4, yX4_advance, cX4_advance, 1, none, [])
def qX4_isOneOf : fk_Me := (4, yX4_isOneOf, cX4_isOneOf, 2, some .boolean, [])
def qX4_sign : fk_Me := (4, yX4_sign, cX4_sign, 2, some .int, [])
def qX4_clause : fk_Me := (4, yX4_clause, cX4_clause, 3, some .int, [])
def qX4_land : fk_Me := (4, yX4_land, cX4_land, 4, none, [])
def qX4_anyOf : fk_Me := (4, yX4_anyOf, cX4_anyOf, 4, some .int, [])
def qX4_allOf : fk_Me := (4, yX4_allOf, cX4_allOf, 4, some .int, [])
def qX4_piece : fk_Me := (4, yX4_piece, cX4_piece, 5, some .int, [])
def qX4_sum : fk_Me := (4, yX4_sum, cX4_sum, 4, some .int, [])
def qX4_product : fk_Me := (4, yX4_product, cX4_product, 4, some .int, [])
def qX4_factor : fk_Me := (4, yX4_factor, cX4_factor, 3, some .int, [])
def qX4_number : fk_Me := (4, yX4_number, cX4_number, 3, some .int, [])
def qX5_init : fk_Me := (5, yX5_init, cX5_init, 1, none, [])
def qX5_tellRoad : fk_Me := (5, yX5_tellRoad, cX5_tellRoad, 6, none, [])
def qX5_isTold : fk_Me := (5, yX5_isTold, cX5_isTold, 2, some .boolean, [])
def qX5_toldRoads : fk_Me := (5, yX5_toldRoads, cX5_toldRoads, 3, some .int, [])
def qX5_tell : fk_Me := (5, yX5_tell, cX5_tell, 3, some .int, [])
def qX5_goalOf : fk_Me := (5, yX5_goalOf, cX5_goalOf, 2, some .int, [])
def qX5_reach : fk_Me := (5, yX5_reach, cX5_reach, 8, some .int, [])
def qX5_groupOf : fk_Me := (5, yX5_groupOf, cX5_groupOf, 5, some .int, [])
def qX5_fewestClosed : fk_Me := (5, yX5_fewestClosed, cX5_fewestClosed, 8, some .int, [])
def qX5_onTheWay : fk_Me := (5, yX5_onTheWay, cX5_onTheWay, 7, some .int, [])
def qX5_forkPlaces : fk_Me := (5, yX5_forkPlaces, cX5_forkPlaces, 5, some .int, [])
def qX5_forked : fk_Me := (5, yX5_forked, cX5_forked, 5, some .long, [])
def qX5_forkedOnce : fk_Me := (5, yX5_forkedOnce, cX5_forkedOnce, 7, some .long, [4])
def qX6_init : fk_Me := (6, yX6_init, cX6_init, 4, none, [])
def qX6_begin : fk_Me := (6, yX6_begin, cX6_begin, 3, none, [])
def qX6_beginPlan : fk_Me := (6, yX6_beginPlan, cX6_beginPlan, 3, none, [])
def qX6_goBy : fk_Me := (6, yX6_goBy, cX6_goBy, 1, none, [])
def qX6_comeNearer : fk_Me := (6, yX6_comeNearer, cX6_comeNearer, 3, none, [])
def qX6_meetAgain : fk_Me := (6, yX6_meetAgain, cX6_meetAgain, 6, none, [])
def qX6_arrive : fk_Me := (6, yX6_arrive, cX6_arrive, 3, none, [])
def qX6_die : fk_Me := (6, yX6_die, cX6_die, 3, none, [])
def qX6_setOut : fk_Me := (6, yX6_setOut, cX6_setOut, 10, none, [])
def qX6_speakOf : fk_Me := (6, yX6_speakOf, cX6_speakOf, 2, none, [])
def qX6_gladness : fk_Me := (6, yX6_gladness, cX6_gladness, 3, some .int, [])
def qX6_fillGladness : fk_Me := (6, yX6_fillGladness, cX6_fillGladness, 4, none, [])
def qX6_doubt : fk_Me := (6, yX6_doubt, cX6_doubt, 2, some .int, [])
def qX6_believed : fk_Me := (6, yX6_believed, cX6_believed, 6, some .int, [])
def qX7_init : fk_Me := (7, yX7_init, cX7_init, 1, none, [])
def qX7_copyFrom : fk_Me := (7, yX7_copyFrom, cX7_copyFrom, 2, none, [])
def qX7_remember : fk_Me := (7, yX7_remember, cX7_remember, 4, none, [])
def qX7_isRemembered : fk_Me := (7, yX7_isRemembered, cX7_isRemembered, 3, some .boolean, [])
def qX7_whereWas : fk_Me := (7, yX7_whereWas, cX7_whereWas, 6, some .int, [])
def qX7_isBeforeIt : fk_Me := (7, yX7_isBeforeIt, cX7_isBeforeIt, 4, some .boolean, [])
def qX8_init : fk_Me := (8, yX8_init, cX8_init, 2, none, [])
def qX8_copyFrom : fk_Me := (8, yX8_copyFrom, cX8_copyFrom, 3, none, [])
def qX8_clearTallies : fk_Me := (8, yX8_clearTallies, cX8_clearTallies, 1, none, [])
def qX8_hasBeen : fk_Me := (8, yX8_hasBeen, cX8_hasBeen, 2, some .boolean, [])
def qX8_isLiving : fk_Me := (8, yX8_isLiving, cX8_isLiving, 2, some .boolean, [])
def qX8_isAtPlace : fk_Me := (8, yX8_isAtPlace, cX8_isAtPlace, 2, some .boolean, [])
def qX8_livingInAll : fk_Me := (8, yX8_livingInAll, cX8_livingInAll, 1, some .int, [])
def qX8_welcome : fk_Me := (8, yX8_welcome, cX8_welcome, 4, some .int, [])
def qX8_part : fk_Me := (8, yX8_part, cX8_part, 5, none, [])
def qX8_merge : fk_Me := (8, yX8_merge, cX8_merge, 4, none, [])
def qX8_bury : fk_Me := (8, yX8_bury, cX8_bury, 4, none, [])
def qX8_draw : fk_Me := (8, yX8_draw, cX8_draw, 1, some .int, [])
def qX8_onlyOneOf : fk_Me := (8, yX8_onlyOneOf, cX8_onlyOneOf, 3, some .int, [])
def qX8_together : fk_Me := (8, yX8_together, cX8_together, 6, some .int, [])
def qX8_weightOf : fk_Me := (8, yX8_weightOf, cX8_weightOf, 7, some .int, [])
def qX8_shareOf : fk_Me := (8, yX8_shareOf, cX8_shareOf, 10, some .int, [])
def qX8_nearestInCommon : fk_Me := (8, yX8_nearestInCommon, cX8_nearestInCommon, 7, some .int, [])
def qX9_init : fk_Me := (9, yX9_init, cX9_init, 4, none, [])
def qX9_seek : fk_Me := (9, yX9_seek, cX9_seek, 14, none, [])
def qX9_attempt : fk_Me := (9, yX9_attempt, cX9_attempt, 6, some .int, [])
def qX10_init : fk_Me := (10, yX10_init, cX10_init, 1, none, [])
def qX10_hasRoomFor : fk_Me := (10, yX10_hasRoomFor, cX10_hasRoomFor, 2, some .boolean, [])
def qX10_put : fk_Me := (10, yX10_put, cX10_put, 3, none, [])
def qX10_byteAt : fk_Me := (10, yX10_byteAt, cX10_byteAt, 2, some .int, [])
def qX10_numberAt : fk_Me := (10, yX10_numberAt, cX10_numberAt, 4, some .int, [])
def qX10_clear : fk_Me := (10, yX10_clear, cX10_clear, 1, none, [])
def qX11_init : fk_Me := (11, yX11_init, cX11_init, 1, none, [])
def qX11_road : fk_Me := (11, yX11_road, cX11_road, 5, some .boolean, [])
def qX11_notice : fk_Me := (11, yX11_notice, cX11_notice, 4, some .boolean, [])
def qX11_comes : fk_Me := (11, yX11_comes, cX11_comes, 3, some .int, [])
def qX11_learns : fk_Me := (11, yX11_learns, cX11_learns, 4, some .boolean, [])
def qX11_owes : fk_Me := (11, yX11_owes, cX11_owes, 3, some .boolean, [])
def qX11_feed : fk_Me := (11, yX11_feed, cX11_feed, 6, some .int, [])
def qX11_law : fk_Me := (11, yX11_law, cX11_law, 4, some .int, [])
def qX11_hours : fk_Me := (11, yX11_hours, cX11_hours, 3, some .int, [])
def qX11_tried : fk_Me := (11, yX11_tried, cX11_tried, 4, some .int, [])
def qX11_half : fk_Me := (11, yX11_half, cX11_half, 4, some .int, [])
def qX11_gladly : fk_Me := (11, yX11_gladly, cX11_gladly, 3, some .int, [])
def qX11_halves : fk_Me := (11, yX11_halves, cX11_halves, 6, some .int, [])
def qX11_was : fk_Me := (11, yX11_was, cX11_was, 3, some .int, [])
def qX11_byForks : fk_Me := (11, yX11_byForks, cX11_byForks, 3, some .long, [])
def qX11_plan : fk_Me := (11, yX11_plan, cX11_plan, 6, some .int, [])
def qX11_joined : fk_Me := (11, yX11_joined, cX11_joined, 4, some .int, [])
def qX11_chosen : fk_Me := (11, yX11_chosen, cX11_chosen, 7, some .int, [])
def qX11_whoWas : fk_Me := (11, yX11_whoWas, cX11_whoWas, 7, some .int, [])
def qX11_meet : fk_Me := (11, yX11_meet, cX11_meet, 5, some .int, [])
def qX11_built : fk_Me := (11, yX11_built, cX11_built, 6, some .int, [])
def qX11_closed : fk_Me := (11, yX11_closed, cX11_closed, 5, some .int, [])
def qX11_history : fk_Me := (11, yX11_history, cX11_history, 5, some .int, [])
def qX11_kin : fk_Me := (11, yX11_kin, cX11_kin, 7, some .int, [])
def qX11_bread : fk_Me := (11, yX11_bread, cX11_bread, 3, some .int, [])
def qX11_vote : fk_Me := (11, yX11_vote, cX11_vote, 6, some .int, [])
def qX11_seed : fk_Me := (11, yX11_seed, cX11_seed, 2, some .boolean, [])
def qX11_keep : fk_Me := (11, yX11_keep, cX11_keep, 1, some .int, [])
def qX11_undo : fk_Me := (11, yX11_undo, cX11_undo, 1, some .boolean, [])
def qX11_check : fk_Me := (11, yX11_check, cX11_check, 5, some .int, [])
def qX11_count : fk_Me := (11, yX11_count, cX11_count, 2, some .int, [])
def qX11_within : fk_Me := (11, yX11_within, cX11_within, 2, some .boolean, [])
def qX11_faultAt : fk_Me := (11, yX11_faultAt, cX11_faultAt, 2, some .int, [])
def qX11_canPass : fk_Me := (11, yX11_canPass, cX11_canPass, 2, some .boolean, [])
def qX11_isTriable : fk_Me := (11, yX11_isTriable, cX11_isTriable, 1, some .boolean, [])
def qX11_isSettled : fk_Me := (11, yX11_isSettled, cX11_isSettled, 8, some .boolean, [])
def qX11_seenHour : fk_Me := (11, yX11_seenHour, cX11_seenHour, 2, some .int, [])
def qX11_seenPlace : fk_Me := (11, yX11_seenPlace, cX11_seenPlace, 2, some .int, [])
def qX11_wasSeen : fk_Me := (11, yX11_wasSeen, cX11_wasSeen, 4, some .boolean, [])
def qX11_isSo : fk_Me := (11, yX11_isSo, cX11_isSo, 4, some .boolean, [])
def qX12_init : fk_Me := (12, yX12_init, cX12_init, 2, none, [])
def qX12_in : fk_Me := (12, yX12_in, cX12_in, 3, some .boolean, [])
def qX12_min : fk_Me := (12, yX12_min, cX12_min, 2, some .int, [])
def qX12_max : fk_Me := (12, yX12_max, cX12_max, 2, some .int, [])
def qX12_has : fk_Me := (12, yX12_has, cX12_has, 2, some .boolean, [])
def qX12_bits : fk_Me := (12, yX12_bits, cX12_bits, 3, some .int, [])
def qX12_copies : fk_Me := (12, yX12_copies, cX12_copies, 3, none, [])
def qX12_begins : fk_Me := (12, yX12_begins, cX12_begins, 1, none, [])
def qX12_again : fk_Me := (12, yX12_again, cX12_again, 1, none, [])
def qX12_isPlace : fk_Me := (12, yX12_isPlace, cX12_isPlace, 1, some .boolean, [])
def qX12_isRoad : fk_Me := (12, yX12_isRoad, cX12_isRoad, 2, some .boolean, [])
def qX12_isOne : fk_Me := (12, yX12_isOne, cX12_isOne, 1, some .boolean, [])
def qX12_isFact : fk_Me := (12, yX12_isFact, cX12_isFact, 1, some .boolean, [])
def qX12_road : fk_Me := (12, yX12_road, cX12_road, 5, some .boolean, [])
def qX12_notice : fk_Me := (12, yX12_notice, cX12_notice, 4, some .boolean, [])
def qX12_lives : fk_Me := (12, yX12_lives, cX12_lives, 2, some .boolean, [])
def qX12_isHalf : fk_Me := (12, yX12_isHalf, cX12_isHalf, 2, some .boolean, [])
def qX12_isLiving : fk_Me := (12, yX12_isLiving, cX12_isLiving, 2, some .boolean, [])
def qX12_isAt : fk_Me := (12, yX12_isAt, cX12_isAt, 2, some .boolean, [])
def qX12_livingOf : fk_Me := (12, yX12_livingOf, cX12_livingOf, 4, some .int, [])
def qX12_living : fk_Me := (12, yX12_living, cX12_living, 3, some .int, [])
def qX12_begin : fk_Me := (12, yX12_begin, cX12_begin, 5, some .int, [])
def qX12_comes : fk_Me := (12, yX12_comes, cX12_comes, 4, some .int, [])
def qX12_knows : fk_Me := (12, yX12_knows, cX12_knows, 4, none, [])
def qX12_learns : fk_Me := (12, yX12_learns, cX12_learns, 4, some .boolean, [])
def qX12_owes : fk_Me := (12, yX12_owes, cX12_owes, 3, some .boolean, [])
def qX12_types : fk_Me := (12, yX12_types, cX12_types, 3, none, [])
def qX12_feed : fk_Me := (12, yX12_feed, cX12_feed, 6, some .int, [])
def qX12_here : fk_Me := (12, yX12_here, cX12_here, 1, some .int, [])
def qX12_isDigit : fk_Me := (12, yX12_isDigit, cX12_isDigit, 1, some .boolean, [])
def qX12_wrongAt : fk_Me := (12, yX12_wrongAt, cX12_wrongAt, 3, some .boolean, [])
def qX12_takes : fk_Me := (12, yX12_takes, cX12_takes, 2, some .boolean, [])
def qX12_readsNumber : fk_Me := (12, yX12_readsNumber, cX12_readsNumber, 2, some .boolean, [])
def qX12_notes : fk_Me := (12, yX12_notes, cX12_notes, 3, none, [])
def qX12_opens : fk_Me := (12, yX12_opens, cX12_opens, 2, some .boolean, [])
def qX12_waitTop : fk_Me := (12, yX12_waitTop, cX12_waitTop, 1, some .int, [])
def qX12_factOf : fk_Me := (12, yX12_factOf, cX12_factOf, 1, some .int, [])
def qX12_sumSign : fk_Me := (12, yX12_sumSign, cX12_sumSign, 1, some .int, [])
def qX12_closesSums : fk_Me := (12, yX12_closesSums, cX12_closesSums, 2, none, [])
def qX12_readsFactor : fk_Me := (12, yX12_readsFactor, cX12_readsFactor, 2, some .boolean, [])
def qX12_hasOpenSum : fk_Me := (12, yX12_hasOpenSum, cX12_hasOpenSum, 3, some .boolean, [])
def qX12_readsSum : fk_Me := (12, yX12_readsSum, cX12_readsSum, 3, some .boolean, [])
def qX12_endsPiece : fk_Me := (12, yX12_endsPiece, cX12_endsPiece, 1, none, [])
def qX12_lands : fk_Me := (12, yX12_lands, cX12_lands, 3, none, [])
def qX12_jumps : fk_Me := (12, yX12_jumps, cX12_jumps, 2, none, [])
def qX12_readsCompared : fk_Me := (12, yX12_readsCompared, cX12_readsCompared, 2, some .boolean, [])
def qX12_readsCondition : fk_Me := (12, yX12_readsCondition, cX12_readsCondition, 1, some .boolean, [])
def qX12_isClause : fk_Me := (12, yX12_isClause, cX12_isClause, 1, some .boolean, [])
def qX12_readsClause : fk_Me := (12, yX12_readsClause, cX12_readsClause, 2, some .boolean, [])
def qX12_law : fk_Me := (12, yX12_law, cX12_law, 4, some .int, [])
def qX12_reckon : fk_Me := (12, yX12_reckon, cX12_reckon, 3, some .int, [])
def qX12_comesTo : fk_Me := (12, yX12_comesTo, cX12_comesTo, 8, some .int, [])
def qX12_byLaw : fk_Me := (12, yX12_byLaw, cX12_byLaw, 5, some .int, [])
def qX12_isElder : fk_Me := (12, yX12_isElder, cX12_isElder, 2, some .boolean, [])
def qX12_feels : fk_Me := (12, yX12_feels, cX12_feels, 3, none, [])
def qX12_gladlyFor : fk_Me := (12, yX12_gladlyFor, cX12_gladlyFor, 3, some .int, [])
def qX12_remembers : fk_Me := (12, yX12_remembers, cX12_remembers, 3, none, [])
def qX12_goesOn : fk_Me := (12, yX12_goesOn, cX12_goesOn, 2, none, [])
def qX12_merges : fk_Me := (12, yX12_merges, cX12_merges, 6, none, [])
def qX12_arrives : fk_Me := (12, yX12_arrives, cX12_arrives, 3, none, [])
def qX12_mayDie : fk_Me := (12, yX12_mayDie, cX12_mayDie, 3, none, [])
def qX12_doubtOf : fk_Me := (12, yX12_doubtOf, cX12_doubtOf, 2, some .int, [])
def qX12_bestRoad : fk_Me := (12, yX12_bestRoad, cX12_bestRoad, 7, some .int, [])
def qX12_sets : fk_Me := (12, yX12_sets, cX12_sets, 3, none, [])
def qX12_leaves : fk_Me := (12, yX12_leaves, cX12_leaves, 7, none, [])
def qX12_hourGoes : fk_Me := (12, yX12_hourGoes, cX12_hourGoes, 3, none, [])
def qX12_hours : fk_Me := (12, yX12_hours, cX12_hours, 3, some .int, [])
def qX12_sumFor : fk_Me := (12, yX12_sumFor, cX12_sumFor, 5, some .int, [])
def qX12_triedBy : fk_Me := (12, yX12_triedBy, cX12_triedBy, 2, some .int, [])
def qX12_tried : fk_Me := (12, yX12_tried, cX12_tried, 5, some .int, [])
def qX12_half : fk_Me := (12, yX12_half, cX12_half, 3, some .int, [])
def qX12_gladly : fk_Me := (12, yX12_gladly, cX12_gladly, 3, some .int, [])
def qX12_halves : fk_Me := (12, yX12_halves, cX12_halves, 5, some .int, [])
def qX12_isRemembered : fk_Me := (12, yX12_isRemembered, cX12_isRemembered, 2, some .boolean, [])
def qX12_wasAt : fk_Me := (12, yX12_wasAt, cX12_wasAt, 4, some .int, [])
def qX12_was : fk_Me := (12, yX12_was, cX12_was, 3, some .int, [])
def qX12_byForks : fk_Me := (12, yX12_byForks, cX12_byForks, 9, some .long, [6])
def qX12_forksOf : fk_Me := (12, yX12_forksOf, cX12_forksOf, 5, some .int, [])
def qX12_aliveOf : fk_Me := (12, yX12_aliveOf, cX12_aliveOf, 4, some .int, [])
def qX12_triesPlan : fk_Me := (12, yX12_triesPlan, cX12_triesPlan, 6, none, [])
def qX12_plan : fk_Me := (12, yX12_plan, cX12_plan, 7, some .int, [])
def qX12_takesHalves : fk_Me := (12, yX12_takesHalves, cX12_takesHalves, 6, some .boolean, [])
def qX12_readsJoins : fk_Me := (12, yX12_readsJoins, cX12_readsJoins, 5, some .boolean, [])
def qX12_knownBy : fk_Me := (12, yX12_knownBy, cX12_knownBy, 12, some .int, [])
def qX12_joined : fk_Me := (12, yX12_joined, cX12_joined, 8, some .int, [])
def qX12_gainOf : fk_Me := (12, yX12_gainOf, cX12_gainOf, 5, some .int, [])
def qX12_isGlad : fk_Me := (12, yX12_isGlad, cX12_isGlad, 3, some .boolean, [])
def qX12_rests : fk_Me := (12, yX12_rests, cX12_rests, 6, some .boolean, [])
def qX12_chosen : fk_Me := (12, yX12_chosen, cX12_chosen, 7, some .int, [])
def qX12_hourAt : fk_Me := (12, yX12_hourAt, cX12_hourAt, 2, some .int, [])
def qX12_wasThere : fk_Me := (12, yX12_wasThere, cX12_wasThere, 4, some .boolean, [])
def qX12_whoWas : fk_Me := (12, yX12_whoWas, cX12_whoWas, 6, some .int, [])
def qX12_reachedFrom : fk_Me := (12, yX12_reachedFrom, cX12_reachedFrom, 6, some .int, [])
def qX12_meet : fk_Me := (12, yX12_meet, cX12_meet, 4, some .int, [])
def qX12_isLast : fk_Me := (12, yX12_isLast, cX12_isLast, 4, some .boolean, [])
def qX12_built : fk_Me := (12, yX12_built, cX12_built, 8, some .int, [])
def qX12_closed : fk_Me := (12, yX12_closed, cX12_closed, 7, some .int, [])
def qX12_readsDigits : fk_Me := (12, yX12_readsDigits, cX12_readsDigits, 3, some .boolean, [])
def qX12_readsStep : fk_Me := (12, yX12_readsStep, cX12_readsStep, 2, some .boolean, [])
def qX12_history : fk_Me := (12, yX12_history, cX12_history, 5, some .int, [])
def qX12_isFrom : fk_Me := (12, yX12_isFrom, cX12_isFrom, 4, some .boolean, [])
def qX12_kin : fk_Me := (12, yX12_kin, cX12_kin, 7, some .int, [])
def qX12_bread : fk_Me := (12, yX12_bread, cX12_bread, 10, some .int, [])
def qX12_weightFor : fk_Me := (12, yX12_weightFor, cX12_weightFor, 6, some .int, [])
def qX12_vote : fk_Me := (12, yX12_vote, cX12_vote, 6, some .int, [])
def qX12_seed : fk_Me := (12, yX12_seed, cX12_seed, 2, some .boolean, [])
def qX12_keep : fk_Me := (12, yX12_keep, cX12_keep, 1, some .int, [])
def qX12_undo : fk_Me := (12, yX12_undo, cX12_undo, 1, some .boolean, [])
def qX12_tapeNumber : fk_Me := (12, yX12_tapeNumber, cX12_tapeNumber, 4, some .int, [])
def qX12_check : fk_Me := (12, yX12_check, cX12_check, 3, some .int, [])
def qX12_roadMany : fk_Me := (12, yX12_roadMany, cX12_roadMany, 3, some .int, [])
def qX12_count : fk_Me := (12, yX12_count, cX12_count, 2, some .int, [])
def qJ6_bitCount_0f7a4 : fk_Me := (15, yJ6_bitCount_0f7a4, cJ6_bitCount_0f7a4, 1, some .int, [])
def qJ0_length_8abf5 : fk_Me := (17, yJ0_length_8abf5, cJ0_length_8abf5, 1, some .int, [])
def qJ0_indexOf_0f7a4 : fk_Me := (17, yJ0_indexOf_0f7a4, cJ0_indexOf_0f7a4, 2, some .int, [])
def qJ0_indexOf_7cf53 : fk_Me := (17, yJ0_indexOf_7cf53, cJ0_indexOf_7cf53, 3, some .int, [])
def qJ0_coder_7d493 : fk_Me := (17, yJ0_coder_7d493, cJ0_coder_7d493, 1, some .byte, [])
def qJ0_isLatin1_aae02 : fk_Me := (17, yJ0_isLatin1_aae02, cJ0_isLatin1_aae02, 1, some .boolean, [])
def qJ1_canEncode_9a6ad : fk_Me := (18, yJ1_canEncode_9a6ad, cJ1_canEncode_9a6ad, 1, some .boolean, [])
def qJ1_indexOf_4cfef : fk_Me := (18, yJ1_indexOf_4cfef, cJ1_indexOf_4cfef, 4, some .int, [])
def qJ1_indexOfChar_4cfef : fk_Me := (18, yJ1_indexOfChar_4cfef, cJ1_indexOfChar_4cfef, 6, some .int, [])
def qJ7_fill_53178 : fk_Me := (14, yJ7_fill_53178, cJ7_fill_53178, 4, none, [])
def qL_law : fk_Me := (13, yL_law, cL_law, 4, some .boolean, [])
theorem goodIn_m {big : List Cond} (ws : List Cond) (ps : List Nat) (hp : ws = ps.filterMap (fun i => big[i]?)) : ∀ w ∈ ws, w ∈ big := by
  intro w hw
  rw [hp] at hw
  obtain ⟨i, -, hi⟩ := List.mem_filterMap.mp hw
  exact List.mem_of_getElem? hi
/-- ((class, index), (class of the object, field, 0 plain 1 nest 2 final), place of the word) -/
def fk_fT_0 : List ((Nat × Nat) × (Nat × Nat × Nat) × Nat) := [((3, 9), (3, 0, 2), 141), ((4, 105), (3, 0, 3), 142), ((3, 15), (3, 1, 2), 143), ((4, 108), (3, 1, 3), 144), ((3, 18), (3, 2, 2), 145), ((4, 80), (3, 2, 3), 146), ((3, 21), (3, 3, 2), 147), ((4, 83), (3, 3, 3), 148), ((3, 24), (3, 4, 2), 149), ((4, 96), (3, 4, 3), 150), ((3, 27), (3, 5, 2), 151), ((4, 102), (3, 5, 3), 152), ((3, 30), (3, 6, 2), 153), ((3, 33), (3, 7, 0), 154), ((4, 86), (3, 7, 1), 155), ((3, 37), (3, 8, 0), 156), ((4, 77), (3, 8, 1), 157), ((11, 170), (3, 8, 1), 158), ((5, 9), (5, 0, 2), 188), ((6, 159), (5, 0, 3), 189), ((11, 258), (5, 0, 3), 190), ((5, 15), (5, 1, 2), 191), ((6, 88), (5, 1, 3), 192), ((5, 18), (5, 2, 2), 193), ((6, 172), (5, 2, 3), 194), ((5, 21), (5, 3, 2), 195), ((11, 118), (5, 3, 3), 196), ((6, 119), (5, 3, 3), 197), ((5, 24), (5, 4, 2), 198), ((11, 121), (5, 4, 3), 199), ((6, 122), (5, 4, 3), 200), ((5, 27), (5, 5, 2), 201), ((5, 30), (5, 6, 2), 202), ((10, 9), (10, 0, 2), 225), ((10, 15), (10, 1, 0), 226), ((11, 160), (10, 1, 1), 227), ((4, 25), (4, 0, 2), 239), ((4, 9), (4, 1, 2), 240), ((4, 29), (4, 2, 0), 241), ((4, 15), (4, 3, 0), 242)]
def fk_fT_1 : List ((Nat × Nat) × (Nat × Nat × Nat) × Nat) := [((4, 19), (4, 4, 0), 243), ((4, 22), (4, 5, 0), 244), ((1, 9), (1, 0, 2), 264), ((11, 352), (1, 0, 3), 265), ((1, 15), (1, 1, 2), 266), ((11, 355), (1, 1, 3), 267), ((1, 28), (1, 2, 2), 268), ((1, 18), (1, 3, 0), 269), ((11, 349), (1, 3, 1), 270), ((1, 22), (1, 4, 0), 271), ((1, 25), (1, 5, 0), 272), ((0, 9), (0, 0, 2), 299), ((2, 66), (0, 0, 3), 300), ((8, 71), (0, 0, 3), 301), ((6, 183), (0, 0, 3), 302), ((0, 15), (0, 1, 0), 303), ((2, 41), (0, 1, 1), 304), ((9, 67), (0, 1, 1), 305), ((6, 95), (0, 1, 1), 306), ((8, 90), (0, 1, 1), 307), ((11, 218), (0, 1, 1), 308), ((0, 18), (0, 2, 0), 309), ((7, 48), (0, 2, 1), 310), ((8, 74), (0, 2, 1), 311), ((11, 221), (0, 2, 1), 312), ((0, 21), (0, 3, 0), 313), ((7, 58), (0, 3, 1), 314), ((8, 77), (0, 3, 1), 315), ((6, 198), (0, 3, 1), 316), ((11, 224), (0, 3, 1), 317), ((0, 24), (0, 4, 0), 318), ((8, 60), (0, 4, 1), 319), ((6, 73), (0, 4, 1), 320), ((11, 227), (0, 4, 1), 321), ((0, 28), (0, 5, 0), 322), ((8, 80), (0, 5, 1), 323), ((6, 166), (0, 5, 1), 324), ((11, 230), (0, 5, 1), 325), ((9, 42), (0, 6, 1), 326), ((0, 31), (0, 6, 0), 327)]
def fk_fT_2 : List ((Nat × Nat) × (Nat × Nat × Nat) × Nat) := [((7, 35), (0, 6, 1), 328), ((6, 98), (0, 6, 1), 329), ((5, 54), (0, 6, 1), 330), ((8, 64), (0, 6, 1), 331), ((11, 233), (0, 6, 1), 332), ((0, 34), (0, 7, 0), 333), ((6, 76), (0, 7, 1), 334), ((5, 48), (0, 7, 1), 335), ((11, 236), (0, 7, 1), 336), ((0, 37), (0, 8, 0), 337), ((6, 85), (0, 8, 1), 338), ((11, 239), (0, 8, 1), 339), ((0, 40), (0, 9, 0), 340), ((6, 101), (0, 9, 1), 341), ((8, 103), (0, 9, 1), 342), ((11, 242), (0, 9, 1), 343), ((0, 43), (0, 10, 0), 344), ((11, 150), (0, 10, 1), 345), ((6, 134), (0, 10, 1), 346), ((8, 113), (0, 10, 1), 347), ((0, 46), (0, 11, 0), 348), ((2, 60), (0, 11, 1), 349), ((6, 189), (0, 11, 1), 350), ((0, 49), (0, 12, 0), 351), ((2, 63), (0, 12, 1), 352), ((0, 52), (0, 13, 0), 353), ((11, 245), (0, 13, 1), 354), ((0, 55), (0, 14, 0), 355), ((6, 67), (0, 14, 1), 356), ((8, 83), (0, 14, 1), 357), ((8, 11), (8, 0, 2), 389), ((9, 36), (8, 0, 3), 390), ((2, 37), (8, 0, 3), 391), ((7, 31), (8, 0, 3), 392), ((6, 63), (8, 0, 3), 393), ((11, 139), (8, 0, 3), 394), ((8, 17), (8, 1, 2), 395), ((9, 84), (8, 1, 3), 396), ((11, 124), (8, 1, 3), 397), ((6, 186), (8, 1, 3), 398)]
def fk_fT_3 : List ((Nat × Nat) × (Nat × Nat × Nat) × Nat) := [((8, 21), (8, 2, 0), 399), ((11, 127), (8, 2, 1), 400), ((6, 60), (8, 2, 1), 401), ((8, 25), (8, 3, 0), 402), ((7, 21), (8, 3, 1), 403), ((6, 55), (8, 3, 1), 404), ((11, 380), (8, 3, 1), 405), ((8, 28), (8, 4, 0), 406), ((11, 371), (8, 4, 1), 407), ((8, 31), (8, 5, 0), 408), ((11, 200), (8, 5, 1), 409), ((8, 34), (8, 6, 0), 410), ((11, 203), (8, 6, 1), 411), ((8, 37), (8, 7, 0), 412), ((11, 206), (8, 7, 1), 413), ((8, 40), (8, 8, 0), 414), ((11, 209), (8, 8, 1), 415), ((7, 9), (7, 0, 2), 441), ((6, 28), (6, 0, 2), 451), ((6, 9), (6, 1, 2), 452), ((6, 32), (6, 2, 0), 453), ((6, 36), (6, 3, 0), 454), ((6, 15), (6, 4, 0), 455), ((6, 19), (6, 5, 0), 456), ((6, 22), (6, 6, 0), 457), ((9, 78), (6, 6, 1), 458), ((6, 25), (6, 7, 0), 459), ((9, 93), (6, 7, 1), 460), ((9, 24), (9, 0, 2), 484), ((9, 28), (9, 1, 2), 485), ((9, 32), (9, 2, 2), 486), ((9, 9), (9, 3, 0), 487), ((11, 283), (9, 3, 1), 488), ((9, 15), (9, 4, 0), 489), ((11, 286), (9, 4, 1), 490), ((9, 18), (9, 5, 0), 491), ((11, 289), (9, 5, 1), 492), ((9, 21), (9, 6, 0), 493), ((2, 9), (2, 0, 2), 515), ((2, 15), (2, 1, 2), 516)]
def fk_fT_4 : List ((Nat × Nat) × (Nat × Nat × Nat) × Nat) := [((11, 300), (2, 1, 3), 517), ((2, 18), (2, 2, 0), 518), ((2, 22), (2, 3, 0), 519), ((11, 299), (2, 3, 1), 520), ((11, 10), (11, 0, 0), 530), ((11, 16), (11, 1, 0), 531), ((11, 19), (11, 2, 0), 532), ((11, 26), (11, 3, 2), 533), ((11, 33), (11, 4, 2), 534), ((11, 42), (11, 5, 2), 535), ((11, 51), (11, 6, 2), 536), ((11, 58), (11, 7, 2), 537), ((11, 62), (11, 8, 2), 538), ((11, 65), (11, 9, 2), 539), ((11, 71), (11, 10, 2), 540), ((11, 75), (11, 11, 2), 541), ((11, 83), (11, 12, 2), 542), ((11, 92), (11, 13, 2), 543), ((11, 99), (11, 14, 2), 544), ((11, 103), (11, 15, 2), 545), ((11, 107), (11, 16, 2), 546), ((12, 7), (12, 0, 2), 1248), ((12, 13), (12, 1, 2), 1249), ((12, 16), (12, 2, 2), 1250), ((12, 105), (12, 3, 0), 1251), ((12, 19), (12, 4, 2), 1252), ((12, 22), (12, 5, 2), 1253), ((12, 25), (12, 6, 2), 1254), ((12, 28), (12, 7, 2), 1255), ((12, 31), (12, 8, 2), 1256), ((12, 35), (12, 9, 2), 1257), ((12, 148), (12, 10, 0), 1258), ((12, 155), (12, 11, 0), 1259), ((12, 158), (12, 12, 0), 1260), ((12, 165), (12, 13, 0), 1261), ((12, 171), (12, 14, 0), 1262), ((12, 182), (12, 15, 0), 1263), ((12, 178), (12, 16, 0), 1264), ((12, 185), (12, 17, 0), 1265), ((12, 235), (12, 18, 0), 1266)]
def fk_fT_5 : List ((Nat × Nat) × (Nat × Nat × Nat) × Nat) := [((12, 247), (12, 19, 0), 1267), ((12, 39), (12, 20, 2), 1268), ((12, 42), (12, 21, 2), 1269), ((12, 45), (12, 22, 2), 1270), ((12, 48), (12, 23, 2), 1271), ((12, 51), (12, 24, 2), 1272), ((12, 54), (12, 25, 2), 1273), ((12, 57), (12, 26, 2), 1274), ((12, 60), (12, 27, 2), 1275), ((12, 63), (12, 28, 2), 1276), ((12, 66), (12, 29, 2), 1277), ((12, 69), (12, 30, 2), 1278), ((12, 72), (12, 31, 2), 1279), ((12, 75), (12, 32, 2), 1280), ((12, 97), (12, 33, 0), 1281), ((12, 286), (12, 34, 0), 1282), ((12, 272), (12, 35, 0), 1283), ((12, 281), (12, 36, 0), 1284), ((12, 78), (12, 37, 2), 1285), ((12, 81), (12, 38, 2), 1286), ((12, 351), (12, 39, 0), 1287), ((12, 354), (12, 40, 0), 1288), ((12, 357), (12, 41, 0), 1289), ((12, 85), (12, 42, 2), 1290), ((12, 88), (12, 43, 2), 1291), ((12, 369), (12, 44, 0), 1292), ((12, 406), (12, 45, 0), 1293), ((12, 409), (12, 46, 0), 1294), ((12, 91), (12, 47, 2), 1295), ((12, 94), (12, 48, 2), 1296), ((12, 422), (12, 49, 0), 1297)]
def fk_fT : List ((Nat × Nat) × (Nat × Nat × Nat) × Nat) := fk_fT_0 ++ (fk_fT_1 ++ (fk_fT_2 ++ (fk_fT_3 ++ (fk_fT_4 ++ (fk_fT_5)))))
def fk_q_0 : List (Nat × fk_Me × Nat) := [(4, qX0_init, 1), (0, qX0_copyFrom, 1), (0, qX0_beNew, 3), (0, qX0_standAt, 1), (0, qX0_goOn, 2), (0, qX0_know, 2), (0, qX0_knows, 1), (0, qX0_clash, 1), (0, qX0_takeIn, 2), (4, qX1_init, 1), (0, qX1_read, 1), (0, qX1_step, 0), (0, qX1_peek, 0), (0, qX1_digits, 1), (4, qX2_init, 0), (0, qX2_take, 3), (0, qX2_seek, 2), (0, qX2_factsOf, 2), (0, qX2_goOn, 0), (0, qX2_swap, 2), (4, qX3_init, 0), (0, qX3_clear, 0), (0, qX3_add, 2), (0, qX3_value, 3)]
def fk_q_1 : List (Nat × fk_Me × Nat) := [(0, qX3_run, 3), (4, qX4_init, 2), (0, qX4_read, 2), (0, qX4_advance, 0), (0, qX4_isOneOf, 1), (0, qX4_sign, 1), (0, qX4_clause, 0), (0, qX4_land, 2), (0, qX4_anyOf, 1), (0, qX4_allOf, 1), (0, qX4_piece, 1), (0, qX4_sum, 1), (0, qX4_product, 1), (0, qX4_factor, 1), (0, qX4_number, 0), (4, qX5_init, 0), (0, qX5_tellRoad, 4), (0, qX5_isTold, 1), (0, qX5_toldRoads, 0), (0, qX5_tell, 1), (0, qX5_goalOf, 1), (0, qX5_reach, 2), (0, qX5_groupOf, 1), (0, qX5_fewestClosed, 2)]
def fk_q_2 : List (Nat × fk_Me × Nat) := [(0, qX5_onTheWay, 2), (0, qX5_forkPlaces, 0), (0, qX5_forked, 2), (0, qX5_forkedOnce, 2), (4, qX6_init, 3), (0, qX6_begin, 2), (0, qX6_beginPlan, 2), (0, qX6_goBy, 0), (0, qX6_comeNearer, 0), (0, qX6_meetAgain, 0), (0, qX6_arrive, 0), (0, qX6_die, 0), (0, qX6_setOut, 0), (0, qX6_speakOf, 1), (0, qX6_gladness, 2), (0, qX6_fillGladness, 2), (0, qX6_doubt, 1), (0, qX6_believed, 3), (4, qX7_init, 0), (0, qX7_copyFrom, 1), (0, qX7_remember, 1), (0, qX7_isRemembered, 2), (0, qX7_whereWas, 3), (0, qX7_isBeforeIt, 3)]
def fk_q_3 : List (Nat × fk_Me × Nat) := [(4, qX8_init, 0), (0, qX8_copyFrom, 1), (0, qX8_clearTallies, 0), (0, qX8_hasBeen, 1), (0, qX8_isLiving, 1), (0, qX8_isAtPlace, 1), (0, qX8_livingInAll, 0), (0, qX8_welcome, 2), (0, qX8_part, 3), (0, qX8_merge, 3), (0, qX8_bury, 1), (0, qX8_draw, 0), (0, qX8_onlyOneOf, 1), (0, qX8_together, 2), (0, qX8_weightOf, 3), (0, qX8_shareOf, 2), (0, qX8_nearestInCommon, 2), (4, qX9_init, 3), (0, qX9_seek, 5), (0, qX9_attempt, 3), (4, qX10_init, 0), (0, qX10_hasRoomFor, 1), (0, qX10_put, 1), (0, qX10_byteAt, 1)]
def fk_q_4 : List (Nat × fk_Me × Nat) := [(0, qX10_numberAt, 1), (0, qX10_clear, 0), (4, qX11_init, 0), (0, qX11_road, 4), (0, qX11_notice, 3), (0, qX11_comes, 2), (0, qX11_learns, 3), (0, qX11_owes, 2), (0, qX11_feed, 5), (0, qX11_law, 1), (0, qX11_hours, 1), (0, qX11_tried, 2), (0, qX11_half, 2), (0, qX11_gladly, 2), (0, qX11_halves, 2), (0, qX11_was, 2), (0, qX11_byForks, 2), (0, qX11_plan, 4), (0, qX11_joined, 2), (0, qX11_chosen, 3), (0, qX11_whoWas, 2), (0, qX11_meet, 1), (0, qX11_built, 1), (0, qX11_closed, 3)]
def fk_q_5 : List (Nat × fk_Me × Nat) := [(0, qX11_history, 2), (0, qX11_kin, 3), (0, qX11_bread, 2), (0, qX11_vote, 3), (0, qX11_seed, 1), (0, qX11_keep, 0), (0, qX11_undo, 0), (0, qX11_check, 1), (0, qX11_count, 1), (2, qX11_within, 2), (2, qX11_faultAt, 2), (0, qX11_canPass, 1), (2, qX11_isTriable, 1), (0, qX11_isSettled, 2), (0, qX11_seenHour, 1), (0, qX11_seenPlace, 1), (0, qX11_wasSeen, 2), (0, qX11_isSo, 3), (4, qX12_init, 0), (2, qX12_in, 3), (2, qX12_min, 2), (2, qX12_max, 2), (2, qX12_has, 2), (2, qX12_bits, 1)]
def fk_q_6 : List (Nat × fk_Me × Nat) := [(2, qX12_copies, 2), (0, qX12_begins, 0), (0, qX12_again, 0), (2, qX12_isPlace, 1), (0, qX12_isRoad, 1), (2, qX12_isOne, 1), (2, qX12_isFact, 1), (0, qX12_road, 4), (0, qX12_notice, 3), (0, qX12_lives, 1), (0, qX12_isHalf, 1), (0, qX12_isLiving, 1), (0, qX12_isAt, 1), (0, qX12_livingOf, 1), (0, qX12_living, 0), (0, qX12_begin, 3), (0, qX12_comes, 2), (0, qX12_knows, 3), (0, qX12_learns, 3), (0, qX12_owes, 2), (0, qX12_types, 1), (0, qX12_feed, 5), (0, qX12_here, 0), (0, qX12_isDigit, 0)]
def fk_q_7 : List (Nat × fk_Me × Nat) := [(0, qX12_wrongAt, 2), (0, qX12_takes, 1), (0, qX12_readsNumber, 0), (0, qX12_notes, 2), (0, qX12_opens, 1), (0, qX12_waitTop, 0), (2, qX12_factOf, 1), (2, qX12_sumSign, 1), (0, qX12_closesSums, 1), (0, qX12_readsFactor, 0), (0, qX12_hasOpenSum, 1), (0, qX12_readsSum, 0), (0, qX12_endsPiece, 0), (0, qX12_lands, 1), (0, qX12_jumps, 1), (0, qX12_readsCompared, 0), (0, qX12_readsCondition, 0), (2, qX12_isClause, 1), (0, qX12_readsClause, 0), (0, qX12_law, 1), (2, qX12_reckon, 3), (0, qX12_comesTo, 2), (0, qX12_byLaw, 2), (0, qX12_isElder, 0)]
def fk_q_8 : List (Nat × fk_Me × Nat) := [(0, qX12_feels, 1), (0, qX12_gladlyFor, 2), (0, qX12_remembers, 0), (0, qX12_goesOn, 1), (0, qX12_merges, 2), (0, qX12_arrives, 1), (0, qX12_mayDie, 1), (0, qX12_doubtOf, 1), (0, qX12_bestRoad, 2), (0, qX12_sets, 2), (0, qX12_leaves, 1), (0, qX12_hourGoes, 0), (0, qX12_hours, 1), (0, qX12_sumFor, 2), (0, qX12_triedBy, 1), (0, qX12_tried, 2), (0, qX12_half, 2), (0, qX12_gladly, 2), (0, qX12_halves, 2), (0, qX12_isRemembered, 1), (0, qX12_wasAt, 2), (0, qX12_was, 2), (0, qX12_byForks, 2), (0, qX12_forksOf, 0)]
def fk_q_9 : List (Nat × fk_Me × Nat) := [(0, qX12_aliveOf, 1), (0, qX12_triesPlan, 3), (0, qX12_plan, 4), (0, qX12_takesHalves, 1), (0, qX12_readsJoins, 1), (0, qX12_knownBy, 0), (0, qX12_joined, 2), (0, qX12_gainOf, 3), (0, qX12_isGlad, 2), (0, qX12_rests, 4), (0, qX12_chosen, 3), (0, qX12_hourAt, 1), (0, qX12_wasThere, 2), (0, qX12_whoWas, 2), (0, qX12_reachedFrom, 2), (0, qX12_meet, 1), (0, qX12_isLast, 1), (0, qX12_built, 1), (0, qX12_closed, 3), (0, qX12_readsDigits, 1), (0, qX12_readsStep, 0), (0, qX12_history, 2), (0, qX12_isFrom, 2), (0, qX12_kin, 3)]
def fk_q_10 : List (Nat × fk_Me × Nat) := [(0, qX12_bread, 2), (0, qX12_weightFor, 3), (0, qX12_vote, 3), (0, qX12_seed, 1), (0, qX12_keep, 0), (0, qX12_undo, 0), (0, qX12_tapeNumber, 1), (0, qX12_check, 1), (0, qX12_roadMany, 0), (0, qX12_count, 1), (2, qJ6_bitCount_0f7a4, 1), (8, qJ0_length_8abf5, 0), (8, qJ0_indexOf_0f7a4, 1), (8, qJ0_indexOf_7cf53, 2), (8, qJ0_coder_7d493, 0), (8, qJ0_isLatin1_aae02, 0), (2, qJ1_canEncode_9a6ad, 1), (2, qJ1_indexOf_4cfef, 4), (2, qJ1_indexOfChar_4cfef, 4), (2, qJ7_fill_53178, 2)]
def fk_qs : List (Nat × fk_Me × Nat) := fk_q_0 ++ (fk_q_1 ++ (fk_q_2 ++ (fk_q_3 ++ (fk_q_4 ++ (fk_q_5 ++ (fk_q_6 ++ (fk_q_7 ++ (fk_q_8 ++ (fk_q_9 ++ (fk_q_10))))))))))
/-- what is known of a method that is called: its kind (0 of an object, 2 static, 4 a constructor), how many arguments -/
def fk_qP (e : Nat × fk_Me × Nat) : Prop := (Cond.code e.2.1.2.1 e.2.1.2.2.1 e.2.1.2.2.2.1 e.2.1.2.2.2.2.1 ∈ lw_tbl ∧ Cond.initialized e.2.1.2.1.cls ∈ lw_tbl ∧ e.2.1.2.1.cls = fk_cn e.2.1.1) ∧ (plainName e.2.1.2.1.cls = true ∧ e.2.1.2.1.cls ≠ "java/lang/invoke/MethodHandle" ∧ e.2.1.2.1.cls ≠ "java/lang/invoke/VarHandle" ∧ (parseMethodDescriptor e.2.1.2.1.desc).map (fun d => d.parameters.length) = some e.2.2) ∧ e.2.1.2.2.2.1 ≤ 20 ∧ (e.1 = 2 → Cond.static e.2.1.2.1 ∈ lw_tbl) ∧ (e.1 = 0 → Cond.instanceMethod e.2.1.2.1 ∈ lw_tbl ∧ Cond.selects e.2.1.2.1.cls e.2.1.2.1 e.2.1.2.1 ∈ lw_tbl ∧ e.2.1.1 < 13) ∧ (e.1 = 4 → Cond.instanceMethod e.2.1.2.1 ∈ lw_tbl ∧ e.2.1.2.1.name = "<init>" ∧ e.2.1.2.2.2.2.1 = none ∧ e.2.1.1 < 13) ∧ (e.1 = 8 → Cond.instanceMethod e.2.1.2.1 ∈ lw_tbl ∧ Cond.selects e.2.1.2.1.cls e.2.1.2.1 e.2.1.2.1 ∈ lw_tbl ∧ e.2.1.1 = 17)
theorem fk_pd0 : (parseMethodDescriptor "(I)V").map (fun d => d.parameters.length) = some 1 := by decide +kernel
theorem fk_pd1 : (parseMethodDescriptor "(LForkTown$Half;)V").map (fun d => d.parameters.length) = some 1 := by decide +kernel
theorem fk_pd2 : (parseMethodDescriptor "(III)V").map (fun d => d.parameters.length) = some 3 := by decide +kernel
theorem fk_pd3 : (parseMethodDescriptor "(II)V").map (fun d => d.parameters.length) = some 2 := by decide +kernel
theorem fk_pd4 : (parseMethodDescriptor "(IZ)V").map (fun d => d.parameters.length) = some 2 := by decide +kernel
theorem fk_pd5 : (parseMethodDescriptor "(I)I").map (fun d => d.parameters.length) = some 1 := by decide +kernel
theorem fk_pd6 : (parseMethodDescriptor "(LForkTown$Half;)I").map (fun d => d.parameters.length) = some 1 := by decide +kernel
theorem fk_pd7 : (parseMethodDescriptor "(LForkTown$Half;I)V").map (fun d => d.parameters.length) = some 2 := by decide +kernel
theorem fk_pd8 : (parseMethodDescriptor "(LForkTown$Tape;)V").map (fun d => d.parameters.length) = some 1 := by decide +kernel
theorem fk_pd9 : (parseMethodDescriptor "()I").map (fun d => d.parameters.length) = some 0 := by decide +kernel
theorem fk_pd10 : (parseMethodDescriptor "()V").map (fun d => d.parameters.length) = some 0 := by decide +kernel
theorem fk_pd11 : (parseMethodDescriptor "(LForkTown$Tape;ILForkTown$People;)Z").map (fun d => d.parameters.length) = some 3 := by decide +kernel
theorem fk_pd12 : (parseMethodDescriptor "(LForkTown$Passage;LForkTown$People;)V").map (fun d => d.parameters.length) = some 2 := by decide +kernel
theorem fk_pd13 : (parseMethodDescriptor "(LForkTown$Passage;LForkTown$People;)I").map (fun d => d.parameters.length) = some 2 := by decide +kernel
theorem fk_pd14 : (parseMethodDescriptor "()Z").map (fun d => d.parameters.length) = some 0 := by decide +kernel
theorem fk_pd15 : (parseMethodDescriptor "(II[I)I").map (fun d => d.parameters.length) = some 3 := by decide +kernel
theorem fk_pd16 : (parseMethodDescriptor "(LForkTown$Tape;LForkTown$Law;)V").map (fun d => d.parameters.length) = some 2 := by decide +kernel
theorem fk_pd17 : (parseMethodDescriptor "(ILForkTown$Law;)I").map (fun d => d.parameters.length) = some 2 := by decide +kernel
theorem fk_pd18 : (parseMethodDescriptor "(Ljava/lang/String;)Z").map (fun d => d.parameters.length) = some 1 := by decide +kernel
theorem fk_pd19 : (parseMethodDescriptor "(IIII)V").map (fun d => d.parameters.length) = some 4 := by decide +kernel
theorem fk_pd20 : (parseMethodDescriptor "(I)Z").map (fun d => d.parameters.length) = some 1 := by decide +kernel
theorem fk_pd21 : (parseMethodDescriptor "(II)I").map (fun d => d.parameters.length) = some 2 := by decide +kernel
theorem fk_pd22 : (parseMethodDescriptor "(II)J").map (fun d => d.parameters.length) = some 2 := by decide +kernel
theorem fk_pd23 : (parseMethodDescriptor "(LForkTown$Net;LForkTown$People;LForkTown$Law;)V").map (fun d => d.parameters.length) = some 3 := by decide +kernel
theorem fk_pd24 : (parseMethodDescriptor "(LForkTown$People;LForkTown$Law;)V").map (fun d => d.parameters.length) = some 2 := by decide +kernel
theorem fk_pd25 : (parseMethodDescriptor "(LForkTown$Half;I)I").map (fun d => d.parameters.length) = some 2 := by decide +kernel
theorem fk_pd26 : (parseMethodDescriptor "(LForkTown$Half;[I)V").map (fun d => d.parameters.length) = some 2 := by decide +kernel
theorem fk_pd27 : (parseMethodDescriptor "(LForkTown$Half;LForkTown$Half;I)I").map (fun d => d.parameters.length) = some 3 := by decide +kernel
theorem fk_pd28 : (parseMethodDescriptor "(LForkTown$Past;)V").map (fun d => d.parameters.length) = some 1 := by decide +kernel
theorem fk_pd29 : (parseMethodDescriptor "(LForkTown$People;)V").map (fun d => d.parameters.length) = some 1 := by decide +kernel
theorem fk_pd30 : (parseMethodDescriptor "(LForkTown$People;I)Z").map (fun d => d.parameters.length) = some 2 := by decide +kernel
theorem fk_pd31 : (parseMethodDescriptor "(LForkTown$People;II)I").map (fun d => d.parameters.length) = some 3 := by decide +kernel
theorem fk_pd32 : (parseMethodDescriptor "(LForkTown$People;II)Z").map (fun d => d.parameters.length) = some 3 := by decide +kernel
theorem fk_pd33 : (parseMethodDescriptor "(LForkTown$Half;II)V").map (fun d => d.parameters.length) = some 3 := by decide +kernel
theorem fk_pd34 : (parseMethodDescriptor "(LForkTown$Half;LForkTown$Half;I)V").map (fun d => d.parameters.length) = some 3 := by decide +kernel
theorem fk_pd35 : (parseMethodDescriptor "(III)I").map (fun d => d.parameters.length) = some 3 := by decide +kernel
theorem fk_pd36 : (parseMethodDescriptor "(LForkTown$Net;LForkTown$Passage;LForkTown$People;)V").map (fun d => d.parameters.length) = some 3 := by decide +kernel
theorem fk_pd37 : (parseMethodDescriptor "(LForkTown$People;LForkTown$Law;III)V").map (fun d => d.parameters.length) = some 5 := by decide +kernel
theorem fk_pd38 : (parseMethodDescriptor "(IIII)Z").map (fun d => d.parameters.length) = some 4 := by decide +kernel
theorem fk_pd39 : (parseMethodDescriptor "(IIZ)Z").map (fun d => d.parameters.length) = some 3 := by decide +kernel
theorem fk_pd40 : (parseMethodDescriptor "(II)Z").map (fun d => d.parameters.length) = some 2 := by decide +kernel
theorem fk_pd41 : (parseMethodDescriptor "(IIIII)I").map (fun d => d.parameters.length) = some 5 := by decide +kernel
theorem fk_pd42 : (parseMethodDescriptor "(IIII)I").map (fun d => d.parameters.length) = some 4 := by decide +kernel
theorem fk_pd43 : (parseMethodDescriptor "(III)Z").map (fun d => d.parameters.length) = some 3 := by decide +kernel
theorem fk_pd44 : (parseMethodDescriptor "([I[I)V").map (fun d => d.parameters.length) = some 2 := by decide +kernel
theorem fk_pd45 : (parseMethodDescriptor "(IIZ)V").map (fun d => d.parameters.length) = some 3 := by decide +kernel
theorem fk_pd46 : (parseMethodDescriptor "(Z)V").map (fun d => d.parameters.length) = some 1 := by decide +kernel
theorem fk_pd47 : (parseMethodDescriptor "(IIZ)I").map (fun d => d.parameters.length) = some 3 := by decide +kernel
theorem fk_pd48 : (parseMethodDescriptor "()B").map (fun d => d.parameters.length) = some 0 := by decide +kernel
theorem fk_pd49 : (parseMethodDescriptor "([BIII)I").map (fun d => d.parameters.length) = some 4 := by decide +kernel
theorem fk_pd50 : (parseMethodDescriptor "([II)V").map (fun d => d.parameters.length) = some 2 := by decide +kernel
theorem fk_pc0 : plainName RX0 = true ∧ RX0 ≠ "java/lang/invoke/MethodHandle" ∧ RX0 ≠ "java/lang/invoke/VarHandle" := ⟨by decide +kernel, by decide +kernel, by decide +kernel⟩
theorem fk_pi0 : Cond.initialized RX0 ∈ lw_tbl := List.mem_of_getElem? (i := 113) (by decide +kernel)
theorem fk_pc1 : plainName RX1 = true ∧ RX1 ≠ "java/lang/invoke/MethodHandle" ∧ RX1 ≠ "java/lang/invoke/VarHandle" := ⟨by decide +kernel, by decide +kernel, by decide +kernel⟩
theorem fk_pi1 : Cond.initialized RX1 ∈ lw_tbl := List.mem_of_getElem? (i := 111) (by decide +kernel)
theorem fk_pc2 : plainName RX2 = true ∧ RX2 ≠ "java/lang/invoke/MethodHandle" ∧ RX2 ≠ "java/lang/invoke/VarHandle" := ⟨by decide +kernel, by decide +kernel, by decide +kernel⟩
theorem fk_pi2 : Cond.initialized RX2 ∈ lw_tbl := List.mem_of_getElem? (i := 117) (by decide +kernel)
theorem fk_pc3 : plainName RX3 = true ∧ RX3 ≠ "java/lang/invoke/MethodHandle" ∧ RX3 ≠ "java/lang/invoke/VarHandle" := ⟨by decide +kernel, by decide +kernel, by decide +kernel⟩
theorem fk_pi3 : Cond.initialized RX3 ∈ lw_tbl := List.mem_of_getElem? (i := 106) (by decide +kernel)
theorem fk_pc4 : plainName RX4 = true ∧ RX4 ≠ "java/lang/invoke/MethodHandle" ∧ RX4 ≠ "java/lang/invoke/VarHandle" := ⟨by decide +kernel, by decide +kernel, by decide +kernel⟩
theorem fk_pi4 : Cond.initialized RX4 ∈ lw_tbl := List.mem_of_getElem? (i := 110) (by decide +kernel)
theorem fk_pc5 : plainName RX5 = true ∧ RX5 ≠ "java/lang/invoke/MethodHandle" ∧ RX5 ≠ "java/lang/invoke/VarHandle" := ⟨by decide +kernel, by decide +kernel, by decide +kernel⟩
theorem fk_pi5 : Cond.initialized RX5 ∈ lw_tbl := List.mem_of_getElem? (i := 107) (by decide +kernel)
theorem fk_pc6 : plainName RX6 = true ∧ RX6 ≠ "java/lang/invoke/MethodHandle" ∧ RX6 ≠ "java/lang/invoke/VarHandle" := ⟨by decide +kernel, by decide +kernel, by decide +kernel⟩
theorem fk_pi6 : Cond.initialized RX6 ∈ lw_tbl := List.mem_of_getElem? (i := 115) (by decide +kernel)
theorem fk_pc7 : plainName RX7 = true ∧ RX7 ≠ "java/lang/invoke/MethodHandle" ∧ RX7 ≠ "java/lang/invoke/VarHandle" := ⟨by decide +kernel, by decide +kernel, by decide +kernel⟩
theorem fk_pi7 : Cond.initialized RX7 ∈ lw_tbl := List.mem_of_getElem? (i := 114) (by decide +kernel)
theorem fk_pc8 : plainName RX8 = true ∧ RX8 ≠ "java/lang/invoke/MethodHandle" ∧ RX8 ≠ "java/lang/invoke/VarHandle" := ⟨by decide +kernel, by decide +kernel, by decide +kernel⟩
theorem fk_pi8 : Cond.initialized RX8 ∈ lw_tbl := List.mem_of_getElem? (i := 112) (by decide +kernel)
theorem fk_pc9 : plainName RX9 = true ∧ RX9 ≠ "java/lang/invoke/MethodHandle" ∧ RX9 ≠ "java/lang/invoke/VarHandle" := ⟨by decide +kernel, by decide +kernel, by decide +kernel⟩
theorem fk_pi9 : Cond.initialized RX9 ∈ lw_tbl := List.mem_of_getElem? (i := 116) (by decide +kernel)
theorem fk_pc10 : plainName RX10 = true ∧ RX10 ≠ "java/lang/invoke/MethodHandle" ∧ RX10 ≠ "java/lang/invoke/VarHandle" := ⟨by decide +kernel, by decide +kernel, by decide +kernel⟩
theorem fk_pi10 : Cond.initialized RX10 ∈ lw_tbl := List.mem_of_getElem? (i := 109) (by decide +kernel)
theorem fk_pc11 : plainName RX11 = true ∧ RX11 ≠ "java/lang/invoke/MethodHandle" ∧ RX11 ≠ "java/lang/invoke/VarHandle" := ⟨by decide +kernel, by decide +kernel, by decide +kernel⟩
theorem fk_pi11 : Cond.initialized RX11 ∈ lw_tbl := List.mem_of_getElem? (i := 105) (by decide +kernel)
theorem fk_pc12 : plainName RX12 = true ∧ RX12 ≠ "java/lang/invoke/MethodHandle" ∧ RX12 ≠ "java/lang/invoke/VarHandle" := ⟨by decide +kernel, by decide +kernel, by decide +kernel⟩
theorem fk_pi12 : Cond.initialized RX12 ∈ lw_tbl := List.mem_of_getElem? (i := 118) (by decide +kernel)
theorem fk_pc13 : plainName RJ6 = true ∧ RJ6 ≠ "java/lang/invoke/MethodHandle" ∧ RJ6 ≠ "java/lang/invoke/VarHandle" := ⟨by decide +kernel, by decide +kernel, by decide +kernel⟩
theorem fk_pi13 : Cond.initialized RJ6 ∈ lw_tbl := List.mem_of_getElem? (i := 125) (by decide +kernel)
theorem fk_pc14 : plainName RJ0 = true ∧ RJ0 ≠ "java/lang/invoke/MethodHandle" ∧ RJ0 ≠ "java/lang/invoke/VarHandle" := ⟨by decide +kernel, by decide +kernel, by decide +kernel⟩
theorem fk_pi14 : Cond.initialized RJ0 ∈ lw_tbl := List.mem_of_getElem? (i := 120) (by decide +kernel)
theorem fk_pc15 : plainName RJ1 = true ∧ RJ1 ≠ "java/lang/invoke/MethodHandle" ∧ RJ1 ≠ "java/lang/invoke/VarHandle" := ⟨by decide +kernel, by decide +kernel, by decide +kernel⟩
theorem fk_pi15 : Cond.initialized RJ1 ∈ lw_tbl := List.mem_of_getElem? (i := 121) (by decide +kernel)
theorem fk_pc16 : plainName RJ7 = true ∧ RJ7 ≠ "java/lang/invoke/MethodHandle" ∧ RJ7 ≠ "java/lang/invoke/VarHandle" := ⟨by decide +kernel, by decide +kernel, by decide +kernel⟩
theorem fk_pi16 : Cond.initialized RJ7 ∈ lw_tbl := List.mem_of_getElem? (i := 108) (by decide +kernel)
set_option maxRecDepth 100000 in
theorem kX0_init : fk_qP (4, qX0_init, 1) := ⟨⟨List.mem_of_getElem? (i := 297) (by decide +kernel), fk_pi0, rfl⟩, ⟨fk_pc0.1, fk_pc0.2.1, fk_pc0.2.2, fk_pd0⟩, by decide, (fun h => absurd h (by decide)), (fun h => absurd h (by decide)), fun _ => ⟨List.mem_of_getElem? (i := 296) (by decide +kernel), rfl, rfl, by decide⟩, (fun h => absurd h (by decide))⟩
set_option maxRecDepth 100000 in
theorem kX0_copyFrom : fk_qP (0, qX0_copyFrom, 1) := ⟨⟨List.mem_of_getElem? (i := 934) (by decide +kernel), fk_pi0, rfl⟩, ⟨fk_pc0.1, fk_pc0.2.1, fk_pc0.2.2, fk_pd1⟩, by decide, (fun h => absurd h (by decide)), fun _ => ⟨List.mem_of_getElem? (i := 932) (by decide +kernel), List.mem_of_getElem? (i := 933) (by decide +kernel), by decide⟩, (fun h => absurd h (by decide)), (fun h => absurd h (by decide))⟩
set_option maxRecDepth 100000 in
theorem kX0_beNew : fk_qP (0, qX0_beNew, 3) := ⟨⟨List.mem_of_getElem? (i := 614) (by decide +kernel), fk_pi0, rfl⟩, ⟨fk_pc0.1, fk_pc0.2.1, fk_pc0.2.2, fk_pd2⟩, by decide, (fun h => absurd h (by decide)), fun _ => ⟨List.mem_of_getElem? (i := 612) (by decide +kernel), List.mem_of_getElem? (i := 613) (by decide +kernel), by decide⟩, (fun h => absurd h (by decide)), (fun h => absurd h (by decide))⟩
set_option maxRecDepth 100000 in
theorem kX0_standAt : fk_qP (0, qX0_standAt, 1) := ⟨⟨List.mem_of_getElem? (i := 618) (by decide +kernel), fk_pi0, rfl⟩, ⟨fk_pc0.1, fk_pc0.2.1, fk_pc0.2.2, fk_pd0⟩, by decide, (fun h => absurd h (by decide)), fun _ => ⟨List.mem_of_getElem? (i := 616) (by decide +kernel), List.mem_of_getElem? (i := 617) (by decide +kernel), by decide⟩, (fun h => absurd h (by decide)), (fun h => absurd h (by decide))⟩
set_option maxRecDepth 100000 in
theorem kX0_goOn : fk_qP (0, qX0_goOn, 2) := ⟨⟨List.mem_of_getElem? (i := 938) (by decide +kernel), fk_pi0, rfl⟩, ⟨fk_pc0.1, fk_pc0.2.1, fk_pc0.2.2, fk_pd3⟩, by decide, (fun h => absurd h (by decide)), fun _ => ⟨List.mem_of_getElem? (i := 936) (by decide +kernel), List.mem_of_getElem? (i := 937) (by decide +kernel), by decide⟩, (fun h => absurd h (by decide)), (fun h => absurd h (by decide))⟩
set_option maxRecDepth 100000 in
theorem kX0_know : fk_qP (0, qX0_know, 2) := ⟨⟨List.mem_of_getElem? (i := 630) (by decide +kernel), fk_pi0, rfl⟩, ⟨fk_pc0.1, fk_pc0.2.1, fk_pc0.2.2, fk_pd4⟩, by decide, (fun h => absurd h (by decide)), fun _ => ⟨List.mem_of_getElem? (i := 628) (by decide +kernel), List.mem_of_getElem? (i := 629) (by decide +kernel), by decide⟩, (fun h => absurd h (by decide)), (fun h => absurd h (by decide))⟩
set_option maxRecDepth 100000 in
theorem kX0_knows : fk_qP (0, qX0_knows, 1) := ⟨⟨List.mem_of_getElem? (i := 977) (by decide +kernel), fk_pi0, rfl⟩, ⟨fk_pc0.1, fk_pc0.2.1, fk_pc0.2.2, fk_pd5⟩, by decide, (fun h => absurd h (by decide)), fun _ => ⟨List.mem_of_getElem? (i := 975) (by decide +kernel), List.mem_of_getElem? (i := 976) (by decide +kernel), by decide⟩, (fun h => absurd h (by decide)), (fun h => absurd h (by decide))⟩
set_option maxRecDepth 100000 in
theorem kX0_clash : fk_qP (0, qX0_clash, 1) := ⟨⟨List.mem_of_getElem? (i := 856) (by decide +kernel), fk_pi0, rfl⟩, ⟨fk_pc0.1, fk_pc0.2.1, fk_pc0.2.2, fk_pd6⟩, by decide, (fun h => absurd h (by decide)), fun _ => ⟨List.mem_of_getElem? (i := 854) (by decide +kernel), List.mem_of_getElem? (i := 855) (by decide +kernel), by decide⟩, (fun h => absurd h (by decide)), (fun h => absurd h (by decide))⟩
set_option maxRecDepth 100000 in
theorem kX0_takeIn : fk_qP (0, qX0_takeIn, 2) := ⟨⟨List.mem_of_getElem? (i := 889) (by decide +kernel), fk_pi0, rfl⟩, ⟨fk_pc0.1, fk_pc0.2.1, fk_pc0.2.2, fk_pd7⟩, by decide, (fun h => absurd h (by decide)), fun _ => ⟨List.mem_of_getElem? (i := 887) (by decide +kernel), List.mem_of_getElem? (i := 888) (by decide +kernel), by decide⟩, (fun h => absurd h (by decide)), (fun h => absurd h (by decide))⟩
set_option maxRecDepth 100000 in
theorem kX1_init : fk_qP (4, qX1_init, 1) := ⟨⟨List.mem_of_getElem? (i := 262) (by decide +kernel), fk_pi1, rfl⟩, ⟨fk_pc1.1, fk_pc1.2.1, fk_pc1.2.2, fk_pd8⟩, by decide, (fun h => absurd h (by decide)), (fun h => absurd h (by decide)), fun _ => ⟨List.mem_of_getElem? (i := 261) (by decide +kernel), rfl, rfl, by decide⟩, (fun h => absurd h (by decide))⟩
set_option maxRecDepth 100000 in
theorem kX1_read : fk_qP (0, qX1_read, 1) := ⟨⟨List.mem_of_getElem? (i := 1157) (by decide +kernel), fk_pi1, rfl⟩, ⟨fk_pc1.1, fk_pc1.2.1, fk_pc1.2.2, fk_pd5⟩, by decide, (fun h => absurd h (by decide)), fun _ => ⟨List.mem_of_getElem? (i := 1155) (by decide +kernel), List.mem_of_getElem? (i := 1156) (by decide +kernel), by decide⟩, (fun h => absurd h (by decide)), (fun h => absurd h (by decide))⟩
set_option maxRecDepth 100000 in
theorem kX1_step : fk_qP (0, qX1_step, 0) := ⟨⟨List.mem_of_getElem? (i := 1161) (by decide +kernel), fk_pi1, rfl⟩, ⟨fk_pc1.1, fk_pc1.2.1, fk_pc1.2.2, fk_pd9⟩, by decide, (fun h => absurd h (by decide)), fun _ => ⟨List.mem_of_getElem? (i := 1160) (by decide +kernel), List.mem_of_getElem? (i := 32) (by decide +kernel), by decide⟩, (fun h => absurd h (by decide)), (fun h => absurd h (by decide))⟩
set_option maxRecDepth 100000 in
theorem kX1_peek : fk_qP (0, qX1_peek, 0) := ⟨⟨List.mem_of_getElem? (i := 1169) (by decide +kernel), fk_pi1, rfl⟩, ⟨fk_pc1.1, fk_pc1.2.1, fk_pc1.2.2, fk_pd9⟩, by decide, (fun h => absurd h (by decide)), fun _ => ⟨List.mem_of_getElem? (i := 1168) (by decide +kernel), List.mem_of_getElem? (i := 34) (by decide +kernel), by decide⟩, (fun h => absurd h (by decide)), (fun h => absurd h (by decide))⟩
set_option maxRecDepth 100000 in
theorem kX1_digits : fk_qP (0, qX1_digits, 1) := ⟨⟨List.mem_of_getElem? (i := 1165) (by decide +kernel), fk_pi1, rfl⟩, ⟨fk_pc1.1, fk_pc1.2.1, fk_pc1.2.2, fk_pd5⟩, by decide, (fun h => absurd h (by decide)), fun _ => ⟨List.mem_of_getElem? (i := 1164) (by decide +kernel), List.mem_of_getElem? (i := 33) (by decide +kernel), by decide⟩, (fun h => absurd h (by decide)), (fun h => absurd h (by decide))⟩
set_option maxRecDepth 100000 in
theorem kX2_init : fk_qP (4, qX2_init, 0) := ⟨⟨List.mem_of_getElem? (i := 513) (by decide +kernel), fk_pi2, rfl⟩, ⟨fk_pc2.1, fk_pc2.2.1, fk_pc2.2.2, fk_pd10⟩, by decide, (fun h => absurd h (by decide)), (fun h => absurd h (by decide)), fun _ => ⟨List.mem_of_getElem? (i := 512) (by decide +kernel), rfl, rfl, by decide⟩, (fun h => absurd h (by decide))⟩
set_option maxRecDepth 100000 in
theorem kX2_take : fk_qP (0, qX2_take, 3) := ⟨⟨List.mem_of_getElem? (i := 1062) (by decide +kernel), fk_pi2, rfl⟩, ⟨fk_pc2.1, fk_pc2.2.1, fk_pc2.2.2, fk_pd11⟩, by decide, (fun h => absurd h (by decide)), fun _ => ⟨List.mem_of_getElem? (i := 1060) (by decide +kernel), List.mem_of_getElem? (i := 1061) (by decide +kernel), by decide⟩, (fun h => absurd h (by decide)), (fun h => absurd h (by decide))⟩
set_option maxRecDepth 100000 in
theorem kX2_seek : fk_qP (0, qX2_seek, 2) := ⟨⟨List.mem_of_getElem? (i := 1068) (by decide +kernel), fk_pi2, rfl⟩, ⟨fk_pc2.1, fk_pc2.2.1, fk_pc2.2.2, fk_pd12⟩, by decide, (fun h => absurd h (by decide)), fun _ => ⟨List.mem_of_getElem? (i := 1066) (by decide +kernel), List.mem_of_getElem? (i := 1067) (by decide +kernel), by decide⟩, (fun h => absurd h (by decide)), (fun h => absurd h (by decide))⟩
set_option maxRecDepth 100000 in
theorem kX2_factsOf : fk_qP (0, qX2_factsOf, 2) := ⟨⟨List.mem_of_getElem? (i := 1072) (by decide +kernel), fk_pi2, rfl⟩, ⟨fk_pc2.1, fk_pc2.2.1, fk_pc2.2.2, fk_pd13⟩, by decide, (fun h => absurd h (by decide)), fun _ => ⟨List.mem_of_getElem? (i := 1071) (by decide +kernel), List.mem_of_getElem? (i := 24) (by decide +kernel), by decide⟩, (fun h => absurd h (by decide)), (fun h => absurd h (by decide))⟩
set_option maxRecDepth 100000 in
theorem kX2_goOn : fk_qP (0, qX2_goOn, 0) := ⟨⟨List.mem_of_getElem? (i := 1081) (by decide +kernel), fk_pi2, rfl⟩, ⟨fk_pc2.1, fk_pc2.2.1, fk_pc2.2.2, fk_pd14⟩, by decide, (fun h => absurd h (by decide)), fun _ => ⟨List.mem_of_getElem? (i := 1080) (by decide +kernel), List.mem_of_getElem? (i := 25) (by decide +kernel), by decide⟩, (fun h => absurd h (by decide)), (fun h => absurd h (by decide))⟩
set_option maxRecDepth 100000 in
theorem kX2_swap : fk_qP (0, qX2_swap, 2) := ⟨⟨List.mem_of_getElem? (i := 1085) (by decide +kernel), fk_pi2, rfl⟩, ⟨fk_pc2.1, fk_pc2.2.1, fk_pc2.2.2, fk_pd3⟩, by decide, (fun h => absurd h (by decide)), fun _ => ⟨List.mem_of_getElem? (i := 1084) (by decide +kernel), List.mem_of_getElem? (i := 26) (by decide +kernel), by decide⟩, (fun h => absurd h (by decide)), (fun h => absurd h (by decide))⟩
set_option maxRecDepth 100000 in
theorem kX3_init : fk_qP (4, qX3_init, 0) := ⟨⟨List.mem_of_getElem? (i := 139) (by decide +kernel), fk_pi3, rfl⟩, ⟨fk_pc3.1, fk_pc3.2.1, fk_pc3.2.2, fk_pd10⟩, by decide, (fun h => absurd h (by decide)), (fun h => absurd h (by decide)), fun _ => ⟨List.mem_of_getElem? (i := 138) (by decide +kernel), rfl, rfl, by decide⟩, (fun h => absurd h (by decide))⟩
set_option maxRecDepth 100000 in
theorem kX3_clear : fk_qP (0, qX3_clear, 0) := ⟨⟨List.mem_of_getElem? (i := 660) (by decide +kernel), fk_pi3, rfl⟩, ⟨fk_pc3.1, fk_pc3.2.1, fk_pc3.2.2, fk_pd10⟩, by decide, (fun h => absurd h (by decide)), fun _ => ⟨List.mem_of_getElem? (i := 658) (by decide +kernel), List.mem_of_getElem? (i := 659) (by decide +kernel), by decide⟩, (fun h => absurd h (by decide)), (fun h => absurd h (by decide))⟩
set_option maxRecDepth 100000 in
theorem kX3_add : fk_qP (0, qX3_add, 2) := ⟨⟨List.mem_of_getElem? (i := 773) (by decide +kernel), fk_pi3, rfl⟩, ⟨fk_pc3.1, fk_pc3.2.1, fk_pc3.2.2, fk_pd3⟩, by decide, (fun h => absurd h (by decide)), fun _ => ⟨List.mem_of_getElem? (i := 771) (by decide +kernel), List.mem_of_getElem? (i := 772) (by decide +kernel), by decide⟩, (fun h => absurd h (by decide)), (fun h => absurd h (by decide))⟩
set_option maxRecDepth 100000 in
theorem kX3_value : fk_qP (0, qX3_value, 3) := ⟨⟨List.mem_of_getElem? (i := 875) (by decide +kernel), fk_pi3, rfl⟩, ⟨fk_pc3.1, fk_pc3.2.1, fk_pc3.2.2, fk_pd15⟩, by decide, (fun h => absurd h (by decide)), fun _ => ⟨List.mem_of_getElem? (i := 873) (by decide +kernel), List.mem_of_getElem? (i := 874) (by decide +kernel), by decide⟩, (fun h => absurd h (by decide)), (fun h => absurd h (by decide))⟩
set_option maxRecDepth 100000 in
theorem kX3_run : fk_qP (0, qX3_run, 3) := ⟨⟨List.mem_of_getElem? (i := 879) (by decide +kernel), fk_pi3, rfl⟩, ⟨fk_pc3.1, fk_pc3.2.1, fk_pc3.2.2, fk_pd15⟩, by decide, (fun h => absurd h (by decide)), fun _ => ⟨List.mem_of_getElem? (i := 878) (by decide +kernel), List.mem_of_getElem? (i := 16) (by decide +kernel), by decide⟩, (fun h => absurd h (by decide)), (fun h => absurd h (by decide))⟩
set_option maxRecDepth 100000 in
theorem kX4_init : fk_qP (4, qX4_init, 2) := ⟨⟨List.mem_of_getElem? (i := 237) (by decide +kernel), fk_pi4, rfl⟩, ⟨fk_pc4.1, fk_pc4.2.1, fk_pc4.2.2, fk_pd16⟩, by decide, (fun h => absurd h (by decide)), (fun h => absurd h (by decide)), fun _ => ⟨List.mem_of_getElem? (i := 236) (by decide +kernel), rfl, rfl, by decide⟩, (fun h => absurd h (by decide))⟩
set_option maxRecDepth 100000 in
theorem kX4_read : fk_qP (0, qX4_read, 2) := ⟨⟨List.mem_of_getElem? (i := 656) (by decide +kernel), fk_pi4, rfl⟩, ⟨fk_pc4.1, fk_pc4.2.1, fk_pc4.2.2, fk_pd17⟩, by decide, (fun h => absurd h (by decide)), fun _ => ⟨List.mem_of_getElem? (i := 654) (by decide +kernel), List.mem_of_getElem? (i := 655) (by decide +kernel), by decide⟩, (fun h => absurd h (by decide)), (fun h => absurd h (by decide))⟩
set_option maxRecDepth 100000 in
theorem kX4_advance : fk_qP (0, qX4_advance, 0) := ⟨⟨List.mem_of_getElem? (i := 769) (by decide +kernel), fk_pi4, rfl⟩, ⟨fk_pc4.1, fk_pc4.2.1, fk_pc4.2.2, fk_pd10⟩, by decide, (fun h => absurd h (by decide)), fun _ => ⟨List.mem_of_getElem? (i := 768) (by decide +kernel), List.mem_of_getElem? (i := 2) (by decide +kernel), by decide⟩, (fun h => absurd h (by decide)), (fun h => absurd h (by decide))⟩
set_option maxRecDepth 100000 in
theorem kX4_isOneOf : fk_qP (0, qX4_isOneOf, 1) := ⟨⟨List.mem_of_getElem? (i := 680) (by decide +kernel), fk_pi4, rfl⟩, ⟨fk_pc4.1, fk_pc4.2.1, fk_pc4.2.2, fk_pd18⟩, by decide, (fun h => absurd h (by decide)), fun _ => ⟨List.mem_of_getElem? (i := 679) (by decide +kernel), List.mem_of_getElem? (i := 1) (by decide +kernel), by decide⟩, (fun h => absurd h (by decide)), (fun h => absurd h (by decide))⟩
set_option maxRecDepth 100000 in
theorem kX4_sign : fk_qP (0, qX4_sign, 1) := ⟨⟨List.mem_of_getElem? (i := 794) (by decide +kernel), fk_pi4, rfl⟩, ⟨fk_pc4.1, fk_pc4.2.1, fk_pc4.2.2, fk_pd5⟩, by decide, (fun h => absurd h (by decide)), fun _ => ⟨List.mem_of_getElem? (i := 793) (by decide +kernel), List.mem_of_getElem? (i := 7) (by decide +kernel), by decide⟩, (fun h => absurd h (by decide)), (fun h => absurd h (by decide))⟩
set_option maxRecDepth 100000 in
theorem kX4_clause : fk_qP (0, qX4_clause, 0) := ⟨⟨List.mem_of_getElem? (i := 675) (by decide +kernel), fk_pi4, rfl⟩, ⟨fk_pc4.1, fk_pc4.2.1, fk_pc4.2.2, fk_pd9⟩, by decide, (fun h => absurd h (by decide)), fun _ => ⟨List.mem_of_getElem? (i := 674) (by decide +kernel), List.mem_of_getElem? (i := 0) (by decide +kernel), by decide⟩, (fun h => absurd h (by decide)), (fun h => absurd h (by decide))⟩
set_option maxRecDepth 100000 in
theorem kX4_land : fk_qP (0, qX4_land, 2) := ⟨⟨List.mem_of_getElem? (i := 812) (by decide +kernel), fk_pi4, rfl⟩, ⟨fk_pc4.1, fk_pc4.2.1, fk_pc4.2.2, fk_pd3⟩, by decide, (fun h => absurd h (by decide)), fun _ => ⟨List.mem_of_getElem? (i := 811) (by decide +kernel), List.mem_of_getElem? (i := 11) (by decide +kernel), by decide⟩, (fun h => absurd h (by decide)), (fun h => absurd h (by decide))⟩
set_option maxRecDepth 100000 in
theorem kX4_anyOf : fk_qP (0, qX4_anyOf, 1) := ⟨⟨List.mem_of_getElem? (i := 799) (by decide +kernel), fk_pi4, rfl⟩, ⟨fk_pc4.1, fk_pc4.2.1, fk_pc4.2.2, fk_pd5⟩, by decide, (fun h => absurd h (by decide)), fun _ => ⟨List.mem_of_getElem? (i := 798) (by decide +kernel), List.mem_of_getElem? (i := 8) (by decide +kernel), by decide⟩, (fun h => absurd h (by decide)), (fun h => absurd h (by decide))⟩
set_option maxRecDepth 100000 in
theorem kX4_allOf : fk_qP (0, qX4_allOf, 1) := ⟨⟨List.mem_of_getElem? (i := 803) (by decide +kernel), fk_pi4, rfl⟩, ⟨fk_pc4.1, fk_pc4.2.1, fk_pc4.2.2, fk_pd5⟩, by decide, (fun h => absurd h (by decide)), fun _ => ⟨List.mem_of_getElem? (i := 802) (by decide +kernel), List.mem_of_getElem? (i := 9) (by decide +kernel), by decide⟩, (fun h => absurd h (by decide)), (fun h => absurd h (by decide))⟩
set_option maxRecDepth 100000 in
theorem kX4_piece : fk_qP (0, qX4_piece, 1) := ⟨⟨List.mem_of_getElem? (i := 807) (by decide +kernel), fk_pi4, rfl⟩, ⟨fk_pc4.1, fk_pc4.2.1, fk_pc4.2.2, fk_pd5⟩, by decide, (fun h => absurd h (by decide)), fun _ => ⟨List.mem_of_getElem? (i := 806) (by decide +kernel), List.mem_of_getElem? (i := 10) (by decide +kernel), by decide⟩, (fun h => absurd h (by decide)), (fun h => absurd h (by decide))⟩
set_option maxRecDepth 100000 in
theorem kX4_sum : fk_qP (0, qX4_sum, 1) := ⟨⟨List.mem_of_getElem? (i := 777) (by decide +kernel), fk_pi4, rfl⟩, ⟨fk_pc4.1, fk_pc4.2.1, fk_pc4.2.2, fk_pd5⟩, by decide, (fun h => absurd h (by decide)), fun _ => ⟨List.mem_of_getElem? (i := 776) (by decide +kernel), List.mem_of_getElem? (i := 3) (by decide +kernel), by decide⟩, (fun h => absurd h (by decide)), (fun h => absurd h (by decide))⟩
set_option maxRecDepth 100000 in
theorem kX4_product : fk_qP (0, qX4_product, 1) := ⟨⟨List.mem_of_getElem? (i := 781) (by decide +kernel), fk_pi4, rfl⟩, ⟨fk_pc4.1, fk_pc4.2.1, fk_pc4.2.2, fk_pd5⟩, by decide, (fun h => absurd h (by decide)), fun _ => ⟨List.mem_of_getElem? (i := 780) (by decide +kernel), List.mem_of_getElem? (i := 4) (by decide +kernel), by decide⟩, (fun h => absurd h (by decide)), (fun h => absurd h (by decide))⟩
set_option maxRecDepth 100000 in
theorem kX4_factor : fk_qP (0, qX4_factor, 1) := ⟨⟨List.mem_of_getElem? (i := 785) (by decide +kernel), fk_pi4, rfl⟩, ⟨fk_pc4.1, fk_pc4.2.1, fk_pc4.2.2, fk_pd5⟩, by decide, (fun h => absurd h (by decide)), fun _ => ⟨List.mem_of_getElem? (i := 784) (by decide +kernel), List.mem_of_getElem? (i := 5) (by decide +kernel), by decide⟩, (fun h => absurd h (by decide)), (fun h => absurd h (by decide))⟩
set_option maxRecDepth 100000 in
theorem kX4_number : fk_qP (0, qX4_number, 0) := ⟨⟨List.mem_of_getElem? (i := 789) (by decide +kernel), fk_pi4, rfl⟩, ⟨fk_pc4.1, fk_pc4.2.1, fk_pc4.2.2, fk_pd9⟩, by decide, (fun h => absurd h (by decide)), fun _ => ⟨List.mem_of_getElem? (i := 788) (by decide +kernel), List.mem_of_getElem? (i := 6) (by decide +kernel), by decide⟩, (fun h => absurd h (by decide)), (fun h => absurd h (by decide))⟩
set_option maxRecDepth 100000 in
theorem kX5_init : fk_qP (4, qX5_init, 0) := ⟨⟨List.mem_of_getElem? (i := 183) (by decide +kernel), fk_pi5, rfl⟩, ⟨fk_pc5.1, fk_pc5.2.1, fk_pc5.2.2, fk_pd10⟩, by decide, (fun h => absurd h (by decide)), (fun h => absurd h (by decide)), fun _ => ⟨List.mem_of_getElem? (i := 182) (by decide +kernel), rfl, rfl, by decide⟩, (fun h => absurd h (by decide))⟩
set_option maxRecDepth 100000 in
theorem kX5_tellRoad : fk_qP (0, qX5_tellRoad, 4) := ⟨⟨List.mem_of_getElem? (i := 592) (by decide +kernel), fk_pi5, rfl⟩, ⟨fk_pc5.1, fk_pc5.2.1, fk_pc5.2.2, fk_pd19⟩, by decide, (fun h => absurd h (by decide)), fun _ => ⟨List.mem_of_getElem? (i := 590) (by decide +kernel), List.mem_of_getElem? (i := 591) (by decide +kernel), by decide⟩, (fun h => absurd h (by decide)), (fun h => absurd h (by decide))⟩
set_option maxRecDepth 100000 in
theorem kX5_isTold : fk_qP (0, qX5_isTold, 1) := ⟨⟨List.mem_of_getElem? (i := 596) (by decide +kernel), fk_pi5, rfl⟩, ⟨fk_pc5.1, fk_pc5.2.1, fk_pc5.2.2, fk_pd20⟩, by decide, (fun h => absurd h (by decide)), fun _ => ⟨List.mem_of_getElem? (i := 594) (by decide +kernel), List.mem_of_getElem? (i := 595) (by decide +kernel), by decide⟩, (fun h => absurd h (by decide)), (fun h => absurd h (by decide))⟩
set_option maxRecDepth 100000 in
theorem kX5_toldRoads : fk_qP (0, qX5_toldRoads, 0) := ⟨⟨List.mem_of_getElem? (i := 1237) (by decide +kernel), fk_pi5, rfl⟩, ⟨fk_pc5.1, fk_pc5.2.1, fk_pc5.2.2, fk_pd9⟩, by decide, (fun h => absurd h (by decide)), fun _ => ⟨List.mem_of_getElem? (i := 1235) (by decide +kernel), List.mem_of_getElem? (i := 1236) (by decide +kernel), by decide⟩, (fun h => absurd h (by decide)), (fun h => absurd h (by decide))⟩
set_option maxRecDepth 100000 in
theorem kX5_tell : fk_qP (0, qX5_tell, 1) := ⟨⟨List.mem_of_getElem? (i := 1241) (by decide +kernel), fk_pi5, rfl⟩, ⟨fk_pc5.1, fk_pc5.2.1, fk_pc5.2.2, fk_pd5⟩, by decide, (fun h => absurd h (by decide)), fun _ => ⟨List.mem_of_getElem? (i := 1239) (by decide +kernel), List.mem_of_getElem? (i := 1240) (by decide +kernel), by decide⟩, (fun h => absurd h (by decide)), (fun h => absurd h (by decide))⟩
set_option maxRecDepth 100000 in
theorem kX5_goalOf : fk_qP (0, qX5_goalOf, 1) := ⟨⟨List.mem_of_getElem? (i := 1124) (by decide +kernel), fk_pi5, rfl⟩, ⟨fk_pc5.1, fk_pc5.2.1, fk_pc5.2.2, fk_pd6⟩, by decide, (fun h => absurd h (by decide)), fun _ => ⟨List.mem_of_getElem? (i := 1122) (by decide +kernel), List.mem_of_getElem? (i := 1123) (by decide +kernel), by decide⟩, (fun h => absurd h (by decide)), (fun h => absurd h (by decide))⟩
set_option maxRecDepth 100000 in
theorem kX5_reach : fk_qP (0, qX5_reach, 2) := ⟨⟨List.mem_of_getElem? (i := 1037) (by decide +kernel), fk_pi5, rfl⟩, ⟨fk_pc5.1, fk_pc5.2.1, fk_pc5.2.2, fk_pd21⟩, by decide, (fun h => absurd h (by decide)), fun _ => ⟨List.mem_of_getElem? (i := 1035) (by decide +kernel), List.mem_of_getElem? (i := 1036) (by decide +kernel), by decide⟩, (fun h => absurd h (by decide)), (fun h => absurd h (by decide))⟩
set_option maxRecDepth 100000 in
theorem kX5_groupOf : fk_qP (0, qX5_groupOf, 1) := ⟨⟨List.mem_of_getElem? (i := 1133) (by decide +kernel), fk_pi5, rfl⟩, ⟨fk_pc5.1, fk_pc5.2.1, fk_pc5.2.2, fk_pd5⟩, by decide, (fun h => absurd h (by decide)), fun _ => ⟨List.mem_of_getElem? (i := 1131) (by decide +kernel), List.mem_of_getElem? (i := 1132) (by decide +kernel), by decide⟩, (fun h => absurd h (by decide)), (fun h => absurd h (by decide))⟩
set_option maxRecDepth 100000 in
theorem kX5_fewestClosed : fk_qP (0, qX5_fewestClosed, 2) := ⟨⟨List.mem_of_getElem? (i := 1143) (by decide +kernel), fk_pi5, rfl⟩, ⟨fk_pc5.1, fk_pc5.2.1, fk_pc5.2.2, fk_pd21⟩, by decide, (fun h => absurd h (by decide)), fun _ => ⟨List.mem_of_getElem? (i := 1141) (by decide +kernel), List.mem_of_getElem? (i := 1142) (by decide +kernel), by decide⟩, (fun h => absurd h (by decide)), (fun h => absurd h (by decide))⟩
set_option maxRecDepth 100000 in
theorem kX5_onTheWay : fk_qP (0, qX5_onTheWay, 2) := ⟨⟨List.mem_of_getElem? (i := 1147) (by decide +kernel), fk_pi5, rfl⟩, ⟨fk_pc5.1, fk_pc5.2.1, fk_pc5.2.2, fk_pd21⟩, by decide, (fun h => absurd h (by decide)), fun _ => ⟨List.mem_of_getElem? (i := 1146) (by decide +kernel), List.mem_of_getElem? (i := 31) (by decide +kernel), by decide⟩, (fun h => absurd h (by decide)), (fun h => absurd h (by decide))⟩
set_option maxRecDepth 100000 in
theorem kX5_forkPlaces : fk_qP (0, qX5_forkPlaces, 0) := ⟨⟨List.mem_of_getElem? (i := 1041) (by decide +kernel), fk_pi5, rfl⟩, ⟨fk_pc5.1, fk_pc5.2.1, fk_pc5.2.2, fk_pd9⟩, by decide, (fun h => absurd h (by decide)), fun _ => ⟨List.mem_of_getElem? (i := 1039) (by decide +kernel), List.mem_of_getElem? (i := 1040) (by decide +kernel), by decide⟩, (fun h => absurd h (by decide)), (fun h => absurd h (by decide))⟩
set_option maxRecDepth 100000 in
theorem kX5_forked : fk_qP (0, qX5_forked, 2) := ⟨⟨List.mem_of_getElem? (i := 1015) (by decide +kernel), fk_pi5, rfl⟩, ⟨fk_pc5.1, fk_pc5.2.1, fk_pc5.2.2, fk_pd22⟩, by decide, (fun h => absurd h (by decide)), fun _ => ⟨List.mem_of_getElem? (i := 1013) (by decide +kernel), List.mem_of_getElem? (i := 1014) (by decide +kernel), by decide⟩, (fun h => absurd h (by decide)), (fun h => absurd h (by decide))⟩
set_option maxRecDepth 100000 in
theorem kX5_forkedOnce : fk_qP (0, qX5_forkedOnce, 2) := ⟨⟨List.mem_of_getElem? (i := 1020) (by decide +kernel), fk_pi5, rfl⟩, ⟨fk_pc5.1, fk_pc5.2.1, fk_pc5.2.2, fk_pd22⟩, by decide, (fun h => absurd h (by decide)), fun _ => ⟨List.mem_of_getElem? (i := 1019) (by decide +kernel), List.mem_of_getElem? (i := 22) (by decide +kernel), by decide⟩, (fun h => absurd h (by decide)), (fun h => absurd h (by decide))⟩
set_option maxRecDepth 100000 in
theorem kX6_init : fk_qP (4, qX6_init, 3) := ⟨⟨List.mem_of_getElem? (i := 449) (by decide +kernel), fk_pi6, rfl⟩, ⟨fk_pc6.1, fk_pc6.2.1, fk_pc6.2.2, fk_pd23⟩, by decide, (fun h => absurd h (by decide)), (fun h => absurd h (by decide)), fun _ => ⟨List.mem_of_getElem? (i := 448) (by decide +kernel), rfl, rfl, by decide⟩, (fun h => absurd h (by decide))⟩
set_option maxRecDepth 100000 in
theorem kX6_begin : fk_qP (0, qX6_begin, 2) := ⟨⟨List.mem_of_getElem? (i := 829) (by decide +kernel), fk_pi6, rfl⟩, ⟨fk_pc6.1, fk_pc6.2.1, fk_pc6.2.2, fk_pd24⟩, by decide, (fun h => absurd h (by decide)), fun _ => ⟨List.mem_of_getElem? (i := 827) (by decide +kernel), List.mem_of_getElem? (i := 828) (by decide +kernel), by decide⟩, (fun h => absurd h (by decide)), (fun h => absurd h (by decide))⟩
set_option maxRecDepth 100000 in
theorem kX6_beginPlan : fk_qP (0, qX6_beginPlan, 2) := ⟨⟨List.mem_of_getElem? (i := 1048) (by decide +kernel), fk_pi6, rfl⟩, ⟨fk_pc6.1, fk_pc6.2.1, fk_pc6.2.2, fk_pd3⟩, by decide, (fun h => absurd h (by decide)), fun _ => ⟨List.mem_of_getElem? (i := 1046) (by decide +kernel), List.mem_of_getElem? (i := 1047) (by decide +kernel), by decide⟩, (fun h => absurd h (by decide)), (fun h => absurd h (by decide))⟩
set_option maxRecDepth 100000 in
theorem kX6_goBy : fk_qP (0, qX6_goBy, 0) := ⟨⟨List.mem_of_getElem? (i := 841) (by decide +kernel), fk_pi6, rfl⟩, ⟨fk_pc6.1, fk_pc6.2.1, fk_pc6.2.2, fk_pd10⟩, by decide, (fun h => absurd h (by decide)), fun _ => ⟨List.mem_of_getElem? (i := 839) (by decide +kernel), List.mem_of_getElem? (i := 840) (by decide +kernel), by decide⟩, (fun h => absurd h (by decide)), (fun h => absurd h (by decide))⟩
set_option maxRecDepth 100000 in
theorem kX6_comeNearer : fk_qP (0, qX6_comeNearer, 0) := ⟨⟨List.mem_of_getElem? (i := 845) (by decide +kernel), fk_pi6, rfl⟩, ⟨fk_pc6.1, fk_pc6.2.1, fk_pc6.2.2, fk_pd10⟩, by decide, (fun h => absurd h (by decide)), fun _ => ⟨List.mem_of_getElem? (i := 844) (by decide +kernel), List.mem_of_getElem? (i := 13) (by decide +kernel), by decide⟩, (fun h => absurd h (by decide)), (fun h => absurd h (by decide))⟩
set_option maxRecDepth 100000 in
theorem kX6_meetAgain : fk_qP (0, qX6_meetAgain, 0) := ⟨⟨List.mem_of_getElem? (i := 851) (by decide +kernel), fk_pi6, rfl⟩, ⟨fk_pc6.1, fk_pc6.2.1, fk_pc6.2.2, fk_pd10⟩, by decide, (fun h => absurd h (by decide)), fun _ => ⟨List.mem_of_getElem? (i := 850) (by decide +kernel), List.mem_of_getElem? (i := 14) (by decide +kernel), by decide⟩, (fun h => absurd h (by decide)), (fun h => absurd h (by decide))⟩
set_option maxRecDepth 100000 in
theorem kX6_arrive : fk_qP (0, qX6_arrive, 0) := ⟨⟨List.mem_of_getElem? (i := 897) (by decide +kernel), fk_pi6, rfl⟩, ⟨fk_pc6.1, fk_pc6.2.1, fk_pc6.2.2, fk_pd10⟩, by decide, (fun h => absurd h (by decide)), fun _ => ⟨List.mem_of_getElem? (i := 896) (by decide +kernel), List.mem_of_getElem? (i := 17) (by decide +kernel), by decide⟩, (fun h => absurd h (by decide)), (fun h => absurd h (by decide))⟩
set_option maxRecDepth 100000 in
theorem kX6_die : fk_qP (0, qX6_die, 0) := ⟨⟨List.mem_of_getElem? (i := 904) (by decide +kernel), fk_pi6, rfl⟩, ⟨fk_pc6.1, fk_pc6.2.1, fk_pc6.2.2, fk_pd10⟩, by decide, (fun h => absurd h (by decide)), fun _ => ⟨List.mem_of_getElem? (i := 903) (by decide +kernel), List.mem_of_getElem? (i := 18) (by decide +kernel), by decide⟩, (fun h => absurd h (by decide)), (fun h => absurd h (by decide))⟩
set_option maxRecDepth 100000 in
theorem kX6_setOut : fk_qP (0, qX6_setOut, 0) := ⟨⟨List.mem_of_getElem? (i := 918) (by decide +kernel), fk_pi6, rfl⟩, ⟨fk_pc6.1, fk_pc6.2.1, fk_pc6.2.2, fk_pd10⟩, by decide, (fun h => absurd h (by decide)), fun _ => ⟨List.mem_of_getElem? (i := 917) (by decide +kernel), List.mem_of_getElem? (i := 19) (by decide +kernel), by decide⟩, (fun h => absurd h (by decide)), (fun h => absurd h (by decide))⟩
set_option maxRecDepth 100000 in
theorem kX6_speakOf : fk_qP (0, qX6_speakOf, 1) := ⟨⟨List.mem_of_getElem? (i := 864) (by decide +kernel), fk_pi6, rfl⟩, ⟨fk_pc6.1, fk_pc6.2.1, fk_pc6.2.2, fk_pd1⟩, by decide, (fun h => absurd h (by decide)), fun _ => ⟨List.mem_of_getElem? (i := 863) (by decide +kernel), List.mem_of_getElem? (i := 15) (by decide +kernel), by decide⟩, (fun h => absurd h (by decide)), (fun h => absurd h (by decide))⟩
set_option maxRecDepth 100000 in
theorem kX6_gladness : fk_qP (0, qX6_gladness, 2) := ⟨⟨List.mem_of_getElem? (i := 922) (by decide +kernel), fk_pi6, rfl⟩, ⟨fk_pc6.1, fk_pc6.2.1, fk_pc6.2.2, fk_pd25⟩, by decide, (fun h => absurd h (by decide)), fun _ => ⟨List.mem_of_getElem? (i := 920) (by decide +kernel), List.mem_of_getElem? (i := 921) (by decide +kernel), by decide⟩, (fun h => absurd h (by decide)), (fun h => absurd h (by decide))⟩
set_option maxRecDepth 100000 in
theorem kX6_fillGladness : fk_qP (0, qX6_fillGladness, 2) := ⟨⟨List.mem_of_getElem? (i := 1093) (by decide +kernel), fk_pi6, rfl⟩, ⟨fk_pc6.1, fk_pc6.2.1, fk_pc6.2.2, fk_pd26⟩, by decide, (fun h => absurd h (by decide)), fun _ => ⟨List.mem_of_getElem? (i := 1091) (by decide +kernel), List.mem_of_getElem? (i := 1092) (by decide +kernel), by decide⟩, (fun h => absurd h (by decide)), (fun h => absurd h (by decide))⟩
set_option maxRecDepth 100000 in
theorem kX6_doubt : fk_qP (0, qX6_doubt, 1) := ⟨⟨List.mem_of_getElem? (i := 926) (by decide +kernel), fk_pi6, rfl⟩, ⟨fk_pc6.1, fk_pc6.2.1, fk_pc6.2.2, fk_pd6⟩, by decide, (fun h => absurd h (by decide)), fun _ => ⟨List.mem_of_getElem? (i := 925) (by decide +kernel), List.mem_of_getElem? (i := 20) (by decide +kernel), by decide⟩, (fun h => absurd h (by decide)), (fun h => absurd h (by decide))⟩
set_option maxRecDepth 100000 in
theorem kX6_believed : fk_qP (0, qX6_believed, 3) := ⟨⟨List.mem_of_getElem? (i := 860) (by decide +kernel), fk_pi6, rfl⟩, ⟨fk_pc6.1, fk_pc6.2.1, fk_pc6.2.2, fk_pd27⟩, by decide, (fun h => absurd h (by decide)), fun _ => ⟨List.mem_of_getElem? (i := 858) (by decide +kernel), List.mem_of_getElem? (i := 859) (by decide +kernel), by decide⟩, (fun h => absurd h (by decide)), (fun h => absurd h (by decide))⟩
set_option maxRecDepth 100000 in
theorem kX7_init : fk_qP (4, qX7_init, 0) := ⟨⟨List.mem_of_getElem? (i := 439) (by decide +kernel), fk_pi7, rfl⟩, ⟨fk_pc7.1, fk_pc7.2.1, fk_pc7.2.2, fk_pd10⟩, by decide, (fun h => absurd h (by decide)), (fun h => absurd h (by decide)), fun _ => ⟨List.mem_of_getElem? (i := 438) (by decide +kernel), rfl, rfl, by decide⟩, (fun h => absurd h (by decide))⟩
set_option maxRecDepth 100000 in
theorem kX7_copyFrom : fk_qP (0, qX7_copyFrom, 1) := ⟨⟨List.mem_of_getElem? (i := 1215) (by decide +kernel), fk_pi7, rfl⟩, ⟨fk_pc7.1, fk_pc7.2.1, fk_pc7.2.2, fk_pd28⟩, by decide, (fun h => absurd h (by decide)), fun _ => ⟨List.mem_of_getElem? (i := 1213) (by decide +kernel), List.mem_of_getElem? (i := 1214) (by decide +kernel), by decide⟩, (fun h => absurd h (by decide)), (fun h => absurd h (by decide))⟩
set_option maxRecDepth 100000 in
theorem kX7_remember : fk_qP (0, qX7_remember, 1) := ⟨⟨List.mem_of_getElem? (i := 833) (by decide +kernel), fk_pi7, rfl⟩, ⟨fk_pc7.1, fk_pc7.2.1, fk_pc7.2.2, fk_pd29⟩, by decide, (fun h => absurd h (by decide)), fun _ => ⟨List.mem_of_getElem? (i := 831) (by decide +kernel), List.mem_of_getElem? (i := 832) (by decide +kernel), by decide⟩, (fun h => absurd h (by decide)), (fun h => absurd h (by decide))⟩
set_option maxRecDepth 100000 in
theorem kX7_isRemembered : fk_qP (0, qX7_isRemembered, 2) := ⟨⟨List.mem_of_getElem? (i := 1000) (by decide +kernel), fk_pi7, rfl⟩, ⟨fk_pc7.1, fk_pc7.2.1, fk_pc7.2.2, fk_pd30⟩, by decide, (fun h => absurd h (by decide)), fun _ => ⟨List.mem_of_getElem? (i := 998) (by decide +kernel), List.mem_of_getElem? (i := 999) (by decide +kernel), by decide⟩, (fun h => absurd h (by decide)), (fun h => absurd h (by decide))⟩
set_option maxRecDepth 100000 in
theorem kX7_whereWas : fk_qP (0, qX7_whereWas, 3) := ⟨⟨List.mem_of_getElem? (i := 996) (by decide +kernel), fk_pi7, rfl⟩, ⟨fk_pc7.1, fk_pc7.2.1, fk_pc7.2.2, fk_pd31⟩, by decide, (fun h => absurd h (by decide)), fun _ => ⟨List.mem_of_getElem? (i := 994) (by decide +kernel), List.mem_of_getElem? (i := 995) (by decide +kernel), by decide⟩, (fun h => absurd h (by decide)), (fun h => absurd h (by decide))⟩
set_option maxRecDepth 100000 in
theorem kX7_isBeforeIt : fk_qP (0, qX7_isBeforeIt, 3) := ⟨⟨List.mem_of_getElem? (i := 1004) (by decide +kernel), fk_pi7, rfl⟩, ⟨fk_pc7.1, fk_pc7.2.1, fk_pc7.2.2, fk_pd32⟩, by decide, (fun h => absurd h (by decide)), fun _ => ⟨List.mem_of_getElem? (i := 1003) (by decide +kernel), List.mem_of_getElem? (i := 21) (by decide +kernel), by decide⟩, (fun h => absurd h (by decide)), (fun h => absurd h (by decide))⟩
set_option maxRecDepth 100000 in
theorem kX8_init : fk_qP (4, qX8_init, 0) := ⟨⟨List.mem_of_getElem? (i := 290) (by decide +kernel), fk_pi8, rfl⟩, ⟨fk_pc8.1, fk_pc8.2.1, fk_pc8.2.2, fk_pd10⟩, by decide, (fun h => absurd h (by decide)), (fun h => absurd h (by decide)), fun _ => ⟨List.mem_of_getElem? (i := 289) (by decide +kernel), rfl, rfl, by decide⟩, (fun h => absurd h (by decide))⟩
set_option maxRecDepth 100000 in
theorem kX8_copyFrom : fk_qP (0, qX8_copyFrom, 1) := ⟨⟨List.mem_of_getElem? (i := 954) (by decide +kernel), fk_pi8, rfl⟩, ⟨fk_pc8.1, fk_pc8.2.1, fk_pc8.2.2, fk_pd29⟩, by decide, (fun h => absurd h (by decide)), fun _ => ⟨List.mem_of_getElem? (i := 952) (by decide +kernel), List.mem_of_getElem? (i := 953) (by decide +kernel), by decide⟩, (fun h => absurd h (by decide)), (fun h => absurd h (by decide))⟩
set_option maxRecDepth 100000 in
theorem kX8_clearTallies : fk_qP (0, qX8_clearTallies, 0) := ⟨⟨List.mem_of_getElem? (i := 961) (by decide +kernel), fk_pi8, rfl⟩, ⟨fk_pc8.1, fk_pc8.2.1, fk_pc8.2.2, fk_pd10⟩, by decide, (fun h => absurd h (by decide)), fun _ => ⟨List.mem_of_getElem? (i := 959) (by decide +kernel), List.mem_of_getElem? (i := 960) (by decide +kernel), by decide⟩, (fun h => absurd h (by decide)), (fun h => absurd h (by decide))⟩
set_option maxRecDepth 100000 in
theorem kX8_hasBeen : fk_qP (0, qX8_hasBeen, 1) := ⟨⟨List.mem_of_getElem? (i := 973) (by decide +kernel), fk_pi8, rfl⟩, ⟨fk_pc8.1, fk_pc8.2.1, fk_pc8.2.2, fk_pd20⟩, by decide, (fun h => absurd h (by decide)), fun _ => ⟨List.mem_of_getElem? (i := 971) (by decide +kernel), List.mem_of_getElem? (i := 972) (by decide +kernel), by decide⟩, (fun h => absurd h (by decide)), (fun h => absurd h (by decide))⟩
set_option maxRecDepth 100000 in
theorem kX8_isLiving : fk_qP (0, qX8_isLiving, 1) := ⟨⟨List.mem_of_getElem? (i := 626) (by decide +kernel), fk_pi8, rfl⟩, ⟨fk_pc8.1, fk_pc8.2.1, fk_pc8.2.2, fk_pd20⟩, by decide, (fun h => absurd h (by decide)), fun _ => ⟨List.mem_of_getElem? (i := 624) (by decide +kernel), List.mem_of_getElem? (i := 625) (by decide +kernel), by decide⟩, (fun h => absurd h (by decide)), (fun h => absurd h (by decide))⟩
set_option maxRecDepth 100000 in
theorem kX8_isAtPlace : fk_qP (0, qX8_isAtPlace, 1) := ⟨⟨List.mem_of_getElem? (i := 837) (by decide +kernel), fk_pi8, rfl⟩, ⟨fk_pc8.1, fk_pc8.2.1, fk_pc8.2.2, fk_pd20⟩, by decide, (fun h => absurd h (by decide)), fun _ => ⟨List.mem_of_getElem? (i := 835) (by decide +kernel), List.mem_of_getElem? (i := 836) (by decide +kernel), by decide⟩, (fun h => absurd h (by decide)), (fun h => absurd h (by decide))⟩
set_option maxRecDepth 100000 in
theorem kX8_livingInAll : fk_qP (0, qX8_livingInAll, 0) := ⟨⟨List.mem_of_getElem? (i := 943) (by decide +kernel), fk_pi8, rfl⟩, ⟨fk_pc8.1, fk_pc8.2.1, fk_pc8.2.2, fk_pd9⟩, by decide, (fun h => absurd h (by decide)), fun _ => ⟨List.mem_of_getElem? (i := 941) (by decide +kernel), List.mem_of_getElem? (i := 942) (by decide +kernel), by decide⟩, (fun h => absurd h (by decide)), (fun h => absurd h (by decide))⟩
set_option maxRecDepth 100000 in
theorem kX8_welcome : fk_qP (0, qX8_welcome, 2) := ⟨⟨List.mem_of_getElem? (i := 609) (by decide +kernel), fk_pi8, rfl⟩, ⟨fk_pc8.1, fk_pc8.2.1, fk_pc8.2.2, fk_pd21⟩, by decide, (fun h => absurd h (by decide)), fun _ => ⟨List.mem_of_getElem? (i := 607) (by decide +kernel), List.mem_of_getElem? (i := 608) (by decide +kernel), by decide⟩, (fun h => absurd h (by decide)), (fun h => absurd h (by decide))⟩
set_option maxRecDepth 100000 in
theorem kX8_part : fk_qP (0, qX8_part, 3) := ⟨⟨List.mem_of_getElem? (i := 930) (by decide +kernel), fk_pi8, rfl⟩, ⟨fk_pc8.1, fk_pc8.2.1, fk_pc8.2.2, fk_pd33⟩, by decide, (fun h => absurd h (by decide)), fun _ => ⟨List.mem_of_getElem? (i := 928) (by decide +kernel), List.mem_of_getElem? (i := 929) (by decide +kernel), by decide⟩, (fun h => absurd h (by decide)), (fun h => absurd h (by decide))⟩
set_option maxRecDepth 100000 in
theorem kX8_merge : fk_qP (0, qX8_merge, 3) := ⟨⟨List.mem_of_getElem? (i := 885) (by decide +kernel), fk_pi8, rfl⟩, ⟨fk_pc8.1, fk_pc8.2.1, fk_pc8.2.2, fk_pd34⟩, by decide, (fun h => absurd h (by decide)), fun _ => ⟨List.mem_of_getElem? (i := 883) (by decide +kernel), List.mem_of_getElem? (i := 884) (by decide +kernel), by decide⟩, (fun h => absurd h (by decide)), (fun h => absurd h (by decide))⟩
set_option maxRecDepth 100000 in
theorem kX8_bury : fk_qP (0, qX8_bury, 1) := ⟨⟨List.mem_of_getElem? (i := 913) (by decide +kernel), fk_pi8, rfl⟩, ⟨fk_pc8.1, fk_pc8.2.1, fk_pc8.2.2, fk_pd1⟩, by decide, (fun h => absurd h (by decide)), fun _ => ⟨List.mem_of_getElem? (i := 911) (by decide +kernel), List.mem_of_getElem? (i := 912) (by decide +kernel), by decide⟩, (fun h => absurd h (by decide)), (fun h => absurd h (by decide))⟩
set_option maxRecDepth 100000 in
theorem kX8_draw : fk_qP (0, qX8_draw, 0) := ⟨⟨List.mem_of_getElem? (i := 908) (by decide +kernel), fk_pi8, rfl⟩, ⟨fk_pc8.1, fk_pc8.2.1, fk_pc8.2.2, fk_pd9⟩, by decide, (fun h => absurd h (by decide)), fun _ => ⟨List.mem_of_getElem? (i := 906) (by decide +kernel), List.mem_of_getElem? (i := 907) (by decide +kernel), by decide⟩, (fun h => absurd h (by decide)), (fun h => absurd h (by decide))⟩
set_option maxRecDepth 100000 in
theorem kX8_onlyOneOf : fk_qP (0, qX8_onlyOneOf, 1) := ⟨⟨List.mem_of_getElem? (i := 1029) (by decide +kernel), fk_pi8, rfl⟩, ⟨fk_pc8.1, fk_pc8.2.1, fk_pc8.2.2, fk_pd5⟩, by decide, (fun h => absurd h (by decide)), fun _ => ⟨List.mem_of_getElem? (i := 1027) (by decide +kernel), List.mem_of_getElem? (i := 1028) (by decide +kernel), by decide⟩, (fun h => absurd h (by decide)), (fun h => absurd h (by decide))⟩
set_option maxRecDepth 100000 in
theorem kX8_together : fk_qP (0, qX8_together, 2) := ⟨⟨List.mem_of_getElem? (i := 965) (by decide +kernel), fk_pi8, rfl⟩, ⟨fk_pc8.1, fk_pc8.2.1, fk_pc8.2.2, fk_pd21⟩, by decide, (fun h => absurd h (by decide)), fun _ => ⟨List.mem_of_getElem? (i := 963) (by decide +kernel), List.mem_of_getElem? (i := 964) (by decide +kernel), by decide⟩, (fun h => absurd h (by decide)), (fun h => absurd h (by decide))⟩
set_option maxRecDepth 100000 in
theorem kX8_weightOf : fk_qP (0, qX8_weightOf, 3) := ⟨⟨List.mem_of_getElem? (i := 1202) (by decide +kernel), fk_pi8, rfl⟩, ⟨fk_pc8.1, fk_pc8.2.1, fk_pc8.2.2, fk_pd35⟩, by decide, (fun h => absurd h (by decide)), fun _ => ⟨List.mem_of_getElem? (i := 1200) (by decide +kernel), List.mem_of_getElem? (i := 1201) (by decide +kernel), by decide⟩, (fun h => absurd h (by decide)), (fun h => absurd h (by decide))⟩
set_option maxRecDepth 100000 in
theorem kX8_shareOf : fk_qP (0, qX8_shareOf, 2) := ⟨⟨List.mem_of_getElem? (i := 1193) (by decide +kernel), fk_pi8, rfl⟩, ⟨fk_pc8.1, fk_pc8.2.1, fk_pc8.2.2, fk_pd25⟩, by decide, (fun h => absurd h (by decide)), fun _ => ⟨List.mem_of_getElem? (i := 1191) (by decide +kernel), List.mem_of_getElem? (i := 1192) (by decide +kernel), by decide⟩, (fun h => absurd h (by decide)), (fun h => absurd h (by decide))⟩
set_option maxRecDepth 100000 in
theorem kX8_nearestInCommon : fk_qP (0, qX8_nearestInCommon, 2) := ⟨⟨List.mem_of_getElem? (i := 1184) (by decide +kernel), fk_pi8, rfl⟩, ⟨fk_pc8.1, fk_pc8.2.1, fk_pc8.2.2, fk_pd21⟩, by decide, (fun h => absurd h (by decide)), fun _ => ⟨List.mem_of_getElem? (i := 1182) (by decide +kernel), List.mem_of_getElem? (i := 1183) (by decide +kernel), by decide⟩, (fun h => absurd h (by decide)), (fun h => absurd h (by decide))⟩
set_option maxRecDepth 100000 in
theorem kX9_init : fk_qP (4, qX9_init, 3) := ⟨⟨List.mem_of_getElem? (i := 482) (by decide +kernel), fk_pi9, rfl⟩, ⟨fk_pc9.1, fk_pc9.2.1, fk_pc9.2.2, fk_pd36⟩, by decide, (fun h => absurd h (by decide)), (fun h => absurd h (by decide)), fun _ => ⟨List.mem_of_getElem? (i := 481) (by decide +kernel), rfl, rfl, by decide⟩, (fun h => absurd h (by decide))⟩
set_option maxRecDepth 100000 in
theorem kX9_seek : fk_qP (0, qX9_seek, 5) := ⟨⟨List.mem_of_getElem? (i := 1033) (by decide +kernel), fk_pi9, rfl⟩, ⟨fk_pc9.1, fk_pc9.2.1, fk_pc9.2.2, fk_pd37⟩, by decide, (fun h => absurd h (by decide)), fun _ => ⟨List.mem_of_getElem? (i := 1031) (by decide +kernel), List.mem_of_getElem? (i := 1032) (by decide +kernel), by decide⟩, (fun h => absurd h (by decide)), (fun h => absurd h (by decide))⟩
set_option maxRecDepth 100000 in
theorem kX9_attempt : fk_qP (0, qX9_attempt, 3) := ⟨⟨List.mem_of_getElem? (i := 1052) (by decide +kernel), fk_pi9, rfl⟩, ⟨fk_pc9.1, fk_pc9.2.1, fk_pc9.2.2, fk_pd35⟩, by decide, (fun h => absurd h (by decide)), fun _ => ⟨List.mem_of_getElem? (i := 1051) (by decide +kernel), List.mem_of_getElem? (i := 23) (by decide +kernel), by decide⟩, (fun h => absurd h (by decide)), (fun h => absurd h (by decide))⟩
set_option maxRecDepth 100000 in
theorem kX10_init : fk_qP (4, qX10_init, 0) := ⟨⟨List.mem_of_getElem? (i := 223) (by decide +kernel), fk_pi10, rfl⟩, ⟨fk_pc10.1, fk_pc10.2.1, fk_pc10.2.2, fk_pd10⟩, by decide, (fun h => absurd h (by decide)), (fun h => absurd h (by decide)), fun _ => ⟨List.mem_of_getElem? (i := 222) (by decide +kernel), rfl, rfl, by decide⟩, (fun h => absurd h (by decide))⟩
set_option maxRecDepth 100000 in
theorem kX10_hasRoomFor : fk_qP (0, qX10_hasRoomFor, 1) := ⟨⟨List.mem_of_getElem? (i := 643) (by decide +kernel), fk_pi10, rfl⟩, ⟨fk_pc10.1, fk_pc10.2.1, fk_pc10.2.2, fk_pd20⟩, by decide, (fun h => absurd h (by decide)), fun _ => ⟨List.mem_of_getElem? (i := 641) (by decide +kernel), List.mem_of_getElem? (i := 642) (by decide +kernel), by decide⟩, (fun h => absurd h (by decide)), (fun h => absurd h (by decide))⟩
set_option maxRecDepth 100000 in
theorem kX10_put : fk_qP (0, qX10_put, 1) := ⟨⟨List.mem_of_getElem? (i := 647) (by decide +kernel), fk_pi10, rfl⟩, ⟨fk_pc10.1, fk_pc10.2.1, fk_pc10.2.2, fk_pd0⟩, by decide, (fun h => absurd h (by decide)), fun _ => ⟨List.mem_of_getElem? (i := 645) (by decide +kernel), List.mem_of_getElem? (i := 646) (by decide +kernel), by decide⟩, (fun h => absurd h (by decide)), (fun h => absurd h (by decide))⟩
set_option maxRecDepth 100000 in
theorem kX10_byteAt : fk_qP (0, qX10_byteAt, 1) := ⟨⟨List.mem_of_getElem? (i := 670) (by decide +kernel), fk_pi10, rfl⟩, ⟨fk_pc10.1, fk_pc10.2.1, fk_pc10.2.2, fk_pd5⟩, by decide, (fun h => absurd h (by decide)), fun _ => ⟨List.mem_of_getElem? (i := 668) (by decide +kernel), List.mem_of_getElem? (i := 669) (by decide +kernel), by decide⟩, (fun h => absurd h (by decide)), (fun h => absurd h (by decide))⟩
set_option maxRecDepth 100000 in
theorem kX10_numberAt : fk_qP (0, qX10_numberAt, 1) := ⟨⟨List.mem_of_getElem? (i := 1228) (by decide +kernel), fk_pi10, rfl⟩, ⟨fk_pc10.1, fk_pc10.2.1, fk_pc10.2.2, fk_pd5⟩, by decide, (fun h => absurd h (by decide)), fun _ => ⟨List.mem_of_getElem? (i := 1226) (by decide +kernel), List.mem_of_getElem? (i := 1227) (by decide +kernel), by decide⟩, (fun h => absurd h (by decide)), (fun h => absurd h (by decide))⟩
set_option maxRecDepth 100000 in
theorem kX10_clear : fk_qP (0, qX10_clear, 0) := ⟨⟨List.mem_of_getElem? (i := 816) (by decide +kernel), fk_pi10, rfl⟩, ⟨fk_pc10.1, fk_pc10.2.1, fk_pc10.2.2, fk_pd10⟩, by decide, (fun h => absurd h (by decide)), fun _ => ⟨List.mem_of_getElem? (i := 814) (by decide +kernel), List.mem_of_getElem? (i := 815) (by decide +kernel), by decide⟩, (fun h => absurd h (by decide)), (fun h => absurd h (by decide))⟩
set_option maxRecDepth 100000 in
theorem kX11_init : fk_qP (4, qX11_init, 0) := ⟨⟨List.mem_of_getElem? (i := 131) (by decide +kernel), fk_pi11, rfl⟩, ⟨fk_pc11.1, fk_pc11.2.1, fk_pc11.2.2, fk_pd10⟩, by decide, (fun h => absurd h (by decide)), (fun h => absurd h (by decide)), fun _ => ⟨List.mem_of_getElem? (i := 130) (by decide +kernel), rfl, rfl, by decide⟩, (fun h => absurd h (by decide))⟩
set_option maxRecDepth 100000 in
theorem kX11_road : fk_qP (0, qX11_road, 4) := ⟨⟨List.mem_of_getElem? (i := 585) (by decide +kernel), fk_pi11, rfl⟩, ⟨fk_pc11.1, fk_pc11.2.1, fk_pc11.2.2, fk_pd38⟩, by decide, (fun h => absurd h (by decide)), fun _ => ⟨List.mem_of_getElem? (i := 583) (by decide +kernel), List.mem_of_getElem? (i := 584) (by decide +kernel), by decide⟩, (fun h => absurd h (by decide)), (fun h => absurd h (by decide))⟩
set_option maxRecDepth 100000 in
theorem kX11_notice : fk_qP (0, qX11_notice, 3) := ⟨⟨List.mem_of_getElem? (i := 601) (by decide +kernel), fk_pi11, rfl⟩, ⟨fk_pc11.1, fk_pc11.2.1, fk_pc11.2.2, fk_pd39⟩, by decide, (fun h => absurd h (by decide)), fun _ => ⟨List.mem_of_getElem? (i := 599) (by decide +kernel), List.mem_of_getElem? (i := 600) (by decide +kernel), by decide⟩, (fun h => absurd h (by decide)), (fun h => absurd h (by decide))⟩
set_option maxRecDepth 100000 in
theorem kX11_comes : fk_qP (0, qX11_comes, 2) := ⟨⟨List.mem_of_getElem? (i := 605) (by decide +kernel), fk_pi11, rfl⟩, ⟨fk_pc11.1, fk_pc11.2.1, fk_pc11.2.2, fk_pd21⟩, by decide, (fun h => absurd h (by decide)), fun _ => ⟨List.mem_of_getElem? (i := 603) (by decide +kernel), List.mem_of_getElem? (i := 604) (by decide +kernel), by decide⟩, (fun h => absurd h (by decide)), (fun h => absurd h (by decide))⟩
set_option maxRecDepth 100000 in
theorem kX11_learns : fk_qP (0, qX11_learns, 3) := ⟨⟨List.mem_of_getElem? (i := 622) (by decide +kernel), fk_pi11, rfl⟩, ⟨fk_pc11.1, fk_pc11.2.1, fk_pc11.2.2, fk_pd39⟩, by decide, (fun h => absurd h (by decide)), fun _ => ⟨List.mem_of_getElem? (i := 620) (by decide +kernel), List.mem_of_getElem? (i := 621) (by decide +kernel), by decide⟩, (fun h => absurd h (by decide)), (fun h => absurd h (by decide))⟩
set_option maxRecDepth 100000 in
theorem kX11_owes : fk_qP (0, qX11_owes, 2) := ⟨⟨List.mem_of_getElem? (i := 634) (by decide +kernel), fk_pi11, rfl⟩, ⟨fk_pc11.1, fk_pc11.2.1, fk_pc11.2.2, fk_pd40⟩, by decide, (fun h => absurd h (by decide)), fun _ => ⟨List.mem_of_getElem? (i := 632) (by decide +kernel), List.mem_of_getElem? (i := 633) (by decide +kernel), by decide⟩, (fun h => absurd h (by decide)), (fun h => absurd h (by decide))⟩
set_option maxRecDepth 100000 in
theorem kX11_feed : fk_qP (0, qX11_feed, 5) := ⟨⟨List.mem_of_getElem? (i := 639) (by decide +kernel), fk_pi11, rfl⟩, ⟨fk_pc11.1, fk_pc11.2.1, fk_pc11.2.2, fk_pd41⟩, by decide, (fun h => absurd h (by decide)), fun _ => ⟨List.mem_of_getElem? (i := 637) (by decide +kernel), List.mem_of_getElem? (i := 638) (by decide +kernel), by decide⟩, (fun h => absurd h (by decide)), (fun h => absurd h (by decide))⟩
set_option maxRecDepth 100000 in
theorem kX11_law : fk_qP (0, qX11_law, 1) := ⟨⟨List.mem_of_getElem? (i := 652) (by decide +kernel), fk_pi11, rfl⟩, ⟨fk_pc11.1, fk_pc11.2.1, fk_pc11.2.2, fk_pd5⟩, by decide, (fun h => absurd h (by decide)), fun _ => ⟨List.mem_of_getElem? (i := 650) (by decide +kernel), List.mem_of_getElem? (i := 651) (by decide +kernel), by decide⟩, (fun h => absurd h (by decide)), (fun h => absurd h (by decide))⟩
set_option maxRecDepth 100000 in
theorem kX11_hours : fk_qP (0, qX11_hours, 1) := ⟨⟨List.mem_of_getElem? (i := 821) (by decide +kernel), fk_pi11, rfl⟩, ⟨fk_pc11.1, fk_pc11.2.1, fk_pc11.2.2, fk_pd5⟩, by decide, (fun h => absurd h (by decide)), fun _ => ⟨List.mem_of_getElem? (i := 819) (by decide +kernel), List.mem_of_getElem? (i := 820) (by decide +kernel), by decide⟩, (fun h => absurd h (by decide)), (fun h => absurd h (by decide))⟩
set_option maxRecDepth 100000 in
theorem kX11_tried : fk_qP (0, qX11_tried, 2) := ⟨⟨List.mem_of_getElem? (i := 947) (by decide +kernel), fk_pi11, rfl⟩, ⟨fk_pc11.1, fk_pc11.2.1, fk_pc11.2.2, fk_pd21⟩, by decide, (fun h => absurd h (by decide)), fun _ => ⟨List.mem_of_getElem? (i := 945) (by decide +kernel), List.mem_of_getElem? (i := 946) (by decide +kernel), by decide⟩, (fun h => absurd h (by decide)), (fun h => absurd h (by decide))⟩
set_option maxRecDepth 100000 in
theorem kX11_half : fk_qP (0, qX11_half, 2) := ⟨⟨List.mem_of_getElem? (i := 969) (by decide +kernel), fk_pi11, rfl⟩, ⟨fk_pc11.1, fk_pc11.2.1, fk_pc11.2.2, fk_pd21⟩, by decide, (fun h => absurd h (by decide)), fun _ => ⟨List.mem_of_getElem? (i := 967) (by decide +kernel), List.mem_of_getElem? (i := 968) (by decide +kernel), by decide⟩, (fun h => absurd h (by decide)), (fun h => absurd h (by decide))⟩
set_option maxRecDepth 100000 in
theorem kX11_gladly : fk_qP (0, qX11_gladly, 2) := ⟨⟨List.mem_of_getElem? (i := 981) (by decide +kernel), fk_pi11, rfl⟩, ⟨fk_pc11.1, fk_pc11.2.1, fk_pc11.2.2, fk_pd21⟩, by decide, (fun h => absurd h (by decide)), fun _ => ⟨List.mem_of_getElem? (i := 979) (by decide +kernel), List.mem_of_getElem? (i := 980) (by decide +kernel), by decide⟩, (fun h => absurd h (by decide)), (fun h => absurd h (by decide))⟩
set_option maxRecDepth 100000 in
theorem kX11_halves : fk_qP (0, qX11_halves, 2) := ⟨⟨List.mem_of_getElem? (i := 988) (by decide +kernel), fk_pi11, rfl⟩, ⟨fk_pc11.1, fk_pc11.2.1, fk_pc11.2.2, fk_pd21⟩, by decide, (fun h => absurd h (by decide)), fun _ => ⟨List.mem_of_getElem? (i := 986) (by decide +kernel), List.mem_of_getElem? (i := 987) (by decide +kernel), by decide⟩, (fun h => absurd h (by decide)), (fun h => absurd h (by decide))⟩
set_option maxRecDepth 100000 in
theorem kX11_was : fk_qP (0, qX11_was, 2) := ⟨⟨List.mem_of_getElem? (i := 992) (by decide +kernel), fk_pi11, rfl⟩, ⟨fk_pc11.1, fk_pc11.2.1, fk_pc11.2.2, fk_pd21⟩, by decide, (fun h => absurd h (by decide)), fun _ => ⟨List.mem_of_getElem? (i := 990) (by decide +kernel), List.mem_of_getElem? (i := 991) (by decide +kernel), by decide⟩, (fun h => absurd h (by decide)), (fun h => absurd h (by decide))⟩
set_option maxRecDepth 100000 in
theorem kX11_byForks : fk_qP (0, qX11_byForks, 2) := ⟨⟨List.mem_of_getElem? (i := 1010) (by decide +kernel), fk_pi11, rfl⟩, ⟨fk_pc11.1, fk_pc11.2.1, fk_pc11.2.2, fk_pd22⟩, by decide, (fun h => absurd h (by decide)), fun _ => ⟨List.mem_of_getElem? (i := 1008) (by decide +kernel), List.mem_of_getElem? (i := 1009) (by decide +kernel), by decide⟩, (fun h => absurd h (by decide)), (fun h => absurd h (by decide))⟩
set_option maxRecDepth 100000 in
theorem kX11_plan : fk_qP (0, qX11_plan, 4) := ⟨⟨List.mem_of_getElem? (i := 1024) (by decide +kernel), fk_pi11, rfl⟩, ⟨fk_pc11.1, fk_pc11.2.1, fk_pc11.2.2, fk_pd42⟩, by decide, (fun h => absurd h (by decide)), fun _ => ⟨List.mem_of_getElem? (i := 1022) (by decide +kernel), List.mem_of_getElem? (i := 1023) (by decide +kernel), by decide⟩, (fun h => absurd h (by decide)), (fun h => absurd h (by decide))⟩
set_option maxRecDepth 100000 in
theorem kX11_joined : fk_qP (0, qX11_joined, 2) := ⟨⟨List.mem_of_getElem? (i := 1058) (by decide +kernel), fk_pi11, rfl⟩, ⟨fk_pc11.1, fk_pc11.2.1, fk_pc11.2.2, fk_pd21⟩, by decide, (fun h => absurd h (by decide)), fun _ => ⟨List.mem_of_getElem? (i := 1056) (by decide +kernel), List.mem_of_getElem? (i := 1057) (by decide +kernel), by decide⟩, (fun h => absurd h (by decide)), (fun h => absurd h (by decide))⟩
set_option maxRecDepth 100000 in
theorem kX11_chosen : fk_qP (0, qX11_chosen, 3) := ⟨⟨List.mem_of_getElem? (i := 1089) (by decide +kernel), fk_pi11, rfl⟩, ⟨fk_pc11.1, fk_pc11.2.1, fk_pc11.2.2, fk_pd35⟩, by decide, (fun h => absurd h (by decide)), fun _ => ⟨List.mem_of_getElem? (i := 1087) (by decide +kernel), List.mem_of_getElem? (i := 1088) (by decide +kernel), by decide⟩, (fun h => absurd h (by decide)), (fun h => absurd h (by decide))⟩
set_option maxRecDepth 100000 in
theorem kX11_whoWas : fk_qP (0, qX11_whoWas, 2) := ⟨⟨List.mem_of_getElem? (i := 1101) (by decide +kernel), fk_pi11, rfl⟩, ⟨fk_pc11.1, fk_pc11.2.1, fk_pc11.2.2, fk_pd21⟩, by decide, (fun h => absurd h (by decide)), fun _ => ⟨List.mem_of_getElem? (i := 1099) (by decide +kernel), List.mem_of_getElem? (i := 1100) (by decide +kernel), by decide⟩, (fun h => absurd h (by decide)), (fun h => absurd h (by decide))⟩
set_option maxRecDepth 100000 in
theorem kX11_meet : fk_qP (0, qX11_meet, 1) := ⟨⟨List.mem_of_getElem? (i := 1119) (by decide +kernel), fk_pi11, rfl⟩, ⟨fk_pc11.1, fk_pc11.2.1, fk_pc11.2.2, fk_pd5⟩, by decide, (fun h => absurd h (by decide)), fun _ => ⟨List.mem_of_getElem? (i := 1117) (by decide +kernel), List.mem_of_getElem? (i := 1118) (by decide +kernel), by decide⟩, (fun h => absurd h (by decide)), (fun h => absurd h (by decide))⟩
set_option maxRecDepth 100000 in
theorem kX11_built : fk_qP (0, qX11_built, 1) := ⟨⟨List.mem_of_getElem? (i := 1129) (by decide +kernel), fk_pi11, rfl⟩, ⟨fk_pc11.1, fk_pc11.2.1, fk_pc11.2.2, fk_pd5⟩, by decide, (fun h => absurd h (by decide)), fun _ => ⟨List.mem_of_getElem? (i := 1127) (by decide +kernel), List.mem_of_getElem? (i := 1128) (by decide +kernel), by decide⟩, (fun h => absurd h (by decide)), (fun h => absurd h (by decide))⟩
set_option maxRecDepth 100000 in
theorem kX11_closed : fk_qP (0, qX11_closed, 3) := ⟨⟨List.mem_of_getElem? (i := 1139) (by decide +kernel), fk_pi11, rfl⟩, ⟨fk_pc11.1, fk_pc11.2.1, fk_pc11.2.2, fk_pd35⟩, by decide, (fun h => absurd h (by decide)), fun _ => ⟨List.mem_of_getElem? (i := 1137) (by decide +kernel), List.mem_of_getElem? (i := 1138) (by decide +kernel), by decide⟩, (fun h => absurd h (by decide)), (fun h => absurd h (by decide))⟩
set_option maxRecDepth 100000 in
theorem kX11_history : fk_qP (0, qX11_history, 2) := ⟨⟨List.mem_of_getElem? (i := 1153) (by decide +kernel), fk_pi11, rfl⟩, ⟨fk_pc11.1, fk_pc11.2.1, fk_pc11.2.2, fk_pd21⟩, by decide, (fun h => absurd h (by decide)), fun _ => ⟨List.mem_of_getElem? (i := 1151) (by decide +kernel), List.mem_of_getElem? (i := 1152) (by decide +kernel), by decide⟩, (fun h => absurd h (by decide)), (fun h => absurd h (by decide))⟩
set_option maxRecDepth 100000 in
theorem kX11_kin : fk_qP (0, qX11_kin, 3) := ⟨⟨List.mem_of_getElem? (i := 1180) (by decide +kernel), fk_pi11, rfl⟩, ⟨fk_pc11.1, fk_pc11.2.1, fk_pc11.2.2, fk_pd35⟩, by decide, (fun h => absurd h (by decide)), fun _ => ⟨List.mem_of_getElem? (i := 1178) (by decide +kernel), List.mem_of_getElem? (i := 1179) (by decide +kernel), by decide⟩, (fun h => absurd h (by decide)), (fun h => absurd h (by decide))⟩
set_option maxRecDepth 100000 in
theorem kX11_bread : fk_qP (0, qX11_bread, 2) := ⟨⟨List.mem_of_getElem? (i := 1189) (by decide +kernel), fk_pi11, rfl⟩, ⟨fk_pc11.1, fk_pc11.2.1, fk_pc11.2.2, fk_pd21⟩, by decide, (fun h => absurd h (by decide)), fun _ => ⟨List.mem_of_getElem? (i := 1187) (by decide +kernel), List.mem_of_getElem? (i := 1188) (by decide +kernel), by decide⟩, (fun h => absurd h (by decide)), (fun h => absurd h (by decide))⟩
set_option maxRecDepth 100000 in
theorem kX11_vote : fk_qP (0, qX11_vote, 3) := ⟨⟨List.mem_of_getElem? (i := 1198) (by decide +kernel), fk_pi11, rfl⟩, ⟨fk_pc11.1, fk_pc11.2.1, fk_pc11.2.2, fk_pd35⟩, by decide, (fun h => absurd h (by decide)), fun _ => ⟨List.mem_of_getElem? (i := 1196) (by decide +kernel), List.mem_of_getElem? (i := 1197) (by decide +kernel), by decide⟩, (fun h => absurd h (by decide)), (fun h => absurd h (by decide))⟩
set_option maxRecDepth 100000 in
theorem kX11_seed : fk_qP (0, qX11_seed, 1) := ⟨⟨List.mem_of_getElem? (i := 1207) (by decide +kernel), fk_pi11, rfl⟩, ⟨fk_pc11.1, fk_pc11.2.1, fk_pc11.2.2, fk_pd20⟩, by decide, (fun h => absurd h (by decide)), fun _ => ⟨List.mem_of_getElem? (i := 1205) (by decide +kernel), List.mem_of_getElem? (i := 1206) (by decide +kernel), by decide⟩, (fun h => absurd h (by decide)), (fun h => absurd h (by decide))⟩
set_option maxRecDepth 100000 in
theorem kX11_keep : fk_qP (0, qX11_keep, 0) := ⟨⟨List.mem_of_getElem? (i := 1211) (by decide +kernel), fk_pi11, rfl⟩, ⟨fk_pc11.1, fk_pc11.2.1, fk_pc11.2.2, fk_pd9⟩, by decide, (fun h => absurd h (by decide)), fun _ => ⟨List.mem_of_getElem? (i := 1209) (by decide +kernel), List.mem_of_getElem? (i := 1210) (by decide +kernel), by decide⟩, (fun h => absurd h (by decide)), (fun h => absurd h (by decide))⟩
set_option maxRecDepth 100000 in
theorem kX11_undo : fk_qP (0, qX11_undo, 0) := ⟨⟨List.mem_of_getElem? (i := 1220) (by decide +kernel), fk_pi11, rfl⟩, ⟨fk_pc11.1, fk_pc11.2.1, fk_pc11.2.2, fk_pd14⟩, by decide, (fun h => absurd h (by decide)), fun _ => ⟨List.mem_of_getElem? (i := 1218) (by decide +kernel), List.mem_of_getElem? (i := 1219) (by decide +kernel), by decide⟩, (fun h => absurd h (by decide)), (fun h => absurd h (by decide))⟩
set_option maxRecDepth 100000 in
theorem kX11_check : fk_qP (0, qX11_check, 1) := ⟨⟨List.mem_of_getElem? (i := 1224) (by decide +kernel), fk_pi11, rfl⟩, ⟨fk_pc11.1, fk_pc11.2.1, fk_pc11.2.2, fk_pd5⟩, by decide, (fun h => absurd h (by decide)), fun _ => ⟨List.mem_of_getElem? (i := 1222) (by decide +kernel), List.mem_of_getElem? (i := 1223) (by decide +kernel), by decide⟩, (fun h => absurd h (by decide)), (fun h => absurd h (by decide))⟩
set_option maxRecDepth 100000 in
theorem kX11_count : fk_qP (0, qX11_count, 1) := ⟨⟨List.mem_of_getElem? (i := 1233) (by decide +kernel), fk_pi11, rfl⟩, ⟨fk_pc11.1, fk_pc11.2.1, fk_pc11.2.2, fk_pd5⟩, by decide, (fun h => absurd h (by decide)), fun _ => ⟨List.mem_of_getElem? (i := 1231) (by decide +kernel), List.mem_of_getElem? (i := 1232) (by decide +kernel), by decide⟩, (fun h => absurd h (by decide)), (fun h => absurd h (by decide))⟩
set_option maxRecDepth 100000 in
theorem kX11_within : fk_qP (2, qX11_within, 2) := ⟨⟨List.mem_of_getElem? (i := 588) (by decide +kernel), fk_pi11, rfl⟩, ⟨fk_pc11.1, fk_pc11.2.1, fk_pc11.2.2, fk_pd40⟩, by decide, fun _ => List.mem_of_getElem? (i := 587) (by decide +kernel), (fun h => absurd h (by decide)), (fun h => absurd h (by decide)), (fun h => absurd h (by decide))⟩
set_option maxRecDepth 100000 in
theorem kX11_faultAt : fk_qP (2, qX11_faultAt, 2) := ⟨⟨List.mem_of_getElem? (i := 765) (by decide +kernel), fk_pi11, rfl⟩, ⟨fk_pc11.1, fk_pc11.2.1, fk_pc11.2.2, fk_pd21⟩, by decide, fun _ => List.mem_of_getElem? (i := 764) (by decide +kernel), (fun h => absurd h (by decide)), (fun h => absurd h (by decide)), (fun h => absurd h (by decide))⟩
set_option maxRecDepth 100000 in
theorem kX11_canPass : fk_qP (0, qX11_canPass, 1) := ⟨⟨List.mem_of_getElem? (i := 825) (by decide +kernel), fk_pi11, rfl⟩, ⟨fk_pc11.1, fk_pc11.2.1, fk_pc11.2.2, fk_pd20⟩, by decide, (fun h => absurd h (by decide)), fun _ => ⟨List.mem_of_getElem? (i := 824) (by decide +kernel), List.mem_of_getElem? (i := 12) (by decide +kernel), by decide⟩, (fun h => absurd h (by decide)), (fun h => absurd h (by decide))⟩
set_option maxRecDepth 100000 in
theorem kX11_isTriable : fk_qP (2, qX11_isTriable, 1) := ⟨⟨List.mem_of_getElem? (i := 950) (by decide +kernel), fk_pi11, rfl⟩, ⟨fk_pc11.1, fk_pc11.2.1, fk_pc11.2.2, fk_pd20⟩, by decide, fun _ => List.mem_of_getElem? (i := 949) (by decide +kernel), (fun h => absurd h (by decide)), (fun h => absurd h (by decide)), (fun h => absurd h (by decide))⟩
set_option maxRecDepth 100000 in
theorem kX11_isSettled : fk_qP (0, qX11_isSettled, 2) := ⟨⟨List.mem_of_getElem? (i := 1097) (by decide +kernel), fk_pi11, rfl⟩, ⟨fk_pc11.1, fk_pc11.2.1, fk_pc11.2.2, fk_pd40⟩, by decide, (fun h => absurd h (by decide)), fun _ => ⟨List.mem_of_getElem? (i := 1096) (by decide +kernel), List.mem_of_getElem? (i := 27) (by decide +kernel), by decide⟩, (fun h => absurd h (by decide)), (fun h => absurd h (by decide))⟩
set_option maxRecDepth 100000 in
theorem kX11_seenHour : fk_qP (0, qX11_seenHour, 1) := ⟨⟨List.mem_of_getElem? (i := 1110) (by decide +kernel), fk_pi11, rfl⟩, ⟨fk_pc11.1, fk_pc11.2.1, fk_pc11.2.2, fk_pd5⟩, by decide, (fun h => absurd h (by decide)), fun _ => ⟨List.mem_of_getElem? (i := 1109) (by decide +kernel), List.mem_of_getElem? (i := 29) (by decide +kernel), by decide⟩, (fun h => absurd h (by decide)), (fun h => absurd h (by decide))⟩
set_option maxRecDepth 100000 in
theorem kX11_seenPlace : fk_qP (0, qX11_seenPlace, 1) := ⟨⟨List.mem_of_getElem? (i := 1105) (by decide +kernel), fk_pi11, rfl⟩, ⟨fk_pc11.1, fk_pc11.2.1, fk_pc11.2.2, fk_pd5⟩, by decide, (fun h => absurd h (by decide)), fun _ => ⟨List.mem_of_getElem? (i := 1104) (by decide +kernel), List.mem_of_getElem? (i := 28) (by decide +kernel), by decide⟩, (fun h => absurd h (by decide)), (fun h => absurd h (by decide))⟩
set_option maxRecDepth 100000 in
theorem kX11_wasSeen : fk_qP (0, qX11_wasSeen, 2) := ⟨⟨List.mem_of_getElem? (i := 1115) (by decide +kernel), fk_pi11, rfl⟩, ⟨fk_pc11.1, fk_pc11.2.1, fk_pc11.2.2, fk_pd40⟩, by decide, (fun h => absurd h (by decide)), fun _ => ⟨List.mem_of_getElem? (i := 1114) (by decide +kernel), List.mem_of_getElem? (i := 30) (by decide +kernel), by decide⟩, (fun h => absurd h (by decide)), (fun h => absurd h (by decide))⟩
set_option maxRecDepth 100000 in
theorem kX11_isSo : fk_qP (0, qX11_isSo, 3) := ⟨⟨List.mem_of_getElem? (i := 1176) (by decide +kernel), fk_pi11, rfl⟩, ⟨fk_pc11.1, fk_pc11.2.1, fk_pc11.2.2, fk_pd43⟩, by decide, (fun h => absurd h (by decide)), fun _ => ⟨List.mem_of_getElem? (i := 1175) (by decide +kernel), List.mem_of_getElem? (i := 35) (by decide +kernel), by decide⟩, (fun h => absurd h (by decide)), (fun h => absurd h (by decide))⟩
set_option maxRecDepth 100000 in
theorem kX12_init : fk_qP (4, qX12_init, 0) := ⟨⟨List.mem_of_getElem? (i := 1246) (by decide +kernel), fk_pi12, rfl⟩, ⟨fk_pc12.1, fk_pc12.2.1, fk_pc12.2.2, fk_pd10⟩, by decide, (fun h => absurd h (by decide)), (fun h => absurd h (by decide)), fun _ => ⟨List.mem_of_getElem? (i := 1245) (by decide +kernel), rfl, rfl, by decide⟩, (fun h => absurd h (by decide))⟩
set_option maxRecDepth 100000 in
theorem kX12_in : fk_qP (2, qX12_in, 3) := ⟨⟨List.mem_of_getElem? (i := 1406) (by decide +kernel), fk_pi12, rfl⟩, ⟨fk_pc12.1, fk_pc12.2.1, fk_pc12.2.2, fk_pd43⟩, by decide, fun _ => List.mem_of_getElem? (i := 1405) (by decide +kernel), (fun h => absurd h (by decide)), (fun h => absurd h (by decide)), (fun h => absurd h (by decide))⟩
set_option maxRecDepth 100000 in
theorem kX12_min : fk_qP (2, qX12_min, 2) := ⟨⟨List.mem_of_getElem? (i := 1601) (by decide +kernel), fk_pi12, rfl⟩, ⟨fk_pc12.1, fk_pc12.2.1, fk_pc12.2.2, fk_pd21⟩, by decide, fun _ => List.mem_of_getElem? (i := 1600) (by decide +kernel), (fun h => absurd h (by decide)), (fun h => absurd h (by decide)), (fun h => absurd h (by decide))⟩
set_option maxRecDepth 100000 in
theorem kX12_max : fk_qP (2, qX12_max, 2) := ⟨⟨List.mem_of_getElem? (i := 1581) (by decide +kernel), fk_pi12, rfl⟩, ⟨fk_pc12.1, fk_pc12.2.1, fk_pc12.2.2, fk_pd21⟩, by decide, fun _ => List.mem_of_getElem? (i := 1580) (by decide +kernel), (fun h => absurd h (by decide)), (fun h => absurd h (by decide)), (fun h => absurd h (by decide))⟩
set_option maxRecDepth 100000 in
theorem kX12_has : fk_qP (2, qX12_has, 2) := ⟨⟨List.mem_of_getElem? (i := 1587) (by decide +kernel), fk_pi12, rfl⟩, ⟨fk_pc12.1, fk_pc12.2.1, fk_pc12.2.2, fk_pd40⟩, by decide, fun _ => List.mem_of_getElem? (i := 1586) (by decide +kernel), (fun h => absurd h (by decide)), (fun h => absurd h (by decide)), (fun h => absurd h (by decide))⟩
set_option maxRecDepth 100000 in
theorem kX12_bits : fk_qP (2, qX12_bits, 1) := ⟨⟨List.mem_of_getElem? (i := 1584) (by decide +kernel), fk_pi12, rfl⟩, ⟨fk_pc12.1, fk_pc12.2.1, fk_pc12.2.2, fk_pd5⟩, by decide, fun _ => List.mem_of_getElem? (i := 1583) (by decide +kernel), (fun h => absurd h (by decide)), (fun h => absurd h (by decide)), (fun h => absurd h (by decide))⟩
set_option maxRecDepth 100000 in
theorem kX12_copies : fk_qP (2, qX12_copies, 2) := ⟨⟨List.mem_of_getElem? (i := 1653) (by decide +kernel), fk_pi12, rfl⟩, ⟨fk_pc12.1, fk_pc12.2.1, fk_pc12.2.2, fk_pd44⟩, by decide, fun _ => List.mem_of_getElem? (i := 1652) (by decide +kernel), (fun h => absurd h (by decide)), (fun h => absurd h (by decide)), (fun h => absurd h (by decide))⟩
set_option maxRecDepth 100000 in
theorem kX12_begins : fk_qP (0, qX12_begins, 0) := ⟨⟨List.mem_of_getElem? (i := 1650) (by decide +kernel), fk_pi12, rfl⟩, ⟨fk_pc12.1, fk_pc12.2.1, fk_pc12.2.2, fk_pd10⟩, by decide, (fun h => absurd h (by decide)), fun _ => ⟨List.mem_of_getElem? (i := 1649) (by decide +kernel), List.mem_of_getElem? (i := 79) (by decide +kernel), by decide⟩, (fun h => absurd h (by decide)), (fun h => absurd h (by decide))⟩
set_option maxRecDepth 100000 in
theorem kX12_again : fk_qP (0, qX12_again, 0) := ⟨⟨List.mem_of_getElem? (i := 1665) (by decide +kernel), fk_pi12, rfl⟩, ⟨fk_pc12.1, fk_pc12.2.1, fk_pc12.2.2, fk_pd10⟩, by decide, (fun h => absurd h (by decide)), fun _ => ⟨List.mem_of_getElem? (i := 1664) (by decide +kernel), List.mem_of_getElem? (i := 82) (by decide +kernel), by decide⟩, (fun h => absurd h (by decide)), (fun h => absurd h (by decide))⟩
set_option maxRecDepth 100000 in
theorem kX12_isPlace : fk_qP (2, qX12_isPlace, 1) := ⟨⟨List.mem_of_getElem? (i := 1409) (by decide +kernel), fk_pi12, rfl⟩, ⟨fk_pc12.1, fk_pc12.2.1, fk_pc12.2.2, fk_pd20⟩, by decide, fun _ => List.mem_of_getElem? (i := 1408) (by decide +kernel), (fun h => absurd h (by decide)), (fun h => absurd h (by decide)), (fun h => absurd h (by decide))⟩
set_option maxRecDepth 100000 in
theorem kX12_isRoad : fk_qP (0, qX12_isRoad, 1) := ⟨⟨List.mem_of_getElem? (i := 1626) (by decide +kernel), fk_pi12, rfl⟩, ⟨fk_pc12.1, fk_pc12.2.1, fk_pc12.2.2, fk_pd20⟩, by decide, (fun h => absurd h (by decide)), fun _ => ⟨List.mem_of_getElem? (i := 1625) (by decide +kernel), List.mem_of_getElem? (i := 74) (by decide +kernel), by decide⟩, (fun h => absurd h (by decide)), (fun h => absurd h (by decide))⟩
set_option maxRecDepth 100000 in
theorem kX12_isOne : fk_qP (2, qX12_isOne, 1) := ⟨⟨List.mem_of_getElem? (i := 1423) (by decide +kernel), fk_pi12, rfl⟩, ⟨fk_pc12.1, fk_pc12.2.1, fk_pc12.2.2, fk_pd20⟩, by decide, fun _ => List.mem_of_getElem? (i := 1422) (by decide +kernel), (fun h => absurd h (by decide)), (fun h => absurd h (by decide)), (fun h => absurd h (by decide))⟩
set_option maxRecDepth 100000 in
theorem kX12_isFact : fk_qP (2, qX12_isFact, 1) := ⟨⟨List.mem_of_getElem? (i := 1416) (by decide +kernel), fk_pi12, rfl⟩, ⟨fk_pc12.1, fk_pc12.2.1, fk_pc12.2.2, fk_pd20⟩, by decide, fun _ => List.mem_of_getElem? (i := 1415) (by decide +kernel), (fun h => absurd h (by decide)), (fun h => absurd h (by decide)), (fun h => absurd h (by decide))⟩
set_option maxRecDepth 100000 in
theorem kX12_road : fk_qP (0, qX12_road, 4) := ⟨⟨List.mem_of_getElem? (i := 1403) (by decide +kernel), fk_pi12, rfl⟩, ⟨fk_pc12.1, fk_pc12.2.1, fk_pc12.2.2, fk_pd38⟩, by decide, (fun h => absurd h (by decide)), fun _ => ⟨List.mem_of_getElem? (i := 1401) (by decide +kernel), List.mem_of_getElem? (i := 1402) (by decide +kernel), by decide⟩, (fun h => absurd h (by decide)), (fun h => absurd h (by decide))⟩
set_option maxRecDepth 100000 in
theorem kX12_notice : fk_qP (0, qX12_notice, 3) := ⟨⟨List.mem_of_getElem? (i := 1413) (by decide +kernel), fk_pi12, rfl⟩, ⟨fk_pc12.1, fk_pc12.2.1, fk_pc12.2.2, fk_pd39⟩, by decide, (fun h => absurd h (by decide)), fun _ => ⟨List.mem_of_getElem? (i := 1411) (by decide +kernel), List.mem_of_getElem? (i := 1412) (by decide +kernel), by decide⟩, (fun h => absurd h (by decide)), (fun h => absurd h (by decide))⟩
set_option maxRecDepth 100000 in
theorem kX12_lives : fk_qP (0, qX12_lives, 1) := ⟨⟨List.mem_of_getElem? (i := 1431) (by decide +kernel), fk_pi12, rfl⟩, ⟨fk_pc12.1, fk_pc12.2.1, fk_pc12.2.2, fk_pd20⟩, by decide, (fun h => absurd h (by decide)), fun _ => ⟨List.mem_of_getElem? (i := 1430) (by decide +kernel), List.mem_of_getElem? (i := 37) (by decide +kernel), by decide⟩, (fun h => absurd h (by decide)), (fun h => absurd h (by decide))⟩
set_option maxRecDepth 100000 in
theorem kX12_isHalf : fk_qP (0, qX12_isHalf, 1) := ⟨⟨List.mem_of_getElem? (i := 1447) (by decide +kernel), fk_pi12, rfl⟩, ⟨fk_pc12.1, fk_pc12.2.1, fk_pc12.2.2, fk_pd20⟩, by decide, (fun h => absurd h (by decide)), fun _ => ⟨List.mem_of_getElem? (i := 1446) (by decide +kernel), List.mem_of_getElem? (i := 40) (by decide +kernel), by decide⟩, (fun h => absurd h (by decide)), (fun h => absurd h (by decide))⟩
set_option maxRecDepth 100000 in
theorem kX12_isLiving : fk_qP (0, qX12_isLiving, 1) := ⟨⟨List.mem_of_getElem? (i := 1443) (by decide +kernel), fk_pi12, rfl⟩, ⟨fk_pc12.1, fk_pc12.2.1, fk_pc12.2.2, fk_pd20⟩, by decide, (fun h => absurd h (by decide)), fun _ => ⟨List.mem_of_getElem? (i := 1442) (by decide +kernel), List.mem_of_getElem? (i := 39) (by decide +kernel), by decide⟩, (fun h => absurd h (by decide)), (fun h => absurd h (by decide))⟩
set_option maxRecDepth 100000 in
theorem kX12_isAt : fk_qP (0, qX12_isAt, 1) := ⟨⟨List.mem_of_getElem? (i := 1566) (by decide +kernel), fk_pi12, rfl⟩, ⟨fk_pc12.1, fk_pc12.2.1, fk_pc12.2.2, fk_pd20⟩, by decide, (fun h => absurd h (by decide)), fun _ => ⟨List.mem_of_getElem? (i := 1565) (by decide +kernel), List.mem_of_getElem? (i := 63) (by decide +kernel), by decide⟩, (fun h => absurd h (by decide)), (fun h => absurd h (by decide))⟩
set_option maxRecDepth 100000 in
theorem kX12_livingOf : fk_qP (0, qX12_livingOf, 1) := ⟨⟨List.mem_of_getElem? (i := 1427) (by decide +kernel), fk_pi12, rfl⟩, ⟨fk_pc12.1, fk_pc12.2.1, fk_pc12.2.2, fk_pd5⟩, by decide, (fun h => absurd h (by decide)), fun _ => ⟨List.mem_of_getElem? (i := 1426) (by decide +kernel), List.mem_of_getElem? (i := 36) (by decide +kernel), by decide⟩, (fun h => absurd h (by decide)), (fun h => absurd h (by decide))⟩
set_option maxRecDepth 100000 in
theorem kX12_living : fk_qP (0, qX12_living, 0) := ⟨⟨List.mem_of_getElem? (i := 1642) (by decide +kernel), fk_pi12, rfl⟩, ⟨fk_pc12.1, fk_pc12.2.1, fk_pc12.2.2, fk_pd9⟩, by decide, (fun h => absurd h (by decide)), fun _ => ⟨List.mem_of_getElem? (i := 1641) (by decide +kernel), List.mem_of_getElem? (i := 78) (by decide +kernel), by decide⟩, (fun h => absurd h (by decide)), (fun h => absurd h (by decide))⟩
set_option maxRecDepth 100000 in
theorem kX12_begin : fk_qP (0, qX12_begin, 3) := ⟨⟨List.mem_of_getElem? (i := 1435) (by decide +kernel), fk_pi12, rfl⟩, ⟨fk_pc12.1, fk_pc12.2.1, fk_pc12.2.2, fk_pd35⟩, by decide, (fun h => absurd h (by decide)), fun _ => ⟨List.mem_of_getElem? (i := 1434) (by decide +kernel), List.mem_of_getElem? (i := 38) (by decide +kernel), by decide⟩, (fun h => absurd h (by decide)), (fun h => absurd h (by decide))⟩
set_option maxRecDepth 100000 in
theorem kX12_comes : fk_qP (0, qX12_comes, 2) := ⟨⟨List.mem_of_getElem? (i := 1420) (by decide +kernel), fk_pi12, rfl⟩, ⟨fk_pc12.1, fk_pc12.2.1, fk_pc12.2.2, fk_pd21⟩, by decide, (fun h => absurd h (by decide)), fun _ => ⟨List.mem_of_getElem? (i := 1418) (by decide +kernel), List.mem_of_getElem? (i := 1419) (by decide +kernel), by decide⟩, (fun h => absurd h (by decide)), (fun h => absurd h (by decide))⟩
set_option maxRecDepth 100000 in
theorem kX12_knows : fk_qP (0, qX12_knows, 3) := ⟨⟨List.mem_of_getElem? (i := 1451) (by decide +kernel), fk_pi12, rfl⟩, ⟨fk_pc12.1, fk_pc12.2.1, fk_pc12.2.2, fk_pd45⟩, by decide, (fun h => absurd h (by decide)), fun _ => ⟨List.mem_of_getElem? (i := 1450) (by decide +kernel), List.mem_of_getElem? (i := 41) (by decide +kernel), by decide⟩, (fun h => absurd h (by decide)), (fun h => absurd h (by decide))⟩
set_option maxRecDepth 100000 in
theorem kX12_learns : fk_qP (0, qX12_learns, 3) := ⟨⟨List.mem_of_getElem? (i := 1439) (by decide +kernel), fk_pi12, rfl⟩, ⟨fk_pc12.1, fk_pc12.2.1, fk_pc12.2.2, fk_pd39⟩, by decide, (fun h => absurd h (by decide)), fun _ => ⟨List.mem_of_getElem? (i := 1437) (by decide +kernel), List.mem_of_getElem? (i := 1438) (by decide +kernel), by decide⟩, (fun h => absurd h (by decide)), (fun h => absurd h (by decide))⟩
set_option maxRecDepth 100000 in
theorem kX12_owes : fk_qP (0, qX12_owes, 2) := ⟨⟨List.mem_of_getElem? (i := 1455) (by decide +kernel), fk_pi12, rfl⟩, ⟨fk_pc12.1, fk_pc12.2.1, fk_pc12.2.2, fk_pd40⟩, by decide, (fun h => absurd h (by decide)), fun _ => ⟨List.mem_of_getElem? (i := 1453) (by decide +kernel), List.mem_of_getElem? (i := 1454) (by decide +kernel), by decide⟩, (fun h => absurd h (by decide)), (fun h => absurd h (by decide))⟩
set_option maxRecDepth 100000 in
theorem kX12_types : fk_qP (0, qX12_types, 1) := ⟨⟨List.mem_of_getElem? (i := 1464) (by decide +kernel), fk_pi12, rfl⟩, ⟨fk_pc12.1, fk_pc12.2.1, fk_pc12.2.2, fk_pd0⟩, by decide, (fun h => absurd h (by decide)), fun _ => ⟨List.mem_of_getElem? (i := 1463) (by decide +kernel), List.mem_of_getElem? (i := 42) (by decide +kernel), by decide⟩, (fun h => absurd h (by decide)), (fun h => absurd h (by decide))⟩
set_option maxRecDepth 100000 in
theorem kX12_feed : fk_qP (0, qX12_feed, 5) := ⟨⟨List.mem_of_getElem? (i := 1460) (by decide +kernel), fk_pi12, rfl⟩, ⟨fk_pc12.1, fk_pc12.2.1, fk_pc12.2.2, fk_pd41⟩, by decide, (fun h => absurd h (by decide)), fun _ => ⟨List.mem_of_getElem? (i := 1458) (by decide +kernel), List.mem_of_getElem? (i := 1459) (by decide +kernel), by decide⟩, (fun h => absurd h (by decide)), (fun h => absurd h (by decide))⟩
set_option maxRecDepth 100000 in
theorem kX12_here : fk_qP (0, qX12_here, 0) := ⟨⟨List.mem_of_getElem? (i := 1476) (by decide +kernel), fk_pi12, rfl⟩, ⟨fk_pc12.1, fk_pc12.2.1, fk_pc12.2.2, fk_pd9⟩, by decide, (fun h => absurd h (by decide)), fun _ => ⟨List.mem_of_getElem? (i := 1475) (by decide +kernel), List.mem_of_getElem? (i := 44) (by decide +kernel), by decide⟩, (fun h => absurd h (by decide)), (fun h => absurd h (by decide))⟩
set_option maxRecDepth 100000 in
theorem kX12_isDigit : fk_qP (0, qX12_isDigit, 0) := ⟨⟨List.mem_of_getElem? (i := 1500) (by decide +kernel), fk_pi12, rfl⟩, ⟨fk_pc12.1, fk_pc12.2.1, fk_pc12.2.2, fk_pd14⟩, by decide, (fun h => absurd h (by decide)), fun _ => ⟨List.mem_of_getElem? (i := 1499) (by decide +kernel), List.mem_of_getElem? (i := 49) (by decide +kernel), by decide⟩, (fun h => absurd h (by decide)), (fun h => absurd h (by decide))⟩
set_option maxRecDepth 100000 in
theorem kX12_wrongAt : fk_qP (0, qX12_wrongAt, 2) := ⟨⟨List.mem_of_getElem? (i := 1483) (by decide +kernel), fk_pi12, rfl⟩, ⟨fk_pc12.1, fk_pc12.2.1, fk_pc12.2.2, fk_pd40⟩, by decide, (fun h => absurd h (by decide)), fun _ => ⟨List.mem_of_getElem? (i := 1482) (by decide +kernel), List.mem_of_getElem? (i := 45) (by decide +kernel), by decide⟩, (fun h => absurd h (by decide)), (fun h => absurd h (by decide))⟩
set_option maxRecDepth 100000 in
theorem kX12_takes : fk_qP (0, qX12_takes, 1) := ⟨⟨List.mem_of_getElem? (i := 1550) (by decide +kernel), fk_pi12, rfl⟩, ⟨fk_pc12.1, fk_pc12.2.1, fk_pc12.2.2, fk_pd20⟩, by decide, (fun h => absurd h (by decide)), fun _ => ⟨List.mem_of_getElem? (i := 1549) (by decide +kernel), List.mem_of_getElem? (i := 60) (by decide +kernel), by decide⟩, (fun h => absurd h (by decide)), (fun h => absurd h (by decide))⟩
set_option maxRecDepth 100000 in
theorem kX12_readsNumber : fk_qP (0, qX12_readsNumber, 0) := ⟨⟨List.mem_of_getElem? (i := 1504) (by decide +kernel), fk_pi12, rfl⟩, ⟨fk_pc12.1, fk_pc12.2.1, fk_pc12.2.2, fk_pd14⟩, by decide, (fun h => absurd h (by decide)), fun _ => ⟨List.mem_of_getElem? (i := 1503) (by decide +kernel), List.mem_of_getElem? (i := 50) (by decide +kernel), by decide⟩, (fun h => absurd h (by decide)), (fun h => absurd h (by decide))⟩
set_option maxRecDepth 100000 in
theorem kX12_notes : fk_qP (0, qX12_notes, 2) := ⟨⟨List.mem_of_getElem? (i := 1508) (by decide +kernel), fk_pi12, rfl⟩, ⟨fk_pc12.1, fk_pc12.2.1, fk_pc12.2.2, fk_pd3⟩, by decide, (fun h => absurd h (by decide)), fun _ => ⟨List.mem_of_getElem? (i := 1507) (by decide +kernel), List.mem_of_getElem? (i := 51) (by decide +kernel), by decide⟩, (fun h => absurd h (by decide)), (fun h => absurd h (by decide))⟩
set_option maxRecDepth 100000 in
theorem kX12_opens : fk_qP (0, qX12_opens, 1) := ⟨⟨List.mem_of_getElem? (i := 1495) (by decide +kernel), fk_pi12, rfl⟩, ⟨fk_pc12.1, fk_pc12.2.1, fk_pc12.2.2, fk_pd20⟩, by decide, (fun h => absurd h (by decide)), fun _ => ⟨List.mem_of_getElem? (i := 1494) (by decide +kernel), List.mem_of_getElem? (i := 48) (by decide +kernel), by decide⟩, (fun h => absurd h (by decide)), (fun h => absurd h (by decide))⟩
set_option maxRecDepth 100000 in
theorem kX12_waitTop : fk_qP (0, qX12_waitTop, 0) := ⟨⟨List.mem_of_getElem? (i := 1522) (by decide +kernel), fk_pi12, rfl⟩, ⟨fk_pc12.1, fk_pc12.2.1, fk_pc12.2.2, fk_pd9⟩, by decide, (fun h => absurd h (by decide)), fun _ => ⟨List.mem_of_getElem? (i := 1521) (by decide +kernel), List.mem_of_getElem? (i := 53) (by decide +kernel), by decide⟩, (fun h => absurd h (by decide)), (fun h => absurd h (by decide))⟩
set_option maxRecDepth 100000 in
theorem kX12_factOf : fk_qP (2, qX12_factOf, 1) := ⟨⟨List.mem_of_getElem? (i := 1511) (by decide +kernel), fk_pi12, rfl⟩, ⟨fk_pc12.1, fk_pc12.2.1, fk_pc12.2.2, fk_pd5⟩, by decide, fun _ => List.mem_of_getElem? (i := 1510) (by decide +kernel), (fun h => absurd h (by decide)), (fun h => absurd h (by decide)), (fun h => absurd h (by decide))⟩
set_option maxRecDepth 100000 in
theorem kX12_sumSign : fk_qP (2, qX12_sumSign, 1) := ⟨⟨List.mem_of_getElem? (i := 1514) (by decide +kernel), fk_pi12, rfl⟩, ⟨fk_pc12.1, fk_pc12.2.1, fk_pc12.2.2, fk_pd5⟩, by decide, fun _ => List.mem_of_getElem? (i := 1513) (by decide +kernel), (fun h => absurd h (by decide)), (fun h => absurd h (by decide)), (fun h => absurd h (by decide))⟩
set_option maxRecDepth 100000 in
theorem kX12_closesSums : fk_qP (0, qX12_closesSums, 1) := ⟨⟨List.mem_of_getElem? (i := 1518) (by decide +kernel), fk_pi12, rfl⟩, ⟨fk_pc12.1, fk_pc12.2.1, fk_pc12.2.2, fk_pd46⟩, by decide, (fun h => absurd h (by decide)), fun _ => ⟨List.mem_of_getElem? (i := 1517) (by decide +kernel), List.mem_of_getElem? (i := 52) (by decide +kernel), by decide⟩, (fun h => absurd h (by decide)), (fun h => absurd h (by decide))⟩
set_option maxRecDepth 100000 in
theorem kX12_readsFactor : fk_qP (0, qX12_readsFactor, 0) := ⟨⟨List.mem_of_getElem? (i := 1491) (by decide +kernel), fk_pi12, rfl⟩, ⟨fk_pc12.1, fk_pc12.2.1, fk_pc12.2.2, fk_pd14⟩, by decide, (fun h => absurd h (by decide)), fun _ => ⟨List.mem_of_getElem? (i := 1490) (by decide +kernel), List.mem_of_getElem? (i := 47) (by decide +kernel), by decide⟩, (fun h => absurd h (by decide)), (fun h => absurd h (by decide))⟩
set_option maxRecDepth 100000 in
theorem kX12_hasOpenSum : fk_qP (0, qX12_hasOpenSum, 1) := ⟨⟨List.mem_of_getElem? (i := 1526) (by decide +kernel), fk_pi12, rfl⟩, ⟨fk_pc12.1, fk_pc12.2.1, fk_pc12.2.2, fk_pd20⟩, by decide, (fun h => absurd h (by decide)), fun _ => ⟨List.mem_of_getElem? (i := 1525) (by decide +kernel), List.mem_of_getElem? (i := 54) (by decide +kernel), by decide⟩, (fun h => absurd h (by decide)), (fun h => absurd h (by decide))⟩
set_option maxRecDepth 100000 in
theorem kX12_readsSum : fk_qP (0, qX12_readsSum, 0) := ⟨⟨List.mem_of_getElem? (i := 1487) (by decide +kernel), fk_pi12, rfl⟩, ⟨fk_pc12.1, fk_pc12.2.1, fk_pc12.2.2, fk_pd14⟩, by decide, (fun h => absurd h (by decide)), fun _ => ⟨List.mem_of_getElem? (i := 1486) (by decide +kernel), List.mem_of_getElem? (i := 46) (by decide +kernel), by decide⟩, (fun h => absurd h (by decide)), (fun h => absurd h (by decide))⟩
set_option maxRecDepth 100000 in
theorem kX12_endsPiece : fk_qP (0, qX12_endsPiece, 0) := ⟨⟨List.mem_of_getElem? (i := 1538) (by decide +kernel), fk_pi12, rfl⟩, ⟨fk_pc12.1, fk_pc12.2.1, fk_pc12.2.2, fk_pd10⟩, by decide, (fun h => absurd h (by decide)), fun _ => ⟨List.mem_of_getElem? (i := 1537) (by decide +kernel), List.mem_of_getElem? (i := 57) (by decide +kernel), by decide⟩, (fun h => absurd h (by decide)), (fun h => absurd h (by decide))⟩
set_option maxRecDepth 100000 in
theorem kX12_lands : fk_qP (0, qX12_lands, 1) := ⟨⟨List.mem_of_getElem? (i := 1542) (by decide +kernel), fk_pi12, rfl⟩, ⟨fk_pc12.1, fk_pc12.2.1, fk_pc12.2.2, fk_pd46⟩, by decide, (fun h => absurd h (by decide)), fun _ => ⟨List.mem_of_getElem? (i := 1541) (by decide +kernel), List.mem_of_getElem? (i := 58) (by decide +kernel), by decide⟩, (fun h => absurd h (by decide)), (fun h => absurd h (by decide))⟩
set_option maxRecDepth 100000 in
theorem kX12_jumps : fk_qP (0, qX12_jumps, 1) := ⟨⟨List.mem_of_getElem? (i := 1546) (by decide +kernel), fk_pi12, rfl⟩, ⟨fk_pc12.1, fk_pc12.2.1, fk_pc12.2.2, fk_pd0⟩, by decide, (fun h => absurd h (by decide)), fun _ => ⟨List.mem_of_getElem? (i := 1545) (by decide +kernel), List.mem_of_getElem? (i := 59) (by decide +kernel), by decide⟩, (fun h => absurd h (by decide)), (fun h => absurd h (by decide))⟩
set_option maxRecDepth 100000 in
theorem kX12_readsCompared : fk_qP (0, qX12_readsCompared, 0) := ⟨⟨List.mem_of_getElem? (i := 1534) (by decide +kernel), fk_pi12, rfl⟩, ⟨fk_pc12.1, fk_pc12.2.1, fk_pc12.2.2, fk_pd14⟩, by decide, (fun h => absurd h (by decide)), fun _ => ⟨List.mem_of_getElem? (i := 1533) (by decide +kernel), List.mem_of_getElem? (i := 56) (by decide +kernel), by decide⟩, (fun h => absurd h (by decide)), (fun h => absurd h (by decide))⟩
set_option maxRecDepth 100000 in
theorem kX12_readsCondition : fk_qP (0, qX12_readsCondition, 0) := ⟨⟨List.mem_of_getElem? (i := 1530) (by decide +kernel), fk_pi12, rfl⟩, ⟨fk_pc12.1, fk_pc12.2.1, fk_pc12.2.2, fk_pd14⟩, by decide, (fun h => absurd h (by decide)), fun _ => ⟨List.mem_of_getElem? (i := 1529) (by decide +kernel), List.mem_of_getElem? (i := 55) (by decide +kernel), by decide⟩, (fun h => absurd h (by decide)), (fun h => absurd h (by decide))⟩
set_option maxRecDepth 100000 in
theorem kX12_isClause : fk_qP (2, qX12_isClause, 1) := ⟨⟨List.mem_of_getElem? (i := 1479) (by decide +kernel), fk_pi12, rfl⟩, ⟨fk_pc12.1, fk_pc12.2.1, fk_pc12.2.2, fk_pd20⟩, by decide, fun _ => List.mem_of_getElem? (i := 1478) (by decide +kernel), (fun h => absurd h (by decide)), (fun h => absurd h (by decide)), (fun h => absurd h (by decide))⟩
set_option maxRecDepth 100000 in
theorem kX12_readsClause : fk_qP (0, qX12_readsClause, 0) := ⟨⟨List.mem_of_getElem? (i := 1472) (by decide +kernel), fk_pi12, rfl⟩, ⟨fk_pc12.1, fk_pc12.2.1, fk_pc12.2.2, fk_pd14⟩, by decide, (fun h => absurd h (by decide)), fun _ => ⟨List.mem_of_getElem? (i := 1471) (by decide +kernel), List.mem_of_getElem? (i := 43) (by decide +kernel), by decide⟩, (fun h => absurd h (by decide)), (fun h => absurd h (by decide))⟩
set_option maxRecDepth 100000 in
theorem kX12_law : fk_qP (0, qX12_law, 1) := ⟨⟨List.mem_of_getElem? (i := 1468) (by decide +kernel), fk_pi12, rfl⟩, ⟨fk_pc12.1, fk_pc12.2.1, fk_pc12.2.2, fk_pd5⟩, by decide, (fun h => absurd h (by decide)), fun _ => ⟨List.mem_of_getElem? (i := 1466) (by decide +kernel), List.mem_of_getElem? (i := 1467) (by decide +kernel), by decide⟩, (fun h => absurd h (by decide)), (fun h => absurd h (by decide))⟩
set_option maxRecDepth 100000 in
theorem kX12_reckon : fk_qP (2, qX12_reckon, 3) := ⟨⟨List.mem_of_getElem? (i := 1598) (by decide +kernel), fk_pi12, rfl⟩, ⟨fk_pc12.1, fk_pc12.2.1, fk_pc12.2.2, fk_pd35⟩, by decide, fun _ => List.mem_of_getElem? (i := 1597) (by decide +kernel), (fun h => absurd h (by decide)), (fun h => absurd h (by decide)), (fun h => absurd h (by decide))⟩
set_option maxRecDepth 100000 in
theorem kX12_comesTo : fk_qP (0, qX12_comesTo, 2) := ⟨⟨List.mem_of_getElem? (i := 1595) (by decide +kernel), fk_pi12, rfl⟩, ⟨fk_pc12.1, fk_pc12.2.1, fk_pc12.2.2, fk_pd21⟩, by decide, (fun h => absurd h (by decide)), fun _ => ⟨List.mem_of_getElem? (i := 1594) (by decide +kernel), List.mem_of_getElem? (i := 68) (by decide +kernel), by decide⟩, (fun h => absurd h (by decide)), (fun h => absurd h (by decide))⟩
set_option maxRecDepth 100000 in
theorem kX12_byLaw : fk_qP (0, qX12_byLaw, 2) := ⟨⟨List.mem_of_getElem? (i := 1609) (by decide +kernel), fk_pi12, rfl⟩, ⟨fk_pc12.1, fk_pc12.2.1, fk_pc12.2.2, fk_pd21⟩, by decide, (fun h => absurd h (by decide)), fun _ => ⟨List.mem_of_getElem? (i := 1608) (by decide +kernel), List.mem_of_getElem? (i := 70) (by decide +kernel), by decide⟩, (fun h => absurd h (by decide)), (fun h => absurd h (by decide))⟩
set_option maxRecDepth 100000 in
theorem kX12_isElder : fk_qP (0, qX12_isElder, 0) := ⟨⟨List.mem_of_getElem? (i := 1591) (by decide +kernel), fk_pi12, rfl⟩, ⟨fk_pc12.1, fk_pc12.2.1, fk_pc12.2.2, fk_pd14⟩, by decide, (fun h => absurd h (by decide)), fun _ => ⟨List.mem_of_getElem? (i := 1590) (by decide +kernel), List.mem_of_getElem? (i := 67) (by decide +kernel), by decide⟩, (fun h => absurd h (by decide)), (fun h => absurd h (by decide))⟩
set_option maxRecDepth 100000 in
theorem kX12_feels : fk_qP (0, qX12_feels, 1) := ⟨⟨List.mem_of_getElem? (i := 1578) (by decide +kernel), fk_pi12, rfl⟩, ⟨fk_pc12.1, fk_pc12.2.1, fk_pc12.2.2, fk_pd0⟩, by decide, (fun h => absurd h (by decide)), fun _ => ⟨List.mem_of_getElem? (i := 1577) (by decide +kernel), List.mem_of_getElem? (i := 66) (by decide +kernel), by decide⟩, (fun h => absurd h (by decide)), (fun h => absurd h (by decide))⟩
set_option maxRecDepth 100000 in
theorem kX12_gladlyFor : fk_qP (0, qX12_gladlyFor, 2) := ⟨⟨List.mem_of_getElem? (i := 1630) (by decide +kernel), fk_pi12, rfl⟩, ⟨fk_pc12.1, fk_pc12.2.1, fk_pc12.2.2, fk_pd21⟩, by decide, (fun h => absurd h (by decide)), fun _ => ⟨List.mem_of_getElem? (i := 1629) (by decide +kernel), List.mem_of_getElem? (i := 75) (by decide +kernel), by decide⟩, (fun h => absurd h (by decide)), (fun h => absurd h (by decide))⟩
set_option maxRecDepth 100000 in
theorem kX12_remembers : fk_qP (0, qX12_remembers, 0) := ⟨⟨List.mem_of_getElem? (i := 1562) (by decide +kernel), fk_pi12, rfl⟩, ⟨fk_pc12.1, fk_pc12.2.1, fk_pc12.2.2, fk_pd10⟩, by decide, (fun h => absurd h (by decide)), fun _ => ⟨List.mem_of_getElem? (i := 1561) (by decide +kernel), List.mem_of_getElem? (i := 62) (by decide +kernel), by decide⟩, (fun h => absurd h (by decide)), (fun h => absurd h (by decide))⟩
set_option maxRecDepth 100000 in
theorem kX12_goesOn : fk_qP (0, qX12_goesOn, 1) := ⟨⟨List.mem_of_getElem? (i := 1570) (by decide +kernel), fk_pi12, rfl⟩, ⟨fk_pc12.1, fk_pc12.2.1, fk_pc12.2.2, fk_pd0⟩, by decide, (fun h => absurd h (by decide)), fun _ => ⟨List.mem_of_getElem? (i := 1569) (by decide +kernel), List.mem_of_getElem? (i := 64) (by decide +kernel), by decide⟩, (fun h => absurd h (by decide)), (fun h => absurd h (by decide))⟩
set_option maxRecDepth 100000 in
theorem kX12_merges : fk_qP (0, qX12_merges, 2) := ⟨⟨List.mem_of_getElem? (i := 1574) (by decide +kernel), fk_pi12, rfl⟩, ⟨fk_pc12.1, fk_pc12.2.1, fk_pc12.2.2, fk_pd3⟩, by decide, (fun h => absurd h (by decide)), fun _ => ⟨List.mem_of_getElem? (i := 1573) (by decide +kernel), List.mem_of_getElem? (i := 65) (by decide +kernel), by decide⟩, (fun h => absurd h (by decide)), (fun h => absurd h (by decide))⟩
set_option maxRecDepth 100000 in
theorem kX12_arrives : fk_qP (0, qX12_arrives, 1) := ⟨⟨List.mem_of_getElem? (i := 1605) (by decide +kernel), fk_pi12, rfl⟩, ⟨fk_pc12.1, fk_pc12.2.1, fk_pc12.2.2, fk_pd0⟩, by decide, (fun h => absurd h (by decide)), fun _ => ⟨List.mem_of_getElem? (i := 1604) (by decide +kernel), List.mem_of_getElem? (i := 69) (by decide +kernel), by decide⟩, (fun h => absurd h (by decide)), (fun h => absurd h (by decide))⟩
set_option maxRecDepth 100000 in
theorem kX12_mayDie : fk_qP (0, qX12_mayDie, 1) := ⟨⟨List.mem_of_getElem? (i := 1613) (by decide +kernel), fk_pi12, rfl⟩, ⟨fk_pc12.1, fk_pc12.2.1, fk_pc12.2.2, fk_pd0⟩, by decide, (fun h => absurd h (by decide)), fun _ => ⟨List.mem_of_getElem? (i := 1612) (by decide +kernel), List.mem_of_getElem? (i := 71) (by decide +kernel), by decide⟩, (fun h => absurd h (by decide)), (fun h => absurd h (by decide))⟩
set_option maxRecDepth 100000 in
theorem kX12_doubtOf : fk_qP (0, qX12_doubtOf, 1) := ⟨⟨List.mem_of_getElem? (i := 1634) (by decide +kernel), fk_pi12, rfl⟩, ⟨fk_pc12.1, fk_pc12.2.1, fk_pc12.2.2, fk_pd5⟩, by decide, (fun h => absurd h (by decide)), fun _ => ⟨List.mem_of_getElem? (i := 1633) (by decide +kernel), List.mem_of_getElem? (i := 76) (by decide +kernel), by decide⟩, (fun h => absurd h (by decide)), (fun h => absurd h (by decide))⟩
set_option maxRecDepth 100000 in
theorem kX12_bestRoad : fk_qP (0, qX12_bestRoad, 2) := ⟨⟨List.mem_of_getElem? (i := 1622) (by decide +kernel), fk_pi12, rfl⟩, ⟨fk_pc12.1, fk_pc12.2.1, fk_pc12.2.2, fk_pd21⟩, by decide, (fun h => absurd h (by decide)), fun _ => ⟨List.mem_of_getElem? (i := 1621) (by decide +kernel), List.mem_of_getElem? (i := 73) (by decide +kernel), by decide⟩, (fun h => absurd h (by decide)), (fun h => absurd h (by decide))⟩
set_option maxRecDepth 100000 in
theorem kX12_sets : fk_qP (0, qX12_sets, 2) := ⟨⟨List.mem_of_getElem? (i := 1638) (by decide +kernel), fk_pi12, rfl⟩, ⟨fk_pc12.1, fk_pc12.2.1, fk_pc12.2.2, fk_pd3⟩, by decide, (fun h => absurd h (by decide)), fun _ => ⟨List.mem_of_getElem? (i := 1637) (by decide +kernel), List.mem_of_getElem? (i := 77) (by decide +kernel), by decide⟩, (fun h => absurd h (by decide)), (fun h => absurd h (by decide))⟩
set_option maxRecDepth 100000 in
theorem kX12_leaves : fk_qP (0, qX12_leaves, 1) := ⟨⟨List.mem_of_getElem? (i := 1618) (by decide +kernel), fk_pi12, rfl⟩, ⟨fk_pc12.1, fk_pc12.2.1, fk_pc12.2.2, fk_pd0⟩, by decide, (fun h => absurd h (by decide)), fun _ => ⟨List.mem_of_getElem? (i := 1617) (by decide +kernel), List.mem_of_getElem? (i := 72) (by decide +kernel), by decide⟩, (fun h => absurd h (by decide)), (fun h => absurd h (by decide))⟩
set_option maxRecDepth 100000 in
theorem kX12_hourGoes : fk_qP (0, qX12_hourGoes, 0) := ⟨⟨List.mem_of_getElem? (i := 1558) (by decide +kernel), fk_pi12, rfl⟩, ⟨fk_pc12.1, fk_pc12.2.1, fk_pc12.2.2, fk_pd10⟩, by decide, (fun h => absurd h (by decide)), fun _ => ⟨List.mem_of_getElem? (i := 1557) (by decide +kernel), List.mem_of_getElem? (i := 61) (by decide +kernel), by decide⟩, (fun h => absurd h (by decide)), (fun h => absurd h (by decide))⟩
set_option maxRecDepth 100000 in
theorem kX12_hours : fk_qP (0, qX12_hours, 1) := ⟨⟨List.mem_of_getElem? (i := 1554) (by decide +kernel), fk_pi12, rfl⟩, ⟨fk_pc12.1, fk_pc12.2.1, fk_pc12.2.2, fk_pd5⟩, by decide, (fun h => absurd h (by decide)), fun _ => ⟨List.mem_of_getElem? (i := 1552) (by decide +kernel), List.mem_of_getElem? (i := 1553) (by decide +kernel), by decide⟩, (fun h => absurd h (by decide)), (fun h => absurd h (by decide))⟩
set_option maxRecDepth 100000 in
theorem kX12_sumFor : fk_qP (0, qX12_sumFor, 2) := ⟨⟨List.mem_of_getElem? (i := 1661) (by decide +kernel), fk_pi12, rfl⟩, ⟨fk_pc12.1, fk_pc12.2.1, fk_pc12.2.2, fk_pd21⟩, by decide, (fun h => absurd h (by decide)), fun _ => ⟨List.mem_of_getElem? (i := 1660) (by decide +kernel), List.mem_of_getElem? (i := 81) (by decide +kernel), by decide⟩, (fun h => absurd h (by decide)), (fun h => absurd h (by decide))⟩
set_option maxRecDepth 100000 in
theorem kX12_triedBy : fk_qP (0, qX12_triedBy, 1) := ⟨⟨List.mem_of_getElem? (i := 1657) (by decide +kernel), fk_pi12, rfl⟩, ⟨fk_pc12.1, fk_pc12.2.1, fk_pc12.2.2, fk_pd5⟩, by decide, (fun h => absurd h (by decide)), fun _ => ⟨List.mem_of_getElem? (i := 1656) (by decide +kernel), List.mem_of_getElem? (i := 80) (by decide +kernel), by decide⟩, (fun h => absurd h (by decide)), (fun h => absurd h (by decide))⟩
set_option maxRecDepth 100000 in
theorem kX12_tried : fk_qP (0, qX12_tried, 2) := ⟨⟨List.mem_of_getElem? (i := 1646) (by decide +kernel), fk_pi12, rfl⟩, ⟨fk_pc12.1, fk_pc12.2.1, fk_pc12.2.2, fk_pd21⟩, by decide, (fun h => absurd h (by decide)), fun _ => ⟨List.mem_of_getElem? (i := 1644) (by decide +kernel), List.mem_of_getElem? (i := 1645) (by decide +kernel), by decide⟩, (fun h => absurd h (by decide)), (fun h => absurd h (by decide))⟩
set_option maxRecDepth 100000 in
theorem kX12_half : fk_qP (0, qX12_half, 2) := ⟨⟨List.mem_of_getElem? (i := 1669) (by decide +kernel), fk_pi12, rfl⟩, ⟨fk_pc12.1, fk_pc12.2.1, fk_pc12.2.2, fk_pd21⟩, by decide, (fun h => absurd h (by decide)), fun _ => ⟨List.mem_of_getElem? (i := 1667) (by decide +kernel), List.mem_of_getElem? (i := 1668) (by decide +kernel), by decide⟩, (fun h => absurd h (by decide)), (fun h => absurd h (by decide))⟩
set_option maxRecDepth 100000 in
theorem kX12_gladly : fk_qP (0, qX12_gladly, 2) := ⟨⟨List.mem_of_getElem? (i := 1673) (by decide +kernel), fk_pi12, rfl⟩, ⟨fk_pc12.1, fk_pc12.2.1, fk_pc12.2.2, fk_pd21⟩, by decide, (fun h => absurd h (by decide)), fun _ => ⟨List.mem_of_getElem? (i := 1671) (by decide +kernel), List.mem_of_getElem? (i := 1672) (by decide +kernel), by decide⟩, (fun h => absurd h (by decide)), (fun h => absurd h (by decide))⟩
set_option maxRecDepth 100000 in
theorem kX12_halves : fk_qP (0, qX12_halves, 2) := ⟨⟨List.mem_of_getElem? (i := 1677) (by decide +kernel), fk_pi12, rfl⟩, ⟨fk_pc12.1, fk_pc12.2.1, fk_pc12.2.2, fk_pd21⟩, by decide, (fun h => absurd h (by decide)), fun _ => ⟨List.mem_of_getElem? (i := 1675) (by decide +kernel), List.mem_of_getElem? (i := 1676) (by decide +kernel), by decide⟩, (fun h => absurd h (by decide)), (fun h => absurd h (by decide))⟩
set_option maxRecDepth 100000 in
theorem kX12_isRemembered : fk_qP (0, qX12_isRemembered, 1) := ⟨⟨List.mem_of_getElem? (i := 1685) (by decide +kernel), fk_pi12, rfl⟩, ⟨fk_pc12.1, fk_pc12.2.1, fk_pc12.2.2, fk_pd20⟩, by decide, (fun h => absurd h (by decide)), fun _ => ⟨List.mem_of_getElem? (i := 1684) (by decide +kernel), List.mem_of_getElem? (i := 83) (by decide +kernel), by decide⟩, (fun h => absurd h (by decide)), (fun h => absurd h (by decide))⟩
set_option maxRecDepth 100000 in
theorem kX12_wasAt : fk_qP (0, qX12_wasAt, 2) := ⟨⟨List.mem_of_getElem? (i := 1689) (by decide +kernel), fk_pi12, rfl⟩, ⟨fk_pc12.1, fk_pc12.2.1, fk_pc12.2.2, fk_pd21⟩, by decide, (fun h => absurd h (by decide)), fun _ => ⟨List.mem_of_getElem? (i := 1688) (by decide +kernel), List.mem_of_getElem? (i := 84) (by decide +kernel), by decide⟩, (fun h => absurd h (by decide)), (fun h => absurd h (by decide))⟩
set_option maxRecDepth 100000 in
theorem kX12_was : fk_qP (0, qX12_was, 2) := ⟨⟨List.mem_of_getElem? (i := 1681) (by decide +kernel), fk_pi12, rfl⟩, ⟨fk_pc12.1, fk_pc12.2.1, fk_pc12.2.2, fk_pd21⟩, by decide, (fun h => absurd h (by decide)), fun _ => ⟨List.mem_of_getElem? (i := 1679) (by decide +kernel), List.mem_of_getElem? (i := 1680) (by decide +kernel), by decide⟩, (fun h => absurd h (by decide)), (fun h => absurd h (by decide))⟩
set_option maxRecDepth 100000 in
theorem kX12_byForks : fk_qP (0, qX12_byForks, 2) := ⟨⟨List.mem_of_getElem? (i := 1693) (by decide +kernel), fk_pi12, rfl⟩, ⟨fk_pc12.1, fk_pc12.2.1, fk_pc12.2.2, fk_pd22⟩, by decide, (fun h => absurd h (by decide)), fun _ => ⟨List.mem_of_getElem? (i := 1691) (by decide +kernel), List.mem_of_getElem? (i := 1692) (by decide +kernel), by decide⟩, (fun h => absurd h (by decide)), (fun h => absurd h (by decide))⟩
set_option maxRecDepth 100000 in
theorem kX12_forksOf : fk_qP (0, qX12_forksOf, 0) := ⟨⟨List.mem_of_getElem? (i := 1707) (by decide +kernel), fk_pi12, rfl⟩, ⟨fk_pc12.1, fk_pc12.2.1, fk_pc12.2.2, fk_pd9⟩, by decide, (fun h => absurd h (by decide)), fun _ => ⟨List.mem_of_getElem? (i := 1706) (by decide +kernel), List.mem_of_getElem? (i := 86) (by decide +kernel), by decide⟩, (fun h => absurd h (by decide)), (fun h => absurd h (by decide))⟩
set_option maxRecDepth 100000 in
theorem kX12_aliveOf : fk_qP (0, qX12_aliveOf, 1) := ⟨⟨List.mem_of_getElem? (i := 1703) (by decide +kernel), fk_pi12, rfl⟩, ⟨fk_pc12.1, fk_pc12.2.1, fk_pc12.2.2, fk_pd5⟩, by decide, (fun h => absurd h (by decide)), fun _ => ⟨List.mem_of_getElem? (i := 1702) (by decide +kernel), List.mem_of_getElem? (i := 85) (by decide +kernel), by decide⟩, (fun h => absurd h (by decide)), (fun h => absurd h (by decide))⟩
set_option maxRecDepth 100000 in
theorem kX12_triesPlan : fk_qP (0, qX12_triesPlan, 3) := ⟨⟨List.mem_of_getElem? (i := 1712) (by decide +kernel), fk_pi12, rfl⟩, ⟨fk_pc12.1, fk_pc12.2.1, fk_pc12.2.2, fk_pd2⟩, by decide, (fun h => absurd h (by decide)), fun _ => ⟨List.mem_of_getElem? (i := 1711) (by decide +kernel), List.mem_of_getElem? (i := 87) (by decide +kernel), by decide⟩, (fun h => absurd h (by decide)), (fun h => absurd h (by decide))⟩
set_option maxRecDepth 100000 in
theorem kX12_plan : fk_qP (0, qX12_plan, 4) := ⟨⟨List.mem_of_getElem? (i := 1698) (by decide +kernel), fk_pi12, rfl⟩, ⟨fk_pc12.1, fk_pc12.2.1, fk_pc12.2.2, fk_pd42⟩, by decide, (fun h => absurd h (by decide)), fun _ => ⟨List.mem_of_getElem? (i := 1696) (by decide +kernel), List.mem_of_getElem? (i := 1697) (by decide +kernel), by decide⟩, (fun h => absurd h (by decide)), (fun h => absurd h (by decide))⟩
set_option maxRecDepth 100000 in
theorem kX12_takesHalves : fk_qP (0, qX12_takesHalves, 1) := ⟨⟨List.mem_of_getElem? (i := 1720) (by decide +kernel), fk_pi12, rfl⟩, ⟨fk_pc12.1, fk_pc12.2.1, fk_pc12.2.2, fk_pd20⟩, by decide, (fun h => absurd h (by decide)), fun _ => ⟨List.mem_of_getElem? (i := 1719) (by decide +kernel), List.mem_of_getElem? (i := 88) (by decide +kernel), by decide⟩, (fun h => absurd h (by decide)), (fun h => absurd h (by decide))⟩
set_option maxRecDepth 100000 in
theorem kX12_readsJoins : fk_qP (0, qX12_readsJoins, 1) := ⟨⟨List.mem_of_getElem? (i := 1724) (by decide +kernel), fk_pi12, rfl⟩, ⟨fk_pc12.1, fk_pc12.2.1, fk_pc12.2.2, fk_pd20⟩, by decide, (fun h => absurd h (by decide)), fun _ => ⟨List.mem_of_getElem? (i := 1723) (by decide +kernel), List.mem_of_getElem? (i := 89) (by decide +kernel), by decide⟩, (fun h => absurd h (by decide)), (fun h => absurd h (by decide))⟩
set_option maxRecDepth 100000 in
theorem kX12_knownBy : fk_qP (0, qX12_knownBy, 0) := ⟨⟨List.mem_of_getElem? (i := 1728) (by decide +kernel), fk_pi12, rfl⟩, ⟨fk_pc12.1, fk_pc12.2.1, fk_pc12.2.2, fk_pd9⟩, by decide, (fun h => absurd h (by decide)), fun _ => ⟨List.mem_of_getElem? (i := 1727) (by decide +kernel), List.mem_of_getElem? (i := 90) (by decide +kernel), by decide⟩, (fun h => absurd h (by decide)), (fun h => absurd h (by decide))⟩
set_option maxRecDepth 100000 in
theorem kX12_joined : fk_qP (0, qX12_joined, 2) := ⟨⟨List.mem_of_getElem? (i := 1716) (by decide +kernel), fk_pi12, rfl⟩, ⟨fk_pc12.1, fk_pc12.2.1, fk_pc12.2.2, fk_pd21⟩, by decide, (fun h => absurd h (by decide)), fun _ => ⟨List.mem_of_getElem? (i := 1714) (by decide +kernel), List.mem_of_getElem? (i := 1715) (by decide +kernel), by decide⟩, (fun h => absurd h (by decide)), (fun h => absurd h (by decide))⟩
set_option maxRecDepth 100000 in
theorem kX12_gainOf : fk_qP (0, qX12_gainOf, 3) := ⟨⟨List.mem_of_getElem? (i := 1744) (by decide +kernel), fk_pi12, rfl⟩, ⟨fk_pc12.1, fk_pc12.2.1, fk_pc12.2.2, fk_pd35⟩, by decide, (fun h => absurd h (by decide)), fun _ => ⟨List.mem_of_getElem? (i := 1743) (by decide +kernel), List.mem_of_getElem? (i := 93) (by decide +kernel), by decide⟩, (fun h => absurd h (by decide)), (fun h => absurd h (by decide))⟩
set_option maxRecDepth 100000 in
theorem kX12_isGlad : fk_qP (0, qX12_isGlad, 2) := ⟨⟨List.mem_of_getElem? (i := 1736) (by decide +kernel), fk_pi12, rfl⟩, ⟨fk_pc12.1, fk_pc12.2.1, fk_pc12.2.2, fk_pd40⟩, by decide, (fun h => absurd h (by decide)), fun _ => ⟨List.mem_of_getElem? (i := 1735) (by decide +kernel), List.mem_of_getElem? (i := 91) (by decide +kernel), by decide⟩, (fun h => absurd h (by decide)), (fun h => absurd h (by decide))⟩
set_option maxRecDepth 100000 in
theorem kX12_rests : fk_qP (0, qX12_rests, 4) := ⟨⟨List.mem_of_getElem? (i := 1740) (by decide +kernel), fk_pi12, rfl⟩, ⟨fk_pc12.1, fk_pc12.2.1, fk_pc12.2.2, fk_pd38⟩, by decide, (fun h => absurd h (by decide)), fun _ => ⟨List.mem_of_getElem? (i := 1739) (by decide +kernel), List.mem_of_getElem? (i := 92) (by decide +kernel), by decide⟩, (fun h => absurd h (by decide)), (fun h => absurd h (by decide))⟩
set_option maxRecDepth 100000 in
theorem kX12_chosen : fk_qP (0, qX12_chosen, 3) := ⟨⟨List.mem_of_getElem? (i := 1732) (by decide +kernel), fk_pi12, rfl⟩, ⟨fk_pc12.1, fk_pc12.2.1, fk_pc12.2.2, fk_pd35⟩, by decide, (fun h => absurd h (by decide)), fun _ => ⟨List.mem_of_getElem? (i := 1730) (by decide +kernel), List.mem_of_getElem? (i := 1731) (by decide +kernel), by decide⟩, (fun h => absurd h (by decide)), (fun h => absurd h (by decide))⟩
set_option maxRecDepth 100000 in
theorem kX12_hourAt : fk_qP (0, qX12_hourAt, 1) := ⟨⟨List.mem_of_getElem? (i := 1752) (by decide +kernel), fk_pi12, rfl⟩, ⟨fk_pc12.1, fk_pc12.2.1, fk_pc12.2.2, fk_pd5⟩, by decide, (fun h => absurd h (by decide)), fun _ => ⟨List.mem_of_getElem? (i := 1751) (by decide +kernel), List.mem_of_getElem? (i := 94) (by decide +kernel), by decide⟩, (fun h => absurd h (by decide)), (fun h => absurd h (by decide))⟩
set_option maxRecDepth 100000 in
theorem kX12_wasThere : fk_qP (0, qX12_wasThere, 2) := ⟨⟨List.mem_of_getElem? (i := 1756) (by decide +kernel), fk_pi12, rfl⟩, ⟨fk_pc12.1, fk_pc12.2.1, fk_pc12.2.2, fk_pd40⟩, by decide, (fun h => absurd h (by decide)), fun _ => ⟨List.mem_of_getElem? (i := 1755) (by decide +kernel), List.mem_of_getElem? (i := 95) (by decide +kernel), by decide⟩, (fun h => absurd h (by decide)), (fun h => absurd h (by decide))⟩
set_option maxRecDepth 100000 in
theorem kX12_whoWas : fk_qP (0, qX12_whoWas, 2) := ⟨⟨List.mem_of_getElem? (i := 1748) (by decide +kernel), fk_pi12, rfl⟩, ⟨fk_pc12.1, fk_pc12.2.1, fk_pc12.2.2, fk_pd21⟩, by decide, (fun h => absurd h (by decide)), fun _ => ⟨List.mem_of_getElem? (i := 1746) (by decide +kernel), List.mem_of_getElem? (i := 1747) (by decide +kernel), by decide⟩, (fun h => absurd h (by decide)), (fun h => absurd h (by decide))⟩
set_option maxRecDepth 100000 in
theorem kX12_reachedFrom : fk_qP (0, qX12_reachedFrom, 2) := ⟨⟨List.mem_of_getElem? (i := 1764) (by decide +kernel), fk_pi12, rfl⟩, ⟨fk_pc12.1, fk_pc12.2.1, fk_pc12.2.2, fk_pd21⟩, by decide, (fun h => absurd h (by decide)), fun _ => ⟨List.mem_of_getElem? (i := 1763) (by decide +kernel), List.mem_of_getElem? (i := 96) (by decide +kernel), by decide⟩, (fun h => absurd h (by decide)), (fun h => absurd h (by decide))⟩
set_option maxRecDepth 100000 in
theorem kX12_meet : fk_qP (0, qX12_meet, 1) := ⟨⟨List.mem_of_getElem? (i := 1760) (by decide +kernel), fk_pi12, rfl⟩, ⟨fk_pc12.1, fk_pc12.2.1, fk_pc12.2.2, fk_pd5⟩, by decide, (fun h => absurd h (by decide)), fun _ => ⟨List.mem_of_getElem? (i := 1758) (by decide +kernel), List.mem_of_getElem? (i := 1759) (by decide +kernel), by decide⟩, (fun h => absurd h (by decide)), (fun h => absurd h (by decide))⟩
set_option maxRecDepth 100000 in
theorem kX12_isLast : fk_qP (0, qX12_isLast, 1) := ⟨⟨List.mem_of_getElem? (i := 1772) (by decide +kernel), fk_pi12, rfl⟩, ⟨fk_pc12.1, fk_pc12.2.1, fk_pc12.2.2, fk_pd20⟩, by decide, (fun h => absurd h (by decide)), fun _ => ⟨List.mem_of_getElem? (i := 1771) (by decide +kernel), List.mem_of_getElem? (i := 97) (by decide +kernel), by decide⟩, (fun h => absurd h (by decide)), (fun h => absurd h (by decide))⟩
set_option maxRecDepth 100000 in
theorem kX12_built : fk_qP (0, qX12_built, 1) := ⟨⟨List.mem_of_getElem? (i := 1768) (by decide +kernel), fk_pi12, rfl⟩, ⟨fk_pc12.1, fk_pc12.2.1, fk_pc12.2.2, fk_pd5⟩, by decide, (fun h => absurd h (by decide)), fun _ => ⟨List.mem_of_getElem? (i := 1766) (by decide +kernel), List.mem_of_getElem? (i := 1767) (by decide +kernel), by decide⟩, (fun h => absurd h (by decide)), (fun h => absurd h (by decide))⟩
set_option maxRecDepth 100000 in
theorem kX12_closed : fk_qP (0, qX12_closed, 3) := ⟨⟨List.mem_of_getElem? (i := 1776) (by decide +kernel), fk_pi12, rfl⟩, ⟨fk_pc12.1, fk_pc12.2.1, fk_pc12.2.2, fk_pd35⟩, by decide, (fun h => absurd h (by decide)), fun _ => ⟨List.mem_of_getElem? (i := 1774) (by decide +kernel), List.mem_of_getElem? (i := 1775) (by decide +kernel), by decide⟩, (fun h => absurd h (by decide)), (fun h => absurd h (by decide))⟩
set_option maxRecDepth 100000 in
theorem kX12_readsDigits : fk_qP (0, qX12_readsDigits, 1) := ⟨⟨List.mem_of_getElem? (i := 1788) (by decide +kernel), fk_pi12, rfl⟩, ⟨fk_pc12.1, fk_pc12.2.1, fk_pc12.2.2, fk_pd20⟩, by decide, (fun h => absurd h (by decide)), fun _ => ⟨List.mem_of_getElem? (i := 1787) (by decide +kernel), List.mem_of_getElem? (i := 99) (by decide +kernel), by decide⟩, (fun h => absurd h (by decide)), (fun h => absurd h (by decide))⟩
set_option maxRecDepth 100000 in
theorem kX12_readsStep : fk_qP (0, qX12_readsStep, 0) := ⟨⟨List.mem_of_getElem? (i := 1784) (by decide +kernel), fk_pi12, rfl⟩, ⟨fk_pc12.1, fk_pc12.2.1, fk_pc12.2.2, fk_pd14⟩, by decide, (fun h => absurd h (by decide)), fun _ => ⟨List.mem_of_getElem? (i := 1783) (by decide +kernel), List.mem_of_getElem? (i := 98) (by decide +kernel), by decide⟩, (fun h => absurd h (by decide)), (fun h => absurd h (by decide))⟩
set_option maxRecDepth 100000 in
theorem kX12_history : fk_qP (0, qX12_history, 2) := ⟨⟨List.mem_of_getElem? (i := 1780) (by decide +kernel), fk_pi12, rfl⟩, ⟨fk_pc12.1, fk_pc12.2.1, fk_pc12.2.2, fk_pd21⟩, by decide, (fun h => absurd h (by decide)), fun _ => ⟨List.mem_of_getElem? (i := 1778) (by decide +kernel), List.mem_of_getElem? (i := 1779) (by decide +kernel), by decide⟩, (fun h => absurd h (by decide)), (fun h => absurd h (by decide))⟩
set_option maxRecDepth 100000 in
theorem kX12_isFrom : fk_qP (0, qX12_isFrom, 2) := ⟨⟨List.mem_of_getElem? (i := 1796) (by decide +kernel), fk_pi12, rfl⟩, ⟨fk_pc12.1, fk_pc12.2.1, fk_pc12.2.2, fk_pd40⟩, by decide, (fun h => absurd h (by decide)), fun _ => ⟨List.mem_of_getElem? (i := 1795) (by decide +kernel), List.mem_of_getElem? (i := 100) (by decide +kernel), by decide⟩, (fun h => absurd h (by decide)), (fun h => absurd h (by decide))⟩
set_option maxRecDepth 100000 in
theorem kX12_kin : fk_qP (0, qX12_kin, 3) := ⟨⟨List.mem_of_getElem? (i := 1792) (by decide +kernel), fk_pi12, rfl⟩, ⟨fk_pc12.1, fk_pc12.2.1, fk_pc12.2.2, fk_pd35⟩, by decide, (fun h => absurd h (by decide)), fun _ => ⟨List.mem_of_getElem? (i := 1790) (by decide +kernel), List.mem_of_getElem? (i := 1791) (by decide +kernel), by decide⟩, (fun h => absurd h (by decide)), (fun h => absurd h (by decide))⟩
set_option maxRecDepth 100000 in
theorem kX12_bread : fk_qP (0, qX12_bread, 2) := ⟨⟨List.mem_of_getElem? (i := 1800) (by decide +kernel), fk_pi12, rfl⟩, ⟨fk_pc12.1, fk_pc12.2.1, fk_pc12.2.2, fk_pd21⟩, by decide, (fun h => absurd h (by decide)), fun _ => ⟨List.mem_of_getElem? (i := 1798) (by decide +kernel), List.mem_of_getElem? (i := 1799) (by decide +kernel), by decide⟩, (fun h => absurd h (by decide)), (fun h => absurd h (by decide))⟩
set_option maxRecDepth 100000 in
theorem kX12_weightFor : fk_qP (0, qX12_weightFor, 3) := ⟨⟨List.mem_of_getElem? (i := 1808) (by decide +kernel), fk_pi12, rfl⟩, ⟨fk_pc12.1, fk_pc12.2.1, fk_pc12.2.2, fk_pd47⟩, by decide, (fun h => absurd h (by decide)), fun _ => ⟨List.mem_of_getElem? (i := 1807) (by decide +kernel), List.mem_of_getElem? (i := 101) (by decide +kernel), by decide⟩, (fun h => absurd h (by decide)), (fun h => absurd h (by decide))⟩
set_option maxRecDepth 100000 in
theorem kX12_vote : fk_qP (0, qX12_vote, 3) := ⟨⟨List.mem_of_getElem? (i := 1804) (by decide +kernel), fk_pi12, rfl⟩, ⟨fk_pc12.1, fk_pc12.2.1, fk_pc12.2.2, fk_pd35⟩, by decide, (fun h => absurd h (by decide)), fun _ => ⟨List.mem_of_getElem? (i := 1802) (by decide +kernel), List.mem_of_getElem? (i := 1803) (by decide +kernel), by decide⟩, (fun h => absurd h (by decide)), (fun h => absurd h (by decide))⟩
set_option maxRecDepth 100000 in
theorem kX12_seed : fk_qP (0, qX12_seed, 1) := ⟨⟨List.mem_of_getElem? (i := 1812) (by decide +kernel), fk_pi12, rfl⟩, ⟨fk_pc12.1, fk_pc12.2.1, fk_pc12.2.2, fk_pd20⟩, by decide, (fun h => absurd h (by decide)), fun _ => ⟨List.mem_of_getElem? (i := 1810) (by decide +kernel), List.mem_of_getElem? (i := 1811) (by decide +kernel), by decide⟩, (fun h => absurd h (by decide)), (fun h => absurd h (by decide))⟩
set_option maxRecDepth 100000 in
theorem kX12_keep : fk_qP (0, qX12_keep, 0) := ⟨⟨List.mem_of_getElem? (i := 1816) (by decide +kernel), fk_pi12, rfl⟩, ⟨fk_pc12.1, fk_pc12.2.1, fk_pc12.2.2, fk_pd9⟩, by decide, (fun h => absurd h (by decide)), fun _ => ⟨List.mem_of_getElem? (i := 1814) (by decide +kernel), List.mem_of_getElem? (i := 1815) (by decide +kernel), by decide⟩, (fun h => absurd h (by decide)), (fun h => absurd h (by decide))⟩
set_option maxRecDepth 100000 in
theorem kX12_undo : fk_qP (0, qX12_undo, 0) := ⟨⟨List.mem_of_getElem? (i := 1820) (by decide +kernel), fk_pi12, rfl⟩, ⟨fk_pc12.1, fk_pc12.2.1, fk_pc12.2.2, fk_pd14⟩, by decide, (fun h => absurd h (by decide)), fun _ => ⟨List.mem_of_getElem? (i := 1818) (by decide +kernel), List.mem_of_getElem? (i := 1819) (by decide +kernel), by decide⟩, (fun h => absurd h (by decide)), (fun h => absurd h (by decide))⟩
set_option maxRecDepth 100000 in
theorem kX12_tapeNumber : fk_qP (0, qX12_tapeNumber, 1) := ⟨⟨List.mem_of_getElem? (i := 1828) (by decide +kernel), fk_pi12, rfl⟩, ⟨fk_pc12.1, fk_pc12.2.1, fk_pc12.2.2, fk_pd5⟩, by decide, (fun h => absurd h (by decide)), fun _ => ⟨List.mem_of_getElem? (i := 1827) (by decide +kernel), List.mem_of_getElem? (i := 102) (by decide +kernel), by decide⟩, (fun h => absurd h (by decide)), (fun h => absurd h (by decide))⟩
set_option maxRecDepth 100000 in
theorem kX12_check : fk_qP (0, qX12_check, 1) := ⟨⟨List.mem_of_getElem? (i := 1824) (by decide +kernel), fk_pi12, rfl⟩, ⟨fk_pc12.1, fk_pc12.2.1, fk_pc12.2.2, fk_pd5⟩, by decide, (fun h => absurd h (by decide)), fun _ => ⟨List.mem_of_getElem? (i := 1822) (by decide +kernel), List.mem_of_getElem? (i := 1823) (by decide +kernel), by decide⟩, (fun h => absurd h (by decide)), (fun h => absurd h (by decide))⟩
set_option maxRecDepth 100000 in
theorem kX12_roadMany : fk_qP (0, qX12_roadMany, 0) := ⟨⟨List.mem_of_getElem? (i := 1836) (by decide +kernel), fk_pi12, rfl⟩, ⟨fk_pc12.1, fk_pc12.2.1, fk_pc12.2.2, fk_pd9⟩, by decide, (fun h => absurd h (by decide)), fun _ => ⟨List.mem_of_getElem? (i := 1835) (by decide +kernel), List.mem_of_getElem? (i := 103) (by decide +kernel), by decide⟩, (fun h => absurd h (by decide)), (fun h => absurd h (by decide))⟩
set_option maxRecDepth 100000 in
theorem kX12_count : fk_qP (0, qX12_count, 1) := ⟨⟨List.mem_of_getElem? (i := 1832) (by decide +kernel), fk_pi12, rfl⟩, ⟨fk_pc12.1, fk_pc12.2.1, fk_pc12.2.2, fk_pd5⟩, by decide, (fun h => absurd h (by decide)), fun _ => ⟨List.mem_of_getElem? (i := 1830) (by decide +kernel), List.mem_of_getElem? (i := 1831) (by decide +kernel), by decide⟩, (fun h => absurd h (by decide)), (fun h => absurd h (by decide))⟩
set_option maxRecDepth 100000 in
theorem kJ6_bitCount_0f7a4 : fk_qP (2, qJ6_bitCount_0f7a4, 1) := ⟨⟨List.mem_of_getElem? (i := 868) (by decide +kernel), fk_pi13, rfl⟩, ⟨fk_pc13.1, fk_pc13.2.1, fk_pc13.2.2, fk_pd5⟩, by decide, fun _ => List.mem_of_getElem? (i := 867) (by decide +kernel), (fun h => absurd h (by decide)), (fun h => absurd h (by decide)), (fun h => absurd h (by decide))⟩
set_option maxRecDepth 100000 in
theorem kJ0_length_8abf5 : fk_qP (8, qJ0_length_8abf5, 0) := ⟨⟨List.mem_of_getElem? (i := 698) (by decide +kernel), fk_pi14, rfl⟩, ⟨fk_pc14.1, fk_pc14.2.1, fk_pc14.2.2, fk_pd9⟩, by decide, (fun h => absurd h (by decide)), (fun h => absurd h (by decide)), (fun h => absurd h (by decide)), fun _ => ⟨List.mem_of_getElem? (i := 696) (by decide +kernel), List.mem_of_getElem? (i := 697) (by decide +kernel), rfl⟩⟩
set_option maxRecDepth 100000 in
theorem kJ0_indexOf_0f7a4 : fk_qP (8, qJ0_indexOf_0f7a4, 1) := ⟨⟨List.mem_of_getElem? (i := 684) (by decide +kernel), fk_pi14, rfl⟩, ⟨fk_pc14.1, fk_pc14.2.1, fk_pc14.2.2, fk_pd5⟩, by decide, (fun h => absurd h (by decide)), (fun h => absurd h (by decide)), (fun h => absurd h (by decide)), fun _ => ⟨List.mem_of_getElem? (i := 682) (by decide +kernel), List.mem_of_getElem? (i := 683) (by decide +kernel), rfl⟩⟩
set_option maxRecDepth 100000 in
theorem kJ0_indexOf_7cf53 : fk_qP (8, qJ0_indexOf_7cf53, 2) := ⟨⟨List.mem_of_getElem? (i := 688) (by decide +kernel), fk_pi14, rfl⟩, ⟨fk_pc14.1, fk_pc14.2.1, fk_pc14.2.2, fk_pd21⟩, by decide, (fun h => absurd h (by decide)), (fun h => absurd h (by decide)), (fun h => absurd h (by decide)), fun _ => ⟨List.mem_of_getElem? (i := 686) (by decide +kernel), List.mem_of_getElem? (i := 687) (by decide +kernel), rfl⟩⟩
set_option maxRecDepth 100000 in
theorem kJ0_coder_7d493 : fk_qP (8, qJ0_coder_7d493, 0) := ⟨⟨List.mem_of_getElem? (i := 702) (by decide +kernel), fk_pi14, rfl⟩, ⟨fk_pc14.1, fk_pc14.2.1, fk_pc14.2.2, fk_pd48⟩, by decide, (fun h => absurd h (by decide)), (fun h => absurd h (by decide)), (fun h => absurd h (by decide)), fun _ => ⟨List.mem_of_getElem? (i := 700) (by decide +kernel), List.mem_of_getElem? (i := 701) (by decide +kernel), rfl⟩⟩
set_option maxRecDepth 100000 in
theorem kJ0_isLatin1_aae02 : fk_qP (8, qJ0_isLatin1_aae02, 0) := ⟨⟨List.mem_of_getElem? (i := 692) (by decide +kernel), fk_pi14, rfl⟩, ⟨fk_pc14.1, fk_pc14.2.1, fk_pc14.2.2, fk_pd14⟩, by decide, (fun h => absurd h (by decide)), (fun h => absurd h (by decide)), (fun h => absurd h (by decide)), fun _ => ⟨List.mem_of_getElem? (i := 690) (by decide +kernel), List.mem_of_getElem? (i := 691) (by decide +kernel), rfl⟩⟩
set_option maxRecDepth 100000 in
theorem kJ1_canEncode_9a6ad : fk_qP (2, qJ1_canEncode_9a6ad, 1) := ⟨⟨List.mem_of_getElem? (i := 708) (by decide +kernel), fk_pi15, rfl⟩, ⟨fk_pc15.1, fk_pc15.2.1, fk_pc15.2.2, fk_pd20⟩, by decide, fun _ => List.mem_of_getElem? (i := 707) (by decide +kernel), (fun h => absurd h (by decide)), (fun h => absurd h (by decide)), (fun h => absurd h (by decide))⟩
set_option maxRecDepth 100000 in
theorem kJ1_indexOf_4cfef : fk_qP (2, qJ1_indexOf_4cfef, 4) := ⟨⟨List.mem_of_getElem? (i := 705) (by decide +kernel), fk_pi15, rfl⟩, ⟨fk_pc15.1, fk_pc15.2.1, fk_pc15.2.2, fk_pd49⟩, by decide, fun _ => List.mem_of_getElem? (i := 704) (by decide +kernel), (fun h => absurd h (by decide)), (fun h => absurd h (by decide)), (fun h => absurd h (by decide))⟩
set_option maxRecDepth 100000 in
theorem kJ1_indexOfChar_4cfef : fk_qP (2, qJ1_indexOfChar_4cfef, 4) := ⟨⟨List.mem_of_getElem? (i := 713) (by decide +kernel), fk_pi15, rfl⟩, ⟨fk_pc15.1, fk_pc15.2.1, fk_pc15.2.2, fk_pd49⟩, by decide, fun _ => List.mem_of_getElem? (i := 712) (by decide +kernel), (fun h => absurd h (by decide)), (fun h => absurd h (by decide)), (fun h => absurd h (by decide))⟩
set_option maxRecDepth 100000 in
theorem kJ7_fill_53178 : fk_qP (2, qJ7_fill_53178, 2) := ⟨⟨List.mem_of_getElem? (i := 187) (by decide +kernel), fk_pi16, rfl⟩, ⟨fk_pc16.1, fk_pc16.2.1, fk_pc16.2.2, fk_pd50⟩, by decide, fun _ => List.mem_of_getElem? (i := 186) (by decide +kernel), (fun h => absurd h (by decide)), (fun h => absurd h (by decide)), (fun h => absurd h (by decide))⟩
theorem fk_q_0_ok : ∀ e ∈ fk_q_0, fk_qP e := List.forall_mem_cons.mpr ⟨kX0_init, List.forall_mem_cons.mpr ⟨kX0_copyFrom, List.forall_mem_cons.mpr ⟨kX0_beNew, List.forall_mem_cons.mpr ⟨kX0_standAt, List.forall_mem_cons.mpr ⟨kX0_goOn, List.forall_mem_cons.mpr ⟨kX0_know, List.forall_mem_cons.mpr ⟨kX0_knows, List.forall_mem_cons.mpr ⟨kX0_clash, List.forall_mem_cons.mpr ⟨kX0_takeIn, List.forall_mem_cons.mpr ⟨kX1_init, List.forall_mem_cons.mpr ⟨kX1_read, List.forall_mem_cons.mpr ⟨kX1_step, List.forall_mem_cons.mpr ⟨kX1_peek, List.forall_mem_cons.mpr ⟨kX1_digits, List.forall_mem_cons.mpr ⟨kX2_init, List.forall_mem_cons.mpr ⟨kX2_take, List.forall_mem_cons.mpr ⟨kX2_seek, List.forall_mem_cons.mpr ⟨kX2_factsOf, List.forall_mem_cons.mpr ⟨kX2_goOn, List.forall_mem_cons.mpr ⟨kX2_swap, List.forall_mem_cons.mpr ⟨kX3_init, List.forall_mem_cons.mpr ⟨kX3_clear, List.forall_mem_cons.mpr ⟨kX3_add, List.forall_mem_cons.mpr ⟨kX3_value, fun _ h => absurd h List.not_mem_nil⟩⟩⟩⟩⟩⟩⟩⟩⟩⟩⟩⟩⟩⟩⟩⟩⟩⟩⟩⟩⟩⟩⟩⟩
theorem fk_q_1_ok : ∀ e ∈ fk_q_1, fk_qP e := List.forall_mem_cons.mpr ⟨kX3_run, List.forall_mem_cons.mpr ⟨kX4_init, List.forall_mem_cons.mpr ⟨kX4_read, List.forall_mem_cons.mpr ⟨kX4_advance, List.forall_mem_cons.mpr ⟨kX4_isOneOf, List.forall_mem_cons.mpr ⟨kX4_sign, List.forall_mem_cons.mpr ⟨kX4_clause, List.forall_mem_cons.mpr ⟨kX4_land, List.forall_mem_cons.mpr ⟨kX4_anyOf, List.forall_mem_cons.mpr ⟨kX4_allOf, List.forall_mem_cons.mpr ⟨kX4_piece, List.forall_mem_cons.mpr ⟨kX4_sum, List.forall_mem_cons.mpr ⟨kX4_product, List.forall_mem_cons.mpr ⟨kX4_factor, List.forall_mem_cons.mpr ⟨kX4_number, List.forall_mem_cons.mpr ⟨kX5_init, List.forall_mem_cons.mpr ⟨kX5_tellRoad, List.forall_mem_cons.mpr ⟨kX5_isTold, List.forall_mem_cons.mpr ⟨kX5_toldRoads, List.forall_mem_cons.mpr ⟨kX5_tell, List.forall_mem_cons.mpr ⟨kX5_goalOf, List.forall_mem_cons.mpr ⟨kX5_reach, List.forall_mem_cons.mpr ⟨kX5_groupOf, List.forall_mem_cons.mpr ⟨kX5_fewestClosed, fun _ h => absurd h List.not_mem_nil⟩⟩⟩⟩⟩⟩⟩⟩⟩⟩⟩⟩⟩⟩⟩⟩⟩⟩⟩⟩⟩⟩⟩⟩
theorem fk_q_2_ok : ∀ e ∈ fk_q_2, fk_qP e := List.forall_mem_cons.mpr ⟨kX5_onTheWay, List.forall_mem_cons.mpr ⟨kX5_forkPlaces, List.forall_mem_cons.mpr ⟨kX5_forked, List.forall_mem_cons.mpr ⟨kX5_forkedOnce, List.forall_mem_cons.mpr ⟨kX6_init, List.forall_mem_cons.mpr ⟨kX6_begin, List.forall_mem_cons.mpr ⟨kX6_beginPlan, List.forall_mem_cons.mpr ⟨kX6_goBy, List.forall_mem_cons.mpr ⟨kX6_comeNearer, List.forall_mem_cons.mpr ⟨kX6_meetAgain, List.forall_mem_cons.mpr ⟨kX6_arrive, List.forall_mem_cons.mpr ⟨kX6_die, List.forall_mem_cons.mpr ⟨kX6_setOut, List.forall_mem_cons.mpr ⟨kX6_speakOf, List.forall_mem_cons.mpr ⟨kX6_gladness, List.forall_mem_cons.mpr ⟨kX6_fillGladness, List.forall_mem_cons.mpr ⟨kX6_doubt, List.forall_mem_cons.mpr ⟨kX6_believed, List.forall_mem_cons.mpr ⟨kX7_init, List.forall_mem_cons.mpr ⟨kX7_copyFrom, List.forall_mem_cons.mpr ⟨kX7_remember, List.forall_mem_cons.mpr ⟨kX7_isRemembered, List.forall_mem_cons.mpr ⟨kX7_whereWas, List.forall_mem_cons.mpr ⟨kX7_isBeforeIt, fun _ h => absurd h List.not_mem_nil⟩⟩⟩⟩⟩⟩⟩⟩⟩⟩⟩⟩⟩⟩⟩⟩⟩⟩⟩⟩⟩⟩⟩⟩
theorem fk_q_3_ok : ∀ e ∈ fk_q_3, fk_qP e := List.forall_mem_cons.mpr ⟨kX8_init, List.forall_mem_cons.mpr ⟨kX8_copyFrom, List.forall_mem_cons.mpr ⟨kX8_clearTallies, List.forall_mem_cons.mpr ⟨kX8_hasBeen, List.forall_mem_cons.mpr ⟨kX8_isLiving, List.forall_mem_cons.mpr ⟨kX8_isAtPlace, List.forall_mem_cons.mpr ⟨kX8_livingInAll, List.forall_mem_cons.mpr ⟨kX8_welcome, List.forall_mem_cons.mpr ⟨kX8_part, List.forall_mem_cons.mpr ⟨kX8_merge, List.forall_mem_cons.mpr ⟨kX8_bury, List.forall_mem_cons.mpr ⟨kX8_draw, List.forall_mem_cons.mpr ⟨kX8_onlyOneOf, List.forall_mem_cons.mpr ⟨kX8_together, List.forall_mem_cons.mpr ⟨kX8_weightOf, List.forall_mem_cons.mpr ⟨kX8_shareOf, List.forall_mem_cons.mpr ⟨kX8_nearestInCommon, List.forall_mem_cons.mpr ⟨kX9_init, List.forall_mem_cons.mpr ⟨kX9_seek, List.forall_mem_cons.mpr ⟨kX9_attempt, List.forall_mem_cons.mpr ⟨kX10_init, List.forall_mem_cons.mpr ⟨kX10_hasRoomFor, List.forall_mem_cons.mpr ⟨kX10_put, List.forall_mem_cons.mpr ⟨kX10_byteAt, fun _ h => absurd h List.not_mem_nil⟩⟩⟩⟩⟩⟩⟩⟩⟩⟩⟩⟩⟩⟩⟩⟩⟩⟩⟩⟩⟩⟩⟩⟩
theorem fk_q_4_ok : ∀ e ∈ fk_q_4, fk_qP e := List.forall_mem_cons.mpr ⟨kX10_numberAt, List.forall_mem_cons.mpr ⟨kX10_clear, List.forall_mem_cons.mpr ⟨kX11_init, List.forall_mem_cons.mpr ⟨kX11_road, List.forall_mem_cons.mpr ⟨kX11_notice, List.forall_mem_cons.mpr ⟨kX11_comes, List.forall_mem_cons.mpr ⟨kX11_learns, List.forall_mem_cons.mpr ⟨kX11_owes, List.forall_mem_cons.mpr ⟨kX11_feed, List.forall_mem_cons.mpr ⟨kX11_law, List.forall_mem_cons.mpr ⟨kX11_hours, List.forall_mem_cons.mpr ⟨kX11_tried, List.forall_mem_cons.mpr ⟨kX11_half, List.forall_mem_cons.mpr ⟨kX11_gladly, List.forall_mem_cons.mpr ⟨kX11_halves, List.forall_mem_cons.mpr ⟨kX11_was, List.forall_mem_cons.mpr ⟨kX11_byForks, List.forall_mem_cons.mpr ⟨kX11_plan, List.forall_mem_cons.mpr ⟨kX11_joined, List.forall_mem_cons.mpr ⟨kX11_chosen, List.forall_mem_cons.mpr ⟨kX11_whoWas, List.forall_mem_cons.mpr ⟨kX11_meet, List.forall_mem_cons.mpr ⟨kX11_built, List.forall_mem_cons.mpr ⟨kX11_closed, fun _ h => absurd h List.not_mem_nil⟩⟩⟩⟩⟩⟩⟩⟩⟩⟩⟩⟩⟩⟩⟩⟩⟩⟩⟩⟩⟩⟩⟩⟩
theorem fk_q_5_ok : ∀ e ∈ fk_q_5, fk_qP e := List.forall_mem_cons.mpr ⟨kX11_history, List.forall_mem_cons.mpr ⟨kX11_kin, List.forall_mem_cons.mpr ⟨kX11_bread, List.forall_mem_cons.mpr ⟨kX11_vote, List.forall_mem_cons.mpr ⟨kX11_seed, List.forall_mem_cons.mpr ⟨kX11_keep, List.forall_mem_cons.mpr ⟨kX11_undo, List.forall_mem_cons.mpr ⟨kX11_check, List.forall_mem_cons.mpr ⟨kX11_count, List.forall_mem_cons.mpr ⟨kX11_within, List.forall_mem_cons.mpr ⟨kX11_faultAt, List.forall_mem_cons.mpr ⟨kX11_canPass, List.forall_mem_cons.mpr ⟨kX11_isTriable, List.forall_mem_cons.mpr ⟨kX11_isSettled, List.forall_mem_cons.mpr ⟨kX11_seenHour, List.forall_mem_cons.mpr ⟨kX11_seenPlace, List.forall_mem_cons.mpr ⟨kX11_wasSeen, List.forall_mem_cons.mpr ⟨kX11_isSo, List.forall_mem_cons.mpr ⟨kX12_init, List.forall_mem_cons.mpr ⟨kX12_in, List.forall_mem_cons.mpr ⟨kX12_min, List.forall_mem_cons.mpr ⟨kX12_max, List.forall_mem_cons.mpr ⟨kX12_has, List.forall_mem_cons.mpr ⟨kX12_bits, fun _ h => absurd h List.not_mem_nil⟩⟩⟩⟩⟩⟩⟩⟩⟩⟩⟩⟩⟩⟩⟩⟩⟩⟩⟩⟩⟩⟩⟩⟩
theorem fk_q_6_ok : ∀ e ∈ fk_q_6, fk_qP e := List.forall_mem_cons.mpr ⟨kX12_copies, List.forall_mem_cons.mpr ⟨kX12_begins, List.forall_mem_cons.mpr ⟨kX12_again, List.forall_mem_cons.mpr ⟨kX12_isPlace, List.forall_mem_cons.mpr ⟨kX12_isRoad, List.forall_mem_cons.mpr ⟨kX12_isOne, List.forall_mem_cons.mpr ⟨kX12_isFact, List.forall_mem_cons.mpr ⟨kX12_road, List.forall_mem_cons.mpr ⟨kX12_notice, List.forall_mem_cons.mpr ⟨kX12_lives, List.forall_mem_cons.mpr ⟨kX12_isHalf, List.forall_mem_cons.mpr ⟨kX12_isLiving, List.forall_mem_cons.mpr ⟨kX12_isAt, List.forall_mem_cons.mpr ⟨kX12_livingOf, List.forall_mem_cons.mpr ⟨kX12_living, List.forall_mem_cons.mpr ⟨kX12_begin, List.forall_mem_cons.mpr ⟨kX12_comes, List.forall_mem_cons.mpr ⟨kX12_knows, List.forall_mem_cons.mpr ⟨kX12_learns, List.forall_mem_cons.mpr ⟨kX12_owes, List.forall_mem_cons.mpr ⟨kX12_types, List.forall_mem_cons.mpr ⟨kX12_feed, List.forall_mem_cons.mpr ⟨kX12_here, List.forall_mem_cons.mpr ⟨kX12_isDigit, fun _ h => absurd h List.not_mem_nil⟩⟩⟩⟩⟩⟩⟩⟩⟩⟩⟩⟩⟩⟩⟩⟩⟩⟩⟩⟩⟩⟩⟩⟩
theorem fk_q_7_ok : ∀ e ∈ fk_q_7, fk_qP e := List.forall_mem_cons.mpr ⟨kX12_wrongAt, List.forall_mem_cons.mpr ⟨kX12_takes, List.forall_mem_cons.mpr ⟨kX12_readsNumber, List.forall_mem_cons.mpr ⟨kX12_notes, List.forall_mem_cons.mpr ⟨kX12_opens, List.forall_mem_cons.mpr ⟨kX12_waitTop, List.forall_mem_cons.mpr ⟨kX12_factOf, List.forall_mem_cons.mpr ⟨kX12_sumSign, List.forall_mem_cons.mpr ⟨kX12_closesSums, List.forall_mem_cons.mpr ⟨kX12_readsFactor, List.forall_mem_cons.mpr ⟨kX12_hasOpenSum, List.forall_mem_cons.mpr ⟨kX12_readsSum, List.forall_mem_cons.mpr ⟨kX12_endsPiece, List.forall_mem_cons.mpr ⟨kX12_lands, List.forall_mem_cons.mpr ⟨kX12_jumps, List.forall_mem_cons.mpr ⟨kX12_readsCompared, List.forall_mem_cons.mpr ⟨kX12_readsCondition, List.forall_mem_cons.mpr ⟨kX12_isClause, List.forall_mem_cons.mpr ⟨kX12_readsClause, List.forall_mem_cons.mpr ⟨kX12_law, List.forall_mem_cons.mpr ⟨kX12_reckon, List.forall_mem_cons.mpr ⟨kX12_comesTo, List.forall_mem_cons.mpr ⟨kX12_byLaw, List.forall_mem_cons.mpr ⟨kX12_isElder, fun _ h => absurd h List.not_mem_nil⟩⟩⟩⟩⟩⟩⟩⟩⟩⟩⟩⟩⟩⟩⟩⟩⟩⟩⟩⟩⟩⟩⟩⟩
theorem fk_q_8_ok : ∀ e ∈ fk_q_8, fk_qP e := List.forall_mem_cons.mpr ⟨kX12_feels, List.forall_mem_cons.mpr ⟨kX12_gladlyFor, List.forall_mem_cons.mpr ⟨kX12_remembers, List.forall_mem_cons.mpr ⟨kX12_goesOn, List.forall_mem_cons.mpr ⟨kX12_merges, List.forall_mem_cons.mpr ⟨kX12_arrives, List.forall_mem_cons.mpr ⟨kX12_mayDie, List.forall_mem_cons.mpr ⟨kX12_doubtOf, List.forall_mem_cons.mpr ⟨kX12_bestRoad, List.forall_mem_cons.mpr ⟨kX12_sets, List.forall_mem_cons.mpr ⟨kX12_leaves, List.forall_mem_cons.mpr ⟨kX12_hourGoes, List.forall_mem_cons.mpr ⟨kX12_hours, List.forall_mem_cons.mpr ⟨kX12_sumFor, List.forall_mem_cons.mpr ⟨kX12_triedBy, List.forall_mem_cons.mpr ⟨kX12_tried, List.forall_mem_cons.mpr ⟨kX12_half, List.forall_mem_cons.mpr ⟨kX12_gladly, List.forall_mem_cons.mpr ⟨kX12_halves, List.forall_mem_cons.mpr ⟨kX12_isRemembered, List.forall_mem_cons.mpr ⟨kX12_wasAt, List.forall_mem_cons.mpr ⟨kX12_was, List.forall_mem_cons.mpr ⟨kX12_byForks, List.forall_mem_cons.mpr ⟨kX12_forksOf, fun _ h => absurd h List.not_mem_nil⟩⟩⟩⟩⟩⟩⟩⟩⟩⟩⟩⟩⟩⟩⟩⟩⟩⟩⟩⟩⟩⟩⟩⟩
theorem fk_q_9_ok : ∀ e ∈ fk_q_9, fk_qP e := List.forall_mem_cons.mpr ⟨kX12_aliveOf, List.forall_mem_cons.mpr ⟨kX12_triesPlan, List.forall_mem_cons.mpr ⟨kX12_plan, List.forall_mem_cons.mpr ⟨kX12_takesHalves, List.forall_mem_cons.mpr ⟨kX12_readsJoins, List.forall_mem_cons.mpr ⟨kX12_knownBy, List.forall_mem_cons.mpr ⟨kX12_joined, List.forall_mem_cons.mpr ⟨kX12_gainOf, List.forall_mem_cons.mpr ⟨kX12_isGlad, List.forall_mem_cons.mpr ⟨kX12_rests, List.forall_mem_cons.mpr ⟨kX12_chosen, List.forall_mem_cons.mpr ⟨kX12_hourAt, List.forall_mem_cons.mpr ⟨kX12_wasThere, List.forall_mem_cons.mpr ⟨kX12_whoWas, List.forall_mem_cons.mpr ⟨kX12_reachedFrom, List.forall_mem_cons.mpr ⟨kX12_meet, List.forall_mem_cons.mpr ⟨kX12_isLast, List.forall_mem_cons.mpr ⟨kX12_built, List.forall_mem_cons.mpr ⟨kX12_closed, List.forall_mem_cons.mpr ⟨kX12_readsDigits, List.forall_mem_cons.mpr ⟨kX12_readsStep, List.forall_mem_cons.mpr ⟨kX12_history, List.forall_mem_cons.mpr ⟨kX12_isFrom, List.forall_mem_cons.mpr ⟨kX12_kin, fun _ h => absurd h List.not_mem_nil⟩⟩⟩⟩⟩⟩⟩⟩⟩⟩⟩⟩⟩⟩⟩⟩⟩⟩⟩⟩⟩⟩⟩⟩
theorem fk_q_10_ok : ∀ e ∈ fk_q_10, fk_qP e := List.forall_mem_cons.mpr ⟨kX12_bread, List.forall_mem_cons.mpr ⟨kX12_weightFor, List.forall_mem_cons.mpr ⟨kX12_vote, List.forall_mem_cons.mpr ⟨kX12_seed, List.forall_mem_cons.mpr ⟨kX12_keep, List.forall_mem_cons.mpr ⟨kX12_undo, List.forall_mem_cons.mpr ⟨kX12_tapeNumber, List.forall_mem_cons.mpr ⟨kX12_check, List.forall_mem_cons.mpr ⟨kX12_roadMany, List.forall_mem_cons.mpr ⟨kX12_count, List.forall_mem_cons.mpr ⟨kJ6_bitCount_0f7a4, List.forall_mem_cons.mpr ⟨kJ0_length_8abf5, List.forall_mem_cons.mpr ⟨kJ0_indexOf_0f7a4, List.forall_mem_cons.mpr ⟨kJ0_indexOf_7cf53, List.forall_mem_cons.mpr ⟨kJ0_coder_7d493, List.forall_mem_cons.mpr ⟨kJ0_isLatin1_aae02, List.forall_mem_cons.mpr ⟨kJ1_canEncode_9a6ad, List.forall_mem_cons.mpr ⟨kJ1_indexOf_4cfef, List.forall_mem_cons.mpr ⟨kJ1_indexOfChar_4cfef, List.forall_mem_cons.mpr ⟨kJ7_fill_53178, fun _ h => absurd h List.not_mem_nil⟩⟩⟩⟩⟩⟩⟩⟩⟩⟩⟩⟩⟩⟩⟩⟩⟩⟩⟩⟩
theorem fk_qs_ok : ∀ e ∈ fk_qs, fk_qP e := List.forall_mem_append.mpr ⟨fk_q_0_ok, List.forall_mem_append.mpr ⟨fk_q_1_ok, List.forall_mem_append.mpr ⟨fk_q_2_ok, List.forall_mem_append.mpr ⟨fk_q_3_ok, List.forall_mem_append.mpr ⟨fk_q_4_ok, List.forall_mem_append.mpr ⟨fk_q_5_ok, List.forall_mem_append.mpr ⟨fk_q_6_ok, List.forall_mem_append.mpr ⟨fk_q_7_ok, List.forall_mem_append.mpr ⟨fk_q_8_ok, List.forall_mem_append.mpr ⟨fk_q_9_ok, fk_q_10_ok⟩⟩⟩⟩⟩⟩⟩⟩⟩⟩
/-- ((class, index), (nest, callee), place of the link) -/
def fk_mT_0 : List ((Nat × Nat) × (Nat × Nat) × Nat) := [((13, 9), (0, 98), 129), ((11, 9), (1, 20), 137), ((11, 25), (0, 39), 181), ((5, 34), (0, 259), 185), ((11, 32), (1, 92), 221), ((11, 39), (0, 25), 235), ((11, 48), (0, 9), 260), ((11, 57), (0, 72), 288), ((8, 43), (0, 0), 295), ((11, 70), (1, 66), 437), ((11, 80), (0, 52), 447), ((11, 89), (0, 89), 480), ((11, 98), (1, 14), 511), ((13, 13), (0, 99), 582), ((11, 110), (0, 129), 586), ((11, 114), (0, 40), 589), ((5, 40), (0, 41), 593), ((5, 44), (1, 129), 597), ((13, 18), (0, 100), 598), ((13, 23), (0, 101), 602), ((11, 131), (0, 79), 606), ((8, 56), (1, 129), 610), ((8, 67), (0, 2), 611), ((0, 58), (0, 3), 615), ((13, 28), (0, 102), 619), ((11, 135), (0, 76), 623), ((11, 143), (0, 5), 627), ((13, 32), (0, 103), 631), ((13, 37), (0, 104), 636), ((11, 153), (0, 93), 640), ((11, 156), (0, 94), 644), ((10, 19), (0, 93), 648), ((13, 42), (0, 105), 649), ((11, 163), (0, 26), 653), ((4, 33), (0, 21), 657), ((4, 47), (0, 95), 667), ((10, 23), (1, 129), 671), ((4, 53), (0, 30), 672), ((4, 73), (0, 28), 677), ((4, 63), (0, 252), 681)]
def fk_mT_1 : List ((Nat × Nat) × (Nat × Nat) × Nat) := [((17, 633), (0, 253), 685), ((17, 492), (0, 255), 689), ((17, 505), (0, 251), 695), ((17, 335), (0, 254), 699), ((17, 637), (0, 257), 703), ((18, 88), (0, 256), 706), ((18, 95), (0, 258), 711), ((4, 60), (1, 130), 763), ((4, 68), (0, 27), 766), ((4, 89), (0, 22), 770), ((4, 93), (0, 35), 774), ((4, 122), (0, 36), 778), ((4, 125), (0, 37), 782), ((4, 130), (0, 38), 786), ((4, 57), (0, 29), 791), ((4, 99), (0, 32), 796), ((4, 111), (0, 33), 800), ((4, 117), (0, 34), 804), ((4, 114), (0, 31), 809), ((11, 167), (0, 97), 813), ((13, 47), (0, 106), 818), ((11, 173), (0, 131), 822), ((11, 176), (0, 53), 826), ((11, 180), (0, 68), 830), ((7, 27), (0, 77), 834), ((11, 184), (0, 55), 838), ((6, 40), (0, 56), 842), ((6, 79), (0, 41), 846), ((6, 91), (0, 3), 847), ((6, 43), (0, 57), 848), ((6, 104), (0, 77), 852), ((6, 107), (0, 7), 853), ((6, 111), (0, 65), 857), ((6, 129), (0, 61), 861), ((6, 192), (0, 250), 866), ((6, 137), (0, 23), 872), ((3, 40), (0, 24), 876), ((6, 115), (0, 81), 882), ((8, 93), (0, 8), 886), ((8, 97), (0, 250), 893)]
def fk_mT_2 : List ((Nat × Nat) × (Nat × Nat) × Nat) := [((6, 46), (0, 58), 894), ((6, 125), (0, 5), 898), ((6, 49), (0, 59), 901), ((6, 152), (0, 83), 905), ((6, 156), (0, 82), 910), ((6, 52), (0, 60), 915), ((6, 162), (0, 62), 919), ((6, 169), (0, 64), 923), ((6, 175), (0, 80), 927), ((8, 46), (0, 1), 931), ((8, 86), (0, 4), 935), ((6, 179), (0, 4), 939), ((11, 187), (0, 78), 940), ((13, 51), (0, 107), 944), ((11, 191), (0, 132), 948), ((11, 194), (0, 73), 951), ((11, 197), (0, 74), 958), ((11, 212), (0, 85), 962), ((13, 55), (0, 108), 966), ((11, 215), (0, 75), 970), ((11, 248), (0, 6), 974), ((13, 59), (0, 109), 978), ((11, 252), (0, 77), 982), ((11, 255), (0, 41), 983), ((11, 261), (0, 62), 984), ((13, 63), (0, 110), 985), ((13, 67), (0, 111), 989), ((11, 265), (0, 70), 993), ((7, 40), (0, 69), 997), ((7, 44), (0, 71), 1001), ((7, 55), (0, 75), 1005), ((7, 51), (1, 129), 1006), ((13, 71), (0, 112), 1007), ((11, 271), (0, 50), 1012), ((5, 73), (0, 51), 1017), ((13, 76), (0, 113), 1021), ((11, 276), (0, 84), 1026), ((11, 279), (0, 90), 1030), ((9, 47), (0, 45), 1034), ((9, 53), (0, 49), 1038)]
def fk_mT_3 : List ((Nat × Nat) × (Nat × Nat) × Nat) := [((5, 65), (0, 250), 1042), ((9, 57), (0, 73), 1043), ((9, 61), (0, 53), 1044), ((9, 70), (0, 54), 1045), ((9, 74), (0, 91), 1049), ((9, 81), (0, 55), 1053), ((13, 81), (0, 114), 1055), ((11, 292), (0, 15), 1059), ((2, 25), (0, 95), 1063), ((2, 31), (0, 76), 1064), ((11, 296), (0, 16), 1065), ((2, 46), (0, 17), 1069), ((2, 78), (0, 65), 1075), ((2, 84), (0, 250), 1076), ((2, 56), (0, 18), 1078), ((2, 89), (0, 19), 1082), ((13, 85), (0, 115), 1086), ((11, 303), (0, 63), 1090), ((11, 307), (0, 133), 1094), ((13, 90), (0, 116), 1098), ((11, 310), (0, 135), 1102), ((11, 389), (0, 95), 1106), ((11, 313), (0, 134), 1107), ((11, 316), (0, 69), 1111), ((11, 320), (0, 136), 1112), ((13, 94), (0, 117), 1116), ((11, 324), (0, 44), 1121), ((11, 328), (0, 45), 1125), ((13, 98), (0, 118), 1126), ((11, 331), (0, 46), 1130), ((5, 57), (0, 45), 1134), ((13, 102), (0, 119), 1136), ((11, 339), (0, 47), 1140), ((5, 61), (0, 48), 1144), ((11, 342), (0, 250), 1149), ((13, 106), (0, 120), 1150), ((11, 347), (0, 10), 1154), ((1, 32), (0, 11), 1158), ((1, 43), (0, 13), 1162), ((1, 36), (0, 12), 1166)]
def fk_mT_4 : List ((Nat × Nat) × (Nat × Nat) × Nat) := [((1, 47), (0, 95), 1170), ((1, 39), (1, 130), 1172), ((11, 357), (0, 137), 1173), ((13, 110), (0, 121), 1177), ((11, 361), (0, 88), 1181), ((8, 122), (0, 75), 1185), ((13, 114), (0, 122), 1186), ((11, 364), (0, 87), 1190), ((8, 119), (0, 85), 1194), ((13, 118), (0, 123), 1195), ((11, 367), (0, 86), 1199), ((8, 116), (0, 6), 1203), ((13, 122), (0, 124), 1204), ((13, 127), (0, 125), 1208), ((11, 374), (0, 67), 1212), ((13, 132), (0, 126), 1217), ((13, 137), (0, 127), 1221), ((11, 377), (0, 96), 1225), ((10, 27), (0, 95), 1229), ((13, 141), (0, 128), 1230), ((11, 383), (0, 42), 1234), ((11, 386), (0, 43), 1238), ((13, 12), (0, 138), 1244), ((13, 17), (0, 151), 1400), ((12, 112), (0, 139), 1404), ((12, 116), (0, 147), 1407), ((13, 22), (0, 152), 1410), ((12, 120), (0, 150), 1414), ((13, 27), (0, 160), 1417), ((12, 132), (0, 149), 1421), ((12, 135), (0, 157), 1424), ((12, 126), (0, 153), 1428), ((12, 139), (0, 159), 1432), ((13, 31), (0, 162), 1436), ((12, 129), (0, 155), 1440), ((12, 123), (0, 154), 1444), ((12, 143), (0, 161), 1448), ((13, 36), (0, 163), 1452), ((13, 41), (0, 165), 1457), ((12, 151), (0, 164), 1461)]
def fk_mT_5 : List ((Nat × Nat) × (Nat × Nat) × Nat) := [((13, 46), (0, 187), 1465), ((12, 241), (0, 186), 1469), ((12, 161), (0, 166), 1473), ((12, 232), (0, 185), 1477), ((12, 168), (0, 168), 1480), ((12, 217), (0, 179), 1484), ((12, 204), (0, 177), 1488), ((12, 195), (0, 172), 1492), ((12, 174), (0, 167), 1497), ((12, 198), (0, 170), 1501), ((12, 191), (0, 171), 1505), ((12, 201), (0, 174), 1509), ((12, 207), (0, 175), 1512), ((12, 210), (0, 176), 1515), ((12, 188), (0, 173), 1519), ((12, 214), (0, 178), 1523), ((12, 238), (0, 184), 1527), ((12, 223), (0, 183), 1531), ((12, 220), (0, 180), 1535), ((12, 226), (0, 181), 1539), ((12, 229), (0, 182), 1543), ((12, 244), (0, 169), 1547), ((13, 50), (0, 204), 1551), ((12, 322), (0, 203), 1555), ((12, 304), (0, 194), 1559), ((12, 269), (0, 156), 1563), ((12, 307), (0, 195), 1567), ((12, 310), (0, 196), 1571), ((12, 263), (0, 192), 1575), ((12, 257), (0, 141), 1579), ((12, 260), (0, 143), 1582), ((12, 108), (0, 142), 1585), ((12, 275), (0, 191), 1588), ((12, 253), (0, 189), 1592), ((12, 250), (0, 188), 1596), ((12, 278), (0, 140), 1599), ((12, 313), (0, 197), 1602), ((12, 266), (0, 190), 1606), ((12, 316), (0, 198), 1610), ((12, 319), (0, 202), 1615)]
def fk_mT_6 : List ((Nat × Nat) × (Nat × Nat) × Nat) := [((12, 295), (0, 200), 1619), ((12, 289), (0, 148), 1623), ((12, 292), (0, 193), 1627), ((12, 298), (0, 199), 1631), ((12, 301), (0, 201), 1635), ((12, 325), (0, 158), 1639), ((13, 54), (0, 207), 1643), ((12, 331), (0, 145), 1647), ((12, 101), (0, 144), 1651), ((12, 334), (0, 206), 1654), ((12, 328), (0, 205), 1658), ((12, 337), (0, 146), 1662), ((13, 58), (0, 208), 1666), ((13, 62), (0, 209), 1670), ((13, 66), (0, 210), 1674), ((13, 70), (0, 213), 1678), ((12, 340), (0, 211), 1682), ((12, 343), (0, 212), 1686), ((13, 75), (0, 214), 1690), ((13, 80), (0, 218), 1695), ((12, 348), (0, 216), 1700), ((12, 361), (0, 215), 1704), ((12, 365), (0, 217), 1709), ((13, 84), (0, 222), 1713), ((12, 372), (0, 219), 1717), ((12, 375), (0, 220), 1721), ((12, 378), (0, 221), 1725), ((13, 89), (0, 226), 1729), ((12, 381), (0, 224), 1733), ((12, 387), (0, 225), 1737), ((12, 384), (0, 223), 1741), ((13, 93), (0, 229), 1745), ((12, 391), (0, 227), 1749), ((12, 394), (0, 228), 1753), ((13, 97), (0, 231), 1757), ((12, 397), (0, 230), 1761), ((13, 101), (0, 233), 1765), ((12, 400), (0, 232), 1769), ((13, 105), (0, 234), 1773), ((13, 109), (0, 237), 1777)]
def fk_mT_7 : List ((Nat × Nat) × (Nat × Nat) × Nat) := [((12, 412), (0, 236), 1781), ((12, 403), (0, 235), 1785), ((13, 113), (0, 239), 1789), ((12, 415), (0, 238), 1793), ((13, 117), (0, 240), 1797), ((13, 121), (0, 242), 1801), ((12, 418), (0, 241), 1805), ((13, 126), (0, 243), 1809), ((13, 131), (0, 244), 1813), ((13, 136), (0, 245), 1817), ((13, 140), (0, 247), 1821), ((12, 425), (0, 246), 1825), ((13, 144), (0, 249), 1829), ((12, 428), (0, 248), 1833)]
def fk_mT : List ((Nat × Nat) × (Nat × Nat) × Nat) := fk_mT_0 ++ (fk_mT_1 ++ (fk_mT_2 ++ (fk_mT_3 ++ (fk_mT_4 ++ (fk_mT_5 ++ (fk_mT_6 ++ (fk_mT_7)))))))
def fk_pT : List ((Nat × Nat) × Nat × Nat) := [((11, 1), 6, 0), ((3, 3), 6, 0), ((5, 3), 6, 0), ((10, 3), 6, 0), ((4, 3), 6, 0), ((1, 3), 6, 0), ((8, 3), 6, 0), ((0, 3), 6, 0), ((7, 3), 6, 0), ((6, 3), 6, 0), ((9, 3), 6, 0), ((2, 3), 6, 0), ((4, 38), 8, 0), ((4, 44), 7, 0), ((18, 92), 7, 0), ((18, 38), 8, 0), ((6, 149), 7, 0), ((3, 44), 8, 0), ((3, 50), 7, 0), ((0, 63), 8, 0), ((0, 69), 7, 0), ((6, 143), 8, 0), ((8, 106), 8, 0), ((8, 50), 9, 0), ((9, 88), 7, 0), ((2, 69), 8, 0), ((2, 75), 7, 0), ((2, 50), 9, 0), ((11, 334), 7, 0), ((1, 52), 7, 0), ((7, 15), 9, 0), ((12, 1), 6, 0)]
/-- String: 0 value, 1 coder, 2 COMPACT_STRINGS -/
def fk_kT : List ((Nat × Nat) × Nat × Nat) := [((17, 38), 2, 693), ((17, 15), 1, 1837), ((17, 9), 0, 1838)]
def fk_sT : List ((Nat × Nat) × Nat × Nat) := [((4, 71), 0, 676), ((4, 133), 1, 790), ((4, 128), 2, 795), ((4, 120), 3, 808)]
def fk_stx : List (Nat × String) := [(71, "cdbwxe"), (133, "hijzpnmokrqlfy"), (128, "*/%"), (120, "<>=")]
def fk_sbt : List (List Int32) := [[99, 100, 98, 119, 120, 101], [104, 105, 106, 122, 112, 110, 109, 111, 107, 114, 113, 108, 102, 121], [42, 47, 37], [60, 62, 61]]
def fk_sln : List Nat := [6, 14, 3, 3]
def fk_cT_0 : List ((Nat × Nat) × Int32 × Nat) := [((11, 149), (99999 : Int32), 635), ((15, 265), (1431655765 : Int32), 869), ((15, 266), (858993459 : Int32), 870), ((15, 267), (252645135 : Int32), 871), ((0, 62), (99999 : Int32), 890), ((6, 133), (99999 : Int32), 899), ((8, 112), (65535 : Int32), 909), ((11, 275), (65536 : Int32), 1025), ((11, 323), (65535 : Int32), 1120), ((5, 64), (65535 : Int32), 1148), ((12, 147), (99999 : Int32), 1456), ((12, 181), (1048576 : Int32), 1496), ((12, 285), (65536 : Int32), 1614), ((12, 360), (65535 : Int32), 1699), ((12, 364), (1000000000 : Int32), 1708)]
def fk_cT : List ((Nat × Nat) × Int32 × Nat) := fk_cT_0
def fk_lT_0 : List ((Nat × Nat) × Int64 × Nat) := [((11, 269), (-1 : Int64), 1011), ((5, 71), (-1 : Int64), 1016), ((12, 346), (-1 : Int64), 1694)]
def fk_lT : List ((Nat × Nat) × Int64 × Nat) := fk_lT_0
def fk_nT_0 : List ((Nat × Nat) × Nat × List Nat) := [((13, 7), 11, [127, 128, 105]), ((11, 7), 3, [135, 136, 106]), ((11, 23), 5, [179, 180, 107]), ((11, 30), 10, [219, 220, 109]), ((11, 37), 4, [233, 234, 110]), ((11, 46), 1, [258, 259, 111]), ((11, 55), 8, [286, 287, 112]), ((8, 9), 0, [292, 294, 113]), ((11, 68), 7, [435, 436, 114]), ((11, 78), 6, [445, 446, 115]), ((11, 87), 9, [478, 479, 116]), ((11, 96), 2, [509, 510, 117]), ((13, 10), 12, [1242, 1243, 118])]
def fk_nT : List ((Nat × Nat) × Nat × List Nat) := fk_nT_0
def fk_lk {α β : Type} : List ((Nat × Nat) × α × β) → Nat → Nat → Option α
  | [], _, _ => none
  | e :: r, a, b => if e.1.1 = a ∧ e.1.2 = b then some e.2.1 else fk_lk r a b
theorem fk_lk_mem {α β : Type} {t : List ((Nat × Nat) × α × β)} {a b : Nat} {x : α} (h : fk_lk t a b = some x) : ∃ z : β, ((a, b), x, z) ∈ t := by
  induction t with
  | nil => cases h
  | cons e r ih =>
    unfold fk_lk at h
    split at h
    next hc =>
      obtain ⟨⟨e1, e2⟩, e3, e4⟩ := e
      obtain ⟨h1, h2⟩ := hc
      cases h
      dsimp only at h1 h2
      subst h1; subst h2
      exact ⟨e4, List.mem_cons_self⟩
    next =>
      obtain ⟨z, hz⟩ := ih h
      exact ⟨z, List.mem_cons_of_mem _ hz⟩
def fk_fl (a b : Nat) : Option (Nat × Nat × Nat) := fk_lk fk_fT a b
def fk_ml (a b : Nat) : Option (Nat × Nat × fk_Me × Nat) := match fk_lk fk_mT a b with
  | some e => match fk_qs[e.2]? with
    | some q => some (e.1, q)
    | none => none
  | none => none
def fk_pl (a b : Nat) : Option Nat := fk_lk fk_pT a b
def fk_ct (a b : Nat) : Option Int32 := fk_lk fk_cT a b
def fk_lt (a b : Nat) : Option Int64 := fk_lk fk_lT a b
def fk_nw (a b : Nat) : Option Nat := fk_lk fk_nT a b
def fk_kf (a b : Nat) : Option Nat := fk_lk fk_kT a b
def fk_sx (a b : Nat) : Option Nat := fk_lk fk_sT a b
def fk_T (ci : Nat) : u_T := match ci with
  | 0 => TX0
  | 1 => TX1
  | 2 => TX2
  | 3 => TX3
  | 4 => TX4
  | 5 => TX5
  | 6 => TX6
  | 7 => TX7
  | 8 => TX8
  | 9 => TX9
  | 10 => TX10
  | 11 => TX11
  | 12 => TX12
  | _ => TX0
def fk_ty (ci : Nat) : Nat → FieldType := match ci with
  | 0 => tyX0
  | 1 => tyX1
  | 2 => tyX2
  | 3 => tyX3
  | 4 => tyX4
  | 5 => tyX5
  | 6 => tyX6
  | 7 => tyX7
  | 8 => tyX8
  | 9 => tyX9
  | 10 => tyX10
  | 11 => tyX11
  | 12 => tyX12
  | _ => tyX0
def fk_nf (ci : Nat) : Nat := match ci with
  | 0 => 15
  | 1 => 6
  | 2 => 4
  | 3 => 9
  | 4 => 6
  | 5 => 7
  | 6 => 8
  | 7 => 1
  | 8 => 9
  | 9 => 7
  | 10 => 2
  | 11 => 17
  | 12 => 50
  | _ => 0
/-- what a row of fk_fT says -/
def fk_fchk (e : (Nat × Nat) × (Nat × Nat × Nat) × Nat) : Bool :=
  decide (e.2.1.1 < 13) && decide (e.2.1.2.1 < fk_nf e.2.1.1) &&
  (if e.2.1.2.2 = 1 ∨ e.2.1.2.2 = 3 then decide (lw_tbl[e.2.2]? = some (Cond.fieldLinkNest (fk_cn e.1.1) e.1.2 (fk_T e.2.1.1 e.2.1.2.1).1 (fk_T e.2.1.1 e.2.1.2.1).2.1 (fk_T e.2.1.1 e.2.1.2.1).2.2.1 "ForkTown"))
   else decide (lw_tbl[e.2.2]? = some (Cond.fieldLink (fk_cn e.1.1) e.1.2 (fk_T e.2.1.1 e.2.1.2.1).1 (fk_T e.2.1.1 e.2.1.2.1).2.1 (fk_T e.2.1.1 e.2.1.2.1).2.2.1))) &&
  (if e.2.1.2.2 = 2 then decide ((fk_T e.2.1.1 e.2.1.2.1).2.2.2 = true) && decide ((fk_T e.2.1.1 e.2.1.2.1).1 = fk_cn e.1.1) else if e.2.1.2.2 = 3 then true else decide ((fk_T e.2.1.1 e.2.1.2.1).2.2.2 = false))
/-- what a row of fk_mT says -/
def fk_mchk (e : (Nat × Nat) × (Nat × Nat) × Nat) : Bool := match fk_qs[e.2.1.2]? with
  | some q => if e.2.1.1 = 1 then decide (lw_tbl[e.2.2]? = some (Cond.methodLinkNest (fk_cn e.1.1) e.1.2 q.2.1.2.1 "ForkTown")) else decide (lw_tbl[e.2.2]? = some (Cond.methodLink (fk_cn e.1.1) e.1.2 q.2.1.2.1))
  | none => true
/-- the words that the JDK's own calls need: 6 Object's constructor, 7 max, 8 min, 9 arraycopy -/
def fk_pw (own : String) (ix kind : Nat) : List Cond := match kind with
  | 6 => [.methodLink own ix objectInit, .instanceMethod objectInit, .code objectInit ⟨#[0xb1]⟩ 1 none]
  | 7 => [.methodLink own ix Lib.Math.max.name, .static Lib.Math.max.name, .initialized "java/lang/Math", .code Lib.Math.max.name Lib.Math.max.code 2 (some .int)]
  | 8 => [.methodLink own ix Lib.Math.min.name, .static Lib.Math.min.name, .initialized "java/lang/Math", .code Lib.Math.min.name Lib.Math.min.code 2 (some .int)]
  | 9 => [.methodLink own ix arraycopyName, .native arraycopyName, .static arraycopyName, .initialized "java/lang/System"]
  | _ => []
def fk_cchk (e : (Nat × Nat) × Int32 × Nat) : Bool := decide (lw_tbl[e.2.2]? = some (Cond.constant (fk_cn e.1.1) e.1.2 e.2.1))
def fk_lchk (e : (Nat × Nat) × Int64 × Nat) : Bool := decide (lw_tbl[e.2.2]? = some (Cond.constantLong (fk_cn e.1.1) e.1.2 e.2.1))
def fk_nchk (e : (Nat × Nat) × Nat × List Nat) : Bool := decide (e.2.1 < 13) && decide (e.2.2.filterMap (fun i => lw_tbl[i]?) = [Cond.classLink (fk_cn e.1.1) e.1.2 (fk_cn e.2.1), Cond.instantiable (fk_cn e.2.1) (fk_nf e.2.1), Cond.initialized (fk_cn e.2.1)])
theorem fk_fT_0_ok : fk_fT_0.all fk_fchk = true := by decide +kernel
theorem fk_fT_1_ok : fk_fT_1.all fk_fchk = true := by decide +kernel
theorem fk_fT_2_ok : fk_fT_2.all fk_fchk = true := by decide +kernel
theorem fk_fT_3_ok : fk_fT_3.all fk_fchk = true := by decide +kernel
theorem fk_fT_4_ok : fk_fT_4.all fk_fchk = true := by decide +kernel
theorem fk_fT_5_ok : fk_fT_5.all fk_fchk = true := by decide +kernel
theorem fk_mT_0_ok : fk_mT_0.all fk_mchk = true := by decide +kernel
theorem fk_mT_1_ok : fk_mT_1.all fk_mchk = true := by decide +kernel
theorem fk_mT_2_ok : fk_mT_2.all fk_mchk = true := by decide +kernel
theorem fk_mT_3_ok : fk_mT_3.all fk_mchk = true := by decide +kernel
theorem fk_mT_4_ok : fk_mT_4.all fk_mchk = true := by decide +kernel
theorem fk_mT_5_ok : fk_mT_5.all fk_mchk = true := by decide +kernel
theorem fk_mT_6_ok : fk_mT_6.all fk_mchk = true := by decide +kernel
theorem fk_mT_7_ok : fk_mT_7.all fk_mchk = true := by decide +kernel
set_option maxRecDepth 100000 in
theorem fk_p0 : ∀ w ∈ fk_pw (fk_cn 11) 1 6, w ∈ lw_tbl := goodIn_m _ [132, 133, 134] rfl
set_option maxRecDepth 100000 in
theorem fk_p1 : ∀ w ∈ fk_pw (fk_cn 3) 3 6, w ∈ lw_tbl := goodIn_m _ [140, 133, 134] rfl
set_option maxRecDepth 100000 in
theorem fk_p2 : ∀ w ∈ fk_pw (fk_cn 5) 3 6, w ∈ lw_tbl := goodIn_m _ [184, 133, 134] rfl
set_option maxRecDepth 100000 in
theorem fk_p3 : ∀ w ∈ fk_pw (fk_cn 10) 3 6, w ∈ lw_tbl := goodIn_m _ [224, 133, 134] rfl
set_option maxRecDepth 100000 in
theorem fk_p4 : ∀ w ∈ fk_pw (fk_cn 4) 3 6, w ∈ lw_tbl := goodIn_m _ [238, 133, 134] rfl
set_option maxRecDepth 100000 in
theorem fk_p5 : ∀ w ∈ fk_pw (fk_cn 1) 3 6, w ∈ lw_tbl := goodIn_m _ [263, 133, 134] rfl
set_option maxRecDepth 100000 in
theorem fk_p6 : ∀ w ∈ fk_pw (fk_cn 8) 3 6, w ∈ lw_tbl := goodIn_m _ [291, 133, 134] rfl
set_option maxRecDepth 100000 in
theorem fk_p7 : ∀ w ∈ fk_pw (fk_cn 0) 3 6, w ∈ lw_tbl := goodIn_m _ [298, 133, 134] rfl
set_option maxRecDepth 100000 in
theorem fk_p8 : ∀ w ∈ fk_pw (fk_cn 7) 3 6, w ∈ lw_tbl := goodIn_m _ [440, 133, 134] rfl
set_option maxRecDepth 100000 in
theorem fk_p9 : ∀ w ∈ fk_pw (fk_cn 6) 3 6, w ∈ lw_tbl := goodIn_m _ [450, 133, 134] rfl
set_option maxRecDepth 100000 in
theorem fk_p10 : ∀ w ∈ fk_pw (fk_cn 9) 3 6, w ∈ lw_tbl := goodIn_m _ [483, 133, 134] rfl
set_option maxRecDepth 100000 in
theorem fk_p11 : ∀ w ∈ fk_pw (fk_cn 2) 3 6, w ∈ lw_tbl := goodIn_m _ [514, 133, 134] rfl
set_option maxRecDepth 100000 in
theorem fk_p12 : ∀ w ∈ fk_pw (fk_cn 4) 38 8, w ∈ lw_tbl := goodIn_m _ [661, 662, 119, 663] rfl
set_option maxRecDepth 100000 in
theorem fk_p13 : ∀ w ∈ fk_pw (fk_cn 4) 44 7, w ∈ lw_tbl := goodIn_m _ [664, 665, 119, 666] rfl
set_option maxRecDepth 100000 in
theorem fk_p14 : ∀ w ∈ fk_pw (fk_cn 18) 92 7, w ∈ lw_tbl := goodIn_m _ [709, 665, 119, 666] rfl
set_option maxRecDepth 100000 in
theorem fk_p15 : ∀ w ∈ fk_pw (fk_cn 18) 38 8, w ∈ lw_tbl := goodIn_m _ [710, 662, 119, 663] rfl
set_option maxRecDepth 100000 in
theorem fk_p16 : ∀ w ∈ fk_pw (fk_cn 6) 149 7, w ∈ lw_tbl := goodIn_m _ [865, 665, 119, 666] rfl
set_option maxRecDepth 100000 in
theorem fk_p17 : ∀ w ∈ fk_pw (fk_cn 3) 44 8, w ∈ lw_tbl := goodIn_m _ [880, 662, 119, 663] rfl
set_option maxRecDepth 100000 in
theorem fk_p18 : ∀ w ∈ fk_pw (fk_cn 3) 50 7, w ∈ lw_tbl := goodIn_m _ [881, 665, 119, 666] rfl
set_option maxRecDepth 100000 in
theorem fk_p19 : ∀ w ∈ fk_pw (fk_cn 0) 63 8, w ∈ lw_tbl := goodIn_m _ [891, 662, 119, 663] rfl
set_option maxRecDepth 100000 in
theorem fk_p20 : ∀ w ∈ fk_pw (fk_cn 0) 69 7, w ∈ lw_tbl := goodIn_m _ [892, 665, 119, 666] rfl
set_option maxRecDepth 100000 in
theorem fk_p21 : ∀ w ∈ fk_pw (fk_cn 6) 143 8, w ∈ lw_tbl := goodIn_m _ [900, 662, 119, 663] rfl
set_option maxRecDepth 100000 in
theorem fk_p22 : ∀ w ∈ fk_pw (fk_cn 8) 106 8, w ∈ lw_tbl := goodIn_m _ [914, 662, 119, 663] rfl
set_option maxRecDepth 100000 in
theorem fk_p23 : ∀ w ∈ fk_pw (fk_cn 8) 50 9, w ∈ lw_tbl := goodIn_m _ [955, 957, 956, 126] rfl
set_option maxRecDepth 100000 in
theorem fk_p24 : ∀ w ∈ fk_pw (fk_cn 9) 88 7, w ∈ lw_tbl := goodIn_m _ [1054, 665, 119, 666] rfl
set_option maxRecDepth 100000 in
theorem fk_p25 : ∀ w ∈ fk_pw (fk_cn 2) 69 8, w ∈ lw_tbl := goodIn_m _ [1073, 662, 119, 663] rfl
set_option maxRecDepth 100000 in
theorem fk_p26 : ∀ w ∈ fk_pw (fk_cn 2) 75 7, w ∈ lw_tbl := goodIn_m _ [1074, 665, 119, 666] rfl
set_option maxRecDepth 100000 in
theorem fk_p27 : ∀ w ∈ fk_pw (fk_cn 2) 50 9, w ∈ lw_tbl := goodIn_m _ [1077, 957, 956, 126] rfl
set_option maxRecDepth 100000 in
theorem fk_p28 : ∀ w ∈ fk_pw (fk_cn 11) 334 7, w ∈ lw_tbl := goodIn_m _ [1135, 665, 119, 666] rfl
set_option maxRecDepth 100000 in
theorem fk_p29 : ∀ w ∈ fk_pw (fk_cn 1) 52 7, w ∈ lw_tbl := goodIn_m _ [1171, 665, 119, 666] rfl
set_option maxRecDepth 100000 in
theorem fk_p30 : ∀ w ∈ fk_pw (fk_cn 7) 15 9, w ∈ lw_tbl := goodIn_m _ [1216, 957, 956, 126] rfl
set_option maxRecDepth 100000 in
theorem fk_p31 : ∀ w ∈ fk_pw (fk_cn 12) 1 6, w ∈ lw_tbl := goodIn_m _ [1247, 133, 134] rfl
theorem fk_pT_ok : ∀ e ∈ fk_pT, ∀ w ∈ fk_pw (fk_cn e.1.1) e.1.2 e.2.1, w ∈ lw_tbl := List.forall_mem_cons.mpr ⟨fk_p0, List.forall_mem_cons.mpr ⟨fk_p1, List.forall_mem_cons.mpr ⟨fk_p2, List.forall_mem_cons.mpr ⟨fk_p3, List.forall_mem_cons.mpr ⟨fk_p4, List.forall_mem_cons.mpr ⟨fk_p5, List.forall_mem_cons.mpr ⟨fk_p6, List.forall_mem_cons.mpr ⟨fk_p7, List.forall_mem_cons.mpr ⟨fk_p8, List.forall_mem_cons.mpr ⟨fk_p9, List.forall_mem_cons.mpr ⟨fk_p10, List.forall_mem_cons.mpr ⟨fk_p11, List.forall_mem_cons.mpr ⟨fk_p12, List.forall_mem_cons.mpr ⟨fk_p13, List.forall_mem_cons.mpr ⟨fk_p14, List.forall_mem_cons.mpr ⟨fk_p15, List.forall_mem_cons.mpr ⟨fk_p16, List.forall_mem_cons.mpr ⟨fk_p17, List.forall_mem_cons.mpr ⟨fk_p18, List.forall_mem_cons.mpr ⟨fk_p19, List.forall_mem_cons.mpr ⟨fk_p20, List.forall_mem_cons.mpr ⟨fk_p21, List.forall_mem_cons.mpr ⟨fk_p22, List.forall_mem_cons.mpr ⟨fk_p23, List.forall_mem_cons.mpr ⟨fk_p24, List.forall_mem_cons.mpr ⟨fk_p25, List.forall_mem_cons.mpr ⟨fk_p26, List.forall_mem_cons.mpr ⟨fk_p27, List.forall_mem_cons.mpr ⟨fk_p28, List.forall_mem_cons.mpr ⟨fk_p29, List.forall_mem_cons.mpr ⟨fk_p30, List.forall_mem_cons.mpr ⟨fk_p31, fun _ h => absurd h List.not_mem_nil⟩⟩⟩⟩⟩⟩⟩⟩⟩⟩⟩⟩⟩⟩⟩⟩⟩⟩⟩⟩⟩⟩⟩⟩⟩⟩⟩⟩⟩⟩⟩⟩
theorem fk_cT_ok : fk_cT.all fk_cchk = true := by decide +kernel
theorem fk_lT_ok : fk_lT.all fk_lchk = true := by decide +kernel
theorem fk_kT_ok : fk_kT.all (fun e => decide (e.1.1 = 17) && decide (lw_tbl[e.2.2]? = some (Cond.fieldLink "java/lang/String" e.1.2 "java/lang/String" (if e.2.1 = 0 then "value" else if e.2.1 = 1 then "coder" else "COMPACT_STRINGS") (if e.2.1 = 0 then "[B" else if e.2.1 = 1 then "B" else "Z")))) = true := by decide +kernel
theorem fk_sT_ok : fk_sT.all (fun e => decide (e.1.1 = 4) && decide (e.2.1 < 4) && decide ((fk_stx.getD e.2.1 (0, "")).1 = e.1.2)) = true := by decide +kernel
theorem fk_sw0 : Cond.stringRef "ForkTown$LawReader" 71 "cdbwxe" ∈ lw_tbl := List.mem_of_getElem? (i := 676) (by decide +kernel)
theorem fk_sw1 : Cond.stringRef "ForkTown$LawReader" 133 "hijzpnmokrqlfy" ∈ lw_tbl := List.mem_of_getElem? (i := 790) (by decide +kernel)
theorem fk_sw2 : Cond.stringRef "ForkTown$LawReader" 128 "*/%" ∈ lw_tbl := List.mem_of_getElem? (i := 795) (by decide +kernel)
theorem fk_sw3 : Cond.stringRef "ForkTown$LawReader" 120 "<>=" ∈ lw_tbl := List.mem_of_getElem? (i := 808) (by decide +kernel)
theorem fk_csw : Cond.laysStatic "java/lang/String" "COMPACT_STRINGS" "Z" ∈ lw_tbl := List.mem_of_getElem? (i := 694) (by decide +kernel)
theorem fk_nT_ok : fk_nT.all fk_nchk = true := by decide +kernel
theorem fk_fT_ok : fk_fT.all fk_fchk = true := by
  show (fk_fT_0 ++ (fk_fT_1 ++ (fk_fT_2 ++ (fk_fT_3 ++ (fk_fT_4 ++ (fk_fT_5)))))).all fk_fchk = true
  simp only [List.all_append, fk_fT_0_ok, fk_fT_1_ok, fk_fT_2_ok, fk_fT_3_ok, fk_fT_4_ok, fk_fT_5_ok, Bool.and_self]
theorem fk_mT_ok : fk_mT.all fk_mchk = true := by
  show (fk_mT_0 ++ (fk_mT_1 ++ (fk_mT_2 ++ (fk_mT_3 ++ (fk_mT_4 ++ (fk_mT_5 ++ (fk_mT_6 ++ (fk_mT_7)))))))).all fk_mchk = true
  simp only [List.all_append, fk_mT_0_ok, fk_mT_1_ok, fk_mT_2_ok, fk_mT_3_ok, fk_mT_4_ok, fk_mT_5_ok, fk_mT_6_ok, fk_mT_7_ok, Bool.and_self]
