set_option maxRecDepth 100000 in
theorem ok_X0_none : am_okM me_X0_none = true := by decide +kernel
set_option maxRecDepth 100000 in
theorem ok_X0_offerLeast : am_okM me_X0_offerLeast = true := by decide +kernel
set_option maxRecDepth 100000 in
theorem ok_X0_offerMost : am_okM me_X0_offerMost = true := by decide +kernel
set_option maxRecDepth 100000 in
theorem ok_X0_answer : am_okM me_X0_answer = true := by decide +kernel
set_option maxRecDepth 100000 in
theorem ok_X1_leastHeard : am_okM me_X1_leastHeard = true := by decide +kernel
set_option maxRecDepth 100000 in
theorem ok_X1_leastBreaking : am_okM me_X1_leastBreaking = true := by decide +kernel
set_option maxRecDepth 100000 in
theorem ok_X1_greatestHarmless : am_okM me_X1_greatestHarmless = true := by decide +kernel
set_option maxRecDepth 100000 in
theorem ok_X1_leastHarm : am_okM me_X1_leastHarm = true := by decide +kernel
set_option maxRecDepth 100000 in
theorem ok_X1_quietestTap : am_okM me_X1_quietestTap = true := by decide +kernel
set_option maxRecDepth 100000 in
theorem ok_X1_findDroppers : am_okM me_X1_findDroppers = true := by decide +kernel
set_option maxRecDepth 100000 in
theorem ok_X1_countDropping : am_okM me_X1_countDropping = true := by decide +kernel
set_option maxRecDepth 100000 in
theorem ok_X1_kindsBy : am_okM me_X1_kindsBy = true := by decide +kernel
set_option maxRecDepth 100000 in
theorem ok_X1_figuresBy : am_okM me_X1_figuresBy = true := by decide +kernel
set_option maxRecDepth 100000 in
theorem ok_X1_strengths : am_okM me_X1_strengths = true := by decide +kernel
set_option maxRecDepth 100000 in
theorem ok_X2_firstBreakingDay : am_okM me_X2_firstBreakingDay = true := by decide +kernel
set_option maxRecDepth 100000 in
theorem ok_X2_wholeBehind : am_okM me_X2_wholeBehind = true := by decide +kernel
set_option maxRecDepth 100000 in
theorem ok_X2_brokenBehindAll : am_okM me_X2_brokenBehindAll = true := by decide +kernel
set_option maxRecDepth 100000 in
theorem ok_X2_findOdds : am_okM me_X2_findOdds = true := by decide +kernel
set_option maxRecDepth 100000 in
theorem ok_X2_power : am_okM me_X2_power = true := by decide +kernel
set_option maxRecDepth 100000 in
theorem ok_X2_commonDivisor : am_okM me_X2_commonDivisor = true := by decide +kernel
set_option maxRecDepth 100000 in
theorem ok_X2_drawYears : am_okM me_X2_drawYears = true := by decide +kernel
set_option maxRecDepth 100000 in
theorem ok_X2_draw : am_okM me_X2_draw = true := by decide +kernel
set_option maxRecDepth 100000 in
theorem ok_X3_lossOf : am_okM me_X3_lossOf = true := by decide +kernel
set_option maxRecDepth 100000 in
theorem ok_X3_standsOf : am_okM me_X3_standsOf = true := by decide +kernel
set_option maxRecDepth 100000 in
theorem ok_X3_jumpBy : am_okM me_X3_jumpBy = true := by decide +kernel
set_option maxRecDepth 100000 in
theorem ok_X4_thingAt : am_okM me_X4_thingAt = true := by decide +kernel
set_option maxRecDepth 100000 in
theorem ok_X4_mildest : am_okM me_X4_mildest = true := by decide +kernel
set_option maxRecDepth 100000 in
theorem ok_X4_mostBrokenBut : am_okM me_X4_mostBrokenBut = true := by decide +kernel
set_option maxRecDepth 100000 in
theorem ok_X4_shortestWalk : am_okM me_X4_shortestWalk = true := by decide +kernel
set_option maxRecDepth 100000 in
theorem ok_X4_sortByFarm : am_okM me_X4_sortByFarm = true := by decide +kernel
set_option maxRecDepth 100000 in
theorem ok_X4_isAhead : am_okM me_X4_isAhead = true := by decide +kernel
set_option maxRecDepth 100000 in
theorem ok_X5_keep : am_okM me_X5_keep = true := by decide +kernel
set_option maxRecDepth 100000 in
theorem ok_X5_takeBack : am_okM me_X5_takeBack = true := by decide +kernel
set_option maxRecDepth 100000 in
theorem ok_X5_forget : am_okM me_X5_forget = true := by decide +kernel
set_option maxRecDepth 100000 in
theorem ok_X6_worstPlace : am_okM me_X6_worstPlace = true := by decide +kernel
set_option maxRecDepth 100000 in
theorem ok_X6_mildestCut : am_okM me_X6_mildestCut = true := by decide +kernel
set_option maxRecDepth 100000 in
theorem ok_X6_mostBroken : am_okM me_X6_mostBroken = true := by decide +kernel
set_option maxRecDepth 100000 in
theorem ok_X6_womansDrop : am_okM me_X6_womansDrop = true := by decide +kernel
set_option maxRecDepth 100000 in
theorem ok_X6_othersInSpite : am_okM me_X6_othersInSpite = true := by decide +kernel
set_option maxRecDepth 100000 in
theorem ok_X6_mostAlike : am_okM me_X6_mostAlike = true := by decide +kernel
set_option maxRecDepth 100000 in
theorem ok_X6_addUnlike : am_okM me_X6_addUnlike = true := by decide +kernel
set_option maxRecDepth 100000 in
theorem ok_X6_allHeard : am_okM me_X6_allHeard = true := by decide +kernel
set_option maxRecDepth 100000 in
theorem ok_X6_quietest : am_okM me_X6_quietest = true := by decide +kernel
set_option maxRecDepth 100000 in
theorem ok_X6_hearAll : am_okM me_X6_hearAll = true := by decide +kernel
set_option maxRecDepth 100000 in
theorem ok_X6_mostHeard : am_okM me_X6_mostHeard = true := by decide +kernel
set_option maxRecDepth 100000 in
theorem ok_X6_mendHeardMost : am_okM me_X6_mendHeardMost = true := by decide +kernel
set_option maxRecDepth 100000 in
theorem ok_X6_figureHeardMost : am_okM me_X6_figureHeardMost = true := by decide +kernel
set_option maxRecDepth 100000 in
theorem ok_X6_longestLink : am_okM me_X6_longestLink = true := by decide +kernel
set_option maxRecDepth 100000 in
theorem ok_X6_sparedBits : am_okM me_X6_sparedBits = true := by decide +kernel
set_option maxRecDepth 100000 in
theorem ok_X6_mutualTwos : am_okM me_X6_mutualTwos = true := by decide +kernel
set_option maxRecDepth 100000 in
theorem ok_X7_hear : am_okM me_X7_hear = true := by decide +kernel
set_option maxRecDepth 100000 in
theorem ok_X7_tellsJumps : am_okM me_X7_tellsJumps = true := by decide +kernel
set_option maxRecDepth 100000 in
theorem ok_X7_firstNotInPlace : am_okM me_X7_firstNotInPlace = true := by decide +kernel
set_option maxRecDepth 100000 in
theorem ok_X8_hear : am_okM me_X8_hear = true := by decide +kernel
set_option maxRecDepth 100000 in
theorem ok_X8_firstMisfit : am_okM me_X8_firstMisfit = true := by decide +kernel
set_option maxRecDepth 100000 in
theorem ok_X8_comeTo : am_okM me_X8_comeTo = true := by decide +kernel
set_option maxRecDepth 100000 in
theorem ok_X8_refusalOf : am_okM me_X8_refusalOf = true := by decide +kernel
set_option maxRecDepth 100000 in
theorem ok_X8_act : am_okM me_X8_act = true := by decide +kernel
set_option maxRecDepth 100000 in
theorem ok_X8_blowIn : am_okM me_X8_blowIn = true := by decide +kernel
set_option maxRecDepth 100000 in
theorem ok_X8_digit : am_okM me_X8_digit = true := by decide +kernel
set_option maxRecDepth 100000 in
theorem ok_X8_isDigit : am_okM me_X8_isDigit = true := by decide +kernel
set_option maxRecDepth 100000 in
theorem ok_X8_digitsBehind : am_okM me_X8_digitsBehind = true := by decide +kernel
set_option maxRecDepth 100000 in
theorem ok_X9_strike : am_okM me_X9_strike = true := by decide +kernel
set_option maxRecDepth 100000 in
theorem ok_X9_drop : am_okM me_X9_drop = true := by decide +kernel
set_option maxRecDepth 100000 in
theorem ok_X9_spread : am_okM me_X9_spread = true := by decide +kernel
set_option maxRecDepth 100000 in
theorem ok_X9_isHeardBy : am_okM me_X9_isHeardBy = true := by decide +kernel
set_option maxRecDepth 100000 in
theorem ok_X9_hasBroken : am_okM me_X9_hasBroken = true := by decide +kernel
set_option maxRecDepth 100000 in
theorem ok_X9_hearerCount : am_okM me_X9_hearerCount = true := by decide +kernel
set_option maxRecDepth 100000 in
theorem ok_X9_brokenCount : am_okM me_X9_brokenCount = true := by decide +kernel
set_option maxRecDepth 100000 in
theorem ok_X9_othersBroken : am_okM me_X9_othersBroken = true := by decide +kernel
set_option maxRecDepth 100000 in
theorem ok_X9_jumpIn : am_okM me_X9_jumpIn = true := by decide +kernel
set_option maxRecDepth 100000 in
theorem ok_X9_jumpsIn : am_okM me_X9_jumpsIn = true := by decide +kernel
set_option maxRecDepth 100000 in
theorem ok_X9_farthestIn : am_okM me_X9_farthestIn = true := by decide +kernel
set_option maxRecDepth 100000 in
theorem ok_X10_copy : am_okM me_X10_copy = true := by decide +kernel
set_option maxRecDepth 100000 in
theorem ok_X10_noThing : am_okM me_X10_noThing = true := by decide +kernel
set_option maxRecDepth 100000 in
theorem ok_X10_noLink : am_okM me_X10_noLink = true := by decide +kernel
set_option maxRecDepth 100000 in
theorem ok_X10_joinRefusal : am_okM me_X10_joinRefusal = true := by decide +kernel
set_option maxRecDepth 100000 in
theorem ok_X10_dropRefusal : am_okM me_X10_dropRefusal = true := by decide +kernel
set_option maxRecDepth 100000 in
theorem ok_X10_mendRefusal : am_okM me_X10_mendRefusal = true := by decide +kernel
set_option maxRecDepth 100000 in
theorem ok_X10_changeRefusal : am_okM me_X10_changeRefusal = true := by decide +kernel
set_option maxRecDepth 100000 in
theorem ok_X10_join : am_okM me_X10_join = true := by decide +kernel
set_option maxRecDepth 100000 in
theorem ok_X10_mend : am_okM me_X10_mend = true := by decide +kernel
set_option maxRecDepth 100000 in
theorem ok_X10_turnCut : am_okM me_X10_turnCut = true := by decide +kernel
set_option maxRecDepth 100000 in
theorem ok_X10_exchange : am_okM me_X10_exchange = true := by decide +kernel
set_option maxRecDepth 100000 in
theorem ok_X10_isBroken : am_okM me_X10_isBroken = true := by decide +kernel
set_option maxRecDepth 100000 in
theorem ok_X10_isCut : am_okM me_X10_isCut = true := by decide +kernel
set_option maxRecDepth 100000 in
theorem ok_X10_wholeBits : am_okM me_X10_wholeBits = true := by decide +kernel
set_option maxRecDepth 100000 in
theorem ok_X10_allLoss : am_okM me_X10_allLoss = true := by decide +kernel
set_option maxRecDepth 100000 in
theorem ok_X10_nextWhole : am_okM me_X10_nextWhole = true := by decide +kernel
set_option maxRecDepth 100000 in
theorem ok_X10_wayOver : am_okM me_X10_wayOver = true := by decide +kernel
set_option maxRecDepth 100000 in
theorem ok_X10_walkLength : am_okM me_X10_walkLength = true := by decide +kernel
set_option maxRecDepth 100000 in
theorem ok_X10_stretches : am_okM me_X10_stretches = true := by decide +kernel
set_option maxRecDepth 100000 in
theorem ok_X10_layInTurnUncut : am_okM me_X10_layInTurnUncut = true := by decide +kernel
set_option maxRecDepth 100000 in
theorem ok_X10_layNextOrder : am_okM me_X10_layNextOrder = true := by decide +kernel
set_option maxRecDepth 100000 in
theorem ok_X11_feed : am_okM me_X11_feed = true := by decide +kernel
set_option maxRecDepth 100000 in
theorem ok_X11_valley : am_okM me_X11_valley = true := by decide +kernel
set_option maxRecDepth 100000 in
theorem ok_X11_thingOf : am_okM me_X11_thingOf = true := by decide +kernel
set_option maxRecDepth 100000 in
theorem ok_X11_place : am_okM me_X11_place = true := by decide +kernel
set_option maxRecDepth 100000 in
theorem ok_X11_thing : am_okM me_X11_thing = true := by decide +kernel
set_option maxRecDepth 100000 in
theorem ok_X11_drops : am_okM me_X11_drops = true := by decide +kernel
set_option maxRecDepth 100000 in
theorem ok_X11_mends : am_okM me_X11_mends = true := by decide +kernel
set_option maxRecDepth 100000 in
theorem ok_X11_cuts : am_okM me_X11_cuts = true := by decide +kernel
set_option maxRecDepth 100000 in
theorem ok_X11_changes : am_okM me_X11_changes = true := by decide +kernel
set_option maxRecDepth 100000 in
theorem ok_X11_back : am_okM me_X11_back = true := by decide +kernel
set_option maxRecDepth 100000 in
theorem ok_X11_gets : am_okM me_X11_gets = true := by decide +kernel
set_option maxRecDepth 100000 in
theorem ok_X11_blow : am_okM me_X11_blow = true := by decide +kernel
set_option maxRecDepth 100000 in
theorem ok_X11_reaches : am_okM me_X11_reaches = true := by decide +kernel
set_option maxRecDepth 100000 in
theorem ok_X11_breaks : am_okM me_X11_breaks = true := by decide +kernel
set_option maxRecDepth 100000 in
theorem ok_X11_harm : am_okM me_X11_harm = true := by decide +kernel
set_option maxRecDepth 100000 in
theorem ok_X11_tap : am_okM me_X11_tap = true := by decide +kernel
set_option maxRecDepth 100000 in
theorem ok_X11_who : am_okM me_X11_who = true := by decide +kernel
set_option maxRecDepth 100000 in
theorem ok_X11_whatKind : am_okM me_X11_whatKind = true := by decide +kernel
set_option maxRecDepth 100000 in
theorem ok_X11_worst : am_okM me_X11_worst = true := by decide +kernel
set_option maxRecDepth 100000 in
theorem ok_X11_bestCut : am_okM me_X11_bestCut = true := by decide +kernel
set_option maxRecDepth 100000 in
theorem ok_X11_order : am_okM me_X11_order = true := by decide +kernel
set_option maxRecDepth 100000 in
theorem ok_X11_walk : am_okM me_X11_walk = true := by decide +kernel
set_option maxRecDepth 100000 in
theorem ok_X11_woman : am_okM me_X11_woman = true := by decide +kernel
set_option maxRecDepth 100000 in
theorem ok_X11_lasts : am_okM me_X11_lasts = true := by decide +kernel
set_option maxRecDepth 100000 in
theorem ok_X11_left : am_okM me_X11_left = true := by decide +kernel
set_option maxRecDepth 100000 in
theorem ok_X11_chance : am_okM me_X11_chance = true := by decide +kernel
set_option maxRecDepth 100000 in
theorem ok_X11_twins : am_okM me_X11_twins = true := by decide +kernel
set_option maxRecDepth 100000 in
theorem ok_X11_hum : am_okM me_X11_hum = true := by decide +kernel
set_option maxRecDepth 100000 in
theorem ok_X11_apart : am_okM me_X11_apart = true := by decide +kernel
set_option maxRecDepth 100000 in
theorem ok_X11_heaps : am_okM me_X11_heaps = true := by decide +kernel
set_option maxRecDepth 100000 in
theorem ok_X11_codes : am_okM me_X11_codes = true := by decide +kernel
set_option maxRecDepth 100000 in
theorem ok_X11_secret : am_okM me_X11_secret = true := by decide +kernel
set_option maxRecDepth 100000 in
theorem ok_X11_tough : am_okM me_X11_tough = true := by decide +kernel
set_option maxRecDepth 100000 in
theorem ok_X11_centre : am_okM me_X11_centre = true := by decide +kernel
set_option maxRecDepth 100000 in
theorem ok_X11_bestMend : am_okM me_X11_bestMend = true := by decide +kernel
set_option maxRecDepth 100000 in
theorem ok_X11_bestFigure : am_okM me_X11_bestFigure = true := by decide +kernel
set_option maxRecDepth 100000 in
theorem ok_X11_domino : am_okM me_X11_domino = true := by decide +kernel
set_option maxRecDepth 100000 in
theorem ok_X11_longest : am_okM me_X11_longest = true := by decide +kernel
set_option maxRecDepth 100000 in
theorem ok_X11_spared : am_okM me_X11_spared = true := by decide +kernel
set_option maxRecDepth 100000 in
theorem ok_X11_mutual : am_okM me_X11_mutual = true := by decide +kernel
set_option maxRecDepth 100000 in
theorem ok_X11_row : am_okM me_X11_row = true := by decide +kernel
set_option maxRecDepth 100000 in
theorem ok_X11_judge : am_okM me_X11_judge = true := by decide +kernel
set_option maxRecDepth 100000 in
theorem ok_X11_clear : am_okM me_X11_clear = true := by decide +kernel
set_option maxRecDepth 100000 in
theorem ok_X11_lots : am_okM me_X11_lots = true := by decide +kernel
set_option maxRecDepth 100000 in
theorem ok_X11_image : am_okM me_X11_image = true := by decide +kernel
set_option maxRecDepth 100000 in
theorem ok_X11_restore : am_okM me_X11_restore = true := by decide +kernel
set_option maxRecDepth 100000 in
theorem ok_X11_count : am_okM me_X11_count = true := by decide +kernel
set_option maxRecDepth 100000 in
theorem ok_X11_refuse : am_okM me_X11_refuse = true := by decide +kernel
set_option maxRecDepth 100000 in
theorem ok_X11_rowTooLong : am_okM me_X11_rowTooLong = true := by decide +kernel
set_option maxRecDepth 100000 in
theorem ok_X11_first : am_okM me_X11_first = true := by decide +kernel
set_option maxRecDepth 100000 in
theorem ok_X11_below : am_okM me_X11_below = true := by decide +kernel
set_option maxRecDepth 100000 in
theorem ok_X11_above : am_okM me_X11_above = true := by decide +kernel
set_option maxRecDepth 100000 in
theorem ok_X11_noBlow : am_okM me_X11_noBlow = true := by decide +kernel
set_option maxRecDepth 100000 in
theorem ok_X11_unknown : am_okM me_X11_unknown = true := by decide +kernel
set_option maxRecDepth 100000 in
theorem ok_X12_no : am_okM me_X12_no = true := by decide +kernel
set_option maxRecDepth 100000 in
theorem ok_X12_lowest : am_okM me_X12_lowest = true := by decide +kernel
set_option maxRecDepth 100000 in
theorem ok_X12_isIn : am_okM me_X12_isIn = true := by decide +kernel
set_option maxRecDepth 100000 in
theorem ok_X12_bound : am_okM me_X12_bound = true := by decide +kernel
set_option maxRecDepth 100000 in
theorem ok_X12_notBlow : am_okM me_X12_notBlow = true := by decide +kernel
set_option maxRecDepth 100000 in
theorem ok_X12_has : am_okM me_X12_has = true := by decide +kernel
set_option maxRecDepth 100000 in
theorem ok_X12_bits : am_okM me_X12_bits = true := by decide +kernel
set_option maxRecDepth 100000 in
theorem ok_X12_far : am_okM me_X12_far = true := by decide +kernel
set_option maxRecDepth 100000 in
theorem ok_X12_isThing : am_okM me_X12_isThing = true := by decide +kernel
set_option maxRecDepth 100000 in
theorem ok_X12_isLink : am_okM me_X12_isLink = true := by decide +kernel
set_option maxRecDepth 100000 in
theorem ok_X12_feed : am_okM me_X12_feed = true := by decide +kernel
set_option maxRecDepth 100000 in
theorem ok_X12_next : am_okM me_X12_next = true := by decide +kernel
set_option maxRecDepth 100000 in
theorem ok_X12_readsDigits : am_okM me_X12_readsDigits = true := by decide +kernel
set_option maxRecDepth 100000 in
theorem ok_X12_readsAll : am_okM me_X12_readsAll = true := by decide +kernel
set_option maxRecDepth 100000 in
theorem ok_X12_statement : am_okM me_X12_statement = true := by decide +kernel
set_option maxRecDepth 100000 in
theorem ok_X12_comesDrop : am_okM me_X12_comesDrop = true := by decide +kernel
set_option maxRecDepth 100000 in
theorem ok_X12_comesOther : am_okM me_X12_comesOther = true := by decide +kernel
set_option maxRecDepth 100000 in
theorem ok_X12_comes : am_okM me_X12_comes = true := by decide +kernel
set_option maxRecDepth 100000 in
theorem ok_X12_valley : am_okM me_X12_valley = true := by decide +kernel
set_option maxRecDepth 100000 in
theorem ok_X12_passes : am_okM me_X12_passes = true := by decide +kernel
set_option maxRecDepth 100000 in
theorem ok_X12_passOne : am_okM me_X12_passOne = true := by decide +kernel
set_option maxRecDepth 100000 in
theorem ok_X12_passesAll : am_okM me_X12_passesAll = true := by decide +kernel
set_option maxRecDepth 100000 in
theorem ok_X12_thinks : am_okM me_X12_thinks = true := by decide +kernel
set_option maxRecDepth 100000 in
theorem ok_X12_forgets : am_okM me_X12_forgets = true := by decide +kernel
set_option maxRecDepth 100000 in
theorem ok_X12_keepsBack : am_okM me_X12_keepsBack = true := by decide +kernel
set_option maxRecDepth 100000 in
theorem ok_X12_back : am_okM me_X12_back = true := by decide +kernel
set_option maxRecDepth 100000 in
theorem ok_X12_image : am_okM me_X12_image = true := by decide +kernel
set_option maxRecDepth 100000 in
theorem ok_X12_restore : am_okM me_X12_restore = true := by decide +kernel
set_option maxRecDepth 100000 in
theorem ok_X12_adds : am_okM me_X12_adds = true := by decide +kernel
set_option maxRecDepth 100000 in
theorem ok_X12_lossOf : am_okM me_X12_lossOf = true := by decide +kernel
set_option maxRecDepth 100000 in
theorem ok_X12_standsOf : am_okM me_X12_standsOf = true := by decide +kernel
set_option maxRecDepth 100000 in
theorem ok_X12_jumpOf : am_okM me_X12_jumpOf = true := by decide +kernel
set_option maxRecDepth 100000 in
theorem ok_X12_placeOf : am_okM me_X12_placeOf = true := by decide +kernel
set_option maxRecDepth 100000 in
theorem ok_X12_lands : am_okM me_X12_lands = true := by decide +kernel
set_option maxRecDepth 100000 in
theorem ok_X12_goesAlong : am_okM me_X12_goesAlong = true := by decide +kernel
set_option maxRecDepth 100000 in
theorem ok_X12_findBlow : am_okM me_X12_findBlow = true := by decide +kernel
set_option maxRecDepth 100000 in
theorem ok_X12_breaksBy : am_okM me_X12_breaksBy = true := by decide +kernel
set_option maxRecDepth 100000 in
theorem ok_X12_manyGet : am_okM me_X12_manyGet = true := by decide +kernel
set_option maxRecDepth 100000 in
theorem ok_X12_allJumps : am_okM me_X12_allJumps = true := by decide +kernel
set_option maxRecDepth 100000 in
theorem ok_X12_thingOf : am_okM me_X12_thingOf = true := by decide +kernel
set_option maxRecDepth 100000 in
theorem ok_X12_place : am_okM me_X12_place = true := by decide +kernel
set_option maxRecDepth 100000 in
theorem ok_X12_thing : am_okM me_X12_thing = true := by decide +kernel
set_option maxRecDepth 100000 in
theorem ok_X12_drops : am_okM me_X12_drops = true := by decide +kernel
set_option maxRecDepth 100000 in
theorem ok_X12_mends : am_okM me_X12_mends = true := by decide +kernel
set_option maxRecDepth 100000 in
theorem ok_X12_cuts : am_okM me_X12_cuts = true := by decide +kernel
set_option maxRecDepth 100000 in
theorem ok_X12_exchanges : am_okM me_X12_exchanges = true := by decide +kernel
set_option maxRecDepth 100000 in
theorem ok_X12_changes : am_okM me_X12_changes = true := by decide +kernel
set_option maxRecDepth 100000 in
theorem ok_X12_notTwo : am_okM me_X12_notTwo = true := by decide +kernel
set_option maxRecDepth 100000 in
theorem ok_X12_gets : am_okM me_X12_gets = true := by decide +kernel
set_option maxRecDepth 100000 in
theorem ok_X12_whoGet : am_okM me_X12_whoGet = true := by decide +kernel
set_option maxRecDepth 100000 in
theorem ok_X12_farthestFrom : am_okM me_X12_farthestFrom = true := by decide +kernel
set_option maxRecDepth 100000 in
theorem ok_X12_blow : am_okM me_X12_blow = true := by decide +kernel
set_option maxRecDepth 100000 in
theorem ok_X12_reaches : am_okM me_X12_reaches = true := by decide +kernel
set_option maxRecDepth 100000 in
theorem ok_X12_breaks : am_okM me_X12_breaks = true := by decide +kernel
set_option maxRecDepth 100000 in
theorem ok_X12_harm : am_okM me_X12_harm = true := by decide +kernel
set_option maxRecDepth 100000 in
theorem ok_X12_tap : am_okM me_X12_tap = true := by decide +kernel
set_option maxRecDepth 100000 in
theorem ok_X12_isSo : am_okM me_X12_isSo = true := by decide +kernel
set_option maxRecDepth 100000 in
theorem ok_X12_who : am_okM me_X12_who = true := by decide +kernel
set_option maxRecDepth 100000 in
theorem ok_X12_bitsFor : am_okM me_X12_bitsFor = true := by decide +kernel
set_option maxRecDepth 100000 in
theorem ok_X12_whatKind : am_okM me_X12_whatKind = true := by decide +kernel
set_option maxRecDepth 100000 in
theorem ok_X12_worstOf : am_okM me_X12_worstOf = true := by decide +kernel
set_option maxRecDepth 100000 in
theorem ok_X12_mostBroken : am_okM me_X12_mostBroken = true := by decide +kernel
set_option maxRecDepth 100000 in
theorem ok_X12_worst : am_okM me_X12_worst = true := by decide +kernel
set_option maxRecDepth 100000 in
theorem ok_X12_bestCut : am_okM me_X12_bestCut = true := by decide +kernel
set_option maxRecDepth 100000 in
theorem ok_X12_nextOrder : am_okM me_X12_nextOrder = true := by decide +kernel
set_option maxRecDepth 100000 in
theorem ok_X12_sorts : am_okM me_X12_sorts = true := by decide +kernel
set_option maxRecDepth 100000 in
theorem ok_X12_findOrder : am_okM me_X12_findOrder = true := by decide +kernel
set_option maxRecDepth 100000 in
theorem ok_X12_order : am_okM me_X12_order = true := by decide +kernel
set_option maxRecDepth 100000 in
theorem ok_X12_findShortest : am_okM me_X12_findShortest = true := by decide +kernel
set_option maxRecDepth 100000 in
theorem ok_X12_walkOf : am_okM me_X12_walkOf = true := by decide +kernel
set_option maxRecDepth 100000 in
theorem ok_X12_shortestOf : am_okM me_X12_shortestOf = true := by decide +kernel
set_option maxRecDepth 100000 in
theorem ok_X12_walked : am_okM me_X12_walked = true := by decide +kernel
set_option maxRecDepth 100000 in
theorem ok_X12_walk : am_okM me_X12_walk = true := by decide +kernel
set_option maxRecDepth 100000 in
theorem ok_X12_others : am_okM me_X12_others = true := by decide +kernel
set_option maxRecDepth 100000 in
theorem ok_X12_leftToHer : am_okM me_X12_leftToHer = true := by decide +kernel
set_option maxRecDepth 100000 in
theorem ok_X12_woman : am_okM me_X12_woman = true := by decide +kernel
set_option maxRecDepth 100000 in
theorem ok_X12_nextWhole : am_okM me_X12_nextWhole = true := by decide +kernel
set_option maxRecDepth 100000 in
theorem ok_X12_lasts : am_okM me_X12_lasts = true := by decide +kernel
set_option maxRecDepth 100000 in
theorem ok_X12_left : am_okM me_X12_left = true := by decide +kernel
set_option maxRecDepth 100000 in
theorem ok_X12_divisor : am_okM me_X12_divisor = true := by decide +kernel
set_option maxRecDepth 100000 in
theorem ok_X12_power : am_okM me_X12_power = true := by decide +kernel
set_option maxRecDepth 100000 in
theorem ok_X12_ways : am_okM me_X12_ways = true := by decide +kernel
set_option maxRecDepth 100000 in
theorem ok_X12_chance : am_okM me_X12_chance = true := by decide +kernel
set_option maxRecDepth 100000 in
theorem ok_X12_apartBy : am_okM me_X12_apartBy = true := by decide +kernel
set_option maxRecDepth 100000 in
theorem ok_X12_twins : am_okM me_X12_twins = true := by decide +kernel
set_option maxRecDepth 100000 in
theorem ok_X12_heardBy : am_okM me_X12_heardBy = true := by decide +kernel
set_option maxRecDepth 100000 in
theorem ok_X12_hum : am_okM me_X12_hum = true := by decide +kernel
set_option maxRecDepth 100000 in
theorem ok_X12_apart : am_okM me_X12_apart = true := by decide +kernel
set_option maxRecDepth 100000 in
theorem ok_X12_heaps : am_okM me_X12_heaps = true := by decide +kernel
set_option maxRecDepth 100000 in
theorem ok_X12_codesOf : am_okM me_X12_codesOf = true := by decide +kernel
set_option maxRecDepth 100000 in
theorem ok_X12_codes : am_okM me_X12_codes = true := by decide +kernel
set_option maxRecDepth 100000 in
theorem ok_X12_secret : am_okM me_X12_secret = true := by decide +kernel
set_option maxRecDepth 100000 in
theorem ok_X12_tough : am_okM me_X12_tough = true := by decide +kernel
set_option maxRecDepth 100000 in
theorem ok_X12_centre : am_okM me_X12_centre = true := by decide +kernel
set_option maxRecDepth 100000 in
theorem ok_X12_manyBy : am_okM me_X12_manyBy = true := by decide +kernel
set_option maxRecDepth 100000 in
theorem ok_X12_bestMend : am_okM me_X12_bestMend = true := by decide +kernel
set_option maxRecDepth 100000 in
theorem ok_X12_bestFigure : am_okM me_X12_bestFigure = true := by decide +kernel
set_option maxRecDepth 100000 in
theorem ok_X12_domino : am_okM me_X12_domino = true := by decide +kernel
set_option maxRecDepth 100000 in
theorem ok_X12_linkOf : am_okM me_X12_linkOf = true := by decide +kernel
set_option maxRecDepth 100000 in
theorem ok_X12_longest : am_okM me_X12_longest = true := by decide +kernel
set_option maxRecDepth 100000 in
theorem ok_X12_spared : am_okM me_X12_spared = true := by decide +kernel
set_option maxRecDepth 100000 in
theorem ok_X12_hears : am_okM me_X12_hears = true := by decide +kernel
set_option maxRecDepth 100000 in
theorem ok_X12_mutual : am_okM me_X12_mutual = true := by decide +kernel
set_option maxRecDepth 100000 in
theorem ok_X12_row : am_okM me_X12_row = true := by decide +kernel
set_option maxRecDepth 100000 in
theorem ok_X12_judge : am_okM me_X12_judge = true := by decide +kernel
set_option maxRecDepth 100000 in
theorem ok_X12_clear : am_okM me_X12_clear = true := by decide +kernel
set_option maxRecDepth 100000 in
theorem ok_X12_draw : am_okM me_X12_draw = true := by decide +kernel
set_option maxRecDepth 100000 in
theorem ok_X12_lots : am_okM me_X12_lots = true := by decide +kernel
set_option maxRecDepth 100000 in
theorem ok_X12_count : am_okM me_X12_count = true := by decide +kernel
set_option maxRecDepth 100000 in
theorem ok_J6_bitCount_0f7a4 : am_okM me_J6_bitCount_0f7a4 = true := by decide +kernel
set_option maxRecDepth 100000 in
theorem ok_J13_bitCount_95d88 : am_okM me_J13_bitCount_95d88 = true := by decide +kernel
