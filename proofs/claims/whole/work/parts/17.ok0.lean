noncomputable abbrev κF_feed : am_Kt := (cX11_feed, RX11, pF_feed, (some .int))
noncomputable abbrev κF_end : am_Kt := (cX11_end, RX11, pF_end, (some .boolean))
noncomputable abbrev κF_parish : am_Kt := (cX11_parish, RX11, pF_parish, (some .int))
noncomputable abbrev κF_law : am_Kt := (cX11_law, RX11, pF_law, (some .int))
noncomputable abbrev κF_fault : am_Kt := (cX11_fault, RX11, pF_fault, (some .int))
noncomputable abbrev κF_thing : am_Kt := (cX11_thing, RX11, pF_thing, (some .int))
noncomputable abbrev κF_child : am_Kt := (cX11_child, RX11, pF_child, (some .int))
noncomputable abbrev κF_months : am_Kt := (cX11_months, RX11, pF_months, (some .int))
noncomputable abbrev κF_birth : am_Kt := (cX11_birth, RX11, pF_birth, (some .int))
noncomputable abbrev κF_move : am_Kt := (cX11_move, RX11, pF_move, (some .int))
noncomputable abbrev κF_blow : am_Kt := (cX11_blow, RX11, pF_blow, (some .int))
noncomputable abbrev κF_wish : am_Kt := (cX11_wish, RX11, pF_wish, (some .int))
noncomputable abbrev κF_grip : am_Kt := (cX11_grip, RX11, pF_grip, (some .int))
noncomputable abbrev κF_change : am_Kt := (cX11_change, RX11, pF_change, (some .int))
noncomputable abbrev κF_cut : am_Kt := (cX11_cut, RX11, pF_cut, (some .int))
noncomputable abbrev κF_moves : am_Kt := (cX11_moves, RX11, pF_moves, (some .int))
noncomputable abbrev κF_first : am_Kt := (cX11_first, RX11, pF_first, (some .int))
noncomputable abbrev κF_can : am_Kt := (cX11_can, RX11, pF_can, (some .int))
noncomputable abbrev κF_feels : am_Kt := (cX11_feels, RX11, pF_feels, (some .int))
noncomputable abbrev κF_odds : am_Kt := (cX11_odds, RX11, pF_odds, (some .int))
noncomputable abbrev κF_ask : am_Kt := (cX11_ask, RX11, pF_ask, (some .int))
noncomputable abbrev κF_waits : am_Kt := (cX11_waits, RX11, pF_waits, (some .int))
noncomputable abbrev κF_next : am_Kt := (cX11_next, RX11, pF_next, (some .int))
noncomputable abbrev κF_keep : am_Kt := (cX11_keep, RX11, pF_keep, (some .int))
noncomputable abbrev κF_fates : am_Kt := (cX11_fates, RX11, pF_fates, (some .int))
noncomputable abbrev κF_last : am_Kt := (cX11_last, RX11, pF_last, (some .int))
noncomputable abbrev κF_gives : am_Kt := (cX11_gives, RX11, pF_gives, (some .int))
noncomputable abbrev κF_trade : am_Kt := (cX11_trade, RX11, pF_trade, (some .int))
noncomputable abbrev κF_ring : am_Kt := (cX11_ring, RX11, pF_ring, (some .int))
noncomputable abbrev κF_swap : am_Kt := (cX11_swap, RX11, pF_swap, (some .boolean))
noncomputable abbrev κF_all : am_Kt := (cX11_all, RX11, pF_all, (some .int))
noncomputable abbrev κF_missing : am_Kt := (cX11_missing, RX11, pF_missing, (some .int))
noncomputable abbrev κF_nobody : am_Kt := (cX11_nobody, RX11, pF_nobody, (some .int))
noncomputable abbrev κF_rules : am_Kt := (cX11_rules, RX11, pF_rules, (some .int))
noncomputable abbrev κF_tell : am_Kt := (cX11_tell, RX11, pF_tell, (some .int))
noncomputable abbrev κF_rests : am_Kt := (cX11_rests, RX11, pF_rests, (some .int))
noncomputable abbrev κF_nothing : am_Kt := (cX11_nothing, RX11, pF_nothing, (some .int))
noncomputable abbrev κF_shut : am_Kt := (cX11_shut, RX11, pF_shut, (some .int))
noncomputable abbrev κF_open : am_Kt := (cX11_open, RX11, pF_open, (some .int))
noncomputable abbrev κF_knotted : am_Kt := (cX11_knotted, RX11, pF_knotted, (some .int))
noncomputable abbrev κF_content : am_Kt := (cX11_content, RX11, pF_content, (some .int))
noncomputable abbrev κF_richest : am_Kt := (cX11_richest, RX11, pF_richest, (some .int))
noncomputable abbrev κF_oldest : am_Kt := (cX11_oldest, RX11, pF_oldest, (some .int))
noncomputable abbrev κF_twins : am_Kt := (cX11_twins, RX11, pF_twins, (some .int))
noncomputable abbrev κF_ahead : am_Kt := (cX11_ahead, RX11, pF_ahead, (some .int))
noncomputable abbrev κF_trial : am_Kt := (cX11_trial, RX11, pF_trial, (some .int))
noncomputable abbrev κF_span : am_Kt := (cX11_span, RX11, pF_span, (some .int))
noncomputable abbrev κF_led : am_Kt := (cX11_led, RX11, pF_led, (some .int))
noncomputable abbrev κF_log : am_Kt := (cX11_log, RX11, pF_log, (some .int))
noncomputable abbrev κF_seed : am_Kt := (cX11_seed, RX11, pF_seed, (some .int))
noncomputable abbrev κF_undo : am_Kt := (cX11_undo, RX11, pF_undo, (some .boolean))
noncomputable abbrev κF_image : am_Kt := (cX11_image, RX11, pF_image, none)
noncomputable abbrev κF_back : am_Kt := (cX11_back, RX11, pF_back, (some .boolean))
noncomputable abbrev κF_count : am_Kt := (cX11_count, RX11, pF_count, (some .int))
noncomputable abbrev κF_needChild : am_Kt := (cX11_needChild, RX11, pF_needChild, none)
noncomputable abbrev κF_needTwo : am_Kt := (cX11_needTwo, RX11, pF_needTwo, none)
noncomputable abbrev κF_needThing : am_Kt := (cX11_needThing, RX11, pF_needThing, none)
noncomputable abbrev κF_needAhead : am_Kt := (cX11_needAhead, RX11, pF_needAhead, none)
noncomputable abbrev κF_takeFeels : am_Kt := (cX11_takeFeels, RX11, pF_takeFeels, (some .boolean))
noncomputable abbrev κF_needFeels : am_Kt := (cX11_needFeels, RX11, pF_needFeels, none)
noncomputable abbrev κF_needLives : am_Kt := (cX11_needLives, RX11, pF_needLives, none)
noncomputable abbrev κF_tellFact : am_Kt := (cX11_tellFact, RX11, pF_tellFact, (some .int))
noncomputable abbrev κF_goAhead : am_Kt := (cX11_goAhead, RX11, pF_goAhead, none)
noncomputable abbrev κF_tryMonths : am_Kt := (cX11_tryMonths, RX11, pF_tryMonths, none)
noncomputable abbrev κF_leastOf : am_Kt := (cX11_leastOf, RX11, pF_leastOf, (some .int))
noncomputable abbrev κF_restingChoices : am_Kt := (cX11_restingChoices, RX11, pF_restingChoices, (some .int))
noncomputable abbrev κF_familyGain : am_Kt := (cX11_familyGain, RX11, pF_familyGain, (some .int))
noncomputable abbrev κF_childGain : am_Kt := (cX11_childGain, RX11, pF_childGain, (some .int))
noncomputable abbrev κR_thrown : am_Kt := (cX12_thrown, RX12, pR_thrown, (some .int))
noncomputable abbrev κR_throwsIf : am_Kt := (cX12_throwsIf, RX12, pR_throwsIf, (some .boolean))
noncomputable abbrev κR_in : am_Kt := (cX12_in, RX12, pR_in, (some .boolean))
noncomputable abbrev κR_has : am_Kt := (cX12_has, RX12, pR_has, (some .boolean))
noncomputable abbrev κR_image : am_Kt := (cX12_image, RX12, pR_image, none)
noncomputable abbrev κR_back : am_Kt := (cX12_back, RX12, pR_back, (some .boolean))
noncomputable abbrev κR_remembers : am_Kt := (cX12_remembers, RX12, pR_remembers, none)
noncomputable abbrev κR_undo : am_Kt := (cX12_undo, RX12, pR_undo, (some .boolean))
noncomputable abbrev κR_children : am_Kt := (cX12_children, RX12, pR_children, (some .int))
noncomputable abbrev κR_thingAt : am_Kt := (cX12_thingAt, RX12, pR_thingAt, (some .int))
noncomputable abbrev κR_ofThing : am_Kt := (cX12_ofThing, RX12, pR_ofThing, (some .int))
noncomputable abbrev κR_at : am_Kt := (cX12_at, RX12, pR_at, (some .int))
noncomputable abbrev κR_of : am_Kt := (cX12_of, RX12, pR_of, (some .int))
noncomputable abbrev κR_isOpened : am_Kt := (cX12_isOpened, RX12, pR_isOpened, (some .boolean))
noncomputable abbrev κR_hasKnot : am_Kt := (cX12_hasKnot, RX12, pR_hasKnot, (some .boolean))
noncomputable abbrev κR_keeps : am_Kt := (cX12_keeps, RX12, pR_keeps, (some .boolean))
noncomputable abbrev κR_weightOf : am_Kt := (cX12_weightOf, RX12, pR_weightOf, (some .int))
noncomputable abbrev κR_noChild : am_Kt := (cX12_noChild, RX12, pR_noChild, (some .boolean))
noncomputable abbrev κR_noThing : am_Kt := (cX12_noThing, RX12, pR_noThing, (some .boolean))
noncomputable abbrev κR_drawn : am_Kt := (cX12_drawn, RX12, pR_drawn, (some .int))
noncomputable abbrev κR_feed : am_Kt := (cX12_feed, RX12, pR_feed, (some .int))
noncomputable abbrev κR_end : am_Kt := (cX12_end, RX12, pR_end, (some .boolean))
noncomputable abbrev κR_isAt : am_Kt := (cX12_isAt, RX12, pR_isAt, (some .boolean))
noncomputable abbrev κR_blanks : am_Kt := (cX12_blanks, RX12, pR_blanks, none)
noncomputable abbrev κR_letters : am_Kt := (cX12_letters, RX12, pR_letters, none)
noncomputable abbrev κR_isWord : am_Kt := (cX12_isWord, RX12, pR_isWord, (some .boolean))
noncomputable abbrev κR_passes : am_Kt := (cX12_passes, RX12, pR_passes, (some .boolean))
noncomputable abbrev κR_sign : am_Kt := (cX12_sign, RX12, pR_sign, (some .boolean))
noncomputable abbrev κR_number : am_Kt := (cX12_number, RX12, pR_number, (some .int))
noncomputable abbrev κR_after : am_Kt := (cX12_after, RX12, pR_after, (some .int))
noncomputable abbrev κR_told : am_Kt := (cX12_told, RX12, pR_told, (some .int))
noncomputable abbrev κR_fault : am_Kt := (cX12_fault, RX12, pR_fault, (some .int))
noncomputable abbrev κR_uses : am_Kt := (cX12_uses, RX12, pR_uses, none)
noncomputable abbrev κR_readNumber : am_Kt := (cX12_readNumber, RX12, pR_readNumber, (some .boolean))
noncomputable abbrev κR_letterTold : am_Kt := (cX12_letterTold, RX12, pR_letterTold, (some .int))
noncomputable abbrev κR_readThing : am_Kt := (cX12_readThing, RX12, pR_readThing, (some .boolean))
noncomputable abbrev κR_isBorn : am_Kt := (cX12_isBorn, RX12, pR_isBorn, none)
noncomputable abbrev κR_readChild : am_Kt := (cX12_readChild, RX12, pR_readChild, (some .boolean))
noncomputable abbrev κR_mayKnot : am_Kt := (cX12_mayKnot, RX12, pR_mayKnot, (some .boolean))
noncomputable abbrev κR_readKnot : am_Kt := (cX12_readKnot, RX12, pR_readKnot, (some .boolean))
noncomputable abbrev κR_readParishLine : am_Kt := (cX12_readParishLine, RX12, pR_readParishLine, (some .boolean))
noncomputable abbrev κR_emits : am_Kt := (cX12_emits, RX12, pR_emits, none)
noncomputable abbrev κR_wordOfPart : am_Kt := (cX12_wordOfPart, RX12, pR_wordOfPart, (some .int))
noncomputable abbrev κR_readPart : am_Kt := (cX12_readPart, RX12, pR_readPart, (some .boolean))
noncomputable abbrev κR_readSum : am_Kt := (cX12_readSum, RX12, pR_readSum, (some .boolean))
noncomputable abbrev κR_readTag : am_Kt := (cX12_readTag, RX12, pR_readTag, (some .boolean))
noncomputable abbrev κR_readAtom : am_Kt := (cX12_readAtom, RX12, pR_readAtom, (some .boolean))
noncomputable abbrev κR_readAllOf : am_Kt := (cX12_readAllOf, RX12, pR_readAllOf, (some .boolean))
noncomputable abbrev κR_readCond : am_Kt := (cX12_readCond, RX12, pR_readCond, (some .boolean))
noncomputable abbrev κR_readLawLine : am_Kt := (cX12_readLawLine, RX12, pR_readLawLine, (some .boolean))
noncomputable abbrev κR_readLine : am_Kt := (cX12_readLine, RX12, pR_readLine, (some .boolean))
noncomputable abbrev κR_readAll : am_Kt := (cX12_readAll, RX12, pR_readAll, (some .int))
noncomputable abbrev κR_parish : am_Kt := (cX12_parish, RX12, pR_parish, (some .int))
noncomputable abbrev κR_law : am_Kt := (cX12_law, RX12, pR_law, (some .int))
noncomputable abbrev κR_factOf : am_Kt := (cX12_factOf, RX12, pR_factOf, (some .int))
noncomputable abbrev κR_holdsLine : am_Kt := (cX12_holdsLine, RX12, pR_holdsLine, (some .boolean))
noncomputable abbrev κR_sumOf : am_Kt := (cX12_sumOf, RX12, pR_sumOf, (some .int))
noncomputable abbrev κR_loosensBy : am_Kt := (cX12_loosensBy, RX12, pR_loosensBy, (some .int))
noncomputable abbrev κR_leadsTo : am_Kt := (cX12_leadsTo, RX12, pR_leadsTo, (some .int))
noncomputable abbrev κR_fateOfAll : am_Kt := (cX12_fateOfAll, RX12, pR_fateOfAll, (some .int))
noncomputable abbrev κR_shareOf : am_Kt := (cX12_shareOf, RX12, pR_shareOf, (some .int))
noncomputable abbrev κR_howMany : am_Kt := (cX12_howMany, RX12, pR_howMany, (some .int))
noncomputable abbrev κR_thing : am_Kt := (cX12_thing, RX12, pR_thing, (some .int))
noncomputable abbrev κR_child : am_Kt := (cX12_child, RX12, pR_child, (some .int))
noncomputable abbrev κR_tells : am_Kt := (cX12_tells, RX12, pR_tells, none)
noncomputable abbrev κR_isCut : am_Kt := (cX12_isCut, RX12, pR_isCut, none)
noncomputable abbrev κR_opens : am_Kt := (cX12_opens, RX12, pR_opens, none)
noncomputable abbrev κR_isMoved : am_Kt := (cX12_isMoved, RX12, pR_isMoved, none)
noncomputable abbrev κR_mayMove : am_Kt := (cX12_mayMove, RX12, pR_mayMove, (some .boolean))
noncomputable abbrev κR_canMove : am_Kt := (cX12_canMove, RX12, pR_canMove, (some .boolean))
noncomputable abbrev κR_oneMonth : am_Kt := (cX12_oneMonth, RX12, pR_oneMonth, (some .int))
noncomputable abbrev κR_goesOn : am_Kt := (cX12_goesOn, RX12, pR_goesOn, (some .int))
noncomputable abbrev κR_keepsAll : am_Kt := (cX12_keepsAll, RX12, pR_keepsAll, none)
noncomputable abbrev κR_bringsBack : am_Kt := (cX12_bringsBack, RX12, pR_bringsBack, none)
noncomputable abbrev κR_months : am_Kt := (cX12_months, RX12, pR_months, (some .int))
noncomputable abbrev κR_allWeights : am_Kt := (cX12_allWeights, RX12, pR_allWeights, (some .int))
noncomputable abbrev κR_isMeant : am_Kt := (cX12_isMeant, RX12, pR_isMeant, (some .int))
noncomputable abbrev κR_birth : am_Kt := (cX12_birth, RX12, pR_birth, (some .int))
noncomputable abbrev κR_move : am_Kt := (cX12_move, RX12, pR_move, (some .int))
noncomputable abbrev κR_isNow : am_Kt := (cX12_isNow, RX12, pR_isNow, (some .int))
noncomputable abbrev κR_blow : am_Kt := (cX12_blow, RX12, pR_blow, (some .int))
noncomputable abbrev κR_wish : am_Kt := (cX12_wish, RX12, pR_wish, (some .int))
noncomputable abbrev κR_grip : am_Kt := (cX12_grip, RX12, pR_grip, (some .int))
noncomputable abbrev κR_noTwo : am_Kt := (cX12_noTwo, RX12, pR_noTwo, (some .boolean))
noncomputable abbrev κR_change : am_Kt := (cX12_change, RX12, pR_change, (some .int))
noncomputable abbrev κR_cut : am_Kt := (cX12_cut, RX12, pR_cut, (some .int))
noncomputable abbrev κR_lesserOf : am_Kt := (cX12_lesserOf, RX12, pR_lesserOf, (some .int))
noncomputable abbrev κR_stateOf : am_Kt := (cX12_stateOf, RX12, pR_stateOf, (some .int))
noncomputable abbrev κR_mayMoveIn : am_Kt := (cX12_mayMoveIn, RX12, pR_mayMoveIn, (some .boolean))
noncomputable abbrev κR_isUndone : am_Kt := (cX12_isUndone, RX12, pR_isUndone, (some .boolean))
noncomputable abbrev κR_finds : am_Kt := (cX12_finds, RX12, pR_finds, none)
noncomputable abbrev κR_fewest : am_Kt := (cX12_fewest, RX12, pR_fewest, (some .int))
noncomputable abbrev κR_moves : am_Kt := (cX12_moves, RX12, pR_moves, (some .int))
noncomputable abbrev κR_first : am_Kt := (cX12_first, RX12, pR_first, (some .int))
noncomputable abbrev κR_can : am_Kt := (cX12_can, RX12, pR_can, (some .int))
noncomputable abbrev κR_feltOf : am_Kt := (cX12_feltOf, RX12, pR_feltOf, (some .int))
noncomputable abbrev κR_isFelt : am_Kt := (cX12_isFelt, RX12, pR_isFelt, (some .boolean))
noncomputable abbrev κR_fitting : am_Kt := (cX12_fitting, RX12, pR_fitting, (some .int))
noncomputable abbrev κR_weightsOf : am_Kt := (cX12_weightsOf, RX12, pR_weightsOf, (some .int))
noncomputable abbrev κR_likelyOf : am_Kt := (cX12_likelyOf, RX12, pR_likelyOf, (some .int))
noncomputable abbrev κR_expectOf : am_Kt := (cX12_expectOf, RX12, pR_expectOf, (some .int))
noncomputable abbrev κR_feels : am_Kt := (cX12_feels, RX12, pR_feels, (some .int))
noncomputable abbrev κR_odds : am_Kt := (cX12_odds, RX12, pR_odds, (some .int))
noncomputable abbrev κR_ask : am_Kt := (cX12_ask, RX12, pR_ask, (some .int))
noncomputable abbrev κR_noAhead : am_Kt := (cX12_noAhead, RX12, pR_noAhead, (some .boolean))
noncomputable abbrev κR_openedOnes : am_Kt := (cX12_openedOnes, RX12, pR_openedOnes, (some .int))
noncomputable abbrev κR_waits : am_Kt := (cX12_waits, RX12, pR_waits, (some .int))
noncomputable abbrev κR_next : am_Kt := (cX12_next, RX12, pR_next, (some .int))
noncomputable abbrev κR_keep : am_Kt := (cX12_keep, RX12, pR_keep, (some .int))
noncomputable abbrev κR_fates : am_Kt := (cX12_fates, RX12, pR_fates, (some .int))
noncomputable abbrev κR_last : am_Kt := (cX12_last, RX12, pR_last, (some .int))
noncomputable abbrev κR_ahead : am_Kt := (cX12_ahead, RX12, pR_ahead, (some .int))
noncomputable abbrev κR_givenAt : am_Kt := (cX12_givenAt, RX12, pR_givenAt, (some .int))
noncomputable abbrev κR_mayGive : am_Kt := (cX12_mayGive, RX12, pR_mayGive, (some .boolean))
noncomputable abbrev κR_givenBy : am_Kt := (cX12_givenBy, RX12, pR_givenBy, (some .int))
noncomputable abbrev κR_laysGiven : am_Kt := (cX12_laysGiven, RX12, pR_laysGiven, none)
noncomputable abbrev κR_gives : am_Kt := (cX12_gives, RX12, pR_gives, (some .int))
noncomputable abbrev κR_gladOf : am_Kt := (cX12_gladOf, RX12, pR_gladOf, (some .int))
noncomputable abbrev κR_pointOf : am_Kt := (cX12_pointOf, RX12, pR_pointOf, (some .int))
noncomputable abbrev κR_ringFrom : am_Kt := (cX12_ringFrom, RX12, pR_ringFrom, (some .int))
noncomputable abbrev κR_trades : am_Kt := (cX12_trades, RX12, pR_trades, none)
noncomputable abbrev κR_trade : am_Kt := (cX12_trade, RX12, pR_trade, (some .int))
noncomputable abbrev κR_ring : am_Kt := (cX12_ring, RX12, pR_ring, (some .int))
noncomputable abbrev κR_swap : am_Kt := (cX12_swap, RX12, pR_swap, (some .boolean))
noncomputable abbrev κR_keptBy : am_Kt := (cX12_keptBy, RX12, pR_keptBy, (some .int))
noncomputable abbrev κR_allChildren : am_Kt := (cX12_allChildren, RX12, pR_allChildren, (some .int))
noncomputable abbrev κR_all : am_Kt := (cX12_all, RX12, pR_all, (some .int))
noncomputable abbrev κR_missing : am_Kt := (cX12_missing, RX12, pR_missing, (some .int))
noncomputable abbrev κR_nobody : am_Kt := (cX12_nobody, RX12, pR_nobody, (some .int))
noncomputable abbrev κR_isLed : am_Kt := (cX12_isLed, RX12, pR_isLed, (some .boolean))
noncomputable abbrev κR_fateBy : am_Kt := (cX12_fateBy, RX12, pR_fateBy, (some .int))
noncomputable abbrev κR_fits : am_Kt := (cX12_fits, RX12, pR_fits, (some .boolean))
noncomputable abbrev κR_rules : am_Kt := (cX12_rules, RX12, pR_rules, (some .int))
noncomputable abbrev κR_partBy : am_Kt := (cX12_partBy, RX12, pR_partBy, (some .int))
noncomputable abbrev κR_tell : am_Kt := (cX12_tell, RX12, pR_tell, (some .int))
noncomputable abbrev κR_expectOfAll : am_Kt := (cX12_expectOfAll, RX12, pR_expectOfAll, (some .int))
noncomputable abbrev κR_familyHas : am_Kt := (cX12_familyHas, RX12, pR_familyHas, (some .int))
noncomputable abbrev κR_childHas : am_Kt := (cX12_childHas, RX12, pR_childHas, (some .int))
noncomputable abbrev κR_rests : am_Kt := (cX12_rests, RX12, pR_rests, (some .int))
noncomputable abbrev κR_nothing : am_Kt := (cX12_nothing, RX12, pR_nothing, (some .int))
noncomputable abbrev κR_thatAre : am_Kt := (cX12_thatAre, RX12, pR_thatAre, (some .int))
noncomputable abbrev κR_shut : am_Kt := (cX12_shut, RX12, pR_shut, (some .int))
noncomputable abbrev κR_open : am_Kt := (cX12_open, RX12, pR_open, (some .int))
noncomputable abbrev κR_knotted : am_Kt := (cX12_knotted, RX12, pR_knotted, (some .int))
noncomputable abbrev κR_content : am_Kt := (cX12_content, RX12, pR_content, (some .int))
noncomputable abbrev κR_richest : am_Kt := (cX12_richest, RX12, pR_richest, (some .int))
noncomputable abbrev κR_oldest : am_Kt := (cX12_oldest, RX12, pR_oldest, (some .int))
noncomputable abbrev κR_twins : am_Kt := (cX12_twins, RX12, pR_twins, (some .int))
noncomputable abbrev κR_trial : am_Kt := (cX12_trial, RX12, pR_trial, (some .int))
noncomputable abbrev κR_span : am_Kt := (cX12_span, RX12, pR_span, (some .int))
noncomputable abbrev κR_ofLog : am_Kt := (cX12_ofLog, RX12, pR_ofLog, (some .int))
noncomputable abbrev κR_led : am_Kt := (cX12_led, RX12, pR_led, (some .int))
noncomputable abbrev κR_log : am_Kt := (cX12_log, RX12, pR_log, (some .int))
noncomputable abbrev κR_seed : am_Kt := (cX12_seed, RX12, pR_seed, (some .int))
noncomputable abbrev κR_count : am_Kt := (cX12_count, RX12, pR_count, (some .int))
noncomputable abbrev κE_feltOf : am_Kt := (cX0_feltOf, RX0, pE_feltOf, (some .int))
noncomputable abbrev κE_fitting : am_Kt := (cX0_fitting, RX0, pE_fitting, (some .int))
noncomputable abbrev κE_fitsRows : am_Kt := (cX0_fitsRows, RX0, pE_fitsRows, (some .boolean))
noncomputable abbrev κE_likeliest : am_Kt := (cX0_likeliest, RX0, pE_likeliest, (some .int))
noncomputable abbrev κE_weightIn : am_Kt := (cX0_weightIn, RX0, pE_weightIn, (some .int))
noncomputable abbrev κE_weightsOf : am_Kt := (cX0_weightsOf, RX0, pE_weightsOf, (some .int))
noncomputable abbrev κE_oddsOf : am_Kt := (cX0_oddsOf, RX0, pE_oddsOf, (some .int))
noncomputable abbrev κE_expected : am_Kt := (cX0_expected, RX0, pE_expected, (some .int))
noncomputable abbrev κE_bestFeel : am_Kt := (cX0_bestFeel, RX0, pE_bestFeel, (some .int))
noncomputable abbrev κE_greatestPart : am_Kt := (cX0_greatestPart, RX0, pE_greatestPart, (some .int))
noncomputable abbrev κE_partOf : am_Kt := (cX0_partOf, RX0, pE_partOf, (some .int))
noncomputable abbrev κU_fitTo : am_Kt := (cX1_fitTo, RX1, pU_fitTo, none)
noncomputable abbrev κU_fateBy : am_Kt := (cX1_fateBy, RX1, pU_fateBy, (some .int))
noncomputable abbrev κU_fitsRows : am_Kt := (cX1_fitsRows, RX1, pU_fitsRows, (some .boolean))
noncomputable abbrev κU_leastPair : am_Kt := (cX1_leastPair, RX1, pU_leastPair, (some .int))
noncomputable abbrev κU_bestThing : am_Kt := (cX1_bestThing, RX1, pU_bestThing, (some .int))
noncomputable abbrev κU_greatestPart : am_Kt := (cX1_greatestPart, RX1, pU_greatestPart, (some .int))
noncomputable abbrev κK_isMovable : am_Kt := (cX2_isMovable, RX2, pK_isMovable, (some .boolean))
noncomputable abbrev κK_isMove : am_Kt := (cX2_isMove, RX2, pK_isMove, (some .boolean))
noncomputable abbrev κK_movesNow : am_Kt := (cX2_movesNow, RX2, pK_movesNow, (some .int))
noncomputable abbrev κK_fewest : am_Kt := (cX2_fewest, RX2, pK_fewest, (some .int))
noncomputable abbrev κK_leastFirst : am_Kt := (cX2_leastFirst, RX2, pK_leastFirst, (some .int))
noncomputable abbrev κK_search : am_Kt := (cX2_search, RX2, pK_search, none)
noncomputable abbrev κK_reachFrom : am_Kt := (cX2_reachFrom, RX2, pK_reachFrom, (some .int))
noncomputable abbrev κL_copyFrom : am_Kt := (cX3_copyFrom, RX3, pL_copyFrom, none)
noncomputable abbrev κL_clear : am_Kt := (cX3_clear, RX3, pL_clear, none)
noncomputable abbrev κL_put : am_Kt := (cX3_put, RX3, pL_put, (some .boolean))
noncomputable abbrev κL_endLine : am_Kt := (cX3_endLine, RX3, pL_endLine, (some .boolean))
noncomputable abbrev κL_loosens : am_Kt := (cX3_loosens, RX3, pL_loosens, (some .int))
noncomputable abbrev κL_leads : am_Kt := (cX3_leads, RX3, pL_leads, (some .int))
noncomputable abbrev κL_sumOf : am_Kt := (cX3_sumOf, RX3, pL_sumOf, (some .int))
noncomputable abbrev κL_lookAt : am_Kt := (cX3_lookAt, RX3, pL_lookAt, none)
noncomputable abbrev κL_holds : am_Kt := (cX3_holds, RX3, pL_holds, (some .boolean))
noncomputable abbrev κL_joined : am_Kt := (cX3_joined, RX3, pL_joined, (some .int))
noncomputable abbrev κY_readLine : am_Kt := (cX4_readLine, RX4, pY_readLine, (some .boolean))
noncomputable abbrev κY_readCondition : am_Kt := (cX4_readCondition, RX4, pY_readCondition, (some .boolean))
noncomputable abbrev κY_readAll : am_Kt := (cX4_readAll, RX4, pY_readAll, (some .boolean))
noncomputable abbrev κY_readAtom : am_Kt := (cX4_readAtom, RX4, pY_readAtom, (some .boolean))
noncomputable abbrev κY_readDeeper : am_Kt := (cX4_readDeeper, RX4, pY_readDeeper, (some .boolean))
noncomputable abbrev κY_readSum : am_Kt := (cX4_readSum, RX4, pY_readSum, (some .boolean))
noncomputable abbrev κM_settleGifts : am_Kt := (cX5_settleGifts, RX5, pM_settleGifts, (some .int))
noncomputable abbrev κM_takerOf : am_Kt := (cX5_takerOf, RX5, pM_takerOf, (some .int))
noncomputable abbrev κM_settleTrade : am_Kt := (cX5_settleTrade, RX5, pM_settleTrade, none)
noncomputable abbrev κM_pointAll : am_Kt := (cX5_pointAll, RX5, pM_pointAll, none)
noncomputable abbrev κM_rathest : am_Kt := (cX5_rathest, RX5, pM_rathest, (some .int))
noncomputable abbrev κM_likes : am_Kt := (cX5_likes, RX5, pM_likes, (some .int))
noncomputable abbrev κM_isBetter : am_Kt := (cX5_isBetter, RX5, pM_isBetter, (some .boolean))
noncomputable abbrev κM_closeRings : am_Kt := (cX5_closeRings, RX5, pM_closeRings, (some .int))
noncomputable abbrev κM_ringFrom : am_Kt := (cX5_ringFrom, RX5, pM_ringFrom, (some .int))
noncomputable abbrev κM_fewestWithAll : am_Kt := (cX5_fewestWithAll, RX5, pM_fewestWithAll, (some .int))
noncomputable abbrev κQ_readLine : am_Kt := (cX6_readLine, RX6, pQ_readLine, (some .boolean))
noncomputable abbrev κQ_readThing : am_Kt := (cX6_readThing, RX6, pQ_readThing, (some .boolean))
noncomputable abbrev κQ_readChild : am_Kt := (cX6_readChild, RX6, pQ_readChild, (some .boolean))
noncomputable abbrev κQ_readWish : am_Kt := (cX6_readWish, RX6, pQ_readWish, (some .boolean))
noncomputable abbrev κQ_readKnot : am_Kt := (cX6_readKnot, RX6, pQ_readKnot, (some .boolean))
noncomputable abbrev κQ_isFree : am_Kt := (cX6_isFree, RX6, pQ_isFree, (some .boolean))
noncomputable abbrev κQ_readMonth : am_Kt := (cX6_readMonth, RX6, pQ_readMonth, (some .boolean))
noncomputable abbrev κQ_readNumber : am_Kt := (cX6_readNumber, RX6, pQ_readNumber, (some .boolean))
noncomputable abbrev κP_remember : am_Kt := (cX7_remember, RX7, pP_remember, none)
noncomputable abbrev κP_bringBack : am_Kt := (cX7_bringBack, RX7, pP_bringBack, (some .boolean))
noncomputable abbrev κP_forget : am_Kt := (cX7_forget, RX7, pP_forget, none)
noncomputable abbrev κS_copyFrom : am_Kt := (cX8_copyFrom, RX8, pS_copyFrom, none)
noncomputable abbrev κS_copyTable : am_Kt := (cX8_copyTable, RX8, pS_copyTable, none)
noncomputable abbrev κS_add : am_Kt := (cX8_add, RX8, pS_add, (some .int))
noncomputable abbrev κS_draw : am_Kt := (cX8_draw, RX8, pS_draw, (some .int))
noncomputable abbrev κS_drawThing : am_Kt := (cX8_drawThing, RX8, pS_drawThing, (some .int))
noncomputable abbrev κS_pass : am_Kt := (cX8_pass, RX8, pS_pass, (some .int))
noncomputable abbrev κS_losesLastFinger : am_Kt := (cX8_losesLastFinger, RX8, pS_losesLastFinger, (some .boolean))
noncomputable abbrev κS_opens : am_Kt := (cX8_opens, RX8, pS_opens, none)
noncomputable abbrev κS_isMovable : am_Kt := (cX8_isMovable, RX8, pS_isMovable, (some .boolean))
noncomputable abbrev κS_moveFinger : am_Kt := (cX8_moveFinger, RX8, pS_moveFinger, none)
noncomputable abbrev κS_tie : am_Kt := (cX8_tie, RX8, pS_tie, none)
noncomputable abbrev κS_untie : am_Kt := (cX8_untie, RX8, pS_untie, none)
noncomputable abbrev κS_pairOf : am_Kt := (cX8_pairOf, RX8, pS_pairOf, (some .int))
noncomputable abbrev κS_everyone : am_Kt := (cX8_everyone, RX8, pS_everyone, (some .int))
noncomputable abbrev κS_bitsOf : am_Kt := (cX8_bitsOf, RX8, pS_bitsOf, (some .int))
noncomputable abbrev κS_howMany : am_Kt := (cX8_howMany, RX8, pS_howMany, (some .int))
noncomputable abbrev κS_allWeights : am_Kt := (cX8_allWeights, RX8, pS_allWeights, (some .int))
noncomputable abbrev κS_allFate : am_Kt := (cX8_allFate, RX8, pS_allFate, (some .int))
noncomputable abbrev κS_allShut : am_Kt := (cX8_allShut, RX8, pS_allShut, (some .int))
noncomputable abbrev κS_price : am_Kt := (cX8_price, RX8, pS_price, (some .int))
noncomputable abbrev κS_share : am_Kt := (cX8_share, RX8, pS_share, (some .int))
noncomputable abbrev κS_worthKept : am_Kt := (cX8_worthKept, RX8, pS_worthKept, (some .int))
noncomputable abbrev κS_latestRowOf : am_Kt := (cX8_latestRowOf, RX8, pS_latestRowOf, (some .int))
noncomputable abbrev κT_put : am_Kt := (cX9_put, RX9, pT_put, none)
noncomputable abbrev κT_takeRows : am_Kt := (cX9_takeRows, RX9, pT_takeRows, (some .boolean))
noncomputable abbrev κT_left : am_Kt := (cX9_left, RX9, pT_left, (some .int))
noncomputable abbrev κT_right : am_Kt := (cX9_right, RX9, pT_right, (some .int))
noncomputable abbrev κX_read : am_Kt := (cX10_read, RX10, pX_read, (some .int))
noncomputable abbrev κX_code : am_Kt := (cX10_code, RX10, pX_code, (some .int))
noncomputable abbrev κX_step : am_Kt := (cX10_step, RX10, pX_step, none)
noncomputable abbrev κX_take : am_Kt := (cX10_take, RX10, pX_take, (some .boolean))
noncomputable abbrev κX_number : am_Kt := (cX10_number, RX10, pX_number, (some .int))
noncomputable abbrev κX_letter : am_Kt := (cX10_letter, RX10, pX_letter, (some .int))
noncomputable abbrev κX_split : am_Kt := (cX10_split, RX10, pX_split, none)
noncomputable abbrev κX_endOf : am_Kt := (cX10_endOf, RX10, pX_endOf, (some .int))
noncomputable abbrev κX_codeOf : am_Kt := (cX10_codeOf, RX10, pX_codeOf, (some .int))
noncomputable abbrev κX_isLetter : am_Kt := (cX10_isLetter, RX10, pX_isLetter, (some .boolean))
noncomputable abbrev κX_isDigit : am_Kt := (cX10_isDigit, RX10, pX_isDigit, (some .boolean))
noncomputable abbrev κX_numberOf : am_Kt := (cX10_numberOf, RX10, pX_numberOf, (some .int))
noncomputable abbrev κX_wordOf : am_Kt := (cX10_wordOf, RX10, pX_wordOf, (some .int))
noncomputable abbrev κX_isField : am_Kt := (cX10_isField, RX10, pX_isField, (some .boolean))
noncomputable abbrev κW_parish : am_Kt := (cL_parish, RL, pW_parish, (some .int))
noncomputable abbrev κW_law : am_Kt := (cL_law, RL, pW_law, (some .int))
noncomputable abbrev κW_thing : am_Kt := (cL_thing, RL, pW_thing, (some .int))
noncomputable abbrev κW_child : am_Kt := (cL_child, RL, pW_child, (some .int))
noncomputable abbrev κW_months : am_Kt := (cL_months, RL, pW_months, (some .int))
noncomputable abbrev κW_birth : am_Kt := (cL_birth, RL, pW_birth, (some .int))
noncomputable abbrev κW_move : am_Kt := (cL_move, RL, pW_move, (some .int))
noncomputable abbrev κW_blow : am_Kt := (cL_blow, RL, pW_blow, (some .int))
noncomputable abbrev κW_wish : am_Kt := (cL_wish, RL, pW_wish, (some .int))
noncomputable abbrev κW_grip : am_Kt := (cL_grip, RL, pW_grip, (some .int))
noncomputable abbrev κW_change : am_Kt := (cL_change, RL, pW_change, (some .int))
noncomputable abbrev κW_cut : am_Kt := (cL_cut, RL, pW_cut, (some .int))
noncomputable abbrev κW_moves : am_Kt := (cL_moves, RL, pW_moves, (some .int))
noncomputable abbrev κW_first : am_Kt := (cL_first, RL, pW_first, (some .int))
noncomputable abbrev κW_can : am_Kt := (cL_can, RL, pW_can, (some .int))
noncomputable abbrev κW_feels : am_Kt := (cL_feels, RL, pW_feels, (some .int))
noncomputable abbrev κW_odds : am_Kt := (cL_odds, RL, pW_odds, (some .int))
noncomputable abbrev κW_ask : am_Kt := (cL_ask, RL, pW_ask, (some .int))
noncomputable abbrev κW_waits : am_Kt := (cL_waits, RL, pW_waits, (some .int))
noncomputable abbrev κW_keep : am_Kt := (cL_keep, RL, pW_keep, (some .int))
noncomputable abbrev κW_fates : am_Kt := (cL_fates, RL, pW_fates, (some .int))
noncomputable abbrev κW_gives : am_Kt := (cL_gives, RL, pW_gives, (some .int))
noncomputable abbrev κW_trade : am_Kt := (cL_trade, RL, pW_trade, (some .int))
noncomputable abbrev κW_ring : am_Kt := (cL_ring, RL, pW_ring, (some .int))
noncomputable abbrev κW_swap : am_Kt := (cL_swap, RL, pW_swap, (some .int))
noncomputable abbrev κW_rules : am_Kt := (cL_rules, RL, pW_rules, (some .int))
noncomputable abbrev κW_tell : am_Kt := (cL_tell, RL, pW_tell, (some .int))
noncomputable abbrev κW_rests : am_Kt := (cL_rests, RL, pW_rests, (some .int))
noncomputable abbrev κW_nothing : am_Kt := (cL_nothing, RL, pW_nothing, (some .int))
noncomputable abbrev κW_ahead : am_Kt := (cL_ahead, RL, pW_ahead, (some .int))
noncomputable abbrev κW_trial : am_Kt := (cL_trial, RL, pW_trial, (some .int))
noncomputable abbrev κW_span : am_Kt := (cL_span, RL, pW_span, (some .int))
noncomputable abbrev κW_led : am_Kt := (cL_led, RL, pW_led, (some .int))
noncomputable abbrev κW_log : am_Kt := (cL_log, RL, pW_log, (some .int))
noncomputable abbrev κW_law_ : am_Kt := (cL_law_, RL, pW_law_, (some .boolean))
noncomputable abbrev κJ_bitCount_0f7a4 : am_Kt := (cJ6_bitCount_0f7a4, RJ6, pJ_bitCount_0f7a4, (some .int))
noncomputable abbrev κJ_numberOfTrailingZeros_0f7a4 : am_Kt := (cJ6_numberOfTrailingZeros_0f7a4, RJ6, pJ_numberOfTrailingZeros_0f7a4, (some .int))
theorem hd_325 : am_okH κW_parish 325 3 (0 : Int32).toNatClampNeg := by
  show am_okH κW_parish 325 3 0
  intro x v hv
  have hc : am_ctt 0 = [(1, 1), (5, 2)] := rfl
  rw [hc] at hv
  unfold am_cf at hv
  split at hv
  · rename_i hx
    subst hx
    cases hv
    exact ⟨[], ⟨0, 8, 11, 13⟩, [⟨0, 8, 14, 15⟩], "java/lang/IllegalArgumentException", rfl, fun y hy => absurd hy List.not_mem_nil, by decide +kernel, by decide, wT_627, wN_835, ⟨2, 12, 1, Or.inl ⟨2, dL_parish_11, rfl, rfl⟩, by decide, dL_parish_12, ci_1, dL_parish_13, rfl⟩⟩
  · skip
    unfold am_cf at hv
    split at hv
    · rename_i hx
      subst hx
      cases hv
      exact ⟨[⟨0, 8, 11, 13⟩], ⟨0, 8, 14, 15⟩, [], "java/lang/UnsupportedOperationException", rfl, List.forall_mem_cons.mpr ⟨Or.inr ⟨by decide, "java/lang/IllegalArgumentException", wT_627, by decide +kernel⟩, fun y hy => absurd hy List.not_mem_nil⟩, by decide +kernel, by decide, wT_628, wN_905, ⟨2, 15, 2, Or.inl ⟨2, dL_parish_14, rfl, rfl⟩, by decide, dL_parish_15, ci_2, dL_parish_16, rfl⟩⟩
    · exact (Option.some_ne_none _ hv.symm).elim

theorem hd_326 : am_okH κW_law 326 3 (1 : Int32).toNatClampNeg := by
  show am_okH κW_law 326 3 1
  intro x v hv
  have hc : am_ctt 1 = [(1, 1)] := rfl
  rw [hc] at hv
  unfold am_cf at hv
  split at hv
  · rename_i hx
    subst hx
    cases hv
    exact ⟨[], ⟨0, 8, 11, 13⟩, [], "java/lang/IllegalArgumentException", rfl, fun y hy => absurd hy List.not_mem_nil, by decide +kernel, by decide, wT_627, wN_835, ⟨2, 12, 1, Or.inl ⟨2, dL_law_11, rfl, rfl⟩, by decide, dL_law_12, ci_1, dL_law_13, rfl⟩⟩
  · exact (Option.some_ne_none _ hv.symm).elim

theorem hd_327 : am_okH κW_thing 327 5 (2 : Int32).toNatClampNeg := by
  show am_okH κW_thing 327 5 2
  intro x v hv
  have hc : am_ctt 2 = [(3, 1), (4, 2)] := rfl
  rw [hc] at hv
  unfold am_cf at hv
  split at hv
  · rename_i hx
    subst hx
    cases hv
    exact ⟨[], ⟨0, 10, 13, 24⟩, [⟨0, 10, 17, 26⟩], "java/lang/IndexOutOfBoundsException", rfl, fun y hy => absurd hy List.not_mem_nil, by decide +kernel, by decide, wT_937, wN_948, ⟨4, 15, 1, Or.inr ⟨dL_thing_13, rfl⟩, by decide, dL_thing_15, ci_1, dL_thing_16, rfl⟩⟩
  · skip
    unfold am_cf at hv
    split at hv
    · rename_i hx
      subst hx
      cases hv
      exact ⟨[⟨0, 10, 13, 24⟩], ⟨0, 10, 17, 26⟩, [], "java/util/NoSuchElementException", rfl, List.forall_mem_cons.mpr ⟨Or.inr ⟨by decide, "java/lang/IndexOutOfBoundsException", wT_937, by decide +kernel⟩, fun y hy => absurd hy List.not_mem_nil⟩, by decide +kernel, by decide, wT_938, wN_964, ⟨4, 19, 2, Or.inr ⟨dL_thing_17, rfl⟩, by decide, dL_thing_19, ci_2, dL_thing_20, rfl⟩⟩
    · exact (Option.some_ne_none _ hv.symm).elim

theorem hd_328 : am_okH κW_child 328 5 (3 : Int32).toNatClampNeg := by
  show am_okH κW_child 328 5 3
  intro x v hv
  have hc : am_ctt 3 = [(3, 1), (4, 2)] := rfl
  rw [hc] at hv
  unfold am_cf at hv
  split at hv
  · rename_i hx
    subst hx
    cases hv
    exact ⟨[], ⟨0, 10, 13, 24⟩, [⟨0, 10, 17, 26⟩], "java/lang/IndexOutOfBoundsException", rfl, fun y hy => absurd hy List.not_mem_nil, by decide +kernel, by decide, wT_937, wN_948, ⟨4, 15, 1, Or.inr ⟨dL_child_13, rfl⟩, by decide, dL_child_15, ci_1, dL_child_16, rfl⟩⟩
  · skip
    unfold am_cf at hv
    split at hv
    · rename_i hx
      subst hx
      cases hv
      exact ⟨[⟨0, 10, 13, 24⟩], ⟨0, 10, 17, 26⟩, [], "java/util/NoSuchElementException", rfl, List.forall_mem_cons.mpr ⟨Or.inr ⟨by decide, "java/lang/IndexOutOfBoundsException", wT_937, by decide +kernel⟩, fun y hy => absurd hy List.not_mem_nil⟩, by decide +kernel, by decide, wT_938, wN_964, ⟨4, 19, 2, Or.inr ⟨dL_child_17, rfl⟩, by decide, dL_child_19, ci_2, dL_child_20, rfl⟩⟩
    · exact (Option.some_ne_none _ hv.symm).elim

theorem hd_329 : am_okH κW_months 329 4 (4 : Int32).toNatClampNeg := by
  show am_okH κW_months 329 4 4
  intro x v hv
  have hc : am_ctt 4 = [(1, 1)] := rfl
  rw [hc] at hv
  unfold am_cf at hv
  split at hv
  · rename_i hx
    subst hx
    cases hv
    exact ⟨[], ⟨0, 9, 12, 13⟩, [], "java/lang/IllegalArgumentException", rfl, fun y hy => absurd hy List.not_mem_nil, by decide +kernel, by decide, wT_627, wN_835, ⟨3, 13, 1, Or.inl ⟨3, dL_months_12, rfl, rfl⟩, by decide, dL_months_13, ci_1, dL_months_14, rfl⟩⟩
  · exact (Option.some_ne_none _ hv.symm).elim

theorem hd_330 : am_okH κW_birth 330 3 (5 : Int32).toNatClampNeg := by
  show am_okH κW_birth 330 3 5
  intro x v hv
  have hc : am_ctt 5 = [(2, 1)] := rfl
  rw [hc] at hv
  unfold am_cf at hv
  split at hv
  · rename_i hx
    subst hx
    cases hv
    exact ⟨[], ⟨0, 8, 11, 38⟩, [], "java/lang/IllegalStateException", rfl, fun y hy => absurd hy List.not_mem_nil, by decide +kernel, by decide, wT_1018, wN_1025, ⟨2, 12, 1, Or.inl ⟨2, dL_birth_11, rfl, rfl⟩, by decide, dL_birth_12, ci_1, dL_birth_13, rfl⟩⟩
  · exact (Option.some_ne_none _ hv.symm).elim

theorem hd_331 : am_okH κW_move 331 5 (6 : Int32).toNatClampNeg := by
  show am_okH κW_move 331 5 6
  intro x v hv
  have hc : am_ctt 6 = [(3, 1), (2, 2)] := rfl
  rw [hc] at hv
  unfold am_cf at hv
  split at hv
  · rename_i hx
    subst hx
    cases hv
    exact ⟨[], ⟨0, 10, 13, 24⟩, [⟨0, 10, 17, 38⟩], "java/lang/IndexOutOfBoundsException", rfl, fun y hy => absurd hy List.not_mem_nil, by decide +kernel, by decide, wT_937, wN_948, ⟨4, 15, 1, Or.inr ⟨dL_move_13, rfl⟩, by decide, dL_move_15, ci_1, dL_move_16, rfl⟩⟩
  · skip
    unfold am_cf at hv
    split at hv
    · rename_i hx
      subst hx
      cases hv
      exact ⟨[⟨0, 10, 13, 24⟩], ⟨0, 10, 17, 38⟩, [], "java/lang/IllegalStateException", rfl, List.forall_mem_cons.mpr ⟨Or.inr ⟨by decide, "java/lang/IndexOutOfBoundsException", wT_937, by decide +kernel⟩, fun y hy => absurd hy List.not_mem_nil⟩, by decide +kernel, by decide, wT_1018, wN_1025, ⟨4, 19, 2, Or.inr ⟨dL_move_17, rfl⟩, by decide, dL_move_19, ci_2, dL_move_20, rfl⟩⟩
    · exact (Option.some_ne_none _ hv.symm).elim

theorem hd_332 : am_okH κW_blow 332 4 (7 : Int32).toNatClampNeg := by
  show am_okH κW_blow 332 4 7
  intro x v hv
  have hc : am_ctt 7 = [(3, 1), (2, 2)] := rfl
  rw [hc] at hv
  unfold am_cf at hv
  split at hv
  · rename_i hx
    subst hx
    cases hv
    exact ⟨[], ⟨0, 9, 12, 24⟩, [⟨0, 9, 15, 38⟩], "java/lang/IndexOutOfBoundsException", rfl, fun y hy => absurd hy List.not_mem_nil, by decide +kernel, by decide, wT_937, wN_948, ⟨3, 13, 1, Or.inl ⟨3, dL_blow_12, rfl, rfl⟩, by decide, dL_blow_13, ci_1, dL_blow_14, rfl⟩⟩
  · skip
    unfold am_cf at hv
    split at hv
    · rename_i hx
      subst hx
      cases hv
      exact ⟨[⟨0, 9, 12, 24⟩], ⟨0, 9, 15, 38⟩, [], "java/lang/IllegalStateException", rfl, List.forall_mem_cons.mpr ⟨Or.inr ⟨by decide, "java/lang/IndexOutOfBoundsException", wT_937, by decide +kernel⟩, fun y hy => absurd hy List.not_mem_nil⟩, by decide +kernel, by decide, wT_1018, wN_1025, ⟨3, 16, 2, Or.inl ⟨3, dL_blow_15, rfl, rfl⟩, by decide, dL_blow_16, ci_2, dL_blow_17, rfl⟩⟩
    · exact (Option.some_ne_none _ hv.symm).elim

theorem hd_333 : am_okH κW_wish 333 5 (8 : Int32).toNatClampNeg := by
  show am_okH κW_wish 333 5 8
  intro x v hv
  have hc : am_ctt 8 = [(3, 1)] := rfl
  rw [hc] at hv
  unfold am_cf at hv
  split at hv
  · rename_i hx
    subst hx
    cases hv
    exact ⟨[], ⟨0, 10, 13, 24⟩, [], "java/lang/IndexOutOfBoundsException", rfl, fun y hy => absurd hy List.not_mem_nil, by decide +kernel, by decide, wT_937, wN_948, ⟨4, 15, 1, Or.inr ⟨dL_wish_13, rfl⟩, by decide, dL_wish_15, ci_1, dL_wish_16, rfl⟩⟩
  · exact (Option.some_ne_none _ hv.symm).elim

theorem hd_334 : am_okH κW_grip 334 5 (9 : Int32).toNatClampNeg := by
  show am_okH κW_grip 334 5 9
  intro x v hv
  have hc : am_ctt 9 = [(3, 1), (1, 2)] := rfl
  rw [hc] at hv
  unfold am_cf at hv
  split at hv
  · rename_i hx
    subst hx
    cases hv
    exact ⟨[], ⟨0, 10, 13, 24⟩, [⟨0, 10, 17, 13⟩], "java/lang/IndexOutOfBoundsException", rfl, fun y hy => absurd hy List.not_mem_nil, by decide +kernel, by decide, wT_937, wN_948, ⟨4, 15, 1, Or.inr ⟨dL_grip_13, rfl⟩, by decide, dL_grip_15, ci_1, dL_grip_16, rfl⟩⟩
  · skip
    unfold am_cf at hv
    split at hv
    · rename_i hx
      subst hx
      cases hv
      exact ⟨[⟨0, 10, 13, 24⟩], ⟨0, 10, 17, 13⟩, [], "java/lang/IllegalArgumentException", rfl, List.forall_mem_cons.mpr ⟨Or.inr ⟨by decide, "java/lang/IndexOutOfBoundsException", wT_937, by decide +kernel⟩, fun y hy => absurd hy List.not_mem_nil⟩, by decide +kernel, by decide, wT_627, wN_835, ⟨4, 19, 2, Or.inr ⟨dL_grip_17, rfl⟩, by decide, dL_grip_19, ci_2, dL_grip_20, rfl⟩⟩
    · exact (Option.some_ne_none _ hv.symm).elim

theorem hd_335 : am_okH κW_change 335 5 (10 : Int32).toNatClampNeg := by
  show am_okH κW_change 335 5 10
  intro x v hv
  have hc : am_ctt 10 = [(3, 1), (1, 2), (2, 3)] := rfl
  rw [hc] at hv
  unfold am_cf at hv
  split at hv
  · rename_i hx
    subst hx
    cases hv
    exact ⟨[], ⟨0, 10, 13, 24⟩, [⟨0, 10, 17, 13⟩, ⟨0, 10, 21, 38⟩], "java/lang/IndexOutOfBoundsException", rfl, fun y hy => absurd hy List.not_mem_nil, by decide +kernel, by decide, wT_937, wN_948, ⟨4, 15, 1, Or.inr ⟨dL_change_13, rfl⟩, by decide, dL_change_15, ci_1, dL_change_16, rfl⟩⟩
  · skip
    unfold am_cf at hv
    split at hv
    · rename_i hx
      subst hx
      cases hv
      exact ⟨[⟨0, 10, 13, 24⟩], ⟨0, 10, 17, 13⟩, [⟨0, 10, 21, 38⟩], "java/lang/IllegalArgumentException", rfl, List.forall_mem_cons.mpr ⟨Or.inr ⟨by decide, "java/lang/IndexOutOfBoundsException", wT_937, by decide +kernel⟩, fun y hy => absurd hy List.not_mem_nil⟩, by decide +kernel, by decide, wT_627, wN_835, ⟨4, 19, 2, Or.inr ⟨dL_change_17, rfl⟩, by decide, dL_change_19, ci_2, dL_change_20, rfl⟩⟩
    · skip
      unfold am_cf at hv
      split at hv
      · rename_i hx
        subst hx
        cases hv
        exact ⟨[⟨0, 10, 13, 24⟩, ⟨0, 10, 17, 13⟩], ⟨0, 10, 21, 38⟩, [], "java/lang/IllegalStateException", rfl, List.forall_mem_cons.mpr ⟨Or.inr ⟨by decide, "java/lang/IndexOutOfBoundsException", wT_937, by decide +kernel⟩, List.forall_mem_cons.mpr ⟨Or.inr ⟨by decide, "java/lang/IllegalArgumentException", wT_627, by decide +kernel⟩, fun y hy => absurd hy List.not_mem_nil⟩⟩, by decide +kernel, by decide, wT_1018, wN_1025, ⟨4, 23, 3, Or.inr ⟨dL_change_21, rfl⟩, by decide, dL_change_23, ci_3, dL_change_24, rfl⟩⟩
      · exact (Option.some_ne_none _ hv.symm).elim

theorem hd_336 : am_okH κW_cut 336 4 (11 : Int32).toNatClampNeg := by
  show am_okH κW_cut 336 4 11
  intro x v hv
  have hc : am_ctt 11 = [(3, 1), (2, 2)] := rfl
  rw [hc] at hv
  unfold am_cf at hv
  split at hv
  · rename_i hx
    subst hx
    cases hv
    exact ⟨[], ⟨0, 9, 12, 24⟩, [⟨0, 9, 15, 38⟩], "java/lang/IndexOutOfBoundsException", rfl, fun y hy => absurd hy List.not_mem_nil, by decide +kernel, by decide, wT_937, wN_948, ⟨3, 13, 1, Or.inl ⟨3, dL_cut_12, rfl, rfl⟩, by decide, dL_cut_13, ci_1, dL_cut_14, rfl⟩⟩
  · skip
    unfold am_cf at hv
    split at hv
    · rename_i hx
      subst hx
      cases hv
      exact ⟨[⟨0, 9, 12, 24⟩], ⟨0, 9, 15, 38⟩, [], "java/lang/IllegalStateException", rfl, List.forall_mem_cons.mpr ⟨Or.inr ⟨by decide, "java/lang/IndexOutOfBoundsException", wT_937, by decide +kernel⟩, fun y hy => absurd hy List.not_mem_nil⟩, by decide +kernel, by decide, wT_1018, wN_1025, ⟨3, 16, 2, Or.inl ⟨3, dL_cut_15, rfl, rfl⟩, by decide, dL_cut_16, ci_2, dL_cut_17, rfl⟩⟩
    · exact (Option.some_ne_none _ hv.symm).elim

theorem hd_337 : am_okH κW_moves 337 4 (12 : Int32).toNatClampNeg := by
  show am_okH κW_moves 337 4 12
  intro x v hv
  have hc : am_ctt 12 = [(3, 1)] := rfl
  rw [hc] at hv
  unfold am_cf at hv
  split at hv
  · rename_i hx
    subst hx
    cases hv
    exact ⟨[], ⟨0, 9, 12, 24⟩, [], "java/lang/IndexOutOfBoundsException", rfl, fun y hy => absurd hy List.not_mem_nil, by decide +kernel, by decide, wT_937, wN_948, ⟨3, 13, 1, Or.inl ⟨3, dL_moves_12, rfl, rfl⟩, by decide, dL_moves_13, ci_1, dL_moves_14, rfl⟩⟩
  · exact (Option.some_ne_none _ hv.symm).elim

theorem hd_338 : am_okH κW_first 338 4 (13 : Int32).toNatClampNeg := by
  show am_okH κW_first 338 4 13
  intro x v hv
  have hc : am_ctt 13 = [(3, 1)] := rfl
  rw [hc] at hv
  unfold am_cf at hv
  split at hv
  · rename_i hx
    subst hx
    cases hv
    exact ⟨[], ⟨0, 9, 12, 24⟩, [], "java/lang/IndexOutOfBoundsException", rfl, fun y hy => absurd hy List.not_mem_nil, by decide +kernel, by decide, wT_937, wN_948, ⟨3, 13, 1, Or.inl ⟨3, dL_first_12, rfl, rfl⟩, by decide, dL_first_13, ci_1, dL_first_14, rfl⟩⟩
  · exact (Option.some_ne_none _ hv.symm).elim

theorem hd_339 : am_okH κW_can 339 4 (14 : Int32).toNatClampNeg := by
  show am_okH κW_can 339 4 14
  intro x v hv
  have hc : am_ctt 14 = [(3, 1)] := rfl
  rw [hc] at hv
  unfold am_cf at hv
  split at hv
  · rename_i hx
    subst hx
    cases hv
    exact ⟨[], ⟨0, 9, 12, 24⟩, [], "java/lang/IndexOutOfBoundsException", rfl, fun y hy => absurd hy List.not_mem_nil, by decide +kernel, by decide, wT_937, wN_948, ⟨3, 13, 1, Or.inl ⟨3, dL_can_12, rfl, rfl⟩, by decide, dL_can_13, ci_1, dL_can_14, rfl⟩⟩
  · exact (Option.some_ne_none _ hv.symm).elim

theorem hd_340 : am_okH κW_feels 340 4 (15 : Int32).toNatClampNeg := by
  show am_okH κW_feels 340 4 15
  intro x v hv
  have hc : am_ctt 15 = [(1, 1), (4, 2)] := rfl
  rw [hc] at hv
  unfold am_cf at hv
  split at hv
  · rename_i hx
    subst hx
    cases hv
    exact ⟨[], ⟨0, 9, 12, 13⟩, [⟨0, 9, 15, 26⟩], "java/lang/IllegalArgumentException", rfl, fun y hy => absurd hy List.not_mem_nil, by decide +kernel, by decide, wT_627, wN_835, ⟨3, 13, 1, Or.inl ⟨3, dL_feels_12, rfl, rfl⟩, by decide, dL_feels_13, ci_1, dL_feels_14, rfl⟩⟩
  · skip
    unfold am_cf at hv
    split at hv
    · rename_i hx
      subst hx
      cases hv
      exact ⟨[⟨0, 9, 12, 13⟩], ⟨0, 9, 15, 26⟩, [], "java/util/NoSuchElementException", rfl, List.forall_mem_cons.mpr ⟨Or.inr ⟨by decide, "java/lang/IllegalArgumentException", wT_627, by decide +kernel⟩, fun y hy => absurd hy List.not_mem_nil⟩, by decide +kernel, by decide, wT_938, wN_964, ⟨3, 16, 2, Or.inl ⟨3, dL_feels_15, rfl, rfl⟩, by decide, dL_feels_16, ci_2, dL_feels_17, rfl⟩⟩
    · exact (Option.some_ne_none _ hv.symm).elim

theorem hd_341 : am_okH κW_odds 341 4 (16 : Int32).toNatClampNeg := by
  show am_okH κW_odds 341 4 16
  intro x v hv
  have hc : am_ctt 16 = [(3, 1), (1, 2)] := rfl
  rw [hc] at hv
  unfold am_cf at hv
  split at hv
  · rename_i hx
    subst hx
    cases hv
    exact ⟨[], ⟨0, 9, 12, 24⟩, [⟨0, 9, 15, 13⟩], "java/lang/IndexOutOfBoundsException", rfl, fun y hy => absurd hy List.not_mem_nil, by decide +kernel, by decide, wT_937, wN_948, ⟨3, 13, 1, Or.inl ⟨3, dL_odds_12, rfl, rfl⟩, by decide, dL_odds_13, ci_1, dL_odds_14, rfl⟩⟩
  · skip
    unfold am_cf at hv
    split at hv
    · rename_i hx
      subst hx
      cases hv
      exact ⟨[⟨0, 9, 12, 24⟩], ⟨0, 9, 15, 13⟩, [], "java/lang/IllegalArgumentException", rfl, List.forall_mem_cons.mpr ⟨Or.inr ⟨by decide, "java/lang/IndexOutOfBoundsException", wT_937, by decide +kernel⟩, fun y hy => absurd hy List.not_mem_nil⟩, by decide +kernel, by decide, wT_627, wN_835, ⟨3, 16, 2, Or.inl ⟨3, dL_odds_15, rfl, rfl⟩, by decide, dL_odds_16, ci_2, dL_odds_17, rfl⟩⟩
    · exact (Option.some_ne_none _ hv.symm).elim

theorem hd_342 : am_okH κW_ask 342 3 (17 : Int32).toNatClampNeg := by
  show am_okH κW_ask 342 3 17
  intro x v hv
  have hc : am_ctt 17 = [(1, 1)] := rfl
  rw [hc] at hv
  unfold am_cf at hv
  split at hv
  · rename_i hx
    subst hx
    cases hv
    exact ⟨[], ⟨0, 8, 11, 13⟩, [], "java/lang/IllegalArgumentException", rfl, fun y hy => absurd hy List.not_mem_nil, by decide +kernel, by decide, wT_627, wN_835, ⟨2, 12, 1, Or.inl ⟨2, dL_ask_11, rfl, rfl⟩, by decide, dL_ask_12, ci_1, dL_ask_13, rfl⟩⟩
  · exact (Option.some_ne_none _ hv.symm).elim

theorem hd_343 : am_okH κW_waits 343 4 (18 : Int32).toNatClampNeg := by
  show am_okH κW_waits 343 4 18
  intro x v hv
  have hc : am_ctt 18 = [(3, 1)] := rfl
  rw [hc] at hv
  unfold am_cf at hv
  split at hv
  · rename_i hx
    subst hx
    cases hv
    exact ⟨[], ⟨0, 9, 12, 24⟩, [], "java/lang/IndexOutOfBoundsException", rfl, fun y hy => absurd hy List.not_mem_nil, by decide +kernel, by decide, wT_937, wN_948, ⟨3, 13, 1, Or.inl ⟨3, dL_waits_12, rfl, rfl⟩, by decide, dL_waits_13, ci_1, dL_waits_14, rfl⟩⟩
  · exact (Option.some_ne_none _ hv.symm).elim

theorem hd_344 : am_okH κW_keep 344 4 (19 : Int32).toNatClampNeg := by
  show am_okH κW_keep 344 4 19
  intro x v hv
  have hc : am_ctt 19 = [(1, 1)] := rfl
  rw [hc] at hv
  unfold am_cf at hv
  split at hv
  · rename_i hx
    subst hx
    cases hv
    exact ⟨[], ⟨0, 9, 12, 13⟩, [], "java/lang/IllegalArgumentException", rfl, fun y hy => absurd hy List.not_mem_nil, by decide +kernel, by decide, wT_627, wN_835, ⟨3, 13, 1, Or.inl ⟨3, dL_keep_12, rfl, rfl⟩, by decide, dL_keep_13, ci_1, dL_keep_14, rfl⟩⟩
  · exact (Option.some_ne_none _ hv.symm).elim

theorem hd_345 : am_okH κW_fates 345 4 (20 : Int32).toNatClampNeg := by
  show am_okH κW_fates 345 4 20
  intro x v hv
  have hc : am_ctt 20 = [(1, 1)] := rfl
  rw [hc] at hv
  unfold am_cf at hv
  split at hv
  · rename_i hx
    subst hx
    cases hv
    exact ⟨[], ⟨0, 9, 12, 13⟩, [], "java/lang/IllegalArgumentException", rfl, fun y hy => absurd hy List.not_mem_nil, by decide +kernel, by decide, wT_627, wN_835, ⟨3, 13, 1, Or.inl ⟨3, dL_fates_12, rfl, rfl⟩, by decide, dL_fates_13, ci_1, dL_fates_14, rfl⟩⟩
  · exact (Option.some_ne_none _ hv.symm).elim

theorem hd_346 : am_okH κW_gives 346 4 (21 : Int32).toNatClampNeg := by
  show am_okH κW_gives 346 4 21
  intro x v hv
  have hc : am_ctt 21 = [(3, 1)] := rfl
  rw [hc] at hv
  unfold am_cf at hv
  split at hv
  · rename_i hx
    subst hx
    cases hv
    exact ⟨[], ⟨0, 9, 12, 24⟩, [], "java/lang/IndexOutOfBoundsException", rfl, fun y hy => absurd hy List.not_mem_nil, by decide +kernel, by decide, wT_937, wN_948, ⟨3, 13, 1, Or.inl ⟨3, dL_gives_12, rfl, rfl⟩, by decide, dL_gives_13, ci_1, dL_gives_14, rfl⟩⟩
  · exact (Option.some_ne_none _ hv.symm).elim

theorem hd_347 : am_okH κW_trade 347 4 (22 : Int32).toNatClampNeg := by
  show am_okH κW_trade 347 4 22
  intro x v hv
  have hc : am_ctt 22 = [(3, 1)] := rfl
  rw [hc] at hv
  unfold am_cf at hv
  split at hv
  · rename_i hx
    subst hx
    cases hv
    exact ⟨[], ⟨0, 9, 12, 24⟩, [], "java/lang/IndexOutOfBoundsException", rfl, fun y hy => absurd hy List.not_mem_nil, by decide +kernel, by decide, wT_937, wN_948, ⟨3, 13, 1, Or.inl ⟨3, dL_trade_12, rfl, rfl⟩, by decide, dL_trade_13, ci_1, dL_trade_14, rfl⟩⟩
  · exact (Option.some_ne_none _ hv.symm).elim

theorem hd_348 : am_okH κW_ring 348 4 (23 : Int32).toNatClampNeg := by
  show am_okH κW_ring 348 4 23
  intro x v hv
  have hc : am_ctt 23 = [(3, 1)] := rfl
  rw [hc] at hv
  unfold am_cf at hv
  split at hv
  · rename_i hx
    subst hx
    cases hv
    exact ⟨[], ⟨0, 9, 12, 24⟩, [], "java/lang/IndexOutOfBoundsException", rfl, fun y hy => absurd hy List.not_mem_nil, by decide +kernel, by decide, wT_937, wN_948, ⟨3, 13, 1, Or.inl ⟨3, dL_ring_12, rfl, rfl⟩, by decide, dL_ring_13, ci_1, dL_ring_14, rfl⟩⟩
  · exact (Option.some_ne_none _ hv.symm).elim

theorem hd_349 : am_okH κW_swap 349 5 (24 : Int32).toNatClampNeg := by
  show am_okH κW_swap 349 5 24
  intro x v hv
  have hc : am_ctt 24 = [(3, 1), (1, 2)] := rfl
  rw [hc] at hv
  unfold am_cf at hv
  split at hv
  · rename_i hx
    subst hx
    cases hv
    exact ⟨[], ⟨0, 17, 20, 24⟩, [⟨0, 17, 24, 13⟩], "java/lang/IndexOutOfBoundsException", rfl, fun y hy => absurd hy List.not_mem_nil, by decide +kernel, by decide, wT_937, wN_948, ⟨4, 22, 1, Or.inr ⟨dL_swap_20, rfl⟩, by decide, dL_swap_22, ci_1, dL_swap_23, rfl⟩⟩
  · skip
    unfold am_cf at hv
    split at hv
    · rename_i hx
      subst hx
      cases hv
      exact ⟨[⟨0, 17, 20, 24⟩], ⟨0, 17, 24, 13⟩, [], "java/lang/IllegalArgumentException", rfl, List.forall_mem_cons.mpr ⟨Or.inr ⟨by decide, "java/lang/IndexOutOfBoundsException", wT_937, by decide +kernel⟩, fun y hy => absurd hy List.not_mem_nil⟩, by decide +kernel, by decide, wT_627, wN_835, ⟨4, 26, 2, Or.inr ⟨dL_swap_24, rfl⟩, by decide, dL_swap_26, ci_2, dL_swap_27, rfl⟩⟩
    · exact (Option.some_ne_none _ hv.symm).elim

theorem hd_350 : am_okH κW_rules 350 4 (25 : Int32).toNatClampNeg := by
  show am_okH κW_rules 350 4 25
  intro x v hv
  have hc : am_ctt 25 = [(1, 1)] := rfl
  rw [hc] at hv
  unfold am_cf at hv
  split at hv
  · rename_i hx
    subst hx
    cases hv
    exact ⟨[], ⟨0, 9, 12, 13⟩, [], "java/lang/IllegalArgumentException", rfl, fun y hy => absurd hy List.not_mem_nil, by decide +kernel, by decide, wT_627, wN_835, ⟨3, 13, 1, Or.inl ⟨3, dL_rules_12, rfl, rfl⟩, by decide, dL_rules_13, ci_1, dL_rules_14, rfl⟩⟩
  · exact (Option.some_ne_none _ hv.symm).elim

theorem hd_351 : am_okH κW_tell 351 3 (26 : Int32).toNatClampNeg := by
  show am_okH κW_tell 351 3 26
  intro x v hv
  have hc : am_ctt 26 = [(1, 1)] := rfl
  rw [hc] at hv
  unfold am_cf at hv
  split at hv
  · rename_i hx
    subst hx
    cases hv
    exact ⟨[], ⟨0, 8, 11, 13⟩, [], "java/lang/IllegalArgumentException", rfl, fun y hy => absurd hy List.not_mem_nil, by decide +kernel, by decide, wT_627, wN_835, ⟨2, 12, 1, Or.inl ⟨2, dL_tell_11, rfl, rfl⟩, by decide, dL_tell_12, ci_1, dL_tell_13, rfl⟩⟩
  · exact (Option.some_ne_none _ hv.symm).elim

theorem hd_352 : am_okH κW_rests 352 4 (27 : Int32).toNatClampNeg := by
  show am_okH κW_rests 352 4 27
  intro x v hv
  have hc : am_ctt 27 = [(3, 1)] := rfl
  rw [hc] at hv
  unfold am_cf at hv
  split at hv
  · rename_i hx
    subst hx
    cases hv
    exact ⟨[], ⟨0, 9, 12, 24⟩, [], "java/lang/IndexOutOfBoundsException", rfl, fun y hy => absurd hy List.not_mem_nil, by decide +kernel, by decide, wT_937, wN_948, ⟨3, 13, 1, Or.inl ⟨3, dL_rests_12, rfl, rfl⟩, by decide, dL_rests_13, ci_1, dL_rests_14, rfl⟩⟩
  · exact (Option.some_ne_none _ hv.symm).elim

theorem hd_353 : am_okH κW_nothing 353 4 (28 : Int32).toNatClampNeg := by
  show am_okH κW_nothing 353 4 28
  intro x v hv
  have hc : am_ctt 28 = [(1, 1)] := rfl
  rw [hc] at hv
  unfold am_cf at hv
  split at hv
  · rename_i hx
    subst hx
    cases hv
    exact ⟨[], ⟨0, 9, 12, 13⟩, [], "java/lang/IllegalArgumentException", rfl, fun y hy => absurd hy List.not_mem_nil, by decide +kernel, by decide, wT_627, wN_835, ⟨3, 13, 1, Or.inl ⟨3, dL_nothing_12, rfl, rfl⟩, by decide, dL_nothing_13, ci_1, dL_nothing_14, rfl⟩⟩
  · exact (Option.some_ne_none _ hv.symm).elim

theorem hd_354 : am_okH κW_ahead 354 5 (29 : Int32).toNatClampNeg := by
  show am_okH κW_ahead 354 5 29
  intro x v hv
  have hc : am_ctt 29 = [(3, 1), (1, 2)] := rfl
  rw [hc] at hv
  unfold am_cf at hv
  split at hv
  · rename_i hx
    subst hx
    cases hv
    exact ⟨[], ⟨0, 10, 13, 24⟩, [⟨0, 10, 17, 13⟩], "java/lang/IndexOutOfBoundsException", rfl, fun y hy => absurd hy List.not_mem_nil, by decide +kernel, by decide, wT_937, wN_948, ⟨4, 15, 1, Or.inr ⟨dL_ahead_13, rfl⟩, by decide, dL_ahead_15, ci_1, dL_ahead_16, rfl⟩⟩
  · skip
    unfold am_cf at hv
    split at hv
    · rename_i hx
      subst hx
      cases hv
      exact ⟨[⟨0, 10, 13, 24⟩], ⟨0, 10, 17, 13⟩, [], "java/lang/IllegalArgumentException", rfl, List.forall_mem_cons.mpr ⟨Or.inr ⟨by decide, "java/lang/IndexOutOfBoundsException", wT_937, by decide +kernel⟩, fun y hy => absurd hy List.not_mem_nil⟩, by decide +kernel, by decide, wT_627, wN_835, ⟨4, 19, 2, Or.inr ⟨dL_ahead_17, rfl⟩, by decide, dL_ahead_19, ci_2, dL_ahead_20, rfl⟩⟩
    · exact (Option.some_ne_none _ hv.symm).elim

theorem hd_355 : am_okH κW_trial 355 5 (30 : Int32).toNatClampNeg := by
  show am_okH κW_trial 355 5 30
  intro x v hv
  have hc : am_ctt 30 = [(1, 1)] := rfl
  rw [hc] at hv
  unfold am_cf at hv
  split at hv
  · rename_i hx
    subst hx
    cases hv
    exact ⟨[], ⟨0, 10, 13, 13⟩, [], "java/lang/IllegalArgumentException", rfl, fun y hy => absurd hy List.not_mem_nil, by decide +kernel, by decide, wT_627, wN_835, ⟨4, 15, 1, Or.inr ⟨dL_trial_13, rfl⟩, by decide, dL_trial_15, ci_1, dL_trial_16, rfl⟩⟩
  · exact (Option.some_ne_none _ hv.symm).elim

theorem hd_356 : am_okH κW_span 356 5 (31 : Int32).toNatClampNeg := by
  show am_okH κW_span 356 5 31
  intro x v hv
  have hc : am_ctt 31 = [(1, 1)] := rfl
  rw [hc] at hv
  unfold am_cf at hv
  split at hv
  · rename_i hx
    subst hx
    cases hv
    exact ⟨[], ⟨0, 10, 13, 13⟩, [], "java/lang/IllegalArgumentException", rfl, fun y hy => absurd hy List.not_mem_nil, by decide +kernel, by decide, wT_627, wN_835, ⟨4, 15, 1, Or.inr ⟨dL_span_13, rfl⟩, by decide, dL_span_15, ci_1, dL_span_16, rfl⟩⟩
  · exact (Option.some_ne_none _ hv.symm).elim

theorem hd_357 : am_okH κW_led 357 5 (32 : Int32).toNatClampNeg := by
  show am_okH κW_led 357 5 32
  intro x v hv
  have hc : am_ctt 32 = [(3, 1)] := rfl
  rw [hc] at hv
  unfold am_cf at hv
  split at hv
  · rename_i hx
    subst hx
    cases hv
    exact ⟨[], ⟨0, 10, 13, 24⟩, [], "java/lang/IndexOutOfBoundsException", rfl, fun y hy => absurd hy List.not_mem_nil, by decide +kernel, by decide, wT_937, wN_948, ⟨4, 15, 1, Or.inr ⟨dL_led_13, rfl⟩, by decide, dL_led_15, ci_1, dL_led_16, rfl⟩⟩
  · exact (Option.some_ne_none _ hv.symm).elim

theorem hd_358 : am_okH κW_log 358 5 (33 : Int32).toNatClampNeg := by
  show am_okH κW_log 358 5 33
  intro x v hv
  have hc : am_ctt 33 = [(4, 1)] := rfl
  rw [hc] at hv
  unfold am_cf at hv
  split at hv
  · rename_i hx
    subst hx
    cases hv
    exact ⟨[], ⟨0, 10, 13, 26⟩, [], "java/util/NoSuchElementException", rfl, fun y hy => absurd hy List.not_mem_nil, by decide +kernel, by decide, wT_938, wN_964, ⟨4, 15, 1, Or.inr ⟨dL_log_13, rfl⟩, by decide, dL_log_15, ci_1, dL_log_16, rfl⟩⟩
  · exact (Option.some_ne_none _ hv.symm).elim

theorem gF_feed_0 : am_okL κF_feed 0 [(0, 46, 0, 0, 0), (1, 19, 0, 9, 0), (4, 18, 1, 8, 0), (7, 0, 0, 0, 20), (9, 4, 0, 0, 0), (10, 0, 0, 0, 400), (13, 61, 2, 1, 0)] := am_o46 (Or.inl ⟨0, dX11_feed_0, rfl, rfl⟩) (am_o19 (⟨10, dX11_feed_1, rfl, k_RX11_10_gA⟩) (am_o18 (⟨96, dX11_feed_4, rfl, k_RX11_96_gI⟩) (am_o0 (Or.inr (Or.inl ⟨20, dX11_feed_7, cb_20, rfl⟩)) (am_o4 (⟨dX11_feed_9, rfl⟩) (am_o0 (Or.inr (Or.inr (Or.inl ⟨400, dX11_feed_10, cs_400, rfl⟩))) (am_o61 (⟨5, dX11_feed_13, rfl, rfl⟩) (trivial)))))))
theorem gF_feed_1 : am_okL κF_feed 0 [(16, 0, 0, 0, (-1)), (17, 74, 0, 0, 0)] := am_o0 (Or.inl ⟨-1, dX11_feed_16, ci_m1, rfl⟩) (am_o74 (⟨dX11_feed_17, rfl⟩) (trivial))
theorem gF_feed_2 : am_okL κF_feed 0 [(18, 46, 0, 0, 0), (19, 19, 0, 9, 0), (22, 1, 1, 0, 0), (23, 67, 307, 1, 8), (26, 46, 0, 0, 0), (27, 19, 0, 9, 0), (30, 1, 2, 0, 0), (31, 67, 307, 1, 8), (34, 46, 0, 0, 0), (35, 19, 0, 9, 0), (38, 1, 3, 0, 0), (39, 67, 307, 1, 8), (42, 46, 0, 0, 0), (43, 19, 0, 9, 0), (46, 1, 4, 0, 0), (48, 67, 307, 1, 8), (51, 46, 0, 0, 0), (52, 19, 0, 9, 0), (55, 1, 5, 0, 0), (57, 67, 307, 1, 8), (60, 46, 0, 0, 0), (61, 19, 0, 9, 0), (64, 18, 1, 8, 0), (67, 74, 0, 0, 0)] := am_o46 (Or.inl ⟨0, dX11_feed_18, rfl, rfl⟩) (am_o19 (⟨10, dX11_feed_19, rfl, k_RX11_10_gA⟩) (am_o1 (Or.inl ⟨1, dX11_feed_22, rfl, rfl⟩) (am_o67 (⟨⟨cal_307, by decide, ⟨_, rfl, rfl⟩, 99, dX11_feed_23, rfl, lV_RX11_99.1, lV_RX11_99.2.1, lV_RX11_99.2.2.1, lV_RX11_99.2.2.2⟩, nl_307⟩) (am_o46 (Or.inl ⟨0, dX11_feed_26, rfl, rfl⟩) (am_o19 (⟨10, dX11_feed_27, rfl, k_RX11_10_gA⟩) (am_o1 (Or.inl ⟨2, dX11_feed_30, rfl, rfl⟩) (am_o67 (⟨⟨cal_307, by decide, ⟨_, rfl, rfl⟩, 99, dX11_feed_31, rfl, lV_RX11_99.1, lV_RX11_99.2.1, lV_RX11_99.2.2.1, lV_RX11_99.2.2.2⟩, nl_307⟩) (am_o46 (Or.inl ⟨0, dX11_feed_34, rfl, rfl⟩) (am_o19 (⟨10, dX11_feed_35, rfl, k_RX11_10_gA⟩) (am_o1 (Or.inl ⟨3, dX11_feed_38, rfl, rfl⟩) (am_o67 (⟨⟨cal_307, by decide, ⟨_, rfl, rfl⟩, 99, dX11_feed_39, rfl, lV_RX11_99.1, lV_RX11_99.2.1, lV_RX11_99.2.2.1, lV_RX11_99.2.2.2⟩, nl_307⟩) (am_o46 (Or.inl ⟨0, dX11_feed_42, rfl, rfl⟩) (am_o19 (⟨10, dX11_feed_43, rfl, k_RX11_10_gA⟩) (am_o1 (Or.inr ⟨dX11_feed_46, rfl⟩) (am_o67 (⟨⟨cal_307, by decide, ⟨_, rfl, rfl⟩, 99, dX11_feed_48, rfl, lV_RX11_99.1, lV_RX11_99.2.1, lV_RX11_99.2.2.1, lV_RX11_99.2.2.2⟩, nl_307⟩) (am_o46 (Or.inl ⟨0, dX11_feed_51, rfl, rfl⟩) (am_o19 (⟨10, dX11_feed_52, rfl, k_RX11_10_gA⟩) (am_o1 (Or.inr ⟨dX11_feed_55, rfl⟩) (am_o67 (⟨⟨cal_307, by decide, ⟨_, rfl, rfl⟩, 99, dX11_feed_57, rfl, lV_RX11_99.1, lV_RX11_99.2.1, lV_RX11_99.2.2.1, lV_RX11_99.2.2.2⟩, nl_307⟩) (am_o46 (Or.inl ⟨0, dX11_feed_60, rfl, rfl⟩) (am_o19 (⟨10, dX11_feed_61, rfl, k_RX11_10_gA⟩) (am_o18 (⟨96, dX11_feed_64, rfl, k_RX11_96_gI⟩) (am_o74 (⟨dX11_feed_67, rfl⟩) (trivial))))))))))))))))))))))))
theorem GF_feed : am_okM qF_feed := am_okM_of (κ := κF_feed) (bl := pF_feed) (Prod.ext rfl (Prod.ext rfl (Prod.ext zF_feed rfl))) zF_feed (List.forall_mem_cons.mpr ⟨gF_feed_0, List.forall_mem_cons.mpr ⟨gF_feed_1, List.forall_mem_cons.mpr ⟨gF_feed_2, fun _ h => absurd h List.not_mem_nil⟩⟩⟩)
theorem gF_end_0 : am_okL κF_end 1 [(0, 1, 1, 0, 0), (1, 52, 2, 1, 0)] := am_o1 (Or.inl ⟨1, dX11_end_0, rfl, rfl⟩) (am_o52 (⟨14, dX11_end_1, rfl, rfl⟩) (trivial))
theorem gF_end_1 : am_okL κF_end 1 [(4, 1, 1, 0, 0), (5, 46, 0, 0, 0), (6, 19, 0, 9, 0), (9, 18, 1, 8, 0), (12, 61, 3, 2, 0)] := am_o1 (Or.inl ⟨1, dX11_end_4, rfl, rfl⟩) (am_o46 (Or.inl ⟨0, dX11_end_5, rfl, rfl⟩) (am_o19 (⟨10, dX11_end_6, rfl, k_RX11_10_gA⟩) (am_o18 (⟨96, dX11_end_9, rfl, k_RX11_96_gI⟩) (am_o61 (⟨5, dX11_end_12, rfl, rfl⟩) (trivial)))))
theorem gF_end_2 : am_okL κF_end 1 [(15, 0, 0, 0, 0), (16, 75, 0, 0, 0)] := am_o0 (Or.inl ⟨0, dX11_end_15, ci_0, rfl⟩) (am_o75 (⟨dX11_end_16, rfl⟩) (trivial))
theorem gF_end_3 : am_okL κF_end 1 [(17, 46, 0, 0, 0), (18, 19, 0, 9, 0), (21, 1, 1, 0, 0), (22, 20, 1, 8, 0), (25, 0, 0, 0, 1), (26, 75, 0, 0, 0)] := am_o46 (Or.inl ⟨0, dX11_end_17, rfl, rfl⟩) (am_o19 (⟨10, dX11_end_18, rfl, k_RX11_10_gA⟩) (am_o1 (Or.inl ⟨1, dX11_end_21, rfl, rfl⟩) (am_o20 (⟨96, dX11_end_22, rfl, k_RX11_96_pI⟩) (am_o0 (Or.inl ⟨1, dX11_end_25, ci_1, rfl⟩) (am_o75 (⟨dX11_end_26, rfl⟩) (trivial))))))
theorem GF_end : am_okM qF_end := am_okM_of (κ := κF_end) (bl := pF_end) (Prod.ext rfl (Prod.ext rfl (Prod.ext zF_end rfl))) zF_end (List.forall_mem_cons.mpr ⟨gF_end_0, List.forall_mem_cons.mpr ⟨gF_end_1, List.forall_mem_cons.mpr ⟨gF_end_2, List.forall_mem_cons.mpr ⟨gF_end_3, fun _ h => absurd h List.not_mem_nil⟩⟩⟩⟩)
theorem gF_parish_0 : am_okL κF_parish 2 [(0, 46, 0, 0, 0), (1, 19, 2, 9, 0), (4, 46, 0, 0, 0), (5, 19, 1, 9, 0), (8, 67, 284, 1, 7), (11, 46, 0, 0, 0), (12, 46, 0, 0, 0), (13, 19, 8, 9, 0), (16, 46, 0, 0, 0), (17, 19, 0, 9, 0), (20, 0, 0, 0, 14), (22, 68, 311, 2, 5), (25, 20, 14, 9, 0), (28, 46, 0, 0, 0), (29, 19, 0, 9, 0), (32, 0, 0, 0, 0), (33, 20, 1, 8, 0), (36, 46, 0, 0, 0), (37, 18, 14, 9, 0), (40, 0, 0, 0, (-1)), (41, 56, 2, 1, 0)] := am_o46 (Or.inl ⟨0, dX11_parish_0, rfl, rfl⟩) (am_o19 (⟨23, dX11_parish_1, rfl, k_RX11_23_gA⟩) (am_o46 (Or.inl ⟨0, dX11_parish_4, rfl, rfl⟩) (am_o19 (⟨19, dX11_parish_5, rfl, k_RX11_19_gA⟩) (am_o67 (⟨⟨cal_284, by decide, ⟨_, rfl, rfl⟩, 103, dX11_parish_8, rfl, lV_RX11_103.1, lV_RX11_103.2.1, lV_RX11_103.2.2.1, lV_RX11_103.2.2.2⟩, nl_284⟩) (am_o46 (Or.inl ⟨0, dX11_parish_11, rfl, rfl⟩) (am_o46 (Or.inl ⟨0, dX11_parish_12, rfl, rfl⟩) (am_o19 (⟨54, dX11_parish_13, rfl, k_RX11_54_gA⟩) (am_o46 (Or.inl ⟨0, dX11_parish_16, rfl, rfl⟩) (am_o19 (⟨10, dX11_parish_17, rfl, k_RX11_10_gA⟩) (am_o0 (Or.inr (Or.inl ⟨14, dX11_parish_20, cb_14, rfl⟩)) (am_o68 (am_kk1 (b := 5) rfl (by decide) ⟨⟨cal_311, by decide, _, ⟨"ShutFists$ParishText", "read", "(LShutFists$Tape;I)I"⟩, "ShutFists$Text", 106, rfl, rfl, dX11_parish_22, rfl, lU_RX11_106_5.1, lU_RX11_106_5.2.1, lU_RX11_106_5.2.2.1, lU_RX11_106_5.2.2.2.1, lU_RX11_106_5.2.2.2.2⟩, nl_311⟩) (am_o20 (⟨92, dX11_parish_25, rfl, k_RX11_92_pI⟩) (am_o46 (Or.inl ⟨0, dX11_parish_28, rfl, rfl⟩) (am_o19 (⟨10, dX11_parish_29, rfl, k_RX11_10_gA⟩) (am_o0 (Or.inl ⟨0, dX11_parish_32, ci_0, rfl⟩) (am_o20 (⟨96, dX11_parish_33, rfl, k_RX11_96_pI⟩) (am_o46 (Or.inl ⟨0, dX11_parish_36, rfl, rfl⟩) (am_o18 (⟨92, dX11_parish_37, rfl, k_RX11_92_gI⟩) (am_o0 (Or.inl ⟨-1, dX11_parish_40, ci_m1, rfl⟩) (am_o56 (⟨13, dX11_parish_41, rfl, rfl⟩) (trivial)))))))))))))))))))))
theorem gF_parish_1 : am_okL κF_parish 2 [(44, 77, 1, 0, 0)] := am_o77 (⟨110, 112, 114, 1, fit_at_114, fit_sup, wT_833, wT_144, by decide, rfl, rfl, at_114, dX11_parish_44, dX11_parish_47, Or.inl ⟨dX11_parish_48, dX11_parish_50, dX11_parish_53⟩⟩) (trivial)
theorem gF_parish_2 : am_okL κF_parish 2 [(54, 46, 0, 0, 0), (55, 19, 1, 9, 0), (58, 18, 6, 7, 0), (61, 0, 0, 0, 12), (63, 58, 4, 3, 0)] := am_o46 (Or.inl ⟨0, dX11_parish_54, rfl, rfl⟩) (am_o19 (⟨19, dX11_parish_55, rfl, k_RX11_19_gA⟩) (am_o18 (⟨117, dX11_parish_58, rfl, k_RX11_117_gI⟩) (am_o0 (Or.inr (Or.inl ⟨12, dX11_parish_61, cb_12, rfl⟩)) (am_o58 (⟨13, dX11_parish_63, rfl, rfl⟩) (trivial)))))
theorem gF_parish_3 : am_okL κF_parish 2 [(66, 77, 5, 0, 0)] := am_o77 (⟨120, 122, 124, 2, fit_at_124, fit_sup, wT_903, wT_145, by decide, rfl, rfl, at_124, dX11_parish_66, dX11_parish_69, Or.inl ⟨dX11_parish_70, dX11_parish_72, dX11_parish_75⟩⟩) (trivial)
theorem gF_parish_4 : am_okL κF_parish 2 [(76, 46, 0, 0, 0), (77, 19, 2, 9, 0), (80, 32, 0, 0, 0), (81, 18, 6, 7, 0), (84, 0, 0, 0, 1), (85, 4, 0, 0, 0), (86, 20, 6, 7, 0), (89, 46, 0, 0, 0), (90, 19, 1, 9, 0), (93, 46, 0, 0, 0), (94, 19, 2, 9, 0), (97, 67, 284, 1, 7), (100, 46, 0, 0, 0), (101, 19, 4, 9, 0), (104, 67, 283, 0, 6), (107, 46, 0, 0, 0), (108, 19, 1, 9, 0), (111, 18, 6, 7, 0), (114, 74, 0, 0, 0)] := am_o46 (Or.inl ⟨0, dX11_parish_76, rfl, rfl⟩) (am_o19 (⟨23, dX11_parish_77, rfl, k_RX11_23_gA⟩) (am_o32 (⟨dX11_parish_80, rfl⟩) (am_o18 (⟨117, dX11_parish_81, rfl, k_RX11_117_gI⟩) (am_o0 (Or.inl ⟨1, dX11_parish_84, ci_1, rfl⟩) (am_o4 (⟨dX11_parish_85, rfl⟩) (am_o20 (⟨117, dX11_parish_86, rfl, k_RX11_117_pI⟩) (am_o46 (Or.inl ⟨0, dX11_parish_89, rfl, rfl⟩) (am_o19 (⟨19, dX11_parish_90, rfl, k_RX11_19_gA⟩) (am_o46 (Or.inl ⟨0, dX11_parish_93, rfl, rfl⟩) (am_o19 (⟨23, dX11_parish_94, rfl, k_RX11_23_gA⟩) (am_o67 (⟨⟨cal_284, by decide, ⟨_, rfl, rfl⟩, 103, dX11_parish_97, rfl, lV_RX11_103.1, lV_RX11_103.2.1, lV_RX11_103.2.2.1, lV_RX11_103.2.2.2⟩, nl_284⟩) (am_o46 (Or.inl ⟨0, dX11_parish_100, rfl, rfl⟩) (am_o19 (⟨32, dX11_parish_101, rfl, k_RX11_32_gA⟩) (am_o67 (⟨⟨cal_283, by decide, ⟨_, rfl, rfl⟩, 125, dX11_parish_104, rfl, lV_RX11_125.1, lV_RX11_125.2.1, lV_RX11_125.2.2.1, lV_RX11_125.2.2.2⟩, nl_283⟩) (am_o46 (Or.inl ⟨0, dX11_parish_107, rfl, rfl⟩) (am_o19 (⟨19, dX11_parish_108, rfl, k_RX11_19_gA⟩) (am_o18 (⟨117, dX11_parish_111, rfl, k_RX11_117_gI⟩) (am_o74 (⟨dX11_parish_114, rfl⟩) (trivial)))))))))))))))))))
theorem GF_parish : am_okM qF_parish := am_okM_of (κ := κF_parish) (bl := pF_parish) (Prod.ext rfl (Prod.ext rfl (Prod.ext zF_parish rfl))) zF_parish (List.forall_mem_cons.mpr ⟨gF_parish_0, List.forall_mem_cons.mpr ⟨gF_parish_1, List.forall_mem_cons.mpr ⟨gF_parish_2, List.forall_mem_cons.mpr ⟨gF_parish_3, List.forall_mem_cons.mpr ⟨gF_parish_4, fun _ h => absurd h List.not_mem_nil⟩⟩⟩⟩⟩)
theorem gF_law_0 : am_okL κF_law 3 [(0, 46, 0, 0, 0), (1, 19, 6, 9, 0), (4, 67, 248, 0, 2), (7, 46, 0, 0, 0), (8, 46, 0, 0, 0), (9, 19, 9, 9, 0), (12, 46, 0, 0, 0), (13, 19, 0, 9, 0), (16, 0, 0, 0, 12), (18, 68, 311, 2, 3), (21, 20, 14, 9, 0), (24, 46, 0, 0, 0), (25, 19, 0, 9, 0), (28, 0, 0, 0, 0), (29, 20, 1, 8, 0), (32, 46, 0, 0, 0), (33, 18, 14, 9, 0), (36, 0, 0, 0, (-1)), (37, 56, 2, 1, 0)] := am_o46 (Or.inl ⟨0, dX11_law_0, rfl, rfl⟩) (am_o19 (⟨43, dX11_law_1, rfl, k_RX11_43_gA⟩) (am_o67 (⟨⟨cal_248, by decide, ⟨_, rfl, rfl⟩, 128, dX11_law_4, rfl, lV_RX11_128.1, lV_RX11_128.2.1, lV_RX11_128.2.2.1, lV_RX11_128.2.2.2⟩, nl_248⟩) (am_o46 (Or.inl ⟨0, dX11_law_7, rfl, rfl⟩) (am_o46 (Or.inl ⟨0, dX11_law_8, rfl, rfl⟩) (am_o19 (⟨63, dX11_law_9, rfl, k_RX11_63_gA⟩) (am_o46 (Or.inl ⟨0, dX11_law_12, rfl, rfl⟩) (am_o19 (⟨10, dX11_law_13, rfl, k_RX11_10_gA⟩) (am_o0 (Or.inr (Or.inl ⟨12, dX11_law_16, cb_12, rfl⟩)) (am_o68 (am_kk1 (b := 3) rfl (by decide) ⟨⟨cal_311, by decide, _, ⟨"ShutFists$LawText", "read", "(LShutFists$Tape;I)I"⟩, "ShutFists$Text", 131, rfl, rfl, dX11_law_18, rfl, lU_RX11_131_3.1, lU_RX11_131_3.2.1, lU_RX11_131_3.2.2.1, lU_RX11_131_3.2.2.2.1, lU_RX11_131_3.2.2.2.2⟩, nl_311⟩) (am_o20 (⟨92, dX11_law_21, rfl, k_RX11_92_pI⟩) (am_o46 (Or.inl ⟨0, dX11_law_24, rfl, rfl⟩) (am_o19 (⟨10, dX11_law_25, rfl, k_RX11_10_gA⟩) (am_o0 (Or.inl ⟨0, dX11_law_28, ci_0, rfl⟩) (am_o20 (⟨96, dX11_law_29, rfl, k_RX11_96_pI⟩) (am_o46 (Or.inl ⟨0, dX11_law_32, rfl, rfl⟩) (am_o18 (⟨92, dX11_law_33, rfl, k_RX11_92_gI⟩) (am_o0 (Or.inl ⟨-1, dX11_law_36, ci_m1, rfl⟩) (am_o56 (⟨13, dX11_law_37, rfl, rfl⟩) (trivial)))))))))))))))))))
theorem gF_law_1 : am_okL κF_law 3 [(40, 77, 1, 0, 0)] := am_o77 (⟨110, 132, 114, 3, fit_at_114, fit_sup, wT_833, wT_144, by decide, rfl, rfl, at_114, dX11_law_40, dX11_law_43, Or.inl ⟨dX11_law_44, dX11_law_46, dX11_law_49⟩⟩) (trivial)
theorem gF_law_2 : am_okL κF_law 3 [(50, 46, 0, 0, 0), (51, 19, 5, 9, 0), (54, 46, 0, 0, 0), (55, 19, 6, 9, 0), (58, 67, 247, 1, 2), (61, 46, 0, 0, 0), (62, 19, 4, 9, 0), (65, 67, 283, 0, 6), (68, 46, 0, 0, 0), (69, 19, 5, 9, 0), (72, 18, 6, 2, 0), (75, 74, 0, 0, 0)] := am_o46 (Or.inl ⟨0, dX11_law_50, rfl, rfl⟩) (am_o19 (⟨39, dX11_law_51, rfl, k_RX11_39_gA⟩) (am_o46 (Or.inl ⟨0, dX11_law_54, rfl, rfl⟩) (am_o19 (⟨43, dX11_law_55, rfl, k_RX11_43_gA⟩) (am_o67 (⟨⟨cal_247, by decide, ⟨_, rfl, rfl⟩, 134, dX11_law_58, rfl, lV_RX11_134.1, lV_RX11_134.2.1, lV_RX11_134.2.2.1, lV_RX11_134.2.2.2⟩, nl_247⟩) (am_o46 (Or.inl ⟨0, dX11_law_61, rfl, rfl⟩) (am_o19 (⟨32, dX11_law_62, rfl, k_RX11_32_gA⟩) (am_o67 (⟨⟨cal_283, by decide, ⟨_, rfl, rfl⟩, 125, dX11_law_65, rfl, lV_RX11_125.1, lV_RX11_125.2.1, lV_RX11_125.2.2.1, lV_RX11_125.2.2.2⟩, nl_283⟩) (am_o46 (Or.inl ⟨0, dX11_law_68, rfl, rfl⟩) (am_o19 (⟨39, dX11_law_69, rfl, k_RX11_39_gA⟩) (am_o18 (⟨136, dX11_law_72, rfl, k_RX11_136_gI⟩) (am_o74 (⟨dX11_law_75, rfl⟩) (trivial))))))))))))
theorem GF_law : am_okM qF_law := am_okM_of (κ := κF_law) (bl := pF_law) (Prod.ext rfl (Prod.ext rfl (Prod.ext zF_law rfl))) zF_law (List.forall_mem_cons.mpr ⟨gF_law_0, List.forall_mem_cons.mpr ⟨gF_law_1, List.forall_mem_cons.mpr ⟨gF_law_2, fun _ h => absurd h List.not_mem_nil⟩⟩⟩)
theorem gF_fault_0 : am_okL κF_fault 4 [(0, 46, 0, 0, 0), (1, 18, 14, 9, 0), (4, 74, 0, 0, 0)] := am_o46 (Or.inl ⟨0, dX11_fault_0, rfl, rfl⟩) (am_o18 (⟨92, dX11_fault_1, rfl, k_RX11_92_gI⟩) (am_o74 (⟨dX11_fault_4, rfl⟩) (trivial)))
theorem GF_fault : am_okM qF_fault := am_okM_of (κ := κF_fault) (bl := pF_fault) (Prod.ext rfl (Prod.ext rfl (Prod.ext zF_fault rfl))) zF_fault (List.forall_mem_cons.mpr ⟨gF_fault_0, fun _ h => absurd h List.not_mem_nil⟩)
theorem gF_thing_0 : am_okL κF_thing 5 [(0, 1, 1, 0, 0), (1, 65, 56, 1, 0), (4, 1, 2, 0, 0), (5, 52, 2, 1, 0)] := am_o1 (Or.inl ⟨1, dX11_thing_0, rfl, rfl⟩) (am_o65 (⟨⟨cal_56, 139, dX11_thing_1, rfl, lS_RX11_139.1, lS_RX11_139.2.1, lS_RX11_139.2.2⟩, nl_56⟩) (am_o1 (Or.inl ⟨2, dX11_thing_4, rfl, rfl⟩) (am_o52 (⟨8, dX11_thing_5, rfl, rfl⟩) (trivial))))
theorem gF_thing_1 : am_okL κF_thing 5 [(8, 1, 2, 0, 0), (9, 0, 0, 0, 4), (10, 61, 3, 2, 0)] := am_o1 (Or.inl ⟨2, dX11_thing_8, rfl, rfl⟩) (am_o0 (Or.inl ⟨4, dX11_thing_9, ci_4, rfl⟩) (am_o61 (⟨13, dX11_thing_10, rfl, rfl⟩) (trivial)))
theorem gF_thing_2 : am_okL κF_thing 5 [(13, 77, 4, 0, 0)] := am_o77 (⟨142, 144, 146, 5, fit_at_146, fit_sup, wT_962, wT_147, by decide, rfl, rfl, at_146, dX11_thing_13, dX11_thing_16, Or.inl ⟨dX11_thing_17, dX11_thing_19, dX11_thing_22⟩⟩) (trivial)
theorem gF_thing_3 : am_okL κF_thing 5 [(23, 1, 2, 0, 0), (24, 0, 0, 0, 4), (25, 57, 5, 4, 0)] := am_o1 (Or.inl ⟨2, dX11_thing_23, rfl, rfl⟩) (am_o0 (Or.inl ⟨4, dX11_thing_24, ci_4, rfl⟩) (am_o57 (⟨14, dX11_thing_25, rfl, rfl⟩) (trivial)))
theorem gF_thing_4 : am_okL κF_thing 5 [(28, 46, 0, 0, 0), (29, 19, 1, 9, 0), (32, 1, 1, 0, 0), (33, 66, 303, 1, 7), (36, 71, 6, 0, 0)] := am_o46 (Or.inl ⟨0, dX11_thing_28, rfl, rfl⟩) (am_o19 (⟨19, dX11_thing_29, rfl, k_RX11_19_gA⟩) (am_o1 (Or.inl ⟨1, dX11_thing_32, rfl, rfl⟩) (am_o66 (⟨⟨cal_303, by decide, ⟨_, rfl, rfl⟩, 147, dX11_thing_33, rfl, lV_RX11_147.1, lV_RX11_147.2.1, lV_RX11_147.2.2.1, lV_RX11_147.2.2.2⟩, nl_303⟩) (am_o71 (⟨14, dX11_thing_36, rfl⟩) (trivial)))))
theorem gF_thing_5 : am_okL κF_thing 5 [(39, 46, 0, 0, 0), (40, 19, 1, 9, 0), (43, 19, 0, 7, 0), (46, 1, 2, 0, 0), (47, 25, 0, 0, 0), (48, 1, 1, 0, 0), (49, 22, 0, 0, 0), (50, 72, 6, 0, 0)] := am_o46 (Or.inl ⟨0, dX11_thing_39, rfl, rfl⟩) (am_o19 (⟨19, dX11_thing_40, rfl, k_RX11_19_gA⟩) (am_o19 (⟨151, dX11_thing_43, rfl, k_RX11_151_gA⟩) (am_o1 (Or.inl ⟨2, dX11_thing_46, rfl, rfl⟩) (am_o25 (⟨dX11_thing_47, rfl⟩) (am_o1 (Or.inl ⟨1, dX11_thing_48, rfl, rfl⟩) (am_o22 (⟨dX11_thing_49, rfl⟩) (am_o72 (rfl) (trivial))))))))
theorem gF_thing_6 : am_okL κF_thing 5 [(50, 74, 0, 0, 0)] := am_o74 (⟨dX11_thing_50, rfl⟩) (trivial)
theorem GF_thing : am_okM qF_thing := am_okM_of (κ := κF_thing) (bl := pF_thing) (Prod.ext rfl (Prod.ext rfl (Prod.ext zF_thing rfl))) zF_thing (List.forall_mem_cons.mpr ⟨gF_thing_0, List.forall_mem_cons.mpr ⟨gF_thing_1, List.forall_mem_cons.mpr ⟨gF_thing_2, List.forall_mem_cons.mpr ⟨gF_thing_3, List.forall_mem_cons.mpr ⟨gF_thing_4, List.forall_mem_cons.mpr ⟨gF_thing_5, List.forall_mem_cons.mpr ⟨gF_thing_6, fun _ h => absurd h List.not_mem_nil⟩⟩⟩⟩⟩⟩⟩)
theorem gF_child_0 : am_okL κF_child 6 [(0, 46, 0, 0, 0), (1, 1, 1, 0, 0), (2, 67, 54, 1, 9), (5, 1, 2, 0, 0), (6, 52, 2, 1, 0)] := am_o46 (Or.inl ⟨0, dX11_child_0, rfl, rfl⟩) (am_o1 (Or.inl ⟨1, dX11_child_1, rfl, rfl⟩) (am_o67 (⟨⟨cal_54, by decide, ⟨_, rfl, rfl⟩, 155, dX11_child_2, rfl, lV_RX11_155.1, lV_RX11_155.2.1, lV_RX11_155.2.2.1, lV_RX11_155.2.2.2⟩, nl_54⟩) (am_o1 (Or.inl ⟨2, dX11_child_5, rfl, rfl⟩) (am_o52 (⟨9, dX11_child_6, rfl, rfl⟩) (trivial)))))
theorem gF_child_1 : am_okL κF_child 6 [(9, 1, 2, 0, 0), (10, 0, 0, 0, 11), (12, 61, 3, 2, 0)] := am_o1 (Or.inl ⟨2, dX11_child_9, rfl, rfl⟩) (am_o0 (Or.inr (Or.inl ⟨11, dX11_child_10, cb_11, rfl⟩)) (am_o61 (⟨13, dX11_child_12, rfl, rfl⟩) (trivial)))
theorem gF_child_2 : am_okL κF_child 6 [(15, 77, 4, 0, 0)] := am_o77 (⟨142, 158, 146, 7, fit_at_146, fit_sup, wT_962, wT_147, by decide, rfl, rfl, at_146, dX11_child_15, dX11_child_18, Or.inl ⟨dX11_child_19, dX11_child_21, dX11_child_24⟩⟩) (trivial)
theorem gF_child_3 : am_okL κF_child 6 [(25, 1, 2, 0, 0), (26, 73, 0, 7, 0)] := am_o1 (Or.inl ⟨2, dX11_child_25, rfl, rfl⟩) (am_o73 (Or.inl ⟨61, 9, 11, #[26, 39, 52], 26, dX11_child_26, rfl, rfl, am_sTc rfl rfl (am_sTc rfl rfl (am_sTc rfl rfl (trivial)))⟩) (trivial))
theorem gF_child_4 : am_okL κF_child 6 [(52, 46, 0, 0, 0), (53, 19, 5, 9, 0), (56, 46, 0, 0, 0), (57, 19, 1, 9, 0), (60, 1, 1, 0, 0), (61, 66, 251, 2, 2), (64, 74, 0, 0, 0)] := am_o46 (Or.inl ⟨0, dX11_child_52, rfl, rfl⟩) (am_o19 (⟨39, dX11_child_53, rfl, k_RX11_39_gA⟩) (am_o46 (Or.inl ⟨0, dX11_child_56, rfl, rfl⟩) (am_o19 (⟨19, dX11_child_57, rfl, k_RX11_19_gA⟩) (am_o1 (Or.inl ⟨1, dX11_child_60, rfl, rfl⟩) (am_o66 (⟨⟨cal_251, by decide, ⟨_, rfl, rfl⟩, 160, dX11_child_61, rfl, lV_RX11_160.1, lV_RX11_160.2.1, lV_RX11_160.2.2.1, lV_RX11_160.2.2.2⟩, nl_251⟩) (am_o74 (⟨dX11_child_64, rfl⟩) (trivial)))))))
theorem gF_child_5 : am_okL κF_child 6 [(65, 46, 0, 0, 0), (66, 19, 5, 9, 0), (69, 46, 0, 0, 0), (70, 19, 1, 9, 0), (73, 1, 1, 0, 0), (74, 66, 252, 2, 2), (77, 74, 0, 0, 0)] := am_o46 (Or.inl ⟨0, dX11_child_65, rfl, rfl⟩) (am_o19 (⟨39, dX11_child_66, rfl, k_RX11_39_gA⟩) (am_o46 (Or.inl ⟨0, dX11_child_69, rfl, rfl⟩) (am_o19 (⟨19, dX11_child_70, rfl, k_RX11_19_gA⟩) (am_o1 (Or.inl ⟨1, dX11_child_73, rfl, rfl⟩) (am_o66 (⟨⟨cal_252, by decide, ⟨_, rfl, rfl⟩, 164, dX11_child_74, rfl, lV_RX11_164.1, lV_RX11_164.2.1, lV_RX11_164.2.2.1, lV_RX11_164.2.2.2⟩, nl_252⟩) (am_o74 (⟨dX11_child_77, rfl⟩) (trivial)))))))
theorem gF_child_6 : am_okL κF_child 6 [(78, 46, 0, 0, 0), (79, 19, 1, 9, 0), (82, 1, 1, 0, 0), (83, 66, 304, 1, 7), (86, 74, 0, 0, 0)] := am_o46 (Or.inl ⟨0, dX11_child_78, rfl, rfl⟩) (am_o19 (⟨19, dX11_child_79, rfl, k_RX11_19_gA⟩) (am_o1 (Or.inl ⟨1, dX11_child_82, rfl, rfl⟩) (am_o66 (⟨⟨cal_304, by decide, ⟨_, rfl, rfl⟩, 167, dX11_child_83, rfl, lV_RX11_167.1, lV_RX11_167.2.1, lV_RX11_167.2.2.1, lV_RX11_167.2.2.2⟩, nl_304⟩) (am_o74 (⟨dX11_child_86, rfl⟩) (trivial)))))
theorem gF_child_7 : am_okL κF_child 6 [(87, 46, 0, 0, 0), (88, 19, 1, 9, 0), (91, 19, 1, 7, 0), (94, 1, 2, 0, 0), (95, 25, 0, 0, 0), (96, 1, 1, 0, 0), (97, 22, 0, 0, 0), (98, 74, 0, 0, 0)] := am_o46 (Or.inl ⟨0, dX11_child_87, rfl, rfl⟩) (am_o19 (⟨19, dX11_child_88, rfl, k_RX11_19_gA⟩) (am_o19 (⟨170, dX11_child_91, rfl, k_RX11_170_gA⟩) (am_o1 (Or.inl ⟨2, dX11_child_94, rfl, rfl⟩) (am_o25 (⟨dX11_child_95, rfl⟩) (am_o1 (Or.inl ⟨1, dX11_child_96, rfl, rfl⟩) (am_o22 (⟨dX11_child_97, rfl⟩) (am_o74 (⟨dX11_child_98, rfl⟩) (trivial))))))))
theorem GF_child : am_okM qF_child := am_okM_of (κ := κF_child) (bl := pF_child) (Prod.ext rfl (Prod.ext rfl (Prod.ext zF_child rfl))) zF_child (List.forall_mem_cons.mpr ⟨gF_child_0, List.forall_mem_cons.mpr ⟨gF_child_1, List.forall_mem_cons.mpr ⟨gF_child_2, List.forall_mem_cons.mpr ⟨gF_child_3, List.forall_mem_cons.mpr ⟨gF_child_4, List.forall_mem_cons.mpr ⟨gF_child_5, List.forall_mem_cons.mpr ⟨gF_child_6, List.forall_mem_cons.mpr ⟨gF_child_7, fun _ h => absurd h List.not_mem_nil⟩⟩⟩⟩⟩⟩⟩⟩)
theorem gF_months_0 : am_okL κF_months 7 [(0, 1, 1, 0, 0), (1, 0, 0, 0, 1), (2, 58, 2, 1, 0)] := am_o1 (Or.inl ⟨1, dX11_months_0, rfl, rfl⟩) (am_o0 (Or.inl ⟨1, dX11_months_1, ci_1, rfl⟩) (am_o58 (⟨9, dX11_months_2, rfl, rfl⟩) (trivial)))
theorem gF_months_1 : am_okL κF_months 7 [(5, 1, 1, 0, 0), (6, 0, 0, 0, 120), (8, 61, 3, 2, 0)] := am_o1 (Or.inl ⟨1, dX11_months_5, rfl, rfl⟩) (am_o0 (Or.inr (Or.inl ⟨120, dX11_months_6, cb_120, rfl⟩)) (am_o61 (⟨13, dX11_months_8, rfl, rfl⟩) (trivial)))
theorem gF_months_2 : am_okL κF_months 7 [(11, 77, 1, 0, 0)] := am_o77 (⟨110, 173, 114, 8, fit_at_114, fit_sup, wT_833, wT_144, by decide, rfl, rfl, at_114, dX11_months_11, dX11_months_14, Or.inl ⟨dX11_months_15, dX11_months_17, dX11_months_20⟩⟩) (trivial)
theorem gF_months_3 : am_okL κF_months 7 [(21, 46, 0, 0, 0), (22, 19, 4, 9, 0), (25, 46, 0, 0, 0), (26, 19, 1, 9, 0), (29, 67, 281, 1, 6), (32, 0, 0, 0, 0), (33, 2, 2, 0, 0), (34, 0, 0, 0, 0), (35, 2, 3, 0, 0), (36, 72, 4, 0, 0)] := am_o46 (Or.inl ⟨0, dX11_months_21, rfl, rfl⟩) (am_o19 (⟨32, dX11_months_22, rfl, k_RX11_32_gA⟩) (am_o46 (Or.inl ⟨0, dX11_months_25, rfl, rfl⟩) (am_o19 (⟨19, dX11_months_26, rfl, k_RX11_19_gA⟩) (am_o67 (⟨⟨cal_281, by decide, ⟨_, rfl, rfl⟩, 175, dX11_months_29, rfl, lV_RX11_175.1, lV_RX11_175.2.1, lV_RX11_175.2.2.1, lV_RX11_175.2.2.2⟩, nl_281⟩) (am_o0 (Or.inl ⟨0, dX11_months_32, ci_0, rfl⟩) (am_o2 (Or.inl ⟨2, dX11_months_33, rfl, rfl⟩) (am_o0 (Or.inl ⟨0, dX11_months_34, ci_0, rfl⟩) (am_o2 (Or.inl ⟨3, dX11_months_35, rfl, rfl⟩) (am_o72 (rfl) (trivial))))))))))
theorem gF_months_4 : am_okL κF_months 7 [(36, 1, 3, 0, 0), (37, 1, 1, 0, 0), (38, 59, 6, 5, 0)] := am_o1 (Or.inl ⟨3, dX11_months_36, rfl, rfl⟩) (am_o1 (Or.inl ⟨1, dX11_months_37, rfl, rfl⟩) (am_o59 (⟨24, dX11_months_38, rfl, rfl⟩) (trivial)))
theorem gF_months_5 : am_okL κF_months 7 [(41, 1, 2, 0, 0), (42, 46, 0, 0, 0), (43, 19, 1, 9, 0), (46, 46, 0, 0, 0), (47, 19, 5, 9, 0), (50, 0, 0, 0, 1), (51, 66, 289, 2, 7), (54, 4, 0, 0, 0), (55, 2, 2, 0, 0), (56, 3, 3, 0, 1), (59, 71, 4, 0, 0)] := am_o1 (Or.inl ⟨2, dX11_months_41, rfl, rfl⟩) (am_o46 (Or.inl ⟨0, dX11_months_42, rfl, rfl⟩) (am_o19 (⟨19, dX11_months_43, rfl, k_RX11_19_gA⟩) (am_o46 (Or.inl ⟨0, dX11_months_46, rfl, rfl⟩) (am_o19 (⟨39, dX11_months_47, rfl, k_RX11_39_gA⟩) (am_o0 (Or.inl ⟨1, dX11_months_50, ci_1, rfl⟩) (am_o66 (⟨⟨cal_289, by decide, ⟨_, rfl, rfl⟩, 178, dX11_months_51, rfl, lV_RX11_178.1, lV_RX11_178.2.1, lV_RX11_178.2.2.1, lV_RX11_178.2.2.2⟩, nl_289⟩) (am_o4 (⟨dX11_months_54, rfl⟩) (am_o2 (Or.inl ⟨2, dX11_months_55, rfl, rfl⟩) (am_o3 (⟨1, dX11_months_56, ci_1, rfl⟩) (am_o71 (⟨(-23), dX11_months_59, rfl⟩) (trivial)))))))))))
theorem gF_months_6 : am_okL κF_months 7 [(62, 1, 2, 0, 0), (63, 74, 0, 0, 0)] := am_o1 (Or.inl ⟨2, dX11_months_62, rfl, rfl⟩) (am_o74 (⟨dX11_months_63, rfl⟩) (trivial))
theorem GF_months : am_okM qF_months := am_okM_of (κ := κF_months) (bl := pF_months) (Prod.ext rfl (Prod.ext rfl (Prod.ext zF_months rfl))) zF_months (List.forall_mem_cons.mpr ⟨gF_months_0, List.forall_mem_cons.mpr ⟨gF_months_1, List.forall_mem_cons.mpr ⟨gF_months_2, List.forall_mem_cons.mpr ⟨gF_months_3, List.forall_mem_cons.mpr ⟨gF_months_4, List.forall_mem_cons.mpr ⟨gF_months_5, List.forall_mem_cons.mpr ⟨gF_months_6, fun _ h => absurd h List.not_mem_nil⟩⟩⟩⟩⟩⟩⟩)
theorem gF_birth_0 : am_okL κF_birth 8 [(0, 46, 0, 0, 0), (1, 19, 1, 9, 0), (4, 18, 3, 7, 0), (7, 0, 0, 0, 8), (9, 58, 2, 1, 0)] := am_o46 (Or.inl ⟨0, dX11_birth_0, rfl, rfl⟩) (am_o19 (⟨19, dX11_birth_1, rfl, k_RX11_19_gA⟩) (am_o18 (⟨182, dX11_birth_4, rfl, k_RX11_182_gI⟩) (am_o0 (Or.inr (Or.inl ⟨8, dX11_birth_7, cb_8, rfl⟩)) (am_o58 (⟨13, dX11_birth_9, rfl, rfl⟩) (trivial)))))
theorem gF_birth_1 : am_okL κF_birth 8 [(12, 77, 2, 0, 0)] := am_o77 (⟨185, 187, 189, 9, fit_at_189, fit_sup, wT_1023, wT_149, by decide, rfl, rfl, at_189, dX11_birth_12, dX11_birth_15, Or.inl ⟨dX11_birth_16, dX11_birth_18, dX11_birth_21⟩⟩) (trivial)
theorem gF_birth_2 : am_okL κF_birth 8 [(22, 46, 0, 0, 0), (23, 19, 4, 9, 0), (26, 46, 0, 0, 0), (27, 19, 1, 9, 0), (30, 67, 281, 1, 6), (33, 46, 0, 0, 0), (34, 19, 1, 9, 0), (37, 46, 0, 0, 0), (38, 19, 1, 9, 0), (41, 66, 288, 0, 7), (44, 66, 286, 1, 7), (47, 74, 0, 0, 0)] := am_o46 (Or.inl ⟨0, dX11_birth_22, rfl, rfl⟩) (am_o19 (⟨32, dX11_birth_23, rfl, k_RX11_32_gA⟩) (am_o46 (Or.inl ⟨0, dX11_birth_26, rfl, rfl⟩) (am_o19 (⟨19, dX11_birth_27, rfl, k_RX11_19_gA⟩) (am_o67 (⟨⟨cal_281, by decide, ⟨_, rfl, rfl⟩, 175, dX11_birth_30, rfl, lV_RX11_175.1, lV_RX11_175.2.1, lV_RX11_175.2.2.1, lV_RX11_175.2.2.2⟩, nl_281⟩) (am_o46 (Or.inl ⟨0, dX11_birth_33, rfl, rfl⟩) (am_o19 (⟨19, dX11_birth_34, rfl, k_RX11_19_gA⟩) (am_o46 (Or.inl ⟨0, dX11_birth_37, rfl, rfl⟩) (am_o19 (⟨19, dX11_birth_38, rfl, k_RX11_19_gA⟩) (am_o66 (⟨⟨cal_288, by decide, ⟨_, rfl, rfl⟩, 190, dX11_birth_41, rfl, lV_RX11_190.1, lV_RX11_190.2.1, lV_RX11_190.2.2.1, lV_RX11_190.2.2.2⟩, nl_288⟩) (am_o66 (⟨⟨cal_286, by decide, ⟨_, rfl, rfl⟩, 194, dX11_birth_44, rfl, lV_RX11_194.1, lV_RX11_194.2.1, lV_RX11_194.2.2.1, lV_RX11_194.2.2.2⟩, nl_286⟩) (am_o74 (⟨dX11_birth_47, rfl⟩) (trivial))))))))))))
theorem GF_birth : am_okM qF_birth := am_okM_of (κ := κF_birth) (bl := pF_birth) (Prod.ext rfl (Prod.ext rfl (Prod.ext zF_birth rfl))) zF_birth (List.forall_mem_cons.mpr ⟨gF_birth_0, List.forall_mem_cons.mpr ⟨gF_birth_1, List.forall_mem_cons.mpr ⟨gF_birth_2, fun _ h => absurd h List.not_mem_nil⟩⟩⟩)
theorem gF_move_0 : am_okL κF_move 9 [(0, 46, 0, 0, 0), (1, 1, 1, 0, 0), (2, 67, 54, 1, 9), (5, 1, 2, 0, 0), (6, 52, 2, 1, 0)] := am_o46 (Or.inl ⟨0, dX11_move_0, rfl, rfl⟩) (am_o1 (Or.inl ⟨1, dX11_move_1, rfl, rfl⟩) (am_o67 (⟨⟨cal_54, by decide, ⟨_, rfl, rfl⟩, 155, dX11_move_2, rfl, lV_RX11_155.1, lV_RX11_155.2.1, lV_RX11_155.2.2.1, lV_RX11_155.2.2.2⟩, nl_54⟩) (am_o1 (Or.inl ⟨2, dX11_move_5, rfl, rfl⟩) (am_o52 (⟨8, dX11_move_6, rfl, rfl⟩) (trivial)))))
theorem gF_move_1 : am_okL κF_move 9 [(9, 1, 2, 0, 0), (10, 0, 0, 0, 5), (11, 58, 3, 2, 0)] := am_o1 (Or.inl ⟨2, dX11_move_9, rfl, rfl⟩) (am_o0 (Or.inl ⟨5, dX11_move_10, ci_5, rfl⟩) (am_o58 (⟨13, dX11_move_11, rfl, rfl⟩) (trivial)))
theorem gF_move_2 : am_okL κF_move 9 [(14, 77, 3, 0, 0)] := am_o77 (⟨197, 199, 201, 10, fit_at_201, fit_sup, wT_946, wT_146, by decide, rfl, rfl, at_201, dX11_move_14, dX11_move_17, Or.inl ⟨dX11_move_18, dX11_move_20, dX11_move_23⟩⟩) (trivial)
theorem gF_move_3 : am_okL κF_move 9 [(24, 46, 0, 0, 0), (25, 19, 1, 9, 0), (28, 1, 1, 0, 0), (29, 1, 2, 0, 0), (30, 66, 292, 2, 7), (33, 51, 5, 4, 0)] := am_o46 (Or.inl ⟨0, dX11_move_24, rfl, rfl⟩) (am_o19 (⟨19, dX11_move_25, rfl, k_RX11_19_gA⟩) (am_o1 (Or.inl ⟨1, dX11_move_28, rfl, rfl⟩) (am_o1 (Or.inl ⟨2, dX11_move_29, rfl, rfl⟩) (am_o66 (⟨⟨cal_292, by decide, ⟨_, rfl, rfl⟩, 202, dX11_move_30, rfl, lV_RX11_202.1, lV_RX11_202.2.1, lV_RX11_202.2.2.1, lV_RX11_202.2.2.2⟩, nl_292⟩) (am_o51 (⟨13, dX11_move_33, rfl, rfl⟩) (trivial))))))
theorem gF_move_4 : am_okL κF_move 9 [(36, 77, 2, 0, 0)] := am_o77 (⟨185, 206, 189, 11, fit_at_189, fit_sup, wT_1023, wT_149, by decide, rfl, rfl, at_189, dX11_move_36, dX11_move_39, Or.inl ⟨dX11_move_40, dX11_move_42, dX11_move_45⟩⟩) (trivial)
theorem gF_move_5 : am_okL κF_move 9 [(46, 46, 0, 0, 0), (47, 19, 4, 9, 0), (50, 46, 0, 0, 0), (51, 19, 1, 9, 0), (54, 67, 281, 1, 6), (57, 46, 0, 0, 0), (58, 19, 1, 9, 0), (61, 1, 1, 0, 0), (62, 1, 2, 0, 0), (63, 46, 0, 0, 0), (64, 19, 5, 9, 0), (67, 67, 293, 3, 7), (70, 46, 0, 0, 0), (71, 19, 1, 9, 0), (74, 19, 1, 7, 0), (77, 0, 0, 0, 2), (78, 25, 0, 0, 0), (79, 1, 1, 0, 0), (80, 22, 0, 0, 0), (81, 74, 0, 0, 0)] := am_o46 (Or.inl ⟨0, dX11_move_46, rfl, rfl⟩) (am_o19 (⟨32, dX11_move_47, rfl, k_RX11_32_gA⟩) (am_o46 (Or.inl ⟨0, dX11_move_50, rfl, rfl⟩) (am_o19 (⟨19, dX11_move_51, rfl, k_RX11_19_gA⟩) (am_o67 (⟨⟨cal_281, by decide, ⟨_, rfl, rfl⟩, 175, dX11_move_54, rfl, lV_RX11_175.1, lV_RX11_175.2.1, lV_RX11_175.2.2.1, lV_RX11_175.2.2.2⟩, nl_281⟩) (am_o46 (Or.inl ⟨0, dX11_move_57, rfl, rfl⟩) (am_o19 (⟨19, dX11_move_58, rfl, k_RX11_19_gA⟩) (am_o1 (Or.inl ⟨1, dX11_move_61, rfl, rfl⟩) (am_o1 (Or.inl ⟨2, dX11_move_62, rfl, rfl⟩) (am_o46 (Or.inl ⟨0, dX11_move_63, rfl, rfl⟩) (am_o19 (⟨39, dX11_move_64, rfl, k_RX11_39_gA⟩) (am_o67 (⟨⟨cal_293, by decide, ⟨_, rfl, rfl⟩, 208, dX11_move_67, rfl, lV_RX11_208.1, lV_RX11_208.2.1, lV_RX11_208.2.2.1, lV_RX11_208.2.2.2⟩, nl_293⟩) (am_o46 (Or.inl ⟨0, dX11_move_70, rfl, rfl⟩) (am_o19 (⟨19, dX11_move_71, rfl, k_RX11_19_gA⟩) (am_o19 (⟨170, dX11_move_74, rfl, k_RX11_170_gA⟩) (am_o0 (Or.inl ⟨2, dX11_move_77, ci_2, rfl⟩) (am_o25 (⟨dX11_move_78, rfl⟩) (am_o1 (Or.inl ⟨1, dX11_move_79, rfl, rfl⟩) (am_o22 (⟨dX11_move_80, rfl⟩) (am_o74 (⟨dX11_move_81, rfl⟩) (trivial))))))))))))))))))))
theorem GF_move : am_okM qF_move := am_okM_of (κ := κF_move) (bl := pF_move) (Prod.ext rfl (Prod.ext rfl (Prod.ext zF_move rfl))) zF_move (List.forall_mem_cons.mpr ⟨gF_move_0, List.forall_mem_cons.mpr ⟨gF_move_1, List.forall_mem_cons.mpr ⟨gF_move_2, List.forall_mem_cons.mpr ⟨gF_move_3, List.forall_mem_cons.mpr ⟨gF_move_4, List.forall_mem_cons.mpr ⟨gF_move_5, fun _ h => absurd h List.not_mem_nil⟩⟩⟩⟩⟩⟩)
theorem gF_blow_0 : am_okL κF_blow 10 [(0, 46, 0, 0, 0), (1, 1, 1, 0, 0), (2, 67, 54, 1, 9), (5, 46, 0, 0, 0), (6, 19, 1, 9, 0), (9, 19, 1, 7, 0), (12, 0, 0, 0, 5), (13, 25, 0, 0, 0), (14, 1, 1, 0, 0), (15, 22, 0, 0, 0), (16, 0, 0, 0, (-1)), (17, 57, 2, 1, 0)] := am_o46 (Or.inl ⟨0, dX11_blow_0, rfl, rfl⟩) (am_o1 (Or.inl ⟨1, dX11_blow_1, rfl, rfl⟩) (am_o67 (⟨⟨cal_54, by decide, ⟨_, rfl, rfl⟩, 155, dX11_blow_2, rfl, lV_RX11_155.1, lV_RX11_155.2.1, lV_RX11_155.2.2.1, lV_RX11_155.2.2.2⟩, nl_54⟩) (am_o46 (Or.inl ⟨0, dX11_blow_5, rfl, rfl⟩) (am_o19 (⟨19, dX11_blow_6, rfl, k_RX11_19_gA⟩) (am_o19 (⟨170, dX11_blow_9, rfl, k_RX11_170_gA⟩) (am_o0 (Or.inl ⟨5, dX11_blow_12, ci_5, rfl⟩) (am_o25 (⟨dX11_blow_13, rfl⟩) (am_o1 (Or.inl ⟨1, dX11_blow_14, rfl, rfl⟩) (am_o22 (⟨dX11_blow_15, rfl⟩) (am_o0 (Or.inl ⟨-1, dX11_blow_16, ci_m1, rfl⟩) (am_o57 (⟨13, dX11_blow_17, rfl, rfl⟩) (trivial))))))))))))
theorem gF_blow_1 : am_okL κF_blow 10 [(20, 77, 2, 0, 0)] := am_o77 (⟨185, 212, 189, 12, fit_at_189, fit_sup, wT_1023, wT_149, by decide, rfl, rfl, at_189, dX11_blow_20, dX11_blow_23, Or.inl ⟨dX11_blow_24, dX11_blow_26, dX11_blow_29⟩⟩) (trivial)
theorem gF_blow_2 : am_okL κF_blow 10 [(30, 46, 0, 0, 0), (31, 0, 0, 0, 5), (32, 1, 1, 0, 0), (33, 0, 0, 0, (-1)), (34, 66, 61, 3, 9), (37, 74, 0, 0, 0)] := am_o46 (Or.inl ⟨0, dX11_blow_30, rfl, rfl⟩) (am_o0 (Or.inl ⟨5, dX11_blow_31, ci_5, rfl⟩) (am_o1 (Or.inl ⟨1, dX11_blow_32, rfl, rfl⟩) (am_o0 (Or.inl ⟨-1, dX11_blow_33, ci_m1, rfl⟩) (am_o66 (⟨⟨cal_61, by decide, ⟨_, rfl, rfl⟩, 214, dX11_blow_34, rfl, lV_RX11_214.1, lV_RX11_214.2.1, lV_RX11_214.2.2.1, lV_RX11_214.2.2.2⟩, nl_61⟩) (am_o74 (⟨dX11_blow_37, rfl⟩) (trivial))))))
theorem GF_blow : am_okM qF_blow := am_okM_of (κ := κF_blow) (bl := pF_blow) (Prod.ext rfl (Prod.ext rfl (Prod.ext zF_blow rfl))) zF_blow (List.forall_mem_cons.mpr ⟨gF_blow_0, List.forall_mem_cons.mpr ⟨gF_blow_1, List.forall_mem_cons.mpr ⟨gF_blow_2, fun _ h => absurd h List.not_mem_nil⟩⟩⟩)
theorem gF_wish_0 : am_okL κF_wish 11 [(0, 46, 0, 0, 0), (1, 1, 1, 0, 0), (2, 67, 54, 1, 9), (5, 1, 2, 0, 0), (6, 0, 0, 0, (-1)), (7, 56, 2, 1, 0)] := am_o46 (Or.inl ⟨0, dX11_wish_0, rfl, rfl⟩) (am_o1 (Or.inl ⟨1, dX11_wish_1, rfl, rfl⟩) (am_o67 (⟨⟨cal_54, by decide, ⟨_, rfl, rfl⟩, 155, dX11_wish_2, rfl, lV_RX11_155.1, lV_RX11_155.2.1, lV_RX11_155.2.2.1, lV_RX11_155.2.2.2⟩, nl_54⟩) (am_o1 (Or.inl ⟨2, dX11_wish_5, rfl, rfl⟩) (am_o0 (Or.inl ⟨-1, dX11_wish_6, ci_m1, rfl⟩) (am_o56 (⟨7, dX11_wish_7, rfl, rfl⟩) (trivial))))))
theorem gF_wish_1 : am_okL κF_wish 11 [(10, 1, 2, 0, 0), (11, 65, 56, 1, 0), (14, 72, 2, 0, 0)] := am_o1 (Or.inl ⟨2, dX11_wish_10, rfl, rfl⟩) (am_o65 (⟨⟨cal_56, 139, dX11_wish_11, rfl, lS_RX11_139.1, lS_RX11_139.2.1, lS_RX11_139.2.2⟩, nl_56⟩) (am_o72 (rfl) (trivial)))
theorem gF_wish_2 : am_okL κF_wish 11 [(14, 46, 0, 0, 0), (15, 0, 0, 0, 4), (16, 1, 1, 0, 0), (17, 1, 2, 0, 0), (18, 66, 61, 3, 9), (21, 74, 0, 0, 0)] := am_o46 (Or.inl ⟨0, dX11_wish_14, rfl, rfl⟩) (am_o0 (Or.inl ⟨4, dX11_wish_15, ci_4, rfl⟩) (am_o1 (Or.inl ⟨1, dX11_wish_16, rfl, rfl⟩) (am_o1 (Or.inl ⟨2, dX11_wish_17, rfl, rfl⟩) (am_o66 (⟨⟨cal_61, by decide, ⟨_, rfl, rfl⟩, 214, dX11_wish_18, rfl, lV_RX11_214.1, lV_RX11_214.2.1, lV_RX11_214.2.2.1, lV_RX11_214.2.2.2⟩, nl_61⟩) (am_o74 (⟨dX11_wish_21, rfl⟩) (trivial))))))
theorem GF_wish : am_okM qF_wish := am_okM_of (κ := κF_wish) (bl := pF_wish) (Prod.ext rfl (Prod.ext rfl (Prod.ext zF_wish rfl))) zF_wish (List.forall_mem_cons.mpr ⟨gF_wish_0, List.forall_mem_cons.mpr ⟨gF_wish_1, List.forall_mem_cons.mpr ⟨gF_wish_2, fun _ h => absurd h List.not_mem_nil⟩⟩⟩)
theorem gF_grip_0 : am_okL κF_grip 12 [(0, 46, 0, 0, 0), (1, 1, 1, 0, 0), (2, 67, 54, 1, 9), (5, 1, 2, 0, 0), (6, 52, 2, 1, 0)] := am_o46 (Or.inl ⟨0, dX11_grip_0, rfl, rfl⟩) (am_o1 (Or.inl ⟨1, dX11_grip_1, rfl, rfl⟩) (am_o67 (⟨⟨cal_54, by decide, ⟨_, rfl, rfl⟩, 155, dX11_grip_2, rfl, lV_RX11_155.1, lV_RX11_155.2.1, lV_RX11_155.2.2.1, lV_RX11_155.2.2.2⟩, nl_54⟩) (am_o1 (Or.inl ⟨2, dX11_grip_5, rfl, rfl⟩) (am_o52 (⟨9, dX11_grip_6, rfl, rfl⟩) (trivial)))))
theorem gF_grip_1 : am_okL κF_grip 12 [(9, 1, 2, 0, 0), (10, 0, 0, 0, 9), (12, 61, 3, 2, 0)] := am_o1 (Or.inl ⟨2, dX11_grip_9, rfl, rfl⟩) (am_o0 (Or.inr (Or.inl ⟨9, dX11_grip_10, cb_9, rfl⟩)) (am_o61 (⟨13, dX11_grip_12, rfl, rfl⟩) (trivial)))
theorem gF_grip_2 : am_okL κF_grip 12 [(15, 77, 1, 0, 0)] := am_o77 (⟨110, 218, 114, 13, fit_at_114, fit_sup, wT_833, wT_144, by decide, rfl, rfl, at_114, dX11_grip_15, dX11_grip_18, Or.inl ⟨dX11_grip_19, dX11_grip_21, dX11_grip_24⟩⟩) (trivial)
theorem gF_grip_3 : am_okL κF_grip 12 [(25, 46, 0, 0, 0), (26, 0, 0, 0, 3), (27, 1, 1, 0, 0), (28, 1, 2, 0, 0), (29, 66, 61, 3, 9), (32, 74, 0, 0, 0)] := am_o46 (Or.inl ⟨0, dX11_grip_25, rfl, rfl⟩) (am_o0 (Or.inl ⟨3, dX11_grip_26, ci_3, rfl⟩) (am_o1 (Or.inl ⟨1, dX11_grip_27, rfl, rfl⟩) (am_o1 (Or.inl ⟨2, dX11_grip_28, rfl, rfl⟩) (am_o66 (⟨⟨cal_61, by decide, ⟨_, rfl, rfl⟩, 214, dX11_grip_29, rfl, lV_RX11_214.1, lV_RX11_214.2.1, lV_RX11_214.2.2.1, lV_RX11_214.2.2.2⟩, nl_61⟩) (am_o74 (⟨dX11_grip_32, rfl⟩) (trivial))))))
theorem GF_grip : am_okM qF_grip := am_okM_of (κ := κF_grip) (bl := pF_grip) (Prod.ext rfl (Prod.ext rfl (Prod.ext zF_grip rfl))) zF_grip (List.forall_mem_cons.mpr ⟨gF_grip_0, List.forall_mem_cons.mpr ⟨gF_grip_1, List.forall_mem_cons.mpr ⟨gF_grip_2, List.forall_mem_cons.mpr ⟨gF_grip_3, fun _ h => absurd h List.not_mem_nil⟩⟩⟩⟩)
theorem gF_change_0 : am_okL κF_change 13 [(0, 46, 0, 0, 0), (1, 1, 1, 0, 0), (2, 1, 2, 0, 0), (3, 67, 55, 2, 9), (6, 46, 0, 0, 0), (7, 19, 1, 9, 0), (10, 19, 1, 7, 0), (13, 0, 0, 0, 7), (15, 25, 0, 0, 0), (16, 1, 1, 0, 0), (17, 22, 0, 0, 0), (18, 50, 2, 1, 0)] := am_o46 (Or.inl ⟨0, dX11_change_0, rfl, rfl⟩) (am_o1 (Or.inl ⟨1, dX11_change_1, rfl, rfl⟩) (am_o1 (Or.inl ⟨2, dX11_change_2, rfl, rfl⟩) (am_o67 (⟨⟨cal_55, by decide, ⟨_, rfl, rfl⟩, 220, dX11_change_3, rfl, lV_RX11_220.1, lV_RX11_220.2.1, lV_RX11_220.2.2.1, lV_RX11_220.2.2.2⟩, nl_55⟩) (am_o46 (Or.inl ⟨0, dX11_change_6, rfl, rfl⟩) (am_o19 (⟨19, dX11_change_7, rfl, k_RX11_19_gA⟩) (am_o19 (⟨170, dX11_change_10, rfl, k_RX11_170_gA⟩) (am_o0 (Or.inr (Or.inl ⟨7, dX11_change_13, cb_7, rfl⟩)) (am_o25 (⟨dX11_change_15, rfl⟩) (am_o1 (Or.inl ⟨1, dX11_change_16, rfl, rfl⟩) (am_o22 (⟨dX11_change_17, rfl⟩) (am_o50 (⟨18, dX11_change_18, rfl, rfl⟩) (trivial))))))))))))
theorem gF_change_1 : am_okL κF_change 13 [(21, 46, 0, 0, 0), (22, 19, 1, 9, 0), (25, 19, 1, 7, 0), (28, 0, 0, 0, 7), (30, 25, 0, 0, 0), (31, 1, 2, 0, 0), (32, 22, 0, 0, 0), (33, 51, 3, 2, 0)] := am_o46 (Or.inl ⟨0, dX11_change_21, rfl, rfl⟩) (am_o19 (⟨19, dX11_change_22, rfl, k_RX11_19_gA⟩) (am_o19 (⟨170, dX11_change_25, rfl, k_RX11_170_gA⟩) (am_o0 (Or.inr (Or.inl ⟨7, dX11_change_28, cb_7, rfl⟩)) (am_o25 (⟨dX11_change_30, rfl⟩) (am_o1 (Or.inl ⟨2, dX11_change_31, rfl, rfl⟩) (am_o22 (⟨dX11_change_32, rfl⟩) (am_o51 (⟨13, dX11_change_33, rfl, rfl⟩) (trivial))))))))
theorem gF_change_2 : am_okL κF_change 13 [(36, 77, 2, 0, 0)] := am_o77 (⟨185, 224, 189, 15, fit_at_189, fit_sup, wT_1023, wT_149, by decide, rfl, rfl, at_189, dX11_change_36, dX11_change_39, Or.inl ⟨dX11_change_40, dX11_change_42, dX11_change_45⟩⟩) (trivial)
theorem gF_change_3 : am_okL κF_change 13 [(46, 46, 0, 0, 0), (47, 19, 4, 9, 0), (50, 46, 0, 0, 0), (51, 19, 1, 9, 0), (54, 67, 281, 1, 6), (57, 46, 0, 0, 0), (58, 19, 1, 9, 0), (61, 19, 1, 7, 0), (64, 0, 0, 0, 5), (65, 25, 0, 0, 0), (66, 1, 2, 0, 0), (67, 22, 0, 0, 0), (68, 2, 3, 0, 0), (69, 46, 0, 0, 0), (70, 19, 1, 9, 0), (73, 19, 1, 7, 0), (76, 0, 0, 0, 5), (77, 25, 0, 0, 0), (78, 1, 2, 0, 0), (79, 46, 0, 0, 0), (80, 19, 1, 9, 0), (83, 19, 1, 7, 0), (86, 0, 0, 0, 5), (87, 25, 0, 0, 0), (88, 1, 1, 0, 0), (89, 22, 0, 0, 0), (90, 27, 0, 0, 0), (91, 46, 0, 0, 0), (92, 19, 1, 9, 0), (95, 19, 1, 7, 0), (98, 0, 0, 0, 5), (99, 25, 0, 0, 0), (100, 1, 1, 0, 0), (101, 1, 3, 0, 0), (102, 27, 0, 0, 0), (103, 1, 3, 0, 0), (104, 74, 0, 0, 0)] := am_o46 (Or.inl ⟨0, dX11_change_46, rfl, rfl⟩) (am_o19 (⟨32, dX11_change_47, rfl, k_RX11_32_gA⟩) (am_o46 (Or.inl ⟨0, dX11_change_50, rfl, rfl⟩) (am_o19 (⟨19, dX11_change_51, rfl, k_RX11_19_gA⟩) (am_o67 (⟨⟨cal_281, by decide, ⟨_, rfl, rfl⟩, 175, dX11_change_54, rfl, lV_RX11_175.1, lV_RX11_175.2.1, lV_RX11_175.2.2.1, lV_RX11_175.2.2.2⟩, nl_281⟩) (am_o46 (Or.inl ⟨0, dX11_change_57, rfl, rfl⟩) (am_o19 (⟨19, dX11_change_58, rfl, k_RX11_19_gA⟩) (am_o19 (⟨170, dX11_change_61, rfl, k_RX11_170_gA⟩) (am_o0 (Or.inl ⟨5, dX11_change_64, ci_5, rfl⟩) (am_o25 (⟨dX11_change_65, rfl⟩) (am_o1 (Or.inl ⟨2, dX11_change_66, rfl, rfl⟩) (am_o22 (⟨dX11_change_67, rfl⟩) (am_o2 (Or.inl ⟨3, dX11_change_68, rfl, rfl⟩) (am_o46 (Or.inl ⟨0, dX11_change_69, rfl, rfl⟩) (am_o19 (⟨19, dX11_change_70, rfl, k_RX11_19_gA⟩) (am_o19 (⟨170, dX11_change_73, rfl, k_RX11_170_gA⟩) (am_o0 (Or.inl ⟨5, dX11_change_76, ci_5, rfl⟩) (am_o25 (⟨dX11_change_77, rfl⟩) (am_o1 (Or.inl ⟨2, dX11_change_78, rfl, rfl⟩) (am_o46 (Or.inl ⟨0, dX11_change_79, rfl, rfl⟩) (am_o19 (⟨19, dX11_change_80, rfl, k_RX11_19_gA⟩) (am_o19 (⟨170, dX11_change_83, rfl, k_RX11_170_gA⟩) (am_o0 (Or.inl ⟨5, dX11_change_86, ci_5, rfl⟩) (am_o25 (⟨dX11_change_87, rfl⟩) (am_o1 (Or.inl ⟨1, dX11_change_88, rfl, rfl⟩) (am_o22 (⟨dX11_change_89, rfl⟩) (am_o27 (⟨dX11_change_90, rfl⟩) (am_o46 (Or.inl ⟨0, dX11_change_91, rfl, rfl⟩) (am_o19 (⟨19, dX11_change_92, rfl, k_RX11_19_gA⟩) (am_o19 (⟨170, dX11_change_95, rfl, k_RX11_170_gA⟩) (am_o0 (Or.inl ⟨5, dX11_change_98, ci_5, rfl⟩) (am_o25 (⟨dX11_change_99, rfl⟩) (am_o1 (Or.inl ⟨1, dX11_change_100, rfl, rfl⟩) (am_o1 (Or.inl ⟨3, dX11_change_101, rfl, rfl⟩) (am_o27 (⟨dX11_change_102, rfl⟩) (am_o1 (Or.inl ⟨3, dX11_change_103, rfl, rfl⟩) (am_o74 (⟨dX11_change_104, rfl⟩) (trivial)))))))))))))))))))))))))))))))))))))
theorem GF_change : am_okM qF_change := am_okM_of (κ := κF_change) (bl := pF_change) (Prod.ext rfl (Prod.ext rfl (Prod.ext zF_change rfl))) zF_change (List.forall_mem_cons.mpr ⟨gF_change_0, List.forall_mem_cons.mpr ⟨gF_change_1, List.forall_mem_cons.mpr ⟨gF_change_2, List.forall_mem_cons.mpr ⟨gF_change_3, fun _ h => absurd h List.not_mem_nil⟩⟩⟩⟩)
theorem gF_cut_0 : am_okL κF_cut 14 [(0, 46, 0, 0, 0), (1, 1, 1, 0, 0), (2, 67, 54, 1, 9), (5, 46, 0, 0, 0), (6, 19, 1, 9, 0), (9, 19, 1, 7, 0), (12, 0, 0, 0, 8), (14, 25, 0, 0, 0), (15, 1, 1, 0, 0), (16, 22, 0, 0, 0), (17, 2, 2, 0, 0), (18, 1, 2, 0, 0), (19, 0, 0, 0, (-1)), (20, 57, 2, 1, 0)] := am_o46 (Or.inl ⟨0, dX11_cut_0, rfl, rfl⟩) (am_o1 (Or.inl ⟨1, dX11_cut_1, rfl, rfl⟩) (am_o67 (⟨⟨cal_54, by decide, ⟨_, rfl, rfl⟩, 155, dX11_cut_2, rfl, lV_RX11_155.1, lV_RX11_155.2.1, lV_RX11_155.2.2.1, lV_RX11_155.2.2.2⟩, nl_54⟩) (am_o46 (Or.inl ⟨0, dX11_cut_5, rfl, rfl⟩) (am_o19 (⟨19, dX11_cut_6, rfl, k_RX11_19_gA⟩) (am_o19 (⟨170, dX11_cut_9, rfl, k_RX11_170_gA⟩) (am_o0 (Or.inr (Or.inl ⟨8, dX11_cut_12, cb_8, rfl⟩)) (am_o25 (⟨dX11_cut_14, rfl⟩) (am_o1 (Or.inl ⟨1, dX11_cut_15, rfl, rfl⟩) (am_o22 (⟨dX11_cut_16, rfl⟩) (am_o2 (Or.inl ⟨2, dX11_cut_17, rfl, rfl⟩) (am_o1 (Or.inl ⟨2, dX11_cut_18, rfl, rfl⟩) (am_o0 (Or.inl ⟨-1, dX11_cut_19, ci_m1, rfl⟩) (am_o57 (⟨13, dX11_cut_20, rfl, rfl⟩) (trivial))))))))))))))
theorem gF_cut_1 : am_okL κF_cut 14 [(23, 77, 2, 0, 0)] := am_o77 (⟨185, 226, 189, 16, fit_at_189, fit_sup, wT_1023, wT_149, by decide, rfl, rfl, at_189, dX11_cut_23, dX11_cut_26, Or.inl ⟨dX11_cut_27, dX11_cut_29, dX11_cut_32⟩⟩) (trivial)
theorem gF_cut_2 : am_okL κF_cut 14 [(33, 46, 0, 0, 0), (34, 19, 4, 9, 0), (37, 46, 0, 0, 0), (38, 19, 1, 9, 0), (41, 67, 281, 1, 6), (44, 46, 0, 0, 0), (45, 19, 1, 9, 0), (48, 1, 1, 0, 0), (49, 67, 295, 1, 7), (52, 1, 2, 0, 0), (53, 74, 0, 0, 0)] := am_o46 (Or.inl ⟨0, dX11_cut_33, rfl, rfl⟩) (am_o19 (⟨32, dX11_cut_34, rfl, k_RX11_32_gA⟩) (am_o46 (Or.inl ⟨0, dX11_cut_37, rfl, rfl⟩) (am_o19 (⟨19, dX11_cut_38, rfl, k_RX11_19_gA⟩) (am_o67 (⟨⟨cal_281, by decide, ⟨_, rfl, rfl⟩, 175, dX11_cut_41, rfl, lV_RX11_175.1, lV_RX11_175.2.1, lV_RX11_175.2.2.1, lV_RX11_175.2.2.2⟩, nl_281⟩) (am_o46 (Or.inl ⟨0, dX11_cut_44, rfl, rfl⟩) (am_o19 (⟨19, dX11_cut_45, rfl, k_RX11_19_gA⟩) (am_o1 (Or.inl ⟨1, dX11_cut_48, rfl, rfl⟩) (am_o67 (⟨⟨cal_295, by decide, ⟨_, rfl, rfl⟩, 228, dX11_cut_49, rfl, lV_RX11_228.1, lV_RX11_228.2.1, lV_RX11_228.2.2.1, lV_RX11_228.2.2.2⟩, nl_295⟩) (am_o1 (Or.inl ⟨2, dX11_cut_52, rfl, rfl⟩) (am_o74 (⟨dX11_cut_53, rfl⟩) (trivial)))))))))))
theorem GF_cut : am_okM qF_cut := am_okM_of (κ := κF_cut) (bl := pF_cut) (Prod.ext rfl (Prod.ext rfl (Prod.ext zF_cut rfl))) zF_cut (List.forall_mem_cons.mpr ⟨gF_cut_0, List.forall_mem_cons.mpr ⟨gF_cut_1, List.forall_mem_cons.mpr ⟨gF_cut_2, fun _ h => absurd h List.not_mem_nil⟩⟩⟩)
theorem gF_moves_0 : am_okL κF_moves 15 [(0, 46, 0, 0, 0), (1, 1, 1, 0, 0), (2, 67, 54, 1, 9), (5, 46, 0, 0, 0), (6, 19, 1, 9, 0), (9, 1, 1, 0, 0), (10, 66, 296, 1, 7), (13, 2, 2, 0, 0), (14, 1, 2, 0, 0), (15, 0, 0, 0, (-1)), (16, 57, 2, 1, 0)] := am_o46 (Or.inl ⟨0, dX11_moves_0, rfl, rfl⟩) (am_o1 (Or.inl ⟨1, dX11_moves_1, rfl, rfl⟩) (am_o67 (⟨⟨cal_54, by decide, ⟨_, rfl, rfl⟩, 155, dX11_moves_2, rfl, lV_RX11_155.1, lV_RX11_155.2.1, lV_RX11_155.2.2.1, lV_RX11_155.2.2.2⟩, nl_54⟩) (am_o46 (Or.inl ⟨0, dX11_moves_5, rfl, rfl⟩) (am_o19 (⟨19, dX11_moves_6, rfl, k_RX11_19_gA⟩) (am_o1 (Or.inl ⟨1, dX11_moves_9, rfl, rfl⟩) (am_o66 (⟨⟨cal_296, by decide, ⟨_, rfl, rfl⟩, 231, dX11_moves_10, rfl, lV_RX11_231.1, lV_RX11_231.2.1, lV_RX11_231.2.2.1, lV_RX11_231.2.2.2⟩, nl_296⟩) (am_o2 (Or.inl ⟨2, dX11_moves_13, rfl, rfl⟩) (am_o1 (Or.inl ⟨2, dX11_moves_14, rfl, rfl⟩) (am_o0 (Or.inl ⟨-1, dX11_moves_15, ci_m1, rfl⟩) (am_o57 (⟨7, dX11_moves_16, rfl, rfl⟩) (trivial)))))))))))
theorem gF_moves_1 : am_okL κF_moves 15 [(19, 0, 0, 0, (-1)), (20, 71, 3, 0, 0)] := am_o0 (Or.inl ⟨-1, dX11_moves_19, ci_m1, rfl⟩) (am_o71 (⟨11, dX11_moves_20, rfl⟩) (trivial))
theorem gF_moves_2 : am_okL κF_moves 15 [(23, 46, 0, 0, 0), (24, 19, 10, 9, 0), (27, 1, 2, 0, 0), (28, 66, 243, 1, 1), (31, 72, 3, 0, 0)] := am_o46 (Or.inl ⟨0, dX11_moves_23, rfl, rfl⟩) (am_o19 (⟨70, dX11_moves_24, rfl, k_RX11_70_gA⟩) (am_o1 (Or.inl ⟨2, dX11_moves_27, rfl, rfl⟩) (am_o66 (⟨⟨cal_243, by decide, ⟨_, rfl, rfl⟩, 234, dX11_moves_28, rfl, lV_RX11_234.1, lV_RX11_234.2.1, lV_RX11_234.2.2.1, lV_RX11_234.2.2.2⟩, nl_243⟩) (am_o72 (rfl) (trivial)))))
theorem gF_moves_3 : am_okL κF_moves 15 [(31, 74, 0, 0, 0)] := am_o74 (⟨dX11_moves_31, rfl⟩) (trivial)
theorem GF_moves : am_okM qF_moves := am_okM_of (κ := κF_moves) (bl := pF_moves) (Prod.ext rfl (Prod.ext rfl (Prod.ext zF_moves rfl))) zF_moves (List.forall_mem_cons.mpr ⟨gF_moves_0, List.forall_mem_cons.mpr ⟨gF_moves_1, List.forall_mem_cons.mpr ⟨gF_moves_2, List.forall_mem_cons.mpr ⟨gF_moves_3, fun _ h => absurd h List.not_mem_nil⟩⟩⟩⟩)
theorem gF_first_0 : am_okL κF_first 16 [(0, 46, 0, 0, 0), (1, 1, 1, 0, 0), (2, 67, 54, 1, 9), (5, 46, 0, 0, 0), (6, 19, 1, 9, 0), (9, 1, 1, 0, 0), (10, 66, 296, 1, 7), (13, 2, 2, 0, 0), (14, 1, 2, 0, 0), (15, 0, 0, 0, (-1)), (16, 57, 2, 1, 0)] := am_o46 (Or.inl ⟨0, dX11_first_0, rfl, rfl⟩) (am_o1 (Or.inl ⟨1, dX11_first_1, rfl, rfl⟩) (am_o67 (⟨⟨cal_54, by decide, ⟨_, rfl, rfl⟩, 155, dX11_first_2, rfl, lV_RX11_155.1, lV_RX11_155.2.1, lV_RX11_155.2.2.1, lV_RX11_155.2.2.2⟩, nl_54⟩) (am_o46 (Or.inl ⟨0, dX11_first_5, rfl, rfl⟩) (am_o19 (⟨19, dX11_first_6, rfl, k_RX11_19_gA⟩) (am_o1 (Or.inl ⟨1, dX11_first_9, rfl, rfl⟩) (am_o66 (⟨⟨cal_296, by decide, ⟨_, rfl, rfl⟩, 231, dX11_first_10, rfl, lV_RX11_231.1, lV_RX11_231.2.1, lV_RX11_231.2.2.1, lV_RX11_231.2.2.2⟩, nl_296⟩) (am_o2 (Or.inl ⟨2, dX11_first_13, rfl, rfl⟩) (am_o1 (Or.inl ⟨2, dX11_first_14, rfl, rfl⟩) (am_o0 (Or.inl ⟨-1, dX11_first_15, ci_m1, rfl⟩) (am_o57 (⟨7, dX11_first_16, rfl, rfl⟩) (trivial)))))))))))
theorem gF_first_1 : am_okL κF_first 16 [(19, 0, 0, 0, (-1)), (20, 71, 3, 0, 0)] := am_o0 (Or.inl ⟨-1, dX11_first_19, ci_m1, rfl⟩) (am_o71 (⟨11, dX11_first_20, rfl⟩) (trivial))
theorem gF_first_2 : am_okL κF_first 16 [(23, 46, 0, 0, 0), (24, 19, 10, 9, 0), (27, 1, 2, 0, 0), (28, 66, 244, 1, 1), (31, 72, 3, 0, 0)] := am_o46 (Or.inl ⟨0, dX11_first_23, rfl, rfl⟩) (am_o19 (⟨70, dX11_first_24, rfl, k_RX11_70_gA⟩) (am_o1 (Or.inl ⟨2, dX11_first_27, rfl, rfl⟩) (am_o66 (⟨⟨cal_244, by decide, ⟨_, rfl, rfl⟩, 237, dX11_first_28, rfl, lV_RX11_237.1, lV_RX11_237.2.1, lV_RX11_237.2.2.1, lV_RX11_237.2.2.2⟩, nl_244⟩) (am_o72 (rfl) (trivial)))))
theorem gF_first_3 : am_okL κF_first 16 [(31, 74, 0, 0, 0)] := am_o74 (⟨dX11_first_31, rfl⟩) (trivial)
theorem GF_first : am_okM qF_first := am_okM_of (κ := κF_first) (bl := pF_first) (Prod.ext rfl (Prod.ext rfl (Prod.ext zF_first rfl))) zF_first (List.forall_mem_cons.mpr ⟨gF_first_0, List.forall_mem_cons.mpr ⟨gF_first_1, List.forall_mem_cons.mpr ⟨gF_first_2, List.forall_mem_cons.mpr ⟨gF_first_3, fun _ h => absurd h List.not_mem_nil⟩⟩⟩⟩)
theorem gF_can_0 : am_okL κF_can 17 [(0, 46, 0, 0, 0), (1, 1, 1, 0, 0), (2, 67, 54, 1, 9), (5, 46, 0, 0, 0), (6, 19, 1, 9, 0), (9, 1, 1, 0, 0), (10, 66, 296, 1, 7), (13, 2, 2, 0, 0), (14, 1, 2, 0, 0), (15, 0, 0, 0, (-1)), (16, 57, 2, 1, 0)] := am_o46 (Or.inl ⟨0, dX11_can_0, rfl, rfl⟩) (am_o1 (Or.inl ⟨1, dX11_can_1, rfl, rfl⟩) (am_o67 (⟨⟨cal_54, by decide, ⟨_, rfl, rfl⟩, 155, dX11_can_2, rfl, lV_RX11_155.1, lV_RX11_155.2.1, lV_RX11_155.2.2.1, lV_RX11_155.2.2.2⟩, nl_54⟩) (am_o46 (Or.inl ⟨0, dX11_can_5, rfl, rfl⟩) (am_o19 (⟨19, dX11_can_6, rfl, k_RX11_19_gA⟩) (am_o1 (Or.inl ⟨1, dX11_can_9, rfl, rfl⟩) (am_o66 (⟨⟨cal_296, by decide, ⟨_, rfl, rfl⟩, 231, dX11_can_10, rfl, lV_RX11_231.1, lV_RX11_231.2.1, lV_RX11_231.2.2.1, lV_RX11_231.2.2.2⟩, nl_296⟩) (am_o2 (Or.inl ⟨2, dX11_can_13, rfl, rfl⟩) (am_o1 (Or.inl ⟨2, dX11_can_14, rfl, rfl⟩) (am_o0 (Or.inl ⟨-1, dX11_can_15, ci_m1, rfl⟩) (am_o57 (⟨7, dX11_can_16, rfl, rfl⟩) (trivial)))))))))))
theorem gF_can_1 : am_okL κF_can 17 [(19, 0, 0, 0, 0), (20, 71, 3, 0, 0)] := am_o0 (Or.inl ⟨0, dX11_can_19, ci_0, rfl⟩) (am_o71 (⟨7, dX11_can_20, rfl⟩) (trivial))
theorem gF_can_2 : am_okL κF_can 17 [(23, 1, 2, 0, 0), (24, 64, 242, 1, 0), (27, 72, 3, 0, 0)] := am_o1 (Or.inl ⟨2, dX11_can_23, rfl, rfl⟩) (am_o64 (Or.inl ⟨⟨cal_242, 240, dX11_can_24, rfl, lS_RX11_240.1, lS_RX11_240.2.1, lS_RX11_240.2.2⟩, nl_242⟩) (am_o72 (rfl) (trivial)))
theorem gF_can_3 : am_okL κF_can 17 [(27, 74, 0, 0, 0)] := am_o74 (⟨dX11_can_27, rfl⟩) (trivial)
theorem GF_can : am_okM qF_can := am_okM_of (κ := κF_can) (bl := pF_can) (Prod.ext rfl (Prod.ext rfl (Prod.ext zF_can rfl))) zF_can (List.forall_mem_cons.mpr ⟨gF_can_0, List.forall_mem_cons.mpr ⟨gF_can_1, List.forall_mem_cons.mpr ⟨gF_can_2, List.forall_mem_cons.mpr ⟨gF_can_3, fun _ h => absurd h List.not_mem_nil⟩⟩⟩⟩)
theorem gF_feels_0 : am_okL κF_feels 18 [(0, 46, 0, 0, 0), (1, 67, 59, 0, 9), (4, 1, 1, 0, 0), (5, 52, 2, 1, 0)] := am_o46 (Or.inl ⟨0, dX11_feels_0, rfl, rfl⟩) (am_o67 (⟨⟨cal_59, by decide, ⟨_, rfl, rfl⟩, 243, dX11_feels_1, rfl, lV_RX11_243.1, lV_RX11_243.2.1, lV_RX11_243.2.2.1, lV_RX11_243.2.2.2⟩, nl_59⟩) (am_o1 (Or.inl ⟨1, dX11_feels_4, rfl, rfl⟩) (am_o52 (⟨8, dX11_feels_5, rfl, rfl⟩) (trivial))))
theorem gF_feels_1 : am_okL κF_feels 18 [(8, 1, 1, 0, 0), (9, 0, 0, 0, 2), (10, 61, 3, 2, 0)] := am_o1 (Or.inl ⟨1, dX11_feels_8, rfl, rfl⟩) (am_o0 (Or.inl ⟨2, dX11_feels_9, ci_2, rfl⟩) (am_o61 (⟨13, dX11_feels_10, rfl, rfl⟩) (trivial)))
theorem gF_feels_2 : am_okL κF_feels 18 [(13, 77, 4, 0, 0)] := am_o77 (⟨142, 246, 146, 18, fit_at_146, fit_sup, wT_962, wT_147, by decide, rfl, rfl, at_146, dX11_feels_13, dX11_feels_16, Or.inl ⟨dX11_feels_17, dX11_feels_19, dX11_feels_22⟩⟩) (trivial)
theorem gF_feels_3 : am_okL κF_feels 18 [(23, 46, 0, 0, 0), (24, 19, 1, 9, 0), (27, 46, 0, 0, 0), (28, 19, 0, 9, 0), (31, 64, 224, 2, 0), (34, 2, 2, 0, 0), (35, 1, 1, 0, 0), (36, 73, 1, 6, 0)] := am_o46 (Or.inl ⟨0, dX11_feels_23, rfl, rfl⟩) (am_o19 (⟨19, dX11_feels_24, rfl, k_RX11_19_gA⟩) (am_o46 (Or.inl ⟨0, dX11_feels_27, rfl, rfl⟩) (am_o19 (⟨10, dX11_feels_28, rfl, k_RX11_10_gA⟩) (am_o64 (Or.inl ⟨⟨cal_224, 248, dX11_feels_31, rfl, lS_RX11_248.1, lS_RX11_248.2.1, lS_RX11_248.2.2⟩, nl_224⟩) (am_o2 (Or.inl ⟨2, dX11_feels_34, rfl, rfl⟩) (am_o1 (Or.inl ⟨1, dX11_feels_35, rfl, rfl⟩) (am_o73 (Or.inr ⟨39, #[(0, 28), (1, 30)], 28, dX11_feels_36, by decide +kernel, rfl, am_sLc rfl rfl (am_sLc rfl rfl (trivial))⟩) (trivial))))))))
theorem gF_feels_4 : am_okL κF_feels 18 [(64, 1, 2, 0, 0), (65, 74, 0, 0, 0)] := am_o1 (Or.inl ⟨2, dX11_feels_64, rfl, rfl⟩) (am_o74 (⟨dX11_feels_65, rfl⟩) (trivial))
theorem gF_feels_5 : am_okL κF_feels 18 [(66, 46, 0, 0, 0), (67, 19, 1, 9, 0), (70, 1, 2, 0, 0), (71, 64, 226, 2, 0), (74, 74, 0, 0, 0)] := am_o46 (Or.inl ⟨0, dX11_feels_66, rfl, rfl⟩) (am_o19 (⟨19, dX11_feels_67, rfl, k_RX11_19_gA⟩) (am_o1 (Or.inl ⟨2, dX11_feels_70, rfl, rfl⟩) (am_o64 (Or.inl ⟨⟨cal_226, 254, dX11_feels_71, rfl, lS_RX11_254.1, lS_RX11_254.2.1, lS_RX11_254.2.2⟩, nl_226⟩) (am_o74 (⟨dX11_feels_74, rfl⟩) (trivial)))))
theorem gF_feels_6 : am_okL κF_feels 18 [(75, 46, 0, 0, 0), (76, 19, 1, 9, 0), (79, 1, 2, 0, 0), (80, 64, 230, 2, 0), (83, 74, 0, 0, 0)] := am_o46 (Or.inl ⟨0, dX11_feels_75, rfl, rfl⟩) (am_o19 (⟨19, dX11_feels_76, rfl, k_RX11_19_gA⟩) (am_o1 (Or.inl ⟨2, dX11_feels_79, rfl, rfl⟩) (am_o64 (Or.inl ⟨⟨cal_230, 257, dX11_feels_80, rfl, lS_RX11_257.1, lS_RX11_257.2.1, lS_RX11_257.2.2⟩, nl_230⟩) (am_o74 (⟨dX11_feels_83, rfl⟩) (trivial)))))
theorem GF_feels : am_okM qF_feels := am_okM_of (κ := κF_feels) (bl := pF_feels) (Prod.ext rfl (Prod.ext rfl (Prod.ext zF_feels rfl))) zF_feels (List.forall_mem_cons.mpr ⟨gF_feels_0, List.forall_mem_cons.mpr ⟨gF_feels_1, List.forall_mem_cons.mpr ⟨gF_feels_2, List.forall_mem_cons.mpr ⟨gF_feels_3, List.forall_mem_cons.mpr ⟨gF_feels_4, List.forall_mem_cons.mpr ⟨gF_feels_5, List.forall_mem_cons.mpr ⟨gF_feels_6, fun _ h => absurd h List.not_mem_nil⟩⟩⟩⟩⟩⟩⟩)
theorem gF_odds_0 : am_okL κF_odds 19 [(0, 46, 0, 0, 0), (1, 66, 58, 0, 9), (4, 2, 2, 0, 0), (5, 1, 1, 0, 0), (6, 52, 2, 1, 0)] := am_o46 (Or.inl ⟨0, dX11_odds_0, rfl, rfl⟩) (am_o66 (⟨⟨cal_58, by decide, ⟨_, rfl, rfl⟩, 260, dX11_odds_1, rfl, lV_RX11_260.1, lV_RX11_260.2.1, lV_RX11_260.2.2.1, lV_RX11_260.2.2.2⟩, nl_58⟩) (am_o2 (Or.inl ⟨2, dX11_odds_4, rfl, rfl⟩) (am_o1 (Or.inl ⟨1, dX11_odds_5, rfl, rfl⟩) (am_o52 (⟨9, dX11_odds_6, rfl, rfl⟩) (trivial)))))
theorem gF_odds_1 : am_okL κF_odds 19 [(9, 1, 1, 0, 0), (10, 0, 0, 0, 8), (12, 61, 3, 2, 0)] := am_o1 (Or.inl ⟨1, dX11_odds_9, rfl, rfl⟩) (am_o0 (Or.inr (Or.inl ⟨8, dX11_odds_10, cb_8, rfl⟩)) (am_o61 (⟨14, dX11_odds_12, rfl, rfl⟩) (trivial)))
theorem gF_odds_2 : am_okL κF_odds 19 [(15, 77, 3, 0, 0)] := am_o77 (⟨197, 264, 201, 4, fit_at_201, fit_sup, wT_946, wT_146, by decide, rfl, rfl, at_201, dX11_odds_15, dX11_odds_18, Or.inr ⟨dX11_odds_19, dX11_odds_22, dX11_odds_25⟩⟩) (trivial)
theorem gF_odds_3 : am_okL κF_odds 19 [(26, 1, 2, 0, 0), (27, 51, 5, 4, 0)] := am_o1 (Or.inl ⟨2, dX11_odds_26, rfl, rfl⟩) (am_o51 (⟨14, dX11_odds_27, rfl, rfl⟩) (trivial))
theorem gF_odds_4 : am_okL κF_odds 19 [(30, 77, 1, 0, 0)] := am_o77 (⟨110, 266, 114, 17, fit_at_114, fit_sup, wT_833, wT_144, by decide, rfl, rfl, at_114, dX11_odds_30, dX11_odds_33, Or.inr ⟨dX11_odds_34, dX11_odds_37, dX11_odds_40⟩⟩) (trivial)
theorem gF_odds_5 : am_okL κF_odds 19 [(41, 46, 0, 0, 0), (42, 19, 1, 9, 0), (45, 46, 0, 0, 0), (46, 19, 1, 9, 0), (49, 46, 0, 0, 0), (50, 19, 0, 9, 0), (53, 64, 224, 2, 0), (56, 1, 1, 0, 0), (57, 64, 229, 3, 0), (60, 74, 0, 0, 0)] := am_o46 (Or.inl ⟨0, dX11_odds_41, rfl, rfl⟩) (am_o19 (⟨19, dX11_odds_42, rfl, k_RX11_19_gA⟩) (am_o46 (Or.inl ⟨0, dX11_odds_45, rfl, rfl⟩) (am_o19 (⟨19, dX11_odds_46, rfl, k_RX11_19_gA⟩) (am_o46 (Or.inl ⟨0, dX11_odds_49, rfl, rfl⟩) (am_o19 (⟨10, dX11_odds_50, rfl, k_RX11_10_gA⟩) (am_o64 (Or.inl ⟨⟨cal_224, 248, dX11_odds_53, rfl, lS_RX11_248.1, lS_RX11_248.2.1, lS_RX11_248.2.2⟩, nl_224⟩) (am_o1 (Or.inl ⟨1, dX11_odds_56, rfl, rfl⟩) (am_o64 (Or.inl ⟨⟨cal_229, 268, dX11_odds_57, rfl, lS_RX11_268.1, lS_RX11_268.2.1, lS_RX11_268.2.2⟩, nl_229⟩) (am_o74 (⟨dX11_odds_60, rfl⟩) (trivial))))))))))
theorem GF_odds : am_okM qF_odds := am_okM_of (κ := κF_odds) (bl := pF_odds) (Prod.ext rfl (Prod.ext rfl (Prod.ext zF_odds rfl))) zF_odds (List.forall_mem_cons.mpr ⟨gF_odds_0, List.forall_mem_cons.mpr ⟨gF_odds_1, List.forall_mem_cons.mpr ⟨gF_odds_2, List.forall_mem_cons.mpr ⟨gF_odds_3, List.forall_mem_cons.mpr ⟨gF_odds_4, List.forall_mem_cons.mpr ⟨gF_odds_5, fun _ h => absurd h List.not_mem_nil⟩⟩⟩⟩⟩⟩)
theorem gF_ask_0 : am_okL κF_ask 20 [(0, 46, 0, 0, 0), (1, 67, 59, 0, 9), (4, 46, 0, 0, 0), (5, 19, 1, 9, 0), (8, 46, 0, 0, 0), (9, 19, 1, 9, 0), (12, 46, 0, 0, 0), (13, 19, 0, 9, 0), (16, 64, 224, 2, 0), (19, 64, 231, 2, 0), (22, 74, 0, 0, 0)] := am_o46 (Or.inl ⟨0, dX11_ask_0, rfl, rfl⟩) (am_o67 (⟨⟨cal_59, by decide, ⟨_, rfl, rfl⟩, 243, dX11_ask_1, rfl, lV_RX11_243.1, lV_RX11_243.2.1, lV_RX11_243.2.2.1, lV_RX11_243.2.2.2⟩, nl_59⟩) (am_o46 (Or.inl ⟨0, dX11_ask_4, rfl, rfl⟩) (am_o19 (⟨19, dX11_ask_5, rfl, k_RX11_19_gA⟩) (am_o46 (Or.inl ⟨0, dX11_ask_8, rfl, rfl⟩) (am_o19 (⟨19, dX11_ask_9, rfl, k_RX11_19_gA⟩) (am_o46 (Or.inl ⟨0, dX11_ask_12, rfl, rfl⟩) (am_o19 (⟨10, dX11_ask_13, rfl, k_RX11_10_gA⟩) (am_o64 (Or.inl ⟨⟨cal_224, 248, dX11_ask_16, rfl, lS_RX11_248.1, lS_RX11_248.2.1, lS_RX11_248.2.2⟩, nl_224⟩) (am_o64 (Or.inl ⟨⟨cal_231, 272, dX11_ask_19, rfl, lS_RX11_272.1, lS_RX11_272.2.1, lS_RX11_272.2.2⟩, nl_231⟩) (am_o74 (⟨dX11_ask_22, rfl⟩) (trivial)))))))))))
theorem GF_ask : am_okM qF_ask := am_okM_of (κ := κF_ask) (bl := pF_ask) (Prod.ext rfl (Prod.ext rfl (Prod.ext zF_ask rfl))) zF_ask (List.forall_mem_cons.mpr ⟨gF_ask_0, fun _ h => absurd h List.not_mem_nil⟩)
theorem gF_waits_0 : am_okL κF_waits 21 [(0, 46, 0, 0, 0), (1, 1, 1, 0, 0), (2, 67, 54, 1, 9), (5, 46, 0, 0, 0), (6, 19, 2, 9, 0), (9, 46, 0, 0, 0), (10, 19, 1, 9, 0), (13, 67, 284, 1, 7), (16, 0, 0, 0, 0), (17, 2, 2, 0, 0), (18, 72, 1, 0, 0)] := am_o46 (Or.inl ⟨0, dX11_waits_0, rfl, rfl⟩) (am_o1 (Or.inl ⟨1, dX11_waits_1, rfl, rfl⟩) (am_o67 (⟨⟨cal_54, by decide, ⟨_, rfl, rfl⟩, 155, dX11_waits_2, rfl, lV_RX11_155.1, lV_RX11_155.2.1, lV_RX11_155.2.2.1, lV_RX11_155.2.2.2⟩, nl_54⟩) (am_o46 (Or.inl ⟨0, dX11_waits_5, rfl, rfl⟩) (am_o19 (⟨23, dX11_waits_6, rfl, k_RX11_23_gA⟩) (am_o46 (Or.inl ⟨0, dX11_waits_9, rfl, rfl⟩) (am_o19 (⟨19, dX11_waits_10, rfl, k_RX11_19_gA⟩) (am_o67 (⟨⟨cal_284, by decide, ⟨_, rfl, rfl⟩, 103, dX11_waits_13, rfl, lV_RX11_103.1, lV_RX11_103.2.1, lV_RX11_103.2.2.1, lV_RX11_103.2.2.2⟩, nl_284⟩) (am_o0 (Or.inl ⟨0, dX11_waits_16, ci_0, rfl⟩) (am_o2 (Or.inl ⟨2, dX11_waits_17, rfl, rfl⟩) (am_o72 (rfl) (trivial)))))))))))
theorem gF_waits_1 : am_okL κF_waits 21 [(18, 1, 2, 0, 0), (19, 0, 0, 0, 100), (21, 60, 5, 2, 0)] := am_o1 (Or.inl ⟨2, dX11_waits_18, rfl, rfl⟩) (am_o0 (Or.inr (Or.inl ⟨100, dX11_waits_19, cb_100, rfl⟩)) (am_o60 (⟨39, dX11_waits_21, rfl, rfl⟩) (trivial)))
theorem gF_waits_2 : am_okL κF_waits 21 [(24, 46, 0, 0, 0), (25, 19, 2, 9, 0), (28, 19, 1, 7, 0), (31, 0, 0, 0, 7), (33, 25, 0, 0, 0), (34, 1, 1, 0, 0), (35, 22, 0, 0, 0), (36, 50, 4, 3, 0)] := am_o46 (Or.inl ⟨0, dX11_waits_24, rfl, rfl⟩) (am_o19 (⟨23, dX11_waits_25, rfl, k_RX11_23_gA⟩) (am_o19 (⟨170, dX11_waits_28, rfl, k_RX11_170_gA⟩) (am_o0 (Or.inr (Or.inl ⟨7, dX11_waits_31, cb_7, rfl⟩)) (am_o25 (⟨dX11_waits_33, rfl⟩) (am_o1 (Or.inl ⟨1, dX11_waits_34, rfl, rfl⟩) (am_o22 (⟨dX11_waits_35, rfl⟩) (am_o50 (⟨5, dX11_waits_36, rfl, rfl⟩) (trivial))))))))
theorem gF_waits_3 : am_okL κF_waits 21 [(39, 1, 2, 0, 0), (40, 74, 0, 0, 0)] := am_o1 (Or.inl ⟨2, dX11_waits_39, rfl, rfl⟩) (am_o74 (⟨dX11_waits_40, rfl⟩) (trivial))
theorem gF_waits_4 : am_okL κF_waits 21 [(41, 46, 0, 0, 0), (42, 19, 2, 9, 0), (45, 46, 0, 0, 0), (46, 19, 5, 9, 0), (49, 0, 0, 0, 0), (50, 66, 289, 2, 7), (53, 34, 0, 0, 0), (54, 3, 2, 0, 1), (57, 71, 1, 0, 0)] := am_o46 (Or.inl ⟨0, dX11_waits_41, rfl, rfl⟩) (am_o19 (⟨23, dX11_waits_42, rfl, k_RX11_23_gA⟩) (am_o46 (Or.inl ⟨0, dX11_waits_45, rfl, rfl⟩) (am_o19 (⟨39, dX11_waits_46, rfl, k_RX11_39_gA⟩) (am_o0 (Or.inl ⟨0, dX11_waits_49, ci_0, rfl⟩) (am_o66 (⟨⟨cal_289, by decide, ⟨_, rfl, rfl⟩, 178, dX11_waits_50, rfl, lV_RX11_178.1, lV_RX11_178.2.1, lV_RX11_178.2.2.1, lV_RX11_178.2.2.2⟩, nl_289⟩) (am_o34 (⟨dX11_waits_53, rfl⟩) (am_o3 (⟨1, dX11_waits_54, ci_1, rfl⟩) (am_o71 (⟨(-39), dX11_waits_57, rfl⟩) (trivial)))))))))
theorem gF_waits_5 : am_okL κF_waits 21 [(60, 0, 0, 0, (-1)), (61, 74, 0, 0, 0)] := am_o0 (Or.inl ⟨-1, dX11_waits_60, ci_m1, rfl⟩) (am_o74 (⟨dX11_waits_61, rfl⟩) (trivial))
theorem GF_waits : am_okM qF_waits := am_okM_of (κ := κF_waits) (bl := pF_waits) (Prod.ext rfl (Prod.ext rfl (Prod.ext zF_waits rfl))) zF_waits (List.forall_mem_cons.mpr ⟨gF_waits_0, List.forall_mem_cons.mpr ⟨gF_waits_1, List.forall_mem_cons.mpr ⟨gF_waits_2, List.forall_mem_cons.mpr ⟨gF_waits_3, List.forall_mem_cons.mpr ⟨gF_waits_4, List.forall_mem_cons.mpr ⟨gF_waits_5, fun _ h => absurd h List.not_mem_nil⟩⟩⟩⟩⟩⟩)
theorem gF_next_0 : am_okL κF_next 22 [(0, 46, 0, 0, 0), (1, 19, 2, 9, 0), (4, 46, 0, 0, 0), (5, 19, 1, 9, 0), (8, 67, 284, 1, 7), (11, 0, 0, 0, 1), (12, 2, 1, 0, 0), (13, 72, 1, 0, 0)] := am_o46 (Or.inl ⟨0, dX11_next_0, rfl, rfl⟩) (am_o19 (⟨23, dX11_next_1, rfl, k_RX11_23_gA⟩) (am_o46 (Or.inl ⟨0, dX11_next_4, rfl, rfl⟩) (am_o19 (⟨19, dX11_next_5, rfl, k_RX11_19_gA⟩) (am_o67 (⟨⟨cal_284, by decide, ⟨_, rfl, rfl⟩, 103, dX11_next_8, rfl, lV_RX11_103.1, lV_RX11_103.2.1, lV_RX11_103.2.2.1, lV_RX11_103.2.2.2⟩, nl_284⟩) (am_o0 (Or.inl ⟨1, dX11_next_11, ci_1, rfl⟩) (am_o2 (Or.inl ⟨1, dX11_next_12, rfl, rfl⟩) (am_o72 (rfl) (trivial))))))))
theorem gF_next_1 : am_okL κF_next 22 [(13, 1, 1, 0, 0), (14, 0, 0, 0, 100), (16, 60, 5, 2, 0)] := am_o1 (Or.inl ⟨1, dX11_next_13, rfl, rfl⟩) (am_o0 (Or.inr (Or.inl ⟨100, dX11_next_14, cb_100, rfl⟩)) (am_o60 (⟨53, dX11_next_16, rfl, rfl⟩) (trivial)))
theorem gF_next_2 : am_okL κF_next 22 [(19, 46, 0, 0, 0), (20, 19, 2, 9, 0), (23, 46, 0, 0, 0), (24, 19, 5, 9, 0), (27, 0, 0, 0, 0), (28, 66, 289, 2, 7), (31, 55, 4, 3, 0)] := am_o46 (Or.inl ⟨0, dX11_next_19, rfl, rfl⟩) (am_o19 (⟨23, dX11_next_20, rfl, k_RX11_23_gA⟩) (am_o46 (Or.inl ⟨0, dX11_next_23, rfl, rfl⟩) (am_o19 (⟨39, dX11_next_24, rfl, k_RX11_39_gA⟩) (am_o0 (Or.inl ⟨0, dX11_next_27, ci_0, rfl⟩) (am_o66 (⟨⟨cal_289, by decide, ⟨_, rfl, rfl⟩, 178, dX11_next_28, rfl, lV_RX11_178.1, lV_RX11_178.2.1, lV_RX11_178.2.2.1, lV_RX11_178.2.2.2⟩, nl_289⟩) (am_o55 (⟨32, dX11_next_31, rfl, rfl⟩) (trivial)))))))
theorem gF_next_3 : am_okL κF_next 22 [(34, 46, 0, 0, 0), (35, 19, 2, 9, 0), (38, 0, 0, 0, 7), (40, 0, 0, 0, 1), (41, 66, 298, 2, 7), (44, 46, 0, 0, 0), (45, 19, 1, 9, 0), (48, 0, 0, 0, 7), (50, 0, 0, 0, 1), (51, 66, 298, 2, 7), (54, 0, 0, 0, (-1)), (55, 9, 0, 0, 0), (56, 7, 0, 0, 0), (57, 2, 2, 0, 0), (58, 1, 2, 0, 0), (59, 64, 64, 1, 0), (62, 74, 0, 0, 0)] := am_o46 (Or.inl ⟨0, dX11_next_34, rfl, rfl⟩) (am_o19 (⟨23, dX11_next_35, rfl, k_RX11_23_gA⟩) (am_o0 (Or.inr (Or.inl ⟨7, dX11_next_38, cb_7, rfl⟩)) (am_o0 (Or.inl ⟨1, dX11_next_40, ci_1, rfl⟩) (am_o66 (⟨⟨cal_298, by decide, ⟨_, rfl, rfl⟩, 275, dX11_next_41, rfl, lV_RX11_275.1, lV_RX11_275.2.1, lV_RX11_275.2.2.1, lV_RX11_275.2.2.2⟩, nl_298⟩) (am_o46 (Or.inl ⟨0, dX11_next_44, rfl, rfl⟩) (am_o19 (⟨19, dX11_next_45, rfl, k_RX11_19_gA⟩) (am_o0 (Or.inr (Or.inl ⟨7, dX11_next_48, cb_7, rfl⟩)) (am_o0 (Or.inl ⟨1, dX11_next_50, ci_1, rfl⟩) (am_o66 (⟨⟨cal_298, by decide, ⟨_, rfl, rfl⟩, 275, dX11_next_51, rfl, lV_RX11_275.1, lV_RX11_275.2.1, lV_RX11_275.2.2.1, lV_RX11_275.2.2.2⟩, nl_298⟩) (am_o0 (Or.inl ⟨-1, dX11_next_54, ci_m1, rfl⟩) (am_o9 (⟨dX11_next_55, rfl⟩) (am_o7 (⟨dX11_next_56, rfl⟩) (am_o2 (Or.inl ⟨2, dX11_next_57, rfl, rfl⟩) (am_o1 (Or.inl ⟨2, dX11_next_58, rfl, rfl⟩) (am_o64 (Or.inl ⟨⟨cal_64, 279, dX11_next_59, rfl, lS_RX11_279.1, lS_RX11_279.2.1, lS_RX11_279.2.2⟩, nl_64⟩) (am_o74 (⟨dX11_next_62, rfl⟩) (trivial)))))))))))))))))
theorem gF_next_4 : am_okL κF_next 22 [(63, 3, 1, 0, 1), (66, 71, 1, 0, 0)] := am_o3 (⟨1, dX11_next_63, ci_1, rfl⟩) (am_o71 (⟨(-53), dX11_next_66, rfl⟩) (trivial))
theorem gF_next_5 : am_okL κF_next 22 [(69, 0, 0, 0, (-1)), (70, 74, 0, 0, 0)] := am_o0 (Or.inl ⟨-1, dX11_next_69, ci_m1, rfl⟩) (am_o74 (⟨dX11_next_70, rfl⟩) (trivial))
theorem GF_next : am_okM qF_next := am_okM_of (κ := κF_next) (bl := pF_next) (Prod.ext rfl (Prod.ext rfl (Prod.ext zF_next rfl))) zF_next (List.forall_mem_cons.mpr ⟨gF_next_0, List.forall_mem_cons.mpr ⟨gF_next_1, List.forall_mem_cons.mpr ⟨gF_next_2, List.forall_mem_cons.mpr ⟨gF_next_3, List.forall_mem_cons.mpr ⟨gF_next_4, List.forall_mem_cons.mpr ⟨gF_next_5, fun _ h => absurd h List.not_mem_nil⟩⟩⟩⟩⟩⟩)
theorem gF_keep_0 : am_okL κF_keep 23 [(0, 1, 1, 0, 0), (1, 65, 57, 1, 0), (4, 46, 0, 0, 0), (5, 1, 1, 0, 0), (6, 67, 62, 1, 9), (9, 46, 0, 0, 0), (10, 19, 2, 9, 0), (13, 0, 0, 0, 7), (15, 0, 0, 0, 0), (16, 66, 299, 2, 7), (19, 74, 0, 0, 0)] := am_o1 (Or.inl ⟨1, dX11_keep_0, rfl, rfl⟩) (am_o65 (⟨⟨cal_57, 282, dX11_keep_1, rfl, lS_RX11_282.1, lS_RX11_282.2.1, lS_RX11_282.2.2⟩, nl_57⟩) (am_o46 (Or.inl ⟨0, dX11_keep_4, rfl, rfl⟩) (am_o1 (Or.inl ⟨1, dX11_keep_5, rfl, rfl⟩) (am_o67 (⟨⟨cal_62, by decide, ⟨_, rfl, rfl⟩, 285, dX11_keep_6, rfl, lV_RX11_285.1, lV_RX11_285.2.1, lV_RX11_285.2.2.1, lV_RX11_285.2.2.2⟩, nl_62⟩) (am_o46 (Or.inl ⟨0, dX11_keep_9, rfl, rfl⟩) (am_o19 (⟨23, dX11_keep_10, rfl, k_RX11_23_gA⟩) (am_o0 (Or.inr (Or.inl ⟨7, dX11_keep_13, cb_7, rfl⟩)) (am_o0 (Or.inl ⟨0, dX11_keep_15, ci_0, rfl⟩) (am_o66 (⟨⟨cal_299, by decide, ⟨_, rfl, rfl⟩, 288, dX11_keep_16, rfl, lV_RX11_288.1, lV_RX11_288.2.1, lV_RX11_288.2.2.1, lV_RX11_288.2.2.2⟩, nl_299⟩) (am_o74 (⟨dX11_keep_19, rfl⟩) (trivial)))))))))))
theorem GF_keep : am_okM qF_keep := am_okM_of (κ := κF_keep) (bl := pF_keep) (Prod.ext rfl (Prod.ext rfl (Prod.ext zF_keep rfl))) zF_keep (List.forall_mem_cons.mpr ⟨gF_keep_0, fun _ h => absurd h List.not_mem_nil⟩)
theorem gF_fates_0 : am_okL κF_fates 24 [(0, 1, 1, 0, 0), (1, 65, 57, 1, 0), (4, 46, 0, 0, 0), (5, 1, 1, 0, 0), (6, 67, 62, 1, 9), (9, 46, 0, 0, 0), (10, 19, 2, 9, 0), (13, 66, 301, 0, 7), (16, 74, 0, 0, 0)] := am_o1 (Or.inl ⟨1, dX11_fates_0, rfl, rfl⟩) (am_o65 (⟨⟨cal_57, 282, dX11_fates_1, rfl, lS_RX11_282.1, lS_RX11_282.2.1, lS_RX11_282.2.2⟩, nl_57⟩) (am_o46 (Or.inl ⟨0, dX11_fates_4, rfl, rfl⟩) (am_o1 (Or.inl ⟨1, dX11_fates_5, rfl, rfl⟩) (am_o67 (⟨⟨cal_62, by decide, ⟨_, rfl, rfl⟩, 285, dX11_fates_6, rfl, lV_RX11_285.1, lV_RX11_285.2.1, lV_RX11_285.2.2.1, lV_RX11_285.2.2.2⟩, nl_62⟩) (am_o46 (Or.inl ⟨0, dX11_fates_9, rfl, rfl⟩) (am_o19 (⟨23, dX11_fates_10, rfl, k_RX11_23_gA⟩) (am_o66 (⟨⟨cal_301, by decide, ⟨_, rfl, rfl⟩, 291, dX11_fates_13, rfl, lV_RX11_291.1, lV_RX11_291.2.1, lV_RX11_291.2.2.1, lV_RX11_291.2.2.2⟩, nl_301⟩) (am_o74 (⟨dX11_fates_16, rfl⟩) (trivial)))))))))
theorem GF_fates : am_okM qF_fates := am_okM_of (κ := κF_fates) (bl := pF_fates) (Prod.ext rfl (Prod.ext rfl (Prod.ext zF_fates rfl))) zF_fates (List.forall_mem_cons.mpr ⟨gF_fates_0, fun _ h => absurd h List.not_mem_nil⟩)
theorem gF_last_0 : am_okL κF_last 25 [(0, 46, 0, 0, 0), (1, 19, 2, 9, 0), (4, 46, 0, 0, 0), (5, 19, 1, 9, 0), (8, 67, 284, 1, 7), (11, 0, 0, 0, (-1)), (12, 2, 1, 0, 0), (13, 0, 0, 0, 1), (14, 2, 2, 0, 0), (15, 72, 1, 0, 0)] := am_o46 (Or.inl ⟨0, dX11_last_0, rfl, rfl⟩) (am_o19 (⟨23, dX11_last_1, rfl, k_RX11_23_gA⟩) (am_o46 (Or.inl ⟨0, dX11_last_4, rfl, rfl⟩) (am_o19 (⟨19, dX11_last_5, rfl, k_RX11_19_gA⟩) (am_o67 (⟨⟨cal_284, by decide, ⟨_, rfl, rfl⟩, 103, dX11_last_8, rfl, lV_RX11_103.1, lV_RX11_103.2.1, lV_RX11_103.2.2.1, lV_RX11_103.2.2.2⟩, nl_284⟩) (am_o0 (Or.inl ⟨-1, dX11_last_11, ci_m1, rfl⟩) (am_o2 (Or.inl ⟨1, dX11_last_12, rfl, rfl⟩) (am_o0 (Or.inl ⟨1, dX11_last_13, ci_1, rfl⟩) (am_o2 (Or.inl ⟨2, dX11_last_14, rfl, rfl⟩) (am_o72 (rfl) (trivial))))))))))
theorem gF_last_1 : am_okL κF_last 25 [(15, 1, 2, 0, 0), (16, 0, 0, 0, 100), (18, 60, 5, 2, 0)] := am_o1 (Or.inl ⟨2, dX11_last_15, rfl, rfl⟩) (am_o0 (Or.inr (Or.inl ⟨100, dX11_last_16, cb_100, rfl⟩)) (am_o60 (⟨26, dX11_last_18, rfl, rfl⟩) (trivial)))
theorem gF_last_2 : am_okL κF_last 25 [(21, 46, 0, 0, 0), (22, 19, 2, 9, 0), (25, 46, 0, 0, 0), (26, 19, 5, 9, 0), (29, 0, 0, 0, 0), (30, 66, 289, 2, 7), (33, 55, 4, 3, 0)] := am_o46 (Or.inl ⟨0, dX11_last_21, rfl, rfl⟩) (am_o19 (⟨23, dX11_last_22, rfl, k_RX11_23_gA⟩) (am_o46 (Or.inl ⟨0, dX11_last_25, rfl, rfl⟩) (am_o19 (⟨39, dX11_last_26, rfl, k_RX11_39_gA⟩) (am_o0 (Or.inl ⟨0, dX11_last_29, ci_0, rfl⟩) (am_o66 (⟨⟨cal_289, by decide, ⟨_, rfl, rfl⟩, 178, dX11_last_30, rfl, lV_RX11_178.1, lV_RX11_178.2.1, lV_RX11_178.2.2.1, lV_RX11_178.2.2.2⟩, nl_289⟩) (am_o55 (⟨5, dX11_last_33, rfl, rfl⟩) (trivial)))))))
theorem gF_last_3 : am_okL κF_last 25 [(36, 1, 2, 0, 0), (37, 2, 1, 0, 0), (38, 72, 4, 0, 0)] := am_o1 (Or.inl ⟨2, dX11_last_36, rfl, rfl⟩) (am_o2 (Or.inl ⟨1, dX11_last_37, rfl, rfl⟩) (am_o72 (rfl) (trivial)))
theorem gF_last_4 : am_okL κF_last 25 [(38, 3, 2, 0, 1), (41, 71, 1, 0, 0)] := am_o3 (⟨1, dX11_last_38, ci_1, rfl⟩) (am_o71 (⟨(-26), dX11_last_41, rfl⟩) (trivial))
theorem gF_last_5 : am_okL κF_last 25 [(44, 1, 1, 0, 0), (45, 74, 0, 0, 0)] := am_o1 (Or.inl ⟨1, dX11_last_44, rfl, rfl⟩) (am_o74 (⟨dX11_last_45, rfl⟩) (trivial))
theorem GF_last : am_okM qF_last := am_okM_of (κ := κF_last) (bl := pF_last) (Prod.ext rfl (Prod.ext rfl (Prod.ext zF_last rfl))) zF_last (List.forall_mem_cons.mpr ⟨gF_last_0, List.forall_mem_cons.mpr ⟨gF_last_1, List.forall_mem_cons.mpr ⟨gF_last_2, List.forall_mem_cons.mpr ⟨gF_last_3, List.forall_mem_cons.mpr ⟨gF_last_4, List.forall_mem_cons.mpr ⟨gF_last_5, fun _ h => absurd h List.not_mem_nil⟩⟩⟩⟩⟩⟩)
theorem gF_gives_0 : am_okL κF_gives 26 [(0, 1, 1, 0, 0), (1, 0, 0, 0, (-1)), (2, 56, 2, 1, 0)] := am_o1 (Or.inl ⟨1, dX11_gives_0, rfl, rfl⟩) (am_o0 (Or.inl ⟨-1, dX11_gives_1, ci_m1, rfl⟩) (am_o56 (⟨8, dX11_gives_2, rfl, rfl⟩) (trivial)))
theorem gF_gives_1 : am_okL κF_gives 26 [(5, 46, 0, 0, 0), (6, 1, 1, 0, 0), (7, 67, 54, 1, 9), (10, 72, 2, 0, 0)] := am_o46 (Or.inl ⟨0, dX11_gives_5, rfl, rfl⟩) (am_o1 (Or.inl ⟨1, dX11_gives_6, rfl, rfl⟩) (am_o67 (⟨⟨cal_54, by decide, ⟨_, rfl, rfl⟩, 155, dX11_gives_7, rfl, lV_RX11_155.1, lV_RX11_155.2.1, lV_RX11_155.2.2.1, lV_RX11_155.2.2.2⟩, nl_54⟩) (am_o72 (rfl) (trivial))))
theorem gF_gives_2 : am_okL κF_gives 26 [(10, 46, 0, 0, 0), (11, 19, 11, 9, 0), (14, 46, 0, 0, 0), (15, 19, 1, 9, 0), (18, 66, 263, 1, 4), (21, 2, 2, 0, 0), (22, 1, 1, 0, 0), (23, 0, 0, 0, (-1)), (24, 57, 4, 3, 0)] := am_o46 (Or.inl ⟨0, dX11_gives_10, rfl, rfl⟩) (am_o19 (⟨77, dX11_gives_11, rfl, k_RX11_77_gA⟩) (am_o46 (Or.inl ⟨0, dX11_gives_14, rfl, rfl⟩) (am_o19 (⟨19, dX11_gives_15, rfl, k_RX11_19_gA⟩) (am_o66 (⟨⟨cal_263, by decide, ⟨_, rfl, rfl⟩, 294, dX11_gives_18, rfl, lV_RX11_294.1, lV_RX11_294.2.1, lV_RX11_294.2.2.1, lV_RX11_294.2.2.2⟩, nl_263⟩) (am_o2 (Or.inl ⟨2, dX11_gives_21, rfl, rfl⟩) (am_o1 (Or.inl ⟨1, dX11_gives_22, rfl, rfl⟩) (am_o0 (Or.inl ⟨-1, dX11_gives_23, ci_m1, rfl⟩) (am_o57 (⟨7, dX11_gives_24, rfl, rfl⟩) (trivial)))))))))
theorem gF_gives_3 : am_okL κF_gives 26 [(27, 1, 2, 0, 0), (28, 71, 5, 0, 0)] := am_o1 (Or.inl ⟨2, dX11_gives_27, rfl, rfl⟩) (am_o71 (⟨12, dX11_gives_28, rfl⟩) (trivial))
theorem gF_gives_4 : am_okL κF_gives 26 [(31, 46, 0, 0, 0), (32, 19, 11, 9, 0), (35, 19, 0, 4, 0), (38, 1, 1, 0, 0), (39, 22, 0, 0, 0), (40, 72, 5, 0, 0)] := am_o46 (Or.inl ⟨0, dX11_gives_31, rfl, rfl⟩) (am_o19 (⟨77, dX11_gives_32, rfl, k_RX11_77_gA⟩) (am_o19 (⟨298, dX11_gives_35, rfl, k_RX11_298_gA⟩) (am_o1 (Or.inl ⟨1, dX11_gives_38, rfl, rfl⟩) (am_o22 (⟨dX11_gives_39, rfl⟩) (am_o72 (rfl) (trivial))))))
theorem gF_gives_5 : am_okL κF_gives 26 [(40, 74, 0, 0, 0)] := am_o74 (⟨dX11_gives_40, rfl⟩) (trivial)
theorem GF_gives : am_okM qF_gives := am_okM_of (κ := κF_gives) (bl := pF_gives) (Prod.ext rfl (Prod.ext rfl (Prod.ext zF_gives rfl))) zF_gives (List.forall_mem_cons.mpr ⟨gF_gives_0, List.forall_mem_cons.mpr ⟨gF_gives_1, List.forall_mem_cons.mpr ⟨gF_gives_2, List.forall_mem_cons.mpr ⟨gF_gives_3, List.forall_mem_cons.mpr ⟨gF_gives_4, List.forall_mem_cons.mpr ⟨gF_gives_5, fun _ h => absurd h List.not_mem_nil⟩⟩⟩⟩⟩⟩)
theorem gF_trade_0 : am_okL κF_trade 27 [(0, 46, 0, 0, 0), (1, 1, 1, 0, 0), (2, 67, 54, 1, 9), (5, 46, 0, 0, 0), (6, 19, 11, 9, 0), (9, 46, 0, 0, 0), (10, 19, 1, 9, 0), (13, 67, 265, 1, 4), (16, 46, 0, 0, 0), (17, 19, 11, 9, 0), (20, 19, 1, 4, 0), (23, 1, 1, 0, 0), (24, 22, 0, 0, 0), (25, 74, 0, 0, 0)] := am_o46 (Or.inl ⟨0, dX11_trade_0, rfl, rfl⟩) (am_o1 (Or.inl ⟨1, dX11_trade_1, rfl, rfl⟩) (am_o67 (⟨⟨cal_54, by decide, ⟨_, rfl, rfl⟩, 155, dX11_trade_2, rfl, lV_RX11_155.1, lV_RX11_155.2.1, lV_RX11_155.2.2.1, lV_RX11_155.2.2.2⟩, nl_54⟩) (am_o46 (Or.inl ⟨0, dX11_trade_5, rfl, rfl⟩) (am_o19 (⟨77, dX11_trade_6, rfl, k_RX11_77_gA⟩) (am_o46 (Or.inl ⟨0, dX11_trade_9, rfl, rfl⟩) (am_o19 (⟨19, dX11_trade_10, rfl, k_RX11_19_gA⟩) (am_o67 (⟨⟨cal_265, by decide, ⟨_, rfl, rfl⟩, 302, dX11_trade_13, rfl, lV_RX11_302.1, lV_RX11_302.2.1, lV_RX11_302.2.2.1, lV_RX11_302.2.2.2⟩, nl_265⟩) (am_o46 (Or.inl ⟨0, dX11_trade_16, rfl, rfl⟩) (am_o19 (⟨77, dX11_trade_17, rfl, k_RX11_77_gA⟩) (am_o19 (⟨305, dX11_trade_20, rfl, k_RX11_305_gA⟩) (am_o1 (Or.inl ⟨1, dX11_trade_23, rfl, rfl⟩) (am_o22 (⟨dX11_trade_24, rfl⟩) (am_o74 (⟨dX11_trade_25, rfl⟩) (trivial))))))))))))))
theorem GF_trade : am_okM qF_trade := am_okM_of (κ := κF_trade) (bl := pF_trade) (Prod.ext rfl (Prod.ext rfl (Prod.ext zF_trade rfl))) zF_trade (List.forall_mem_cons.mpr ⟨gF_trade_0, fun _ h => absurd h List.not_mem_nil⟩)
theorem gF_ring_0 : am_okL κF_ring 28 [(0, 46, 0, 0, 0), (1, 1, 1, 0, 0), (2, 67, 54, 1, 9), (5, 46, 0, 0, 0), (6, 19, 11, 9, 0), (9, 46, 0, 0, 0), (10, 19, 1, 9, 0), (13, 67, 265, 1, 4), (16, 46, 0, 0, 0), (17, 19, 11, 9, 0), (20, 19, 2, 4, 0), (23, 1, 1, 0, 0), (24, 22, 0, 0, 0), (25, 74, 0, 0, 0)] := am_o46 (Or.inl ⟨0, dX11_ring_0, rfl, rfl⟩) (am_o1 (Or.inl ⟨1, dX11_ring_1, rfl, rfl⟩) (am_o67 (⟨⟨cal_54, by decide, ⟨_, rfl, rfl⟩, 155, dX11_ring_2, rfl, lV_RX11_155.1, lV_RX11_155.2.1, lV_RX11_155.2.2.1, lV_RX11_155.2.2.2⟩, nl_54⟩) (am_o46 (Or.inl ⟨0, dX11_ring_5, rfl, rfl⟩) (am_o19 (⟨77, dX11_ring_6, rfl, k_RX11_77_gA⟩) (am_o46 (Or.inl ⟨0, dX11_ring_9, rfl, rfl⟩) (am_o19 (⟨19, dX11_ring_10, rfl, k_RX11_19_gA⟩) (am_o67 (⟨⟨cal_265, by decide, ⟨_, rfl, rfl⟩, 302, dX11_ring_13, rfl, lV_RX11_302.1, lV_RX11_302.2.1, lV_RX11_302.2.2.1, lV_RX11_302.2.2.2⟩, nl_265⟩) (am_o46 (Or.inl ⟨0, dX11_ring_16, rfl, rfl⟩) (am_o19 (⟨77, dX11_ring_17, rfl, k_RX11_77_gA⟩) (am_o19 (⟨308, dX11_ring_20, rfl, k_RX11_308_gA⟩) (am_o1 (Or.inl ⟨1, dX11_ring_23, rfl, rfl⟩) (am_o22 (⟨dX11_ring_24, rfl⟩) (am_o74 (⟨dX11_ring_25, rfl⟩) (trivial))))))))))))))
theorem GF_ring : am_okM qF_ring := am_okM_of (κ := κF_ring) (bl := pF_ring) (Prod.ext rfl (Prod.ext rfl (Prod.ext zF_ring rfl))) zF_ring (List.forall_mem_cons.mpr ⟨gF_ring_0, fun _ h => absurd h List.not_mem_nil⟩)
theorem gF_swap_0 : am_okL κF_swap 29 [(0, 46, 0, 0, 0), (1, 1, 1, 0, 0), (2, 1, 2, 0, 0), (3, 67, 55, 2, 9), (6, 46, 0, 0, 0), (7, 19, 1, 9, 0), (10, 1, 1, 0, 0), (11, 1, 2, 0, 0), (12, 64, 269, 3, 0), (15, 50, 3, 1, 0)] := am_o46 (Or.inl ⟨0, dX11_swap_0, rfl, rfl⟩) (am_o1 (Or.inl ⟨1, dX11_swap_1, rfl, rfl⟩) (am_o1 (Or.inl ⟨2, dX11_swap_2, rfl, rfl⟩) (am_o67 (⟨⟨cal_55, by decide, ⟨_, rfl, rfl⟩, 220, dX11_swap_3, rfl, lV_RX11_220.1, lV_RX11_220.2.1, lV_RX11_220.2.2.1, lV_RX11_220.2.2.2⟩, nl_55⟩) (am_o46 (Or.inl ⟨0, dX11_swap_6, rfl, rfl⟩) (am_o19 (⟨19, dX11_swap_7, rfl, k_RX11_19_gA⟩) (am_o1 (Or.inl ⟨1, dX11_swap_10, rfl, rfl⟩) (am_o1 (Or.inl ⟨2, dX11_swap_11, rfl, rfl⟩) (am_o64 (Or.inl ⟨⟨cal_269, 311, dX11_swap_12, rfl, lS_RX11_311.1, lS_RX11_311.2.1, lS_RX11_311.2.2⟩, nl_269⟩) (am_o50 (⟨19, dX11_swap_15, rfl, rfl⟩) (trivial))))))))))
theorem gF_swap_1 : am_okL κF_swap 29 [(18, 46, 0, 0, 0), (19, 19, 1, 9, 0), (22, 1, 2, 0, 0), (23, 1, 1, 0, 0), (24, 64, 269, 3, 0), (27, 50, 3, 2, 0)] := am_o46 (Or.inl ⟨0, dX11_swap_18, rfl, rfl⟩) (am_o19 (⟨19, dX11_swap_19, rfl, k_RX11_19_gA⟩) (am_o1 (Or.inl ⟨2, dX11_swap_22, rfl, rfl⟩) (am_o1 (Or.inl ⟨1, dX11_swap_23, rfl, rfl⟩) (am_o64 (Or.inl ⟨⟨cal_269, 311, dX11_swap_24, rfl, lS_RX11_311.1, lS_RX11_311.2.1, lS_RX11_311.2.2⟩, nl_269⟩) (am_o50 (⟨7, dX11_swap_27, rfl, rfl⟩) (trivial))))))
theorem gF_swap_2 : am_okL κF_swap 29 [(30, 0, 0, 0, 1), (31, 71, 4, 0, 0)] := am_o0 (Or.inl ⟨1, dX11_swap_30, ci_1, rfl⟩) (am_o71 (⟨4, dX11_swap_31, rfl⟩) (trivial))
theorem gF_swap_3 : am_okL κF_swap 29 [(34, 0, 0, 0, 0), (35, 72, 4, 0, 0)] := am_o0 (Or.inl ⟨0, dX11_swap_34, ci_0, rfl⟩) (am_o72 (rfl) (trivial))
theorem gF_swap_4 : am_okL κF_swap 29 [(35, 75, 0, 0, 0)] := am_o75 (⟨dX11_swap_35, rfl⟩) (trivial)
theorem GF_swap : am_okM qF_swap := am_okM_of (κ := κF_swap) (bl := pF_swap) (Prod.ext rfl (Prod.ext rfl (Prod.ext zF_swap rfl))) zF_swap (List.forall_mem_cons.mpr ⟨gF_swap_0, List.forall_mem_cons.mpr ⟨gF_swap_1, List.forall_mem_cons.mpr ⟨gF_swap_2, List.forall_mem_cons.mpr ⟨gF_swap_3, List.forall_mem_cons.mpr ⟨gF_swap_4, fun _ h => absurd h List.not_mem_nil⟩⟩⟩⟩⟩)
theorem gF_all_0 : am_okL κF_all 30 [(0, 46, 0, 0, 0), (1, 19, 1, 9, 0), (4, 64, 272, 1, 0), (7, 74, 0, 0, 0)] := am_o46 (Or.inl ⟨0, dX11_all_0, rfl, rfl⟩) (am_o19 (⟨19, dX11_all_1, rfl, k_RX11_19_gA⟩) (am_o64 (Or.inl ⟨⟨cal_272, 315, dX11_all_4, rfl, lS_RX11_315.1, lS_RX11_315.2.1, lS_RX11_315.2.2⟩, nl_272⟩) (am_o74 (⟨dX11_all_7, rfl⟩) (trivial))))
theorem GF_all : am_okM qF_all := am_okM_of (κ := κF_all) (bl := pF_all) (Prod.ext rfl (Prod.ext rfl (Prod.ext zF_all rfl))) zF_all (List.forall_mem_cons.mpr ⟨gF_all_0, fun _ h => absurd h List.not_mem_nil⟩)
theorem gF_missing_0 : am_okL κF_missing 31 [(0, 0, 0, 0, 0), (1, 2, 1, 0, 0), (2, 0, 0, 0, 0), (3, 2, 2, 0, 0), (4, 72, 1, 0, 0)] := am_o0 (Or.inl ⟨0, dX11_missing_0, ci_0, rfl⟩) (am_o2 (Or.inl ⟨1, dX11_missing_1, rfl, rfl⟩) (am_o0 (Or.inl ⟨0, dX11_missing_2, ci_0, rfl⟩) (am_o2 (Or.inl ⟨2, dX11_missing_3, rfl, rfl⟩) (am_o72 (rfl) (trivial)))))
theorem gF_missing_1 : am_okL κF_missing 31 [(4, 1, 2, 0, 0), (5, 0, 0, 0, 8), (7, 59, 6, 2, 0)] := am_o1 (Or.inl ⟨2, dX11_missing_4, rfl, rfl⟩) (am_o0 (Or.inr (Or.inl ⟨8, dX11_missing_5, cb_8, rfl⟩)) (am_o59 (⟨41, dX11_missing_7, rfl, rfl⟩) (trivial)))
theorem gF_missing_2 : am_okL κF_missing 31 [(10, 46, 0, 0, 0), (11, 19, 1, 9, 0), (14, 19, 0, 7, 0), (17, 0, 0, 0, 0), (18, 25, 0, 0, 0), (19, 1, 2, 0, 0), (20, 22, 0, 0, 0), (21, 55, 5, 3, 0)] := am_o46 (Or.inl ⟨0, dX11_missing_10, rfl, rfl⟩) (am_o19 (⟨19, dX11_missing_11, rfl, k_RX11_19_gA⟩) (am_o19 (⟨151, dX11_missing_14, rfl, k_RX11_151_gA⟩) (am_o0 (Or.inl ⟨0, dX11_missing_17, ci_0, rfl⟩) (am_o25 (⟨dX11_missing_18, rfl⟩) (am_o1 (Or.inl ⟨2, dX11_missing_19, rfl, rfl⟩) (am_o22 (⟨dX11_missing_20, rfl⟩) (am_o55 (⟨21, dX11_missing_21, rfl, rfl⟩) (trivial))))))))
theorem gF_missing_3 : am_okL κF_missing 31 [(24, 46, 0, 0, 0), (25, 19, 1, 9, 0), (28, 0, 0, 0, 5), (29, 1, 2, 0, 0), (30, 66, 298, 2, 7), (33, 51, 5, 4, 0)] := am_o46 (Or.inl ⟨0, dX11_missing_24, rfl, rfl⟩) (am_o19 (⟨19, dX11_missing_25, rfl, k_RX11_19_gA⟩) (am_o0 (Or.inl ⟨5, dX11_missing_28, ci_5, rfl⟩) (am_o1 (Or.inl ⟨2, dX11_missing_29, rfl, rfl⟩) (am_o66 (⟨⟨cal_298, by decide, ⟨_, rfl, rfl⟩, 275, dX11_missing_30, rfl, lV_RX11_275.1, lV_RX11_275.2.1, lV_RX11_275.2.2.1, lV_RX11_275.2.2.2⟩, nl_298⟩) (am_o51 (⟨9, dX11_missing_33, rfl, rfl⟩) (trivial))))))
theorem gF_missing_4 : am_okL κF_missing 31 [(36, 1, 1, 0, 0), (37, 0, 0, 0, 1), (38, 1, 2, 0, 0), (39, 10, 0, 0, 0), (40, 8, 0, 0, 0), (41, 2, 1, 0, 0), (42, 72, 5, 0, 0)] := am_o1 (Or.inl ⟨1, dX11_missing_36, rfl, rfl⟩) (am_o0 (Or.inl ⟨1, dX11_missing_37, ci_1, rfl⟩) (am_o1 (Or.inl ⟨2, dX11_missing_38, rfl, rfl⟩) (am_o10 (⟨dX11_missing_39, rfl⟩) (am_o8 (⟨dX11_missing_40, rfl⟩) (am_o2 (Or.inl ⟨1, dX11_missing_41, rfl, rfl⟩) (am_o72 (rfl) (trivial)))))))
theorem gF_missing_5 : am_okL κF_missing 31 [(42, 3, 2, 0, 1), (45, 71, 1, 0, 0)] := am_o3 (⟨1, dX11_missing_42, ci_1, rfl⟩) (am_o71 (⟨(-41), dX11_missing_45, rfl⟩) (trivial))
theorem gF_missing_6 : am_okL κF_missing 31 [(48, 1, 1, 0, 0), (49, 74, 0, 0, 0)] := am_o1 (Or.inl ⟨1, dX11_missing_48, rfl, rfl⟩) (am_o74 (⟨dX11_missing_49, rfl⟩) (trivial))
theorem GF_missing : am_okM qF_missing := am_okM_of (κ := κF_missing) (bl := pF_missing) (Prod.ext rfl (Prod.ext rfl (Prod.ext zF_missing rfl))) zF_missing (List.forall_mem_cons.mpr ⟨gF_missing_0, List.forall_mem_cons.mpr ⟨gF_missing_1, List.forall_mem_cons.mpr ⟨gF_missing_2, List.forall_mem_cons.mpr ⟨gF_missing_3, List.forall_mem_cons.mpr ⟨gF_missing_4, List.forall_mem_cons.mpr ⟨gF_missing_5, List.forall_mem_cons.mpr ⟨gF_missing_6, fun _ h => absurd h List.not_mem_nil⟩⟩⟩⟩⟩⟩⟩)
theorem gF_nobody_0 : am_okL κF_nobody 32 [(0, 0, 0, 0, 0), (1, 2, 1, 0, 0), (2, 0, 0, 0, 1), (3, 2, 2, 0, 0), (4, 72, 1, 0, 0)] := am_o0 (Or.inl ⟨0, dX11_nobody_0, ci_0, rfl⟩) (am_o2 (Or.inl ⟨1, dX11_nobody_1, rfl, rfl⟩) (am_o0 (Or.inl ⟨1, dX11_nobody_2, ci_1, rfl⟩) (am_o2 (Or.inl ⟨2, dX11_nobody_3, rfl, rfl⟩) (am_o72 (rfl) (trivial)))))
theorem gF_nobody_1 : am_okL κF_nobody 32 [(4, 1, 2, 0, 0), (5, 0, 0, 0, 8), (7, 59, 5, 2, 0)] := am_o1 (Or.inl ⟨2, dX11_nobody_4, rfl, rfl⟩) (am_o0 (Or.inr (Or.inl ⟨8, dX11_nobody_5, cb_8, rfl⟩)) (am_o59 (⟨32, dX11_nobody_7, rfl, rfl⟩) (trivial)))
theorem gF_nobody_2 : am_okL κF_nobody 32 [(10, 46, 0, 0, 0), (11, 19, 1, 9, 0), (14, 0, 0, 0, 4), (15, 1, 2, 0, 0), (16, 66, 299, 2, 7), (19, 46, 0, 0, 0), (20, 19, 1, 9, 0), (23, 0, 0, 0, 4), (24, 1, 1, 0, 0), (25, 66, 299, 2, 7), (28, 59, 4, 3, 0)] := am_o46 (Or.inl ⟨0, dX11_nobody_10, rfl, rfl⟩) (am_o19 (⟨19, dX11_nobody_11, rfl, k_RX11_19_gA⟩) (am_o0 (Or.inl ⟨4, dX11_nobody_14, ci_4, rfl⟩) (am_o1 (Or.inl ⟨2, dX11_nobody_15, rfl, rfl⟩) (am_o66 (⟨⟨cal_299, by decide, ⟨_, rfl, rfl⟩, 288, dX11_nobody_16, rfl, lV_RX11_288.1, lV_RX11_288.2.1, lV_RX11_288.2.2.1, lV_RX11_288.2.2.2⟩, nl_299⟩) (am_o46 (Or.inl ⟨0, dX11_nobody_19, rfl, rfl⟩) (am_o19 (⟨19, dX11_nobody_20, rfl, k_RX11_19_gA⟩) (am_o0 (Or.inl ⟨4, dX11_nobody_23, ci_4, rfl⟩) (am_o1 (Or.inl ⟨1, dX11_nobody_24, rfl, rfl⟩) (am_o66 (⟨⟨cal_299, by decide, ⟨_, rfl, rfl⟩, 288, dX11_nobody_25, rfl, lV_RX11_288.1, lV_RX11_288.2.1, lV_RX11_288.2.2.1, lV_RX11_288.2.2.2⟩, nl_299⟩) (am_o59 (⟨5, dX11_nobody_28, rfl, rfl⟩) (trivial)))))))))))
theorem gF_nobody_3 : am_okL κF_nobody 32 [(31, 1, 2, 0, 0), (32, 2, 1, 0, 0), (33, 72, 4, 0, 0)] := am_o1 (Or.inl ⟨2, dX11_nobody_31, rfl, rfl⟩) (am_o2 (Or.inl ⟨1, dX11_nobody_32, rfl, rfl⟩) (am_o72 (rfl) (trivial)))
theorem gF_nobody_4 : am_okL κF_nobody 32 [(33, 3, 2, 0, 1), (36, 71, 1, 0, 0)] := am_o3 (⟨1, dX11_nobody_33, ci_1, rfl⟩) (am_o71 (⟨(-32), dX11_nobody_36, rfl⟩) (trivial))
theorem gF_nobody_5 : am_okL κF_nobody 32 [(39, 1, 1, 0, 0), (40, 74, 0, 0, 0)] := am_o1 (Or.inl ⟨1, dX11_nobody_39, rfl, rfl⟩) (am_o74 (⟨dX11_nobody_40, rfl⟩) (trivial))
theorem GF_nobody : am_okM qF_nobody := am_okM_of (κ := κF_nobody) (bl := pF_nobody) (Prod.ext rfl (Prod.ext rfl (Prod.ext zF_nobody rfl))) zF_nobody (List.forall_mem_cons.mpr ⟨gF_nobody_0, List.forall_mem_cons.mpr ⟨gF_nobody_1, List.forall_mem_cons.mpr ⟨gF_nobody_2, List.forall_mem_cons.mpr ⟨gF_nobody_3, List.forall_mem_cons.mpr ⟨gF_nobody_4, List.forall_mem_cons.mpr ⟨gF_nobody_5, fun _ h => absurd h List.not_mem_nil⟩⟩⟩⟩⟩⟩)
theorem gF_rules_0 : am_okL κF_rules 33 [(0, 46, 0, 0, 0), (1, 67, 60, 0, 9), (4, 46, 0, 0, 0), (5, 19, 12, 9, 0), (8, 46, 0, 0, 0), (9, 19, 1, 9, 0), (12, 46, 0, 0, 0), (13, 19, 0, 9, 0), (16, 67, 234, 2, 0), (19, 1, 1, 0, 0), (20, 50, 2, 1, 0)] := am_o46 (Or.inl ⟨0, dX11_rules_0, rfl, rfl⟩) (am_o67 (⟨⟨cal_60, by decide, ⟨_, rfl, rfl⟩, 318, dX11_rules_1, rfl, lV_RX11_318.1, lV_RX11_318.2.1, lV_RX11_318.2.2.1, lV_RX11_318.2.2.2⟩, nl_60⟩) (am_o46 (Or.inl ⟨0, dX11_rules_4, rfl, rfl⟩) (am_o19 (⟨84, dX11_rules_5, rfl, k_RX11_84_gA⟩) (am_o46 (Or.inl ⟨0, dX11_rules_8, rfl, rfl⟩) (am_o19 (⟨19, dX11_rules_9, rfl, k_RX11_19_gA⟩) (am_o46 (Or.inl ⟨0, dX11_rules_12, rfl, rfl⟩) (am_o19 (⟨10, dX11_rules_13, rfl, k_RX11_10_gA⟩) (am_o67 (⟨⟨cal_234, by decide, ⟨_, rfl, rfl⟩, 321, dX11_rules_16, rfl, lV_RX11_321.1, lV_RX11_321.2.1, lV_RX11_321.2.2.1, lV_RX11_321.2.2.2⟩, nl_234⟩) (am_o1 (Or.inl ⟨1, dX11_rules_19, rfl, rfl⟩) (am_o50 (⟨13, dX11_rules_20, rfl, rfl⟩) (trivial)))))))))))
theorem gF_rules_1 : am_okL κF_rules 33 [(23, 46, 0, 0, 0), (24, 19, 12, 9, 0), (27, 66, 237, 0, 0), (30, 71, 3, 0, 0)] := am_o46 (Or.inl ⟨0, dX11_rules_23, rfl, rfl⟩) (am_o19 (⟨84, dX11_rules_24, rfl, k_RX11_84_gA⟩) (am_o66 (⟨⟨cal_237, by decide, ⟨_, rfl, rfl⟩, 325, dX11_rules_27, rfl, lV_RX11_325.1, lV_RX11_325.2.1, lV_RX11_325.2.2.1, lV_RX11_325.2.2.2⟩, nl_237⟩) (am_o71 (⟨10, dX11_rules_30, rfl⟩) (trivial))))
theorem gF_rules_2 : am_okL κF_rules 33 [(33, 46, 0, 0, 0), (34, 19, 12, 9, 0), (37, 18, 2, 0, 0), (40, 72, 3, 0, 0)] := am_o46 (Or.inl ⟨0, dX11_rules_33, rfl, rfl⟩) (am_o19 (⟨84, dX11_rules_34, rfl, k_RX11_84_gA⟩) (am_o18 (⟨328, dX11_rules_37, rfl, k_RX11_328_gI⟩) (am_o72 (rfl) (trivial))))
theorem gF_rules_3 : am_okL κF_rules 33 [(40, 74, 0, 0, 0)] := am_o74 (⟨dX11_rules_40, rfl⟩) (trivial)
theorem GF_rules : am_okM qF_rules := am_okM_of (κ := κF_rules) (bl := pF_rules) (Prod.ext rfl (Prod.ext rfl (Prod.ext zF_rules rfl))) zF_rules (List.forall_mem_cons.mpr ⟨gF_rules_0, List.forall_mem_cons.mpr ⟨gF_rules_1, List.forall_mem_cons.mpr ⟨gF_rules_2, List.forall_mem_cons.mpr ⟨gF_rules_3, fun _ h => absurd h List.not_mem_nil⟩⟩⟩⟩)
theorem gF_tell_0 : am_okL κF_tell 34 [(0, 46, 0, 0, 0), (1, 67, 60, 0, 9), (4, 46, 0, 0, 0), (5, 19, 12, 9, 0), (8, 46, 0, 0, 0), (9, 19, 1, 9, 0), (12, 46, 0, 0, 0), (13, 19, 0, 9, 0), (16, 67, 234, 2, 0), (19, 46, 0, 0, 0), (20, 19, 12, 9, 0), (23, 46, 0, 0, 0), (24, 19, 1, 9, 0), (27, 66, 238, 1, 0), (30, 74, 0, 0, 0)] := am_o46 (Or.inl ⟨0, dX11_tell_0, rfl, rfl⟩) (am_o67 (⟨⟨cal_60, by decide, ⟨_, rfl, rfl⟩, 318, dX11_tell_1, rfl, lV_RX11_318.1, lV_RX11_318.2.1, lV_RX11_318.2.2.1, lV_RX11_318.2.2.2⟩, nl_60⟩) (am_o46 (Or.inl ⟨0, dX11_tell_4, rfl, rfl⟩) (am_o19 (⟨84, dX11_tell_5, rfl, k_RX11_84_gA⟩) (am_o46 (Or.inl ⟨0, dX11_tell_8, rfl, rfl⟩) (am_o19 (⟨19, dX11_tell_9, rfl, k_RX11_19_gA⟩) (am_o46 (Or.inl ⟨0, dX11_tell_12, rfl, rfl⟩) (am_o19 (⟨10, dX11_tell_13, rfl, k_RX11_10_gA⟩) (am_o67 (⟨⟨cal_234, by decide, ⟨_, rfl, rfl⟩, 321, dX11_tell_16, rfl, lV_RX11_321.1, lV_RX11_321.2.1, lV_RX11_321.2.2.1, lV_RX11_321.2.2.2⟩, nl_234⟩) (am_o46 (Or.inl ⟨0, dX11_tell_19, rfl, rfl⟩) (am_o19 (⟨84, dX11_tell_20, rfl, k_RX11_84_gA⟩) (am_o46 (Or.inl ⟨0, dX11_tell_23, rfl, rfl⟩) (am_o19 (⟨19, dX11_tell_24, rfl, k_RX11_19_gA⟩) (am_o66 (⟨⟨cal_238, by decide, ⟨_, rfl, rfl⟩, 330, dX11_tell_27, rfl, lV_RX11_330.1, lV_RX11_330.2.1, lV_RX11_330.2.2.1, lV_RX11_330.2.2.2⟩, nl_238⟩) (am_o74 (⟨dX11_tell_30, rfl⟩) (trivial)))))))))))))))
theorem GF_tell : am_okM qF_tell := am_okM_of (κ := κF_tell) (bl := pF_tell) (Prod.ext rfl (Prod.ext rfl (Prod.ext zF_tell rfl))) zF_tell (List.forall_mem_cons.mpr ⟨gF_tell_0, fun _ h => absurd h List.not_mem_nil⟩)
theorem gF_rests_0 : am_okL κF_rests 35 [(0, 46, 0, 0, 0), (1, 1, 1, 0, 0), (2, 67, 54, 1, 9), (5, 46, 0, 0, 0), (6, 19, 1, 9, 0), (9, 19, 1, 7, 0), (12, 0, 0, 0, 7), (14, 25, 0, 0, 0), (15, 1, 1, 0, 0), (16, 22, 0, 0, 0), (17, 50, 2, 1, 0)] := am_o46 (Or.inl ⟨0, dX11_rests_0, rfl, rfl⟩) (am_o1 (Or.inl ⟨1, dX11_rests_1, rfl, rfl⟩) (am_o67 (⟨⟨cal_54, by decide, ⟨_, rfl, rfl⟩, 155, dX11_rests_2, rfl, lV_RX11_155.1, lV_RX11_155.2.1, lV_RX11_155.2.2.1, lV_RX11_155.2.2.2⟩, nl_54⟩) (am_o46 (Or.inl ⟨0, dX11_rests_5, rfl, rfl⟩) (am_o19 (⟨19, dX11_rests_6, rfl, k_RX11_19_gA⟩) (am_o19 (⟨170, dX11_rests_9, rfl, k_RX11_170_gA⟩) (am_o0 (Or.inr (Or.inl ⟨7, dX11_rests_12, cb_7, rfl⟩)) (am_o25 (⟨dX11_rests_14, rfl⟩) (am_o1 (Or.inl ⟨1, dX11_rests_15, rfl, rfl⟩) (am_o22 (⟨dX11_rests_16, rfl⟩) (am_o50 (⟨5, dX11_rests_17, rfl, rfl⟩) (trivial)))))))))))
theorem gF_rests_1 : am_okL κF_rests 35 [(20, 0, 0, 0, (-1)), (21, 74, 0, 0, 0)] := am_o0 (Or.inl ⟨-1, dX11_rests_20, ci_m1, rfl⟩) (am_o74 (⟨dX11_rests_21, rfl⟩) (trivial))
theorem gF_rests_2 : am_okL κF_rests 35 [(22, 46, 0, 0, 0), (23, 19, 0, 9, 0), (26, 0, 0, 0, 0), (27, 20, 2, 8, 0), (30, 46, 0, 0, 0), (31, 19, 1, 9, 0), (34, 46, 0, 0, 0), (35, 19, 1, 9, 0), (38, 46, 0, 0, 0), (39, 19, 0, 9, 0), (42, 64, 224, 2, 0), (45, 64, 230, 2, 0), (48, 2, 2, 0, 0), (49, 1, 2, 0, 0), (50, 46, 0, 0, 0), (51, 19, 1, 9, 0), (54, 19, 1, 7, 0), (57, 0, 0, 0, 3), (58, 25, 0, 0, 0), (59, 1, 1, 0, 0), (60, 22, 0, 0, 0), (61, 64, 65, 2, 0), (64, 74, 0, 0, 0)] := am_o46 (Or.inl ⟨0, dX11_rests_22, rfl, rfl⟩) (am_o19 (⟨10, dX11_rests_23, rfl, k_RX11_10_gA⟩) (am_o0 (Or.inl ⟨0, dX11_rests_26, ci_0, rfl⟩) (am_o20 (⟨333, dX11_rests_27, rfl, k_RX11_333_pI⟩) (am_o46 (Or.inl ⟨0, dX11_rests_30, rfl, rfl⟩) (am_o19 (⟨19, dX11_rests_31, rfl, k_RX11_19_gA⟩) (am_o46 (Or.inl ⟨0, dX11_rests_34, rfl, rfl⟩) (am_o19 (⟨19, dX11_rests_35, rfl, k_RX11_19_gA⟩) (am_o46 (Or.inl ⟨0, dX11_rests_38, rfl, rfl⟩) (am_o19 (⟨10, dX11_rests_39, rfl, k_RX11_10_gA⟩) (am_o64 (Or.inl ⟨⟨cal_224, 248, dX11_rests_42, rfl, lS_RX11_248.1, lS_RX11_248.2.1, lS_RX11_248.2.2⟩, nl_224⟩) (am_o64 (Or.inl ⟨⟨cal_230, 257, dX11_rests_45, rfl, lS_RX11_257.1, lS_RX11_257.2.1, lS_RX11_257.2.2⟩, nl_230⟩) (am_o2 (Or.inl ⟨2, dX11_rests_48, rfl, rfl⟩) (am_o1 (Or.inl ⟨2, dX11_rests_49, rfl, rfl⟩) (am_o46 (Or.inl ⟨0, dX11_rests_50, rfl, rfl⟩) (am_o19 (⟨19, dX11_rests_51, rfl, k_RX11_19_gA⟩) (am_o19 (⟨170, dX11_rests_54, rfl, k_RX11_170_gA⟩) (am_o0 (Or.inl ⟨3, dX11_rests_57, ci_3, rfl⟩) (am_o25 (⟨dX11_rests_58, rfl⟩) (am_o1 (Or.inl ⟨1, dX11_rests_59, rfl, rfl⟩) (am_o22 (⟨dX11_rests_60, rfl⟩) (am_o64 (Or.inl ⟨⟨cal_65, 336, dX11_rests_61, rfl, lS_RX11_336.1, lS_RX11_336.2.1, lS_RX11_336.2.2⟩, nl_65⟩) (am_o74 (⟨dX11_rests_64, rfl⟩) (trivial)))))))))))))))))))))))
theorem GF_rests : am_okM qF_rests := am_okM_of (κ := κF_rests) (bl := pF_rests) (Prod.ext rfl (Prod.ext rfl (Prod.ext zF_rests rfl))) zF_rests (List.forall_mem_cons.mpr ⟨gF_rests_0, List.forall_mem_cons.mpr ⟨gF_rests_1, List.forall_mem_cons.mpr ⟨gF_rests_2, fun _ h => absurd h List.not_mem_nil⟩⟩⟩)
theorem gF_nothing_0 : am_okL κF_nothing 36 [(0, 1, 1, 0, 0), (1, 52, 2, 1, 0)] := am_o1 (Or.inl ⟨1, dX11_nothing_0, rfl, rfl⟩) (am_o52 (⟨8, dX11_nothing_1, rfl, rfl⟩) (trivial))
theorem gF_nothing_1 : am_okL κF_nothing 36 [(4, 1, 1, 0, 0), (5, 0, 0, 0, 4), (6, 61, 3, 2, 0)] := am_o1 (Or.inl ⟨1, dX11_nothing_4, rfl, rfl⟩) (am_o0 (Or.inl ⟨4, dX11_nothing_5, ci_4, rfl⟩) (am_o61 (⟨14, dX11_nothing_6, rfl, rfl⟩) (trivial)))
theorem gF_nothing_2 : am_okL κF_nothing 36 [(9, 77, 1, 0, 0)] := am_o77 (⟨110, 339, 114, 21, fit_at_114, fit_sup, wT_833, wT_144, by decide, rfl, rfl, at_114, dX11_nothing_9, dX11_nothing_12, Or.inr ⟨dX11_nothing_13, dX11_nothing_16, dX11_nothing_19⟩⟩) (trivial)
theorem gF_nothing_3 : am_okL κF_nothing 36 [(20, 46, 0, 0, 0), (21, 19, 1, 9, 0), (24, 66, 300, 0, 7), (27, 2, 2, 0, 0), (28, 0, 0, 0, 10000), (31, 2, 3, 0, 0), (32, 0, 0, 0, 0), (33, 2, 4, 0, 0), (35, 72, 4, 0, 0)] := am_o46 (Or.inl ⟨0, dX11_nothing_20, rfl, rfl⟩) (am_o19 (⟨19, dX11_nothing_21, rfl, k_RX11_19_gA⟩) (am_o66 (⟨⟨cal_300, by decide, ⟨_, rfl, rfl⟩, 341, dX11_nothing_24, rfl, lV_RX11_341.1, lV_RX11_341.2.1, lV_RX11_341.2.2.1, lV_RX11_341.2.2.2⟩, nl_300⟩) (am_o2 (Or.inl ⟨2, dX11_nothing_27, rfl, rfl⟩) (am_o0 (Or.inr (Or.inr (Or.inl ⟨10000, dX11_nothing_28, cs_10000, rfl⟩))) (am_o2 (Or.inl ⟨3, dX11_nothing_31, rfl, rfl⟩) (am_o0 (Or.inl ⟨0, dX11_nothing_32, ci_0, rfl⟩) (am_o2 (Or.inr ⟨dX11_nothing_33, rfl⟩) (am_o72 (rfl) (trivial)))))))))
theorem gF_nothing_4 : am_okL κF_nothing 36 [(35, 1, 4, 0, 0), (37, 1, 1, 0, 0), (38, 59, 9, 5, 0)] := am_o1 (Or.inr ⟨dX11_nothing_35, rfl⟩) (am_o1 (Or.inl ⟨1, dX11_nothing_37, rfl, rfl⟩) (am_o59 (⟨34, dX11_nothing_38, rfl, rfl⟩) (trivial)))
theorem gF_nothing_5 : am_okL κF_nothing 36 [(41, 1, 2, 0, 0), (42, 55, 7, 6, 0)] := am_o1 (Or.inl ⟨2, dX11_nothing_41, rfl, rfl⟩) (am_o55 (⟨22, dX11_nothing_42, rfl, rfl⟩) (trivial))
theorem gF_nothing_6 : am_okL κF_nothing 36 [(45, 1, 3, 0, 0), (46, 46, 0, 0, 0), (47, 19, 1, 9, 0), (50, 19, 0, 7, 0), (53, 0, 0, 0, 0), (54, 25, 0, 0, 0), (55, 0, 0, 0, 8), (57, 22, 0, 0, 0), (58, 6, 0, 0, 0), (59, 1, 2, 0, 0), (60, 13, 0, 0, 0), (61, 71, 8, 0, 0)] := am_o1 (Or.inl ⟨3, dX11_nothing_45, rfl, rfl⟩) (am_o46 (Or.inl ⟨0, dX11_nothing_46, rfl, rfl⟩) (am_o19 (⟨19, dX11_nothing_47, rfl, k_RX11_19_gA⟩) (am_o19 (⟨151, dX11_nothing_50, rfl, k_RX11_151_gA⟩) (am_o0 (Or.inl ⟨0, dX11_nothing_53, ci_0, rfl⟩) (am_o25 (⟨dX11_nothing_54, rfl⟩) (am_o0 (Or.inr (Or.inl ⟨8, dX11_nothing_55, cb_8, rfl⟩)) (am_o22 (⟨dX11_nothing_57, rfl⟩) (am_o6 (⟨dX11_nothing_58, rfl⟩) (am_o1 (Or.inl ⟨2, dX11_nothing_59, rfl, rfl⟩) (am_o13 (⟨dX11_nothing_60, rfl⟩) (am_o71 (⟨4, dX11_nothing_61, rfl⟩) (trivial))))))))))))
theorem gF_nothing_7 : am_okL κF_nothing 36 [(64, 0, 0, 0, 0), (65, 72, 8, 0, 0)] := am_o0 (Or.inl ⟨0, dX11_nothing_64, ci_0, rfl⟩) (am_o72 (rfl) (trivial))
theorem gF_nothing_8 : am_okL κF_nothing 36 [(65, 2, 3, 0, 0), (66, 3, 4, 0, 1), (69, 71, 4, 0, 0)] := am_o2 (Or.inl ⟨3, dX11_nothing_65, rfl, rfl⟩) (am_o3 (⟨1, dX11_nothing_66, ci_1, rfl⟩) (am_o71 (⟨(-34), dX11_nothing_69, rfl⟩) (trivial)))
theorem gF_nothing_9 : am_okL κF_nothing 36 [(72, 1, 3, 0, 0), (73, 74, 0, 0, 0)] := am_o1 (Or.inl ⟨3, dX11_nothing_72, rfl, rfl⟩) (am_o74 (⟨dX11_nothing_73, rfl⟩) (trivial))
theorem GF_nothing : am_okM qF_nothing := am_okM_of (κ := κF_nothing) (bl := pF_nothing) (Prod.ext rfl (Prod.ext rfl (Prod.ext zF_nothing rfl))) zF_nothing (List.forall_mem_cons.mpr ⟨gF_nothing_0, List.forall_mem_cons.mpr ⟨gF_nothing_1, List.forall_mem_cons.mpr ⟨gF_nothing_2, List.forall_mem_cons.mpr ⟨gF_nothing_3, List.forall_mem_cons.mpr ⟨gF_nothing_4, List.forall_mem_cons.mpr ⟨gF_nothing_5, List.forall_mem_cons.mpr ⟨gF_nothing_6, List.forall_mem_cons.mpr ⟨gF_nothing_7, List.forall_mem_cons.mpr ⟨gF_nothing_8, List.forall_mem_cons.mpr ⟨gF_nothing_9, fun _ h => absurd h List.not_mem_nil⟩⟩⟩⟩⟩⟩⟩⟩⟩⟩)
theorem gF_shut_0 : am_okL κF_shut 37 [(0, 46, 0, 0, 0), (1, 19, 1, 9, 0), (4, 0, 0, 0, 2), (5, 0, 0, 0, 31), (7, 66, 298, 2, 7), (10, 74, 0, 0, 0)] := am_o46 (Or.inl ⟨0, dX11_shut_0, rfl, rfl⟩) (am_o19 (⟨19, dX11_shut_1, rfl, k_RX11_19_gA⟩) (am_o0 (Or.inl ⟨2, dX11_shut_4, ci_2, rfl⟩) (am_o0 (Or.inr (Or.inl ⟨31, dX11_shut_5, cb_31, rfl⟩)) (am_o66 (⟨⟨cal_298, by decide, ⟨_, rfl, rfl⟩, 275, dX11_shut_7, rfl, lV_RX11_275.1, lV_RX11_275.2.1, lV_RX11_275.2.2.1, lV_RX11_275.2.2.2⟩, nl_298⟩) (am_o74 (⟨dX11_shut_10, rfl⟩) (trivial))))))
theorem GF_shut : am_okM qF_shut := am_okM_of (κ := κF_shut) (bl := pF_shut) (Prod.ext rfl (Prod.ext rfl (Prod.ext zF_shut rfl))) zF_shut (List.forall_mem_cons.mpr ⟨gF_shut_0, fun _ h => absurd h List.not_mem_nil⟩)
theorem gF_open_0 : am_okL κF_open 38 [(0, 46, 0, 0, 0), (1, 19, 1, 9, 0), (4, 0, 0, 0, 7), (6, 0, 0, 0, 1), (7, 66, 298, 2, 7), (10, 74, 0, 0, 0)] := am_o46 (Or.inl ⟨0, dX11_open_0, rfl, rfl⟩) (am_o19 (⟨19, dX11_open_1, rfl, k_RX11_19_gA⟩) (am_o0 (Or.inr (Or.inl ⟨7, dX11_open_4, cb_7, rfl⟩)) (am_o0 (Or.inl ⟨1, dX11_open_6, ci_1, rfl⟩) (am_o66 (⟨⟨cal_298, by decide, ⟨_, rfl, rfl⟩, 275, dX11_open_7, rfl, lV_RX11_275.1, lV_RX11_275.2.1, lV_RX11_275.2.2.1, lV_RX11_275.2.2.2⟩, nl_298⟩) (am_o74 (⟨dX11_open_10, rfl⟩) (trivial))))))
theorem GF_open : am_okM qF_open := am_okM_of (κ := κF_open) (bl := pF_open) (Prod.ext rfl (Prod.ext rfl (Prod.ext zF_open rfl))) zF_open (List.forall_mem_cons.mpr ⟨gF_open_0, fun _ h => absurd h List.not_mem_nil⟩)
theorem gF_knotted_0 : am_okL κF_knotted 39 [(0, 46, 0, 0, 0), (1, 19, 1, 9, 0), (4, 66, 297, 0, 7), (7, 46, 0, 0, 0), (8, 19, 1, 9, 0), (11, 0, 0, 0, 8), (13, 0, 0, 0, (-1)), (14, 66, 298, 2, 7), (17, 0, 0, 0, (-1)), (18, 9, 0, 0, 0), (19, 7, 0, 0, 0), (20, 74, 0, 0, 0)] := am_o46 (Or.inl ⟨0, dX11_knotted_0, rfl, rfl⟩) (am_o19 (⟨19, dX11_knotted_1, rfl, k_RX11_19_gA⟩) (am_o66 (⟨⟨cal_297, by decide, ⟨_, rfl, rfl⟩, 344, dX11_knotted_4, rfl, lV_RX11_344.1, lV_RX11_344.2.1, lV_RX11_344.2.2.1, lV_RX11_344.2.2.2⟩, nl_297⟩) (am_o46 (Or.inl ⟨0, dX11_knotted_7, rfl, rfl⟩) (am_o19 (⟨19, dX11_knotted_8, rfl, k_RX11_19_gA⟩) (am_o0 (Or.inr (Or.inl ⟨8, dX11_knotted_11, cb_8, rfl⟩)) (am_o0 (Or.inl ⟨-1, dX11_knotted_13, ci_m1, rfl⟩) (am_o66 (⟨⟨cal_298, by decide, ⟨_, rfl, rfl⟩, 275, dX11_knotted_14, rfl, lV_RX11_275.1, lV_RX11_275.2.1, lV_RX11_275.2.2.1, lV_RX11_275.2.2.2⟩, nl_298⟩) (am_o0 (Or.inl ⟨-1, dX11_knotted_17, ci_m1, rfl⟩) (am_o9 (⟨dX11_knotted_18, rfl⟩) (am_o7 (⟨dX11_knotted_19, rfl⟩) (am_o74 (⟨dX11_knotted_20, rfl⟩) (trivial))))))))))))
theorem GF_knotted : am_okM qF_knotted := am_okM_of (κ := κF_knotted) (bl := pF_knotted) (Prod.ext rfl (Prod.ext rfl (Prod.ext zF_knotted rfl))) zF_knotted (List.forall_mem_cons.mpr ⟨gF_knotted_0, fun _ h => absurd h List.not_mem_nil⟩)
theorem gF_content_0 : am_okL κF_content 40 [(0, 0, 0, 0, 0), (1, 2, 1, 0, 0), (2, 0, 0, 0, 0), (3, 2, 2, 0, 0), (4, 72, 1, 0, 0)] := am_o0 (Or.inl ⟨0, dX11_content_0, ci_0, rfl⟩) (am_o2 (Or.inl ⟨1, dX11_content_1, rfl, rfl⟩) (am_o0 (Or.inl ⟨0, dX11_content_2, ci_0, rfl⟩) (am_o2 (Or.inl ⟨2, dX11_content_3, rfl, rfl⟩) (am_o72 (rfl) (trivial)))))
theorem gF_content_1 : am_okL κF_content 40 [(4, 1, 2, 0, 0), (5, 0, 0, 0, 8), (7, 59, 3, 2, 0)] := am_o1 (Or.inl ⟨2, dX11_content_4, rfl, rfl⟩) (am_o0 (Or.inr (Or.inl ⟨8, dX11_content_5, cb_8, rfl⟩)) (am_o59 (⟨31, dX11_content_7, rfl, rfl⟩) (trivial)))
theorem gF_content_2 : am_okL κF_content 40 [(10, 1, 1, 0, 0), (11, 46, 0, 0, 0), (12, 19, 1, 9, 0), (15, 0, 0, 0, 5), (16, 1, 2, 0, 0), (17, 66, 298, 2, 7), (20, 46, 0, 0, 0), (21, 19, 1, 9, 0), (24, 0, 0, 0, 4), (25, 1, 2, 0, 0), (26, 66, 298, 2, 7), (29, 7, 0, 0, 0), (30, 8, 0, 0, 0), (31, 2, 1, 0, 0), (32, 3, 2, 0, 1), (35, 71, 1, 0, 0)] := am_o1 (Or.inl ⟨1, dX11_content_10, rfl, rfl⟩) (am_o46 (Or.inl ⟨0, dX11_content_11, rfl, rfl⟩) (am_o19 (⟨19, dX11_content_12, rfl, k_RX11_19_gA⟩) (am_o0 (Or.inl ⟨5, dX11_content_15, ci_5, rfl⟩) (am_o1 (Or.inl ⟨2, dX11_content_16, rfl, rfl⟩) (am_o66 (⟨⟨cal_298, by decide, ⟨_, rfl, rfl⟩, 275, dX11_content_17, rfl, lV_RX11_275.1, lV_RX11_275.2.1, lV_RX11_275.2.2.1, lV_RX11_275.2.2.2⟩, nl_298⟩) (am_o46 (Or.inl ⟨0, dX11_content_20, rfl, rfl⟩) (am_o19 (⟨19, dX11_content_21, rfl, k_RX11_19_gA⟩) (am_o0 (Or.inl ⟨4, dX11_content_24, ci_4, rfl⟩) (am_o1 (Or.inl ⟨2, dX11_content_25, rfl, rfl⟩) (am_o66 (⟨⟨cal_298, by decide, ⟨_, rfl, rfl⟩, 275, dX11_content_26, rfl, lV_RX11_275.1, lV_RX11_275.2.1, lV_RX11_275.2.2.1, lV_RX11_275.2.2.2⟩, nl_298⟩) (am_o7 (⟨dX11_content_29, rfl⟩) (am_o8 (⟨dX11_content_30, rfl⟩) (am_o2 (Or.inl ⟨1, dX11_content_31, rfl, rfl⟩) (am_o3 (⟨1, dX11_content_32, ci_1, rfl⟩) (am_o71 (⟨(-31), dX11_content_35, rfl⟩) (trivial))))))))))))))))
theorem gF_content_3 : am_okL κF_content 40 [(38, 1, 1, 0, 0), (39, 74, 0, 0, 0)] := am_o1 (Or.inl ⟨1, dX11_content_38, rfl, rfl⟩) (am_o74 (⟨dX11_content_39, rfl⟩) (trivial))
theorem GF_content : am_okM qF_content := am_okM_of (κ := κF_content) (bl := pF_content) (Prod.ext rfl (Prod.ext rfl (Prod.ext zF_content rfl))) zF_content (List.forall_mem_cons.mpr ⟨gF_content_0, List.forall_mem_cons.mpr ⟨gF_content_1, List.forall_mem_cons.mpr ⟨gF_content_2, List.forall_mem_cons.mpr ⟨gF_content_3, fun _ h => absurd h List.not_mem_nil⟩⟩⟩⟩)
theorem gF_richest_0 : am_okL κF_richest 41 [(0, 0, 0, 0, (-1)), (1, 2, 1, 0, 0), (2, 0, 0, 0, (-1)), (3, 2, 2, 0, 0), (4, 0, 0, 0, 0), (5, 2, 3, 0, 0), (6, 72, 1, 0, 0)] := am_o0 (Or.inl ⟨-1, dX11_richest_0, ci_m1, rfl⟩) (am_o2 (Or.inl ⟨1, dX11_richest_1, rfl, rfl⟩) (am_o0 (Or.inl ⟨-1, dX11_richest_2, ci_m1, rfl⟩) (am_o2 (Or.inl ⟨2, dX11_richest_3, rfl, rfl⟩) (am_o0 (Or.inl ⟨0, dX11_richest_4, ci_0, rfl⟩) (am_o2 (Or.inl ⟨3, dX11_richest_5, rfl, rfl⟩) (am_o72 (rfl) (trivial)))))))
theorem gF_richest_1 : am_okL κF_richest 41 [(6, 1, 3, 0, 0), (7, 46, 0, 0, 0), (8, 19, 1, 9, 0), (11, 18, 3, 7, 0), (14, 59, 5, 2, 0)] := am_o1 (Or.inl ⟨3, dX11_richest_6, rfl, rfl⟩) (am_o46 (Or.inl ⟨0, dX11_richest_7, rfl, rfl⟩) (am_o19 (⟨19, dX11_richest_8, rfl, k_RX11_19_gA⟩) (am_o18 (⟨182, dX11_richest_11, rfl, k_RX11_182_gI⟩) (am_o59 (⟨30, dX11_richest_14, rfl, rfl⟩) (trivial)))))
theorem gF_richest_2 : am_okL κF_richest 41 [(17, 46, 0, 0, 0), (18, 19, 1, 9, 0), (21, 1, 3, 0, 0), (22, 66, 305, 1, 7), (25, 2, 4, 0, 0), (27, 1, 4, 0, 0), (29, 1, 2, 0, 0), (30, 61, 4, 3, 0)] := am_o46 (Or.inl ⟨0, dX11_richest_17, rfl, rfl⟩) (am_o19 (⟨19, dX11_richest_18, rfl, k_RX11_19_gA⟩) (am_o1 (Or.inl ⟨3, dX11_richest_21, rfl, rfl⟩) (am_o66 (⟨⟨cal_305, by decide, ⟨_, rfl, rfl⟩, 347, dX11_richest_22, rfl, lV_RX11_347.1, lV_RX11_347.2.1, lV_RX11_347.2.2.1, lV_RX11_347.2.2.2⟩, nl_305⟩) (am_o2 (Or.inr ⟨dX11_richest_25, rfl⟩) (am_o1 (Or.inr ⟨dX11_richest_27, rfl⟩) (am_o1 (Or.inl ⟨2, dX11_richest_29, rfl, rfl⟩) (am_o61 (⟨8, dX11_richest_30, rfl, rfl⟩) (trivial))))))))
theorem gF_richest_3 : am_okL κF_richest 41 [(33, 1, 3, 0, 0), (34, 2, 1, 0, 0), (35, 1, 4, 0, 0), (37, 2, 2, 0, 0), (38, 72, 4, 0, 0)] := am_o1 (Or.inl ⟨3, dX11_richest_33, rfl, rfl⟩) (am_o2 (Or.inl ⟨1, dX11_richest_34, rfl, rfl⟩) (am_o1 (Or.inr ⟨dX11_richest_35, rfl⟩) (am_o2 (Or.inl ⟨2, dX11_richest_37, rfl, rfl⟩) (am_o72 (rfl) (trivial)))))
theorem gF_richest_4 : am_okL κF_richest 41 [(38, 3, 3, 0, 1), (41, 71, 1, 0, 0)] := am_o3 (⟨1, dX11_richest_38, ci_1, rfl⟩) (am_o71 (⟨(-35), dX11_richest_41, rfl⟩) (trivial))
theorem gF_richest_5 : am_okL κF_richest 41 [(44, 1, 1, 0, 0), (45, 74, 0, 0, 0)] := am_o1 (Or.inl ⟨1, dX11_richest_44, rfl, rfl⟩) (am_o74 (⟨dX11_richest_45, rfl⟩) (trivial))
theorem GF_richest : am_okM qF_richest := am_okM_of (κ := κF_richest) (bl := pF_richest) (Prod.ext rfl (Prod.ext rfl (Prod.ext zF_richest rfl))) zF_richest (List.forall_mem_cons.mpr ⟨gF_richest_0, List.forall_mem_cons.mpr ⟨gF_richest_1, List.forall_mem_cons.mpr ⟨gF_richest_2, List.forall_mem_cons.mpr ⟨gF_richest_3, List.forall_mem_cons.mpr ⟨gF_richest_4, List.forall_mem_cons.mpr ⟨gF_richest_5, fun _ h => absurd h List.not_mem_nil⟩⟩⟩⟩⟩⟩)
theorem gF_oldest_0 : am_okL κF_oldest 42 [(0, 0, 0, 0, (-1)), (1, 2, 1, 0, 0), (2, 0, 0, 0, (-1)), (3, 2, 2, 0, 0), (4, 0, 0, 0, 0), (5, 2, 3, 0, 0), (6, 72, 1, 0, 0)] := am_o0 (Or.inl ⟨-1, dX11_oldest_0, ci_m1, rfl⟩) (am_o2 (Or.inl ⟨1, dX11_oldest_1, rfl, rfl⟩) (am_o0 (Or.inl ⟨-1, dX11_oldest_2, ci_m1, rfl⟩) (am_o2 (Or.inl ⟨2, dX11_oldest_3, rfl, rfl⟩) (am_o0 (Or.inl ⟨0, dX11_oldest_4, ci_0, rfl⟩) (am_o2 (Or.inl ⟨3, dX11_oldest_5, rfl, rfl⟩) (am_o72 (rfl) (trivial)))))))
theorem gF_oldest_1 : am_okL κF_oldest 42 [(6, 1, 3, 0, 0), (7, 46, 0, 0, 0), (8, 19, 1, 9, 0), (11, 18, 3, 7, 0), (14, 59, 6, 2, 0)] := am_o1 (Or.inl ⟨3, dX11_oldest_6, rfl, rfl⟩) (am_o46 (Or.inl ⟨0, dX11_oldest_7, rfl, rfl⟩) (am_o19 (⟨19, dX11_oldest_8, rfl, k_RX11_19_gA⟩) (am_o18 (⟨182, dX11_oldest_11, rfl, k_RX11_182_gI⟩) (am_o59 (⟨48, dX11_oldest_14, rfl, rfl⟩) (trivial)))))
theorem gF_oldest_2 : am_okL κF_oldest 42 [(17, 46, 0, 0, 0), (18, 19, 1, 9, 0), (21, 19, 1, 7, 0), (24, 0, 0, 0, 0), (25, 25, 0, 0, 0), (26, 1, 3, 0, 0), (27, 22, 0, 0, 0), (28, 2, 4, 0, 0), (30, 46, 0, 0, 0), (31, 19, 1, 9, 0), (34, 19, 1, 7, 0), (37, 0, 0, 0, 7), (39, 25, 0, 0, 0), (40, 1, 3, 0, 0), (41, 22, 0, 0, 0), (42, 51, 5, 3, 0)] := am_o46 (Or.inl ⟨0, dX11_oldest_17, rfl, rfl⟩) (am_o19 (⟨19, dX11_oldest_18, rfl, k_RX11_19_gA⟩) (am_o19 (⟨170, dX11_oldest_21, rfl, k_RX11_170_gA⟩) (am_o0 (Or.inl ⟨0, dX11_oldest_24, ci_0, rfl⟩) (am_o25 (⟨dX11_oldest_25, rfl⟩) (am_o1 (Or.inl ⟨3, dX11_oldest_26, rfl, rfl⟩) (am_o22 (⟨dX11_oldest_27, rfl⟩) (am_o2 (Or.inr ⟨dX11_oldest_28, rfl⟩) (am_o46 (Or.inl ⟨0, dX11_oldest_30, rfl, rfl⟩) (am_o19 (⟨19, dX11_oldest_31, rfl, k_RX11_19_gA⟩) (am_o19 (⟨170, dX11_oldest_34, rfl, k_RX11_170_gA⟩) (am_o0 (Or.inr (Or.inl ⟨7, dX11_oldest_37, cb_7, rfl⟩)) (am_o25 (⟨dX11_oldest_39, rfl⟩) (am_o1 (Or.inl ⟨3, dX11_oldest_40, rfl, rfl⟩) (am_o22 (⟨dX11_oldest_41, rfl⟩) (am_o51 (⟨14, dX11_oldest_42, rfl, rfl⟩) (trivial))))))))))))))))
theorem gF_oldest_3 : am_okL κF_oldest 42 [(45, 1, 4, 0, 0), (47, 1, 2, 0, 0), (48, 61, 5, 4, 0)] := am_o1 (Or.inr ⟨dX11_oldest_45, rfl⟩) (am_o1 (Or.inl ⟨2, dX11_oldest_47, rfl, rfl⟩) (am_o61 (⟨8, dX11_oldest_48, rfl, rfl⟩) (trivial)))
theorem gF_oldest_4 : am_okL κF_oldest 42 [(51, 1, 3, 0, 0), (52, 2, 1, 0, 0), (53, 1, 4, 0, 0), (55, 2, 2, 0, 0), (56, 72, 5, 0, 0)] := am_o1 (Or.inl ⟨3, dX11_oldest_51, rfl, rfl⟩) (am_o2 (Or.inl ⟨1, dX11_oldest_52, rfl, rfl⟩) (am_o1 (Or.inr ⟨dX11_oldest_53, rfl⟩) (am_o2 (Or.inl ⟨2, dX11_oldest_55, rfl, rfl⟩) (am_o72 (rfl) (trivial)))))
theorem gF_oldest_5 : am_okL κF_oldest 42 [(56, 3, 3, 0, 1), (59, 71, 1, 0, 0)] := am_o3 (⟨1, dX11_oldest_56, ci_1, rfl⟩) (am_o71 (⟨(-53), dX11_oldest_59, rfl⟩) (trivial))
theorem gF_oldest_6 : am_okL κF_oldest 42 [(62, 1, 1, 0, 0), (63, 74, 0, 0, 0)] := am_o1 (Or.inl ⟨1, dX11_oldest_62, rfl, rfl⟩) (am_o74 (⟨dX11_oldest_63, rfl⟩) (trivial))
theorem GF_oldest : am_okM qF_oldest := am_okM_of (κ := κF_oldest) (bl := pF_oldest) (Prod.ext rfl (Prod.ext rfl (Prod.ext zF_oldest rfl))) zF_oldest (List.forall_mem_cons.mpr ⟨gF_oldest_0, List.forall_mem_cons.mpr ⟨gF_oldest_1, List.forall_mem_cons.mpr ⟨gF_oldest_2, List.forall_mem_cons.mpr ⟨gF_oldest_3, List.forall_mem_cons.mpr ⟨gF_oldest_4, List.forall_mem_cons.mpr ⟨gF_oldest_5, List.forall_mem_cons.mpr ⟨gF_oldest_6, fun _ h => absurd h List.not_mem_nil⟩⟩⟩⟩⟩⟩⟩)
theorem gF_twins_0 : am_okL κF_twins 43 [(0, 0, 0, 0, 0), (1, 2, 1, 0, 0), (2, 0, 0, 0, 0), (3, 2, 2, 0, 0), (4, 72, 1, 0, 0)] := am_o0 (Or.inl ⟨0, dX11_twins_0, ci_0, rfl⟩) (am_o2 (Or.inl ⟨1, dX11_twins_1, rfl, rfl⟩) (am_o0 (Or.inl ⟨0, dX11_twins_2, ci_0, rfl⟩) (am_o2 (Or.inl ⟨2, dX11_twins_3, rfl, rfl⟩) (am_o72 (rfl) (trivial)))))
theorem gF_twins_1 : am_okL κF_twins 43 [(4, 1, 2, 0, 0), (5, 0, 0, 0, 8), (7, 59, 3, 2, 0)] := am_o1 (Or.inl ⟨2, dX11_twins_4, rfl, rfl⟩) (am_o0 (Or.inr (Or.inl ⟨8, dX11_twins_5, cb_8, rfl⟩)) (am_o59 (⟨29, dX11_twins_7, rfl, rfl⟩) (trivial)))
theorem gF_twins_2 : am_okL κF_twins 43 [(10, 46, 0, 0, 0), (11, 19, 1, 9, 0), (14, 0, 0, 0, 5), (15, 1, 2, 0, 0), (16, 66, 299, 2, 7), (19, 2, 3, 0, 0), (20, 1, 1, 0, 0), (21, 1, 3, 0, 0), (22, 1, 3, 0, 0), (23, 0, 0, 0, 1), (24, 5, 0, 0, 0), (25, 6, 0, 0, 0), (26, 0, 0, 0, 2), (27, 13, 0, 0, 0), (28, 4, 0, 0, 0), (29, 2, 1, 0, 0), (30, 3, 2, 0, 1), (33, 71, 1, 0, 0)] := am_o46 (Or.inl ⟨0, dX11_twins_10, rfl, rfl⟩) (am_o19 (⟨19, dX11_twins_11, rfl, k_RX11_19_gA⟩) (am_o0 (Or.inl ⟨5, dX11_twins_14, ci_5, rfl⟩) (am_o1 (Or.inl ⟨2, dX11_twins_15, rfl, rfl⟩) (am_o66 (⟨⟨cal_299, by decide, ⟨_, rfl, rfl⟩, 288, dX11_twins_16, rfl, lV_RX11_288.1, lV_RX11_288.2.1, lV_RX11_288.2.2.1, lV_RX11_288.2.2.2⟩, nl_299⟩) (am_o2 (Or.inl ⟨3, dX11_twins_19, rfl, rfl⟩) (am_o1 (Or.inl ⟨1, dX11_twins_20, rfl, rfl⟩) (am_o1 (Or.inl ⟨3, dX11_twins_21, rfl, rfl⟩) (am_o1 (Or.inl ⟨3, dX11_twins_22, rfl, rfl⟩) (am_o0 (Or.inl ⟨1, dX11_twins_23, ci_1, rfl⟩) (am_o5 (⟨dX11_twins_24, rfl⟩) (am_o6 (⟨dX11_twins_25, rfl⟩) (am_o0 (Or.inl ⟨2, dX11_twins_26, ci_2, rfl⟩) (am_o13 (⟨dX11_twins_27, rfl⟩) (am_o4 (⟨dX11_twins_28, rfl⟩) (am_o2 (Or.inl ⟨1, dX11_twins_29, rfl, rfl⟩) (am_o3 (⟨1, dX11_twins_30, ci_1, rfl⟩) (am_o71 (⟨(-29), dX11_twins_33, rfl⟩) (trivial))))))))))))))))))
theorem gF_twins_3 : am_okL κF_twins 43 [(36, 1, 1, 0, 0), (37, 74, 0, 0, 0)] := am_o1 (Or.inl ⟨1, dX11_twins_36, rfl, rfl⟩) (am_o74 (⟨dX11_twins_37, rfl⟩) (trivial))
theorem GF_twins : am_okM qF_twins := am_okM_of (κ := κF_twins) (bl := pF_twins) (Prod.ext rfl (Prod.ext rfl (Prod.ext zF_twins rfl))) zF_twins (List.forall_mem_cons.mpr ⟨gF_twins_0, List.forall_mem_cons.mpr ⟨gF_twins_1, List.forall_mem_cons.mpr ⟨gF_twins_2, List.forall_mem_cons.mpr ⟨gF_twins_3, fun _ h => absurd h List.not_mem_nil⟩⟩⟩⟩)
theorem gF_ahead_0 : am_okL κF_ahead 44 [(0, 46, 0, 0, 0), (1, 1, 1, 0, 0), (2, 67, 54, 1, 9), (5, 1, 2, 0, 0), (6, 65, 57, 1, 0), (9, 46, 0, 0, 0), (10, 1, 2, 0, 0), (11, 67, 62, 1, 9), (14, 46, 0, 0, 0), (15, 19, 2, 9, 0), (18, 19, 1, 7, 0), (21, 0, 0, 0, 2), (22, 25, 0, 0, 0), (23, 1, 1, 0, 0), (24, 22, 0, 0, 0), (25, 74, 0, 0, 0)] := am_o46 (Or.inl ⟨0, dX11_ahead_0, rfl, rfl⟩) (am_o1 (Or.inl ⟨1, dX11_ahead_1, rfl, rfl⟩) (am_o67 (⟨⟨cal_54, by decide, ⟨_, rfl, rfl⟩, 155, dX11_ahead_2, rfl, lV_RX11_155.1, lV_RX11_155.2.1, lV_RX11_155.2.2.1, lV_RX11_155.2.2.2⟩, nl_54⟩) (am_o1 (Or.inl ⟨2, dX11_ahead_5, rfl, rfl⟩) (am_o65 (⟨⟨cal_57, 282, dX11_ahead_6, rfl, lS_RX11_282.1, lS_RX11_282.2.1, lS_RX11_282.2.2⟩, nl_57⟩) (am_o46 (Or.inl ⟨0, dX11_ahead_9, rfl, rfl⟩) (am_o1 (Or.inl ⟨2, dX11_ahead_10, rfl, rfl⟩) (am_o67 (⟨⟨cal_62, by decide, ⟨_, rfl, rfl⟩, 285, dX11_ahead_11, rfl, lV_RX11_285.1, lV_RX11_285.2.1, lV_RX11_285.2.2.1, lV_RX11_285.2.2.2⟩, nl_62⟩) (am_o46 (Or.inl ⟨0, dX11_ahead_14, rfl, rfl⟩) (am_o19 (⟨23, dX11_ahead_15, rfl, k_RX11_23_gA⟩) (am_o19 (⟨170, dX11_ahead_18, rfl, k_RX11_170_gA⟩) (am_o0 (Or.inl ⟨2, dX11_ahead_21, ci_2, rfl⟩) (am_o25 (⟨dX11_ahead_22, rfl⟩) (am_o1 (Or.inl ⟨1, dX11_ahead_23, rfl, rfl⟩) (am_o22 (⟨dX11_ahead_24, rfl⟩) (am_o74 (⟨dX11_ahead_25, rfl⟩) (trivial))))))))))))))))
theorem GF_ahead : am_okM qF_ahead := am_okM_of (κ := κF_ahead) (bl := pF_ahead) (Prod.ext rfl (Prod.ext rfl (Prod.ext zF_ahead rfl))) zF_ahead (List.forall_mem_cons.mpr ⟨gF_ahead_0, fun _ h => absurd h List.not_mem_nil⟩)
theorem gF_trial_0 : am_okL κF_trial 45 [(0, 1, 1, 0, 0), (1, 65, 57, 1, 0), (4, 46, 0, 0, 0), (5, 1, 1, 0, 0), (6, 46, 0, 0, 0), (7, 19, 1, 9, 0), (10, 18, 7, 7, 0), (13, 67, 63, 2, 9), (16, 1, 2, 0, 0), (17, 50, 2, 1, 0)] := am_o1 (Or.inl ⟨1, dX11_trial_0, rfl, rfl⟩) (am_o65 (⟨⟨cal_57, 282, dX11_trial_1, rfl, lS_RX11_282.1, lS_RX11_282.2.1, lS_RX11_282.2.2⟩, nl_57⟩) (am_o46 (Or.inl ⟨0, dX11_trial_4, rfl, rfl⟩) (am_o1 (Or.inl ⟨1, dX11_trial_5, rfl, rfl⟩) (am_o46 (Or.inl ⟨0, dX11_trial_6, rfl, rfl⟩) (am_o19 (⟨19, dX11_trial_7, rfl, k_RX11_19_gA⟩) (am_o18 (⟨350, dX11_trial_10, rfl, k_RX11_350_gI⟩) (am_o67 (⟨⟨cal_63, by decide, ⟨_, rfl, rfl⟩, 353, dX11_trial_13, rfl, lV_RX11_353.1, lV_RX11_353.2.1, lV_RX11_353.2.2.1, lV_RX11_353.2.2.2⟩, nl_63⟩) (am_o1 (Or.inl ⟨2, dX11_trial_16, rfl, rfl⟩) (am_o50 (⟨13, dX11_trial_17, rfl, rfl⟩) (trivial))))))))))
theorem gF_trial_1 : am_okL κF_trial 45 [(20, 46, 0, 0, 0), (21, 19, 2, 9, 0), (24, 66, 301, 0, 7), (27, 71, 3, 0, 0)] := am_o46 (Or.inl ⟨0, dX11_trial_20, rfl, rfl⟩) (am_o19 (⟨23, dX11_trial_21, rfl, k_RX11_23_gA⟩) (am_o66 (⟨⟨cal_301, by decide, ⟨_, rfl, rfl⟩, 291, dX11_trial_24, rfl, lV_RX11_291.1, lV_RX11_291.2.1, lV_RX11_291.2.2.1, lV_RX11_291.2.2.2⟩, nl_301⟩) (am_o71 (⟨13, dX11_trial_27, rfl⟩) (trivial))))
theorem gF_trial_2 : am_okL κF_trial 45 [(30, 46, 0, 0, 0), (31, 19, 2, 9, 0), (34, 0, 0, 0, 7), (36, 0, 0, 0, 1), (37, 66, 298, 2, 7), (40, 72, 3, 0, 0)] := am_o46 (Or.inl ⟨0, dX11_trial_30, rfl, rfl⟩) (am_o19 (⟨23, dX11_trial_31, rfl, k_RX11_23_gA⟩) (am_o0 (Or.inr (Or.inl ⟨7, dX11_trial_34, cb_7, rfl⟩)) (am_o0 (Or.inl ⟨1, dX11_trial_36, ci_1, rfl⟩) (am_o66 (⟨⟨cal_298, by decide, ⟨_, rfl, rfl⟩, 275, dX11_trial_37, rfl, lV_RX11_275.1, lV_RX11_275.2.1, lV_RX11_275.2.2.1, lV_RX11_275.2.2.2⟩, nl_298⟩) (am_o72 (rfl) (trivial))))))
theorem gF_trial_3 : am_okL κF_trial 45 [(40, 74, 0, 0, 0)] := am_o74 (⟨dX11_trial_40, rfl⟩) (trivial)
theorem GF_trial : am_okM qF_trial := am_okM_of (κ := κF_trial) (bl := pF_trial) (Prod.ext rfl (Prod.ext rfl (Prod.ext zF_trial rfl))) zF_trial (List.forall_mem_cons.mpr ⟨gF_trial_0, List.forall_mem_cons.mpr ⟨gF_trial_1, List.forall_mem_cons.mpr ⟨gF_trial_2, List.forall_mem_cons.mpr ⟨gF_trial_3, fun _ h => absurd h List.not_mem_nil⟩⟩⟩⟩)
theorem gF_span_0 : am_okL κF_span 46 [(0, 1, 1, 0, 0), (1, 65, 57, 1, 0), (4, 0, 0, 0, (-1)), (5, 2, 3, 0, 0), (6, 0, 0, 0, 1), (7, 2, 4, 0, 0), (9, 72, 1, 0, 0)] := am_o1 (Or.inl ⟨1, dX11_span_0, rfl, rfl⟩) (am_o65 (⟨⟨cal_57, 282, dX11_span_1, rfl, lS_RX11_282.1, lS_RX11_282.2.1, lS_RX11_282.2.2⟩, nl_57⟩) (am_o0 (Or.inl ⟨-1, dX11_span_4, ci_m1, rfl⟩) (am_o2 (Or.inl ⟨3, dX11_span_5, rfl, rfl⟩) (am_o0 (Or.inl ⟨1, dX11_span_6, ci_1, rfl⟩) (am_o2 (Or.inr ⟨dX11_span_7, rfl⟩) (am_o72 (rfl) (trivial)))))))
theorem gF_span_1 : am_okL κF_span 46 [(9, 1, 4, 0, 0), (11, 0, 0, 0, 6), (13, 60, 9, 2, 0)] := am_o1 (Or.inr ⟨dX11_span_9, rfl⟩) (am_o0 (Or.inr (Or.inl ⟨6, dX11_span_11, cb_6, rfl⟩)) (am_o60 (⟨55, dX11_span_13, rfl, rfl⟩) (trivial)))
theorem gF_span_2 : am_okL κF_span 46 [(16, 46, 0, 0, 0), (17, 1, 1, 0, 0), (18, 1, 4, 0, 0), (20, 67, 63, 2, 9), (23, 46, 0, 0, 0), (24, 19, 2, 9, 0), (27, 0, 0, 0, 7), (29, 0, 0, 0, 1), (30, 66, 299, 2, 7), (33, 2, 5, 0, 0), (35, 1, 3, 0, 0), (36, 0, 0, 0, (-1)), (37, 56, 7, 3, 0)] := am_o46 (Or.inl ⟨0, dX11_span_16, rfl, rfl⟩) (am_o1 (Or.inl ⟨1, dX11_span_17, rfl, rfl⟩) (am_o1 (Or.inr ⟨dX11_span_18, rfl⟩) (am_o67 (⟨⟨cal_63, by decide, ⟨_, rfl, rfl⟩, 353, dX11_span_20, rfl, lV_RX11_353.1, lV_RX11_353.2.1, lV_RX11_353.2.2.1, lV_RX11_353.2.2.2⟩, nl_63⟩) (am_o46 (Or.inl ⟨0, dX11_span_23, rfl, rfl⟩) (am_o19 (⟨23, dX11_span_24, rfl, k_RX11_23_gA⟩) (am_o0 (Or.inr (Or.inl ⟨7, dX11_span_27, cb_7, rfl⟩)) (am_o0 (Or.inl ⟨1, dX11_span_29, ci_1, rfl⟩) (am_o66 (⟨⟨cal_299, by decide, ⟨_, rfl, rfl⟩, 288, dX11_span_30, rfl, lV_RX11_288.1, lV_RX11_288.2.1, lV_RX11_288.2.2.1, lV_RX11_288.2.2.2⟩, nl_299⟩) (am_o2 (Or.inr ⟨dX11_span_33, rfl⟩) (am_o1 (Or.inl ⟨3, dX11_span_35, rfl, rfl⟩) (am_o0 (Or.inl ⟨-1, dX11_span_36, ci_m1, rfl⟩) (am_o56 (⟨22, dX11_span_37, rfl, rfl⟩) (trivial)))))))))))))
theorem gF_span_3 : am_okL κF_span 46 [(40, 1, 2, 0, 0), (41, 50, 6, 4, 0)] := am_o1 (Or.inl ⟨2, dX11_span_40, rfl, rfl⟩) (am_o50 (⟨12, dX11_span_41, rfl, rfl⟩) (trivial))
theorem gF_span_4 : am_okL κF_span 46 [(44, 1, 5, 0, 0), (46, 1, 3, 0, 0), (47, 61, 8, 5, 0)] := am_o1 (Or.inr ⟨dX11_span_44, rfl⟩) (am_o1 (Or.inl ⟨3, dX11_span_46, rfl, rfl⟩) (am_o61 (⟨15, dX11_span_47, rfl, rfl⟩) (trivial)))
theorem gF_span_5 : am_okL κF_span 46 [(50, 71, 7, 0, 0)] := am_o71 (⟨9, dX11_span_50, rfl⟩) (trivial)
theorem gF_span_6 : am_okL κF_span 46 [(53, 1, 5, 0, 0), (55, 1, 3, 0, 0), (56, 59, 8, 7, 0)] := am_o1 (Or.inr ⟨dX11_span_53, rfl⟩) (am_o1 (Or.inl ⟨3, dX11_span_55, rfl, rfl⟩) (am_o59 (⟨6, dX11_span_56, rfl, rfl⟩) (trivial)))
theorem gF_span_7 : am_okL κF_span 46 [(59, 1, 5, 0, 0), (61, 2, 3, 0, 0), (62, 72, 8, 0, 0)] := am_o1 (Or.inr ⟨dX11_span_59, rfl⟩) (am_o2 (Or.inl ⟨3, dX11_span_61, rfl, rfl⟩) (am_o72 (rfl) (trivial)))
theorem gF_span_8 : am_okL κF_span 46 [(62, 3, 4, 0, 1), (65, 71, 1, 0, 0)] := am_o3 (⟨1, dX11_span_62, ci_1, rfl⟩) (am_o71 (⟨(-56), dX11_span_65, rfl⟩) (trivial))
theorem gF_span_9 : am_okL κF_span 46 [(68, 1, 3, 0, 0), (69, 74, 0, 0, 0)] := am_o1 (Or.inl ⟨3, dX11_span_68, rfl, rfl⟩) (am_o74 (⟨dX11_span_69, rfl⟩) (trivial))
theorem GF_span : am_okM qF_span := am_okM_of (κ := κF_span) (bl := pF_span) (Prod.ext rfl (Prod.ext rfl (Prod.ext zF_span rfl))) zF_span (List.forall_mem_cons.mpr ⟨gF_span_0, List.forall_mem_cons.mpr ⟨gF_span_1, List.forall_mem_cons.mpr ⟨gF_span_2, List.forall_mem_cons.mpr ⟨gF_span_3, List.forall_mem_cons.mpr ⟨gF_span_4, List.forall_mem_cons.mpr ⟨gF_span_5, List.forall_mem_cons.mpr ⟨gF_span_6, List.forall_mem_cons.mpr ⟨gF_span_7, List.forall_mem_cons.mpr ⟨gF_span_8, List.forall_mem_cons.mpr ⟨gF_span_9, fun _ h => absurd h List.not_mem_nil⟩⟩⟩⟩⟩⟩⟩⟩⟩⟩)
theorem gF_led_0 : am_okL κF_led 47 [(0, 46, 0, 0, 0), (1, 1, 1, 0, 0), (2, 67, 54, 1, 9), (5, 46, 0, 0, 0), (6, 19, 1, 9, 0), (9, 1, 1, 0, 0), (10, 66, 306, 1, 7), (13, 2, 3, 0, 0), (14, 1, 3, 0, 0), (15, 0, 0, 0, (-1)), (16, 57, 2, 1, 0)] := am_o46 (Or.inl ⟨0, dX11_led_0, rfl, rfl⟩) (am_o1 (Or.inl ⟨1, dX11_led_1, rfl, rfl⟩) (am_o67 (⟨⟨cal_54, by decide, ⟨_, rfl, rfl⟩, 155, dX11_led_2, rfl, lV_RX11_155.1, lV_RX11_155.2.1, lV_RX11_155.2.2.1, lV_RX11_155.2.2.2⟩, nl_54⟩) (am_o46 (Or.inl ⟨0, dX11_led_5, rfl, rfl⟩) (am_o19 (⟨19, dX11_led_6, rfl, k_RX11_19_gA⟩) (am_o1 (Or.inl ⟨1, dX11_led_9, rfl, rfl⟩) (am_o66 (⟨⟨cal_306, by decide, ⟨_, rfl, rfl⟩, 356, dX11_led_10, rfl, lV_RX11_356.1, lV_RX11_356.2.1, lV_RX11_356.2.2.1, lV_RX11_356.2.2.2⟩, nl_306⟩) (am_o2 (Or.inl ⟨3, dX11_led_13, rfl, rfl⟩) (am_o1 (Or.inl ⟨3, dX11_led_14, rfl, rfl⟩) (am_o0 (Or.inl ⟨-1, dX11_led_15, ci_m1, rfl⟩) (am_o57 (⟨7, dX11_led_16, rfl, rfl⟩) (trivial)))))))))))
theorem gF_led_1 : am_okL κF_led 47 [(19, 0, 0, 0, (-1)), (20, 71, 6, 0, 0)] := am_o0 (Or.inl ⟨-1, dX11_led_19, ci_m1, rfl⟩) (am_o71 (⟨22, dX11_led_20, rfl⟩) (trivial))
theorem gF_led_2 : am_okL κF_led 47 [(23, 46, 0, 0, 0), (24, 19, 1, 9, 0), (27, 19, 2, 7, 0), (30, 1, 2, 0, 0), (31, 50, 4, 3, 0)] := am_o46 (Or.inl ⟨0, dX11_led_23, rfl, rfl⟩) (am_o19 (⟨19, dX11_led_24, rfl, k_RX11_19_gA⟩) (am_o19 (⟨359, dX11_led_27, rfl, k_RX11_359_gA⟩) (am_o1 (Or.inl ⟨2, dX11_led_30, rfl, rfl⟩) (am_o50 (⟨7, dX11_led_31, rfl, rfl⟩) (trivial)))))
theorem gF_led_3 : am_okL κF_led 47 [(34, 0, 0, 0, 2), (35, 71, 5, 0, 0)] := am_o0 (Or.inl ⟨2, dX11_led_34, ci_2, rfl⟩) (am_o71 (⟨4, dX11_led_35, rfl⟩) (trivial))
theorem gF_led_4 : am_okL κF_led 47 [(38, 0, 0, 0, 0), (39, 72, 5, 0, 0)] := am_o0 (Or.inl ⟨0, dX11_led_38, ci_0, rfl⟩) (am_o72 (rfl) (trivial))
theorem gF_led_5 : am_okL κF_led 47 [(39, 25, 0, 0, 0), (40, 1, 3, 0, 0), (41, 22, 0, 0, 0), (42, 72, 6, 0, 0)] := am_o25 (⟨dX11_led_39, rfl⟩) (am_o1 (Or.inl ⟨3, dX11_led_40, rfl, rfl⟩) (am_o22 (⟨dX11_led_41, rfl⟩) (am_o72 (rfl) (trivial))))
theorem gF_led_6 : am_okL κF_led 47 [(42, 74, 0, 0, 0)] := am_o74 (⟨dX11_led_42, rfl⟩) (trivial)
theorem GF_led : am_okM qF_led := am_okM_of (κ := κF_led) (bl := pF_led) (Prod.ext rfl (Prod.ext rfl (Prod.ext zF_led rfl))) zF_led (List.forall_mem_cons.mpr ⟨gF_led_0, List.forall_mem_cons.mpr ⟨gF_led_1, List.forall_mem_cons.mpr ⟨gF_led_2, List.forall_mem_cons.mpr ⟨gF_led_3, List.forall_mem_cons.mpr ⟨gF_led_4, List.forall_mem_cons.mpr ⟨gF_led_5, List.forall_mem_cons.mpr ⟨gF_led_6, fun _ h => absurd h List.not_mem_nil⟩⟩⟩⟩⟩⟩⟩)
theorem gF_log_0 : am_okL κF_log 48 [(0, 1, 2, 0, 0), (1, 52, 2, 1, 0)] := am_o1 (Or.inl ⟨2, dX11_log_0, rfl, rfl⟩) (am_o52 (⟨8, dX11_log_1, rfl, rfl⟩) (trivial))
theorem gF_log_1 : am_okL κF_log 48 [(4, 1, 2, 0, 0), (5, 0, 0, 0, 4), (6, 61, 3, 2, 0)] := am_o1 (Or.inl ⟨2, dX11_log_4, rfl, rfl⟩) (am_o0 (Or.inl ⟨4, dX11_log_5, ci_4, rfl⟩) (am_o61 (⟨14, dX11_log_6, rfl, rfl⟩) (trivial)))
theorem gF_log_2 : am_okL κF_log 48 [(9, 77, 4, 0, 0)] := am_o77 (⟨142, 362, 146, 22, fit_at_146, fit_sup, wT_962, wT_147, by decide, rfl, rfl, at_146, dX11_log_9, dX11_log_12, Or.inr ⟨dX11_log_13, dX11_log_16, dX11_log_19⟩⟩) (trivial)
theorem gF_log_3 : am_okL κF_log 48 [(20, 1, 1, 0, 0), (21, 52, 5, 4, 0)] := am_o1 (Or.inl ⟨1, dX11_log_20, rfl, rfl⟩) (am_o52 (⟨14, dX11_log_21, rfl, rfl⟩) (trivial))
theorem gF_log_4 : am_okL κF_log 48 [(24, 1, 1, 0, 0), (25, 46, 0, 0, 0), (26, 19, 1, 9, 0), (29, 18, 4, 7, 0), (32, 58, 6, 5, 0)] := am_o1 (Or.inl ⟨1, dX11_log_24, rfl, rfl⟩) (am_o46 (Or.inl ⟨0, dX11_log_25, rfl, rfl⟩) (am_o19 (⟨19, dX11_log_26, rfl, k_RX11_19_gA⟩) (am_o18 (⟨364, dX11_log_29, rfl, k_RX11_364_gI⟩) (am_o58 (⟨5, dX11_log_32, rfl, rfl⟩) (trivial)))))
theorem gF_log_5 : am_okL κF_log 48 [(35, 0, 0, 0, (-1)), (36, 74, 0, 0, 0)] := am_o0 (Or.inl ⟨-1, dX11_log_35, ci_m1, rfl⟩) (am_o74 (⟨dX11_log_36, rfl⟩) (trivial))
theorem gF_log_6 : am_okL κF_log 48 [(37, 46, 0, 0, 0), (38, 19, 1, 9, 0), (41, 19, 2, 7, 0), (44, 1, 2, 0, 0), (45, 25, 0, 0, 0), (46, 46, 0, 0, 0), (47, 19, 1, 9, 0), (50, 18, 4, 7, 0), (53, 0, 0, 0, 1), (54, 5, 0, 0, 0), (55, 1, 1, 0, 0), (56, 5, 0, 0, 0), (57, 22, 0, 0, 0), (58, 74, 0, 0, 0)] := am_o46 (Or.inl ⟨0, dX11_log_37, rfl, rfl⟩) (am_o19 (⟨19, dX11_log_38, rfl, k_RX11_19_gA⟩) (am_o19 (⟨359, dX11_log_41, rfl, k_RX11_359_gA⟩) (am_o1 (Or.inl ⟨2, dX11_log_44, rfl, rfl⟩) (am_o25 (⟨dX11_log_45, rfl⟩) (am_o46 (Or.inl ⟨0, dX11_log_46, rfl, rfl⟩) (am_o19 (⟨19, dX11_log_47, rfl, k_RX11_19_gA⟩) (am_o18 (⟨364, dX11_log_50, rfl, k_RX11_364_gI⟩) (am_o0 (Or.inl ⟨1, dX11_log_53, ci_1, rfl⟩) (am_o5 (⟨dX11_log_54, rfl⟩) (am_o1 (Or.inl ⟨1, dX11_log_55, rfl, rfl⟩) (am_o5 (⟨dX11_log_56, rfl⟩) (am_o22 (⟨dX11_log_57, rfl⟩) (am_o74 (⟨dX11_log_58, rfl⟩) (trivial))))))))))))))
theorem GF_log : am_okM qF_log := am_okM_of (κ := κF_log) (bl := pF_log) (Prod.ext rfl (Prod.ext rfl (Prod.ext zF_log rfl))) zF_log (List.forall_mem_cons.mpr ⟨gF_log_0, List.forall_mem_cons.mpr ⟨gF_log_1, List.forall_mem_cons.mpr ⟨gF_log_2, List.forall_mem_cons.mpr ⟨gF_log_3, List.forall_mem_cons.mpr ⟨gF_log_4, List.forall_mem_cons.mpr ⟨gF_log_5, List.forall_mem_cons.mpr ⟨gF_log_6, fun _ h => absurd h List.not_mem_nil⟩⟩⟩⟩⟩⟩⟩)
theorem gF_seed_0 : am_okL κF_seed 49 [(0, 46, 0, 0, 0), (1, 19, 1, 9, 0), (4, 18, 7, 7, 0), (7, 2, 2, 0, 0), (8, 46, 0, 0, 0), (9, 19, 1, 9, 0), (12, 1, 1, 0, 0), (13, 20, 7, 7, 0), (16, 1, 2, 0, 0), (17, 74, 0, 0, 0)] := am_o46 (Or.inl ⟨0, dX11_seed_0, rfl, rfl⟩) (am_o19 (⟨19, dX11_seed_1, rfl, k_RX11_19_gA⟩) (am_o18 (⟨350, dX11_seed_4, rfl, k_RX11_350_gI⟩) (am_o2 (Or.inl ⟨2, dX11_seed_7, rfl, rfl⟩) (am_o46 (Or.inl ⟨0, dX11_seed_8, rfl, rfl⟩) (am_o19 (⟨19, dX11_seed_9, rfl, k_RX11_19_gA⟩) (am_o1 (Or.inl ⟨1, dX11_seed_12, rfl, rfl⟩) (am_o20 (⟨350, dX11_seed_13, rfl, k_RX11_350_pI⟩) (am_o1 (Or.inl ⟨2, dX11_seed_16, rfl, rfl⟩) (am_o74 (⟨dX11_seed_17, rfl⟩) (trivial))))))))))
theorem GF_seed : am_okM qF_seed := am_okM_of (κ := κF_seed) (bl := pF_seed) (Prod.ext rfl (Prod.ext rfl (Prod.ext zF_seed rfl))) zF_seed (List.forall_mem_cons.mpr ⟨gF_seed_0, fun _ h => absurd h List.not_mem_nil⟩)
theorem gF_undo_0 : am_okL κF_undo 50 [(0, 46, 0, 0, 0), (1, 19, 4, 9, 0), (4, 46, 0, 0, 0), (5, 19, 1, 9, 0), (8, 66, 282, 1, 6), (11, 75, 0, 0, 0)] := am_o46 (Or.inl ⟨0, dX11_undo_0, rfl, rfl⟩) (am_o19 (⟨32, dX11_undo_1, rfl, k_RX11_32_gA⟩) (am_o46 (Or.inl ⟨0, dX11_undo_4, rfl, rfl⟩) (am_o19 (⟨19, dX11_undo_5, rfl, k_RX11_19_gA⟩) (am_o66 (⟨⟨cal_282, by decide, ⟨_, rfl, rfl⟩, 367, dX11_undo_8, rfl, lV_RX11_367.1, lV_RX11_367.2.1, lV_RX11_367.2.2.1, lV_RX11_367.2.2.2⟩, nl_282⟩) (am_o75 (⟨dX11_undo_11, rfl⟩) (trivial))))))
theorem GF_undo : am_okM qF_undo := am_okM_of (κ := κF_undo) (bl := pF_undo) (Prod.ext rfl (Prod.ext rfl (Prod.ext zF_undo rfl))) zF_undo (List.forall_mem_cons.mpr ⟨gF_undo_0, fun _ h => absurd h List.not_mem_nil⟩)
theorem gF_image_0 : am_okL κF_image 51 [(0, 46, 0, 0, 0), (1, 19, 3, 9, 0), (4, 46, 0, 0, 0), (5, 19, 1, 9, 0), (8, 67, 284, 1, 7), (11, 46, 0, 0, 0), (12, 19, 7, 9, 0), (15, 46, 0, 0, 0), (16, 19, 5, 9, 0), (19, 67, 247, 1, 2), (22, 46, 0, 0, 0), (23, 0, 0, 0, 1), (24, 21, 13, 9, 0), (27, 76, 0, 0, 0)] := am_o46 (Or.inl ⟨0, dX11_image_0, rfl, rfl⟩) (am_o19 (⟨26, dX11_image_1, rfl, k_RX11_26_gA⟩) (am_o46 (Or.inl ⟨0, dX11_image_4, rfl, rfl⟩) (am_o19 (⟨19, dX11_image_5, rfl, k_RX11_19_gA⟩) (am_o67 (⟨⟨cal_284, by decide, ⟨_, rfl, rfl⟩, 103, dX11_image_8, rfl, lV_RX11_103.1, lV_RX11_103.2.1, lV_RX11_103.2.2.1, lV_RX11_103.2.2.2⟩, nl_284⟩) (am_o46 (Or.inl ⟨0, dX11_image_11, rfl, rfl⟩) (am_o19 (⟨46, dX11_image_12, rfl, k_RX11_46_gA⟩) (am_o46 (Or.inl ⟨0, dX11_image_15, rfl, rfl⟩) (am_o19 (⟨39, dX11_image_16, rfl, k_RX11_39_gA⟩) (am_o67 (⟨⟨cal_247, by decide, ⟨_, rfl, rfl⟩, 134, dX11_image_19, rfl, lV_RX11_134.1, lV_RX11_134.2.1, lV_RX11_134.2.2.1, lV_RX11_134.2.2.2⟩, nl_247⟩) (am_o46 (Or.inl ⟨0, dX11_image_22, rfl, rfl⟩) (am_o0 (Or.inl ⟨1, dX11_image_23, ci_1, rfl⟩) (am_o21 (⟨88, dX11_image_24, rfl, k_RX11_88_pZ⟩) (am_o76 (⟨dX11_image_27, rfl⟩) (trivial))))))))))))))
theorem GF_image : am_okM qF_image := am_okM_of (κ := κF_image) (bl := pF_image) (Prod.ext rfl (Prod.ext rfl (Prod.ext zF_image rfl))) zF_image (List.forall_mem_cons.mpr ⟨gF_image_0, fun _ h => absurd h List.not_mem_nil⟩)
theorem gF_back_0 : am_okL κF_back 52 [(0, 46, 0, 0, 0), (1, 18, 13, 9, 0), (4, 51, 2, 1, 0)] := am_o46 (Or.inl ⟨0, dX11_back_0, rfl, rfl⟩) (am_o18 (⟨88, dX11_back_1, rfl, k_RX11_88_gI⟩) (am_o51 (⟨5, dX11_back_4, rfl, rfl⟩) (trivial)))
theorem gF_back_1 : am_okL κF_back 52 [(7, 0, 0, 0, 0), (8, 75, 0, 0, 0)] := am_o0 (Or.inl ⟨0, dX11_back_7, ci_0, rfl⟩) (am_o75 (⟨dX11_back_8, rfl⟩) (trivial))
theorem gF_back_2 : am_okL κF_back 52 [(9, 46, 0, 0, 0), (10, 19, 1, 9, 0), (13, 46, 0, 0, 0), (14, 19, 3, 9, 0), (17, 67, 284, 1, 7), (20, 46, 0, 0, 0), (21, 19, 5, 9, 0), (24, 46, 0, 0, 0), (25, 19, 7, 9, 0), (28, 67, 247, 1, 2), (31, 46, 0, 0, 0), (32, 19, 4, 9, 0), (35, 67, 283, 0, 6), (38, 0, 0, 0, 1), (39, 75, 0, 0, 0)] := am_o46 (Or.inl ⟨0, dX11_back_9, rfl, rfl⟩) (am_o19 (⟨19, dX11_back_10, rfl, k_RX11_19_gA⟩) (am_o46 (Or.inl ⟨0, dX11_back_13, rfl, rfl⟩) (am_o19 (⟨26, dX11_back_14, rfl, k_RX11_26_gA⟩) (am_o67 (⟨⟨cal_284, by decide, ⟨_, rfl, rfl⟩, 103, dX11_back_17, rfl, lV_RX11_103.1, lV_RX11_103.2.1, lV_RX11_103.2.2.1, lV_RX11_103.2.2.2⟩, nl_284⟩) (am_o46 (Or.inl ⟨0, dX11_back_20, rfl, rfl⟩) (am_o19 (⟨39, dX11_back_21, rfl, k_RX11_39_gA⟩) (am_o46 (Or.inl ⟨0, dX11_back_24, rfl, rfl⟩) (am_o19 (⟨46, dX11_back_25, rfl, k_RX11_46_gA⟩) (am_o67 (⟨⟨cal_247, by decide, ⟨_, rfl, rfl⟩, 134, dX11_back_28, rfl, lV_RX11_134.1, lV_RX11_134.2.1, lV_RX11_134.2.2.1, lV_RX11_134.2.2.2⟩, nl_247⟩) (am_o46 (Or.inl ⟨0, dX11_back_31, rfl, rfl⟩) (am_o19 (⟨32, dX11_back_32, rfl, k_RX11_32_gA⟩) (am_o67 (⟨⟨cal_283, by decide, ⟨_, rfl, rfl⟩, 125, dX11_back_35, rfl, lV_RX11_125.1, lV_RX11_125.2.1, lV_RX11_125.2.2.1, lV_RX11_125.2.2.2⟩, nl_283⟩) (am_o0 (Or.inl ⟨1, dX11_back_38, ci_1, rfl⟩) (am_o75 (⟨dX11_back_39, rfl⟩) (trivial)))))))))))))))
theorem GF_back : am_okM qF_back := am_okM_of (κ := κF_back) (bl := pF_back) (Prod.ext rfl (Prod.ext rfl (Prod.ext zF_back rfl))) zF_back (List.forall_mem_cons.mpr ⟨gF_back_0, List.forall_mem_cons.mpr ⟨gF_back_1, List.forall_mem_cons.mpr ⟨gF_back_2, fun _ h => absurd h List.not_mem_nil⟩⟩⟩)
theorem gF_count_0 : am_okL κF_count 53 [(0, 1, 1, 0, 0), (1, 73, 2, 11, 0)] := am_o1 (Or.inl ⟨1, dX11_count_0, rfl, rfl⟩) (am_o73 (Or.inl ⟨153, 0, 9, #[55, 63, 71, 79, 87, 100, 121, 129, 137, 145], 55, dX11_count_1, rfl, rfl, am_sTc rfl rfl (am_sTc rfl rfl (am_sTc rfl rfl (am_sTc rfl rfl (am_sTc rfl rfl (am_sTc rfl rfl (am_sTc rfl rfl (am_sTc rfl rfl (am_sTc rfl rfl (am_sTc rfl rfl (trivial))))))))))⟩) (trivial))
theorem gF_count_1 : am_okL κF_count 53 [(56, 46, 0, 0, 0), (57, 19, 1, 9, 0), (60, 18, 3, 7, 0), (63, 74, 0, 0, 0)] := am_o46 (Or.inl ⟨0, dX11_count_56, rfl, rfl⟩) (am_o19 (⟨19, dX11_count_57, rfl, k_RX11_19_gA⟩) (am_o18 (⟨182, dX11_count_60, rfl, k_RX11_182_gI⟩) (am_o74 (⟨dX11_count_63, rfl⟩) (trivial))))
theorem gF_count_2 : am_okL κF_count 53 [(64, 46, 0, 0, 0), (65, 19, 1, 9, 0), (68, 18, 6, 7, 0), (71, 74, 0, 0, 0)] := am_o46 (Or.inl ⟨0, dX11_count_64, rfl, rfl⟩) (am_o19 (⟨19, dX11_count_65, rfl, k_RX11_19_gA⟩) (am_o18 (⟨117, dX11_count_68, rfl, k_RX11_117_gI⟩) (am_o74 (⟨dX11_count_71, rfl⟩) (trivial))))
theorem gF_count_3 : am_okL κF_count 53 [(72, 46, 0, 0, 0), (73, 19, 5, 9, 0), (76, 18, 6, 2, 0), (79, 74, 0, 0, 0)] := am_o46 (Or.inl ⟨0, dX11_count_72, rfl, rfl⟩) (am_o19 (⟨39, dX11_count_73, rfl, k_RX11_39_gA⟩) (am_o18 (⟨136, dX11_count_76, rfl, k_RX11_136_gI⟩) (am_o74 (⟨dX11_count_79, rfl⟩) (trivial))))
theorem gF_count_4 : am_okL κF_count 53 [(80, 46, 0, 0, 0), (81, 19, 1, 9, 0), (84, 18, 5, 7, 0), (87, 74, 0, 0, 0)] := am_o46 (Or.inl ⟨0, dX11_count_80, rfl, rfl⟩) (am_o19 (⟨19, dX11_count_81, rfl, k_RX11_19_gA⟩) (am_o18 (⟨371, dX11_count_84, rfl, k_RX11_371_gI⟩) (am_o74 (⟨dX11_count_87, rfl⟩) (trivial))))
theorem gF_count_5 : am_okL κF_count 53 [(88, 46, 0, 0, 0), (89, 19, 1, 9, 0), (92, 19, 0, 7, 0), (95, 0, 0, 0, 0), (96, 25, 0, 0, 0), (97, 0, 0, 0, 8), (99, 22, 0, 0, 0), (100, 74, 0, 0, 0)] := am_o46 (Or.inl ⟨0, dX11_count_88, rfl, rfl⟩) (am_o19 (⟨19, dX11_count_89, rfl, k_RX11_19_gA⟩) (am_o19 (⟨151, dX11_count_92, rfl, k_RX11_151_gA⟩) (am_o0 (Or.inl ⟨0, dX11_count_95, ci_0, rfl⟩) (am_o25 (⟨dX11_count_96, rfl⟩) (am_o0 (Or.inr (Or.inl ⟨8, dX11_count_97, cb_8, rfl⟩)) (am_o22 (⟨dX11_count_99, rfl⟩) (am_o74 (⟨dX11_count_100, rfl⟩) (trivial))))))))
theorem gF_count_6 : am_okL κF_count 53 [(101, 46, 0, 0, 0), (102, 19, 1, 9, 0), (105, 66, 300, 0, 7), (108, 46, 0, 0, 0), (109, 19, 1, 9, 0), (112, 19, 0, 7, 0), (115, 0, 0, 0, 0), (116, 25, 0, 0, 0), (117, 0, 0, 0, 8), (119, 22, 0, 0, 0), (120, 5, 0, 0, 0), (121, 74, 0, 0, 0)] := am_o46 (Or.inl ⟨0, dX11_count_101, rfl, rfl⟩) (am_o19 (⟨19, dX11_count_102, rfl, k_RX11_19_gA⟩) (am_o66 (⟨⟨cal_300, by decide, ⟨_, rfl, rfl⟩, 341, dX11_count_105, rfl, lV_RX11_341.1, lV_RX11_341.2.1, lV_RX11_341.2.2.1, lV_RX11_341.2.2.2⟩, nl_300⟩) (am_o46 (Or.inl ⟨0, dX11_count_108, rfl, rfl⟩) (am_o19 (⟨19, dX11_count_109, rfl, k_RX11_19_gA⟩) (am_o19 (⟨151, dX11_count_112, rfl, k_RX11_151_gA⟩) (am_o0 (Or.inl ⟨0, dX11_count_115, ci_0, rfl⟩) (am_o25 (⟨dX11_count_116, rfl⟩) (am_o0 (Or.inr (Or.inl ⟨8, dX11_count_117, cb_8, rfl⟩)) (am_o22 (⟨dX11_count_119, rfl⟩) (am_o5 (⟨dX11_count_120, rfl⟩) (am_o74 (⟨dX11_count_121, rfl⟩) (trivial))))))))))))
theorem gF_count_7 : am_okL κF_count 53 [(122, 46, 0, 0, 0), (123, 19, 1, 9, 0), (126, 66, 301, 0, 7), (129, 74, 0, 0, 0)] := am_o46 (Or.inl ⟨0, dX11_count_122, rfl, rfl⟩) (am_o19 (⟨19, dX11_count_123, rfl, k_RX11_19_gA⟩) (am_o66 (⟨⟨cal_301, by decide, ⟨_, rfl, rfl⟩, 291, dX11_count_126, rfl, lV_RX11_291.1, lV_RX11_291.2.1, lV_RX11_291.2.2.1, lV_RX11_291.2.2.2⟩, nl_301⟩) (am_o74 (⟨dX11_count_129, rfl⟩) (trivial))))
theorem gF_count_8 : am_okL κF_count 53 [(130, 46, 0, 0, 0), (131, 19, 1, 9, 0), (134, 66, 302, 0, 7), (137, 74, 0, 0, 0)] := am_o46 (Or.inl ⟨0, dX11_count_130, rfl, rfl⟩) (am_o19 (⟨19, dX11_count_131, rfl, k_RX11_19_gA⟩) (am_o66 (⟨⟨cal_302, by decide, ⟨_, rfl, rfl⟩, 374, dX11_count_134, rfl, lV_RX11_374.1, lV_RX11_374.2.1, lV_RX11_374.2.2.1, lV_RX11_374.2.2.2⟩, nl_302⟩) (am_o74 (⟨dX11_count_137, rfl⟩) (trivial))))
theorem gF_count_9 : am_okL κF_count 53 [(138, 46, 0, 0, 0), (139, 19, 1, 9, 0), (142, 18, 4, 7, 0), (145, 74, 0, 0, 0)] := am_o46 (Or.inl ⟨0, dX11_count_138, rfl, rfl⟩) (am_o19 (⟨19, dX11_count_139, rfl, k_RX11_19_gA⟩) (am_o18 (⟨364, dX11_count_142, rfl, k_RX11_364_gI⟩) (am_o74 (⟨dX11_count_145, rfl⟩) (trivial))))
theorem gF_count_10 : am_okL κF_count 53 [(146, 46, 0, 0, 0), (147, 19, 4, 9, 0), (150, 18, 2, 6, 0), (153, 74, 0, 0, 0)] := am_o46 (Or.inl ⟨0, dX11_count_146, rfl, rfl⟩) (am_o19 (⟨32, dX11_count_147, rfl, k_RX11_32_gA⟩) (am_o18 (⟨377, dX11_count_150, rfl, k_RX11_377_gI⟩) (am_o74 (⟨dX11_count_153, rfl⟩) (trivial))))
theorem gF_count_11 : am_okL κF_count 53 [(154, 0, 0, 0, (-1)), (155, 74, 0, 0, 0)] := am_o0 (Or.inl ⟨-1, dX11_count_154, ci_m1, rfl⟩) (am_o74 (⟨dX11_count_155, rfl⟩) (trivial))
theorem GF_count : am_okM qF_count := am_okM_of (κ := κF_count) (bl := pF_count) (Prod.ext rfl (Prod.ext rfl (Prod.ext zF_count rfl))) zF_count (List.forall_mem_cons.mpr ⟨gF_count_0, List.forall_mem_cons.mpr ⟨gF_count_1, List.forall_mem_cons.mpr ⟨gF_count_2, List.forall_mem_cons.mpr ⟨gF_count_3, List.forall_mem_cons.mpr ⟨gF_count_4, List.forall_mem_cons.mpr ⟨gF_count_5, List.forall_mem_cons.mpr ⟨gF_count_6, List.forall_mem_cons.mpr ⟨gF_count_7, List.forall_mem_cons.mpr ⟨gF_count_8, List.forall_mem_cons.mpr ⟨gF_count_9, List.forall_mem_cons.mpr ⟨gF_count_10, List.forall_mem_cons.mpr ⟨gF_count_11, fun _ h => absurd h List.not_mem_nil⟩⟩⟩⟩⟩⟩⟩⟩⟩⟩⟩⟩)
theorem gF_needChild_0 : am_okL κF_needChild 54 [(0, 1, 1, 0, 0), (1, 52, 2, 1, 0)] := am_o1 (Or.inl ⟨1, dX11_needChild_0, rfl, rfl⟩) (am_o52 (⟨14, dX11_needChild_1, rfl, rfl⟩) (trivial))
theorem gF_needChild_1 : am_okL κF_needChild 54 [(4, 1, 1, 0, 0), (5, 46, 0, 0, 0), (6, 19, 1, 9, 0), (9, 18, 3, 7, 0), (12, 58, 3, 2, 0)] := am_o1 (Or.inl ⟨1, dX11_needChild_4, rfl, rfl⟩) (am_o46 (Or.inl ⟨0, dX11_needChild_5, rfl, rfl⟩) (am_o19 (⟨19, dX11_needChild_6, rfl, k_RX11_19_gA⟩) (am_o18 (⟨182, dX11_needChild_9, rfl, k_RX11_182_gI⟩) (am_o58 (⟨14, dX11_needChild_12, rfl, rfl⟩) (trivial)))))
theorem gF_needChild_2 : am_okL κF_needChild 54 [(15, 77, 3, 0, 0)] := am_o77 (⟨197, 378, 201, 6, fit_at_201, fit_sup, wT_946, wT_146, by decide, rfl, rfl, at_201, dX11_needChild_15, dX11_needChild_18, Or.inr ⟨dX11_needChild_19, dX11_needChild_22, dX11_needChild_25⟩⟩) (trivial)
theorem gF_needChild_3 : am_okL κF_needChild 54 [(26, 76, 0, 0, 0)] := am_o76 (⟨dX11_needChild_26, rfl⟩) (trivial)
theorem GF_needChild : am_okM qF_needChild := am_okM_of (κ := κF_needChild) (bl := pF_needChild) (Prod.ext rfl (Prod.ext rfl (Prod.ext zF_needChild rfl))) zF_needChild (List.forall_mem_cons.mpr ⟨gF_needChild_0, List.forall_mem_cons.mpr ⟨gF_needChild_1, List.forall_mem_cons.mpr ⟨gF_needChild_2, List.forall_mem_cons.mpr ⟨gF_needChild_3, fun _ h => absurd h List.not_mem_nil⟩⟩⟩⟩)
theorem gF_needTwo_0 : am_okL κF_needTwo 55 [(0, 46, 0, 0, 0), (1, 1, 1, 0, 0), (2, 67, 54, 1, 9), (5, 46, 0, 0, 0), (6, 1, 2, 0, 0), (7, 67, 54, 1, 9), (10, 1, 1, 0, 0), (11, 1, 2, 0, 0), (12, 57, 2, 1, 0)] := am_o46 (Or.inl ⟨0, dX11_needTwo_0, rfl, rfl⟩) (am_o1 (Or.inl ⟨1, dX11_needTwo_1, rfl, rfl⟩) (am_o67 (⟨⟨cal_54, by decide, ⟨_, rfl, rfl⟩, 155, dX11_needTwo_2, rfl, lV_RX11_155.1, lV_RX11_155.2.1, lV_RX11_155.2.2.1, lV_RX11_155.2.2.2⟩, nl_54⟩) (am_o46 (Or.inl ⟨0, dX11_needTwo_5, rfl, rfl⟩) (am_o1 (Or.inl ⟨2, dX11_needTwo_6, rfl, rfl⟩) (am_o67 (⟨⟨cal_54, by decide, ⟨_, rfl, rfl⟩, 155, dX11_needTwo_7, rfl, lV_RX11_155.1, lV_RX11_155.2.1, lV_RX11_155.2.2.1, lV_RX11_155.2.2.2⟩, nl_54⟩) (am_o1 (Or.inl ⟨1, dX11_needTwo_10, rfl, rfl⟩) (am_o1 (Or.inl ⟨2, dX11_needTwo_11, rfl, rfl⟩) (am_o57 (⟨14, dX11_needTwo_12, rfl, rfl⟩) (trivial)))))))))
theorem gF_needTwo_1 : am_okL κF_needTwo 55 [(15, 77, 1, 0, 0)] := am_o77 (⟨110, 380, 114, 14, fit_at_114, fit_sup, wT_833, wT_144, by decide, rfl, rfl, at_114, dX11_needTwo_15, dX11_needTwo_18, Or.inr ⟨dX11_needTwo_19, dX11_needTwo_22, dX11_needTwo_25⟩⟩) (trivial)
theorem gF_needTwo_2 : am_okL κF_needTwo 55 [(26, 76, 0, 0, 0)] := am_o76 (⟨dX11_needTwo_26, rfl⟩) (trivial)
theorem GF_needTwo : am_okM qF_needTwo := am_okM_of (κ := κF_needTwo) (bl := pF_needTwo) (Prod.ext rfl (Prod.ext rfl (Prod.ext zF_needTwo rfl))) zF_needTwo (List.forall_mem_cons.mpr ⟨gF_needTwo_0, List.forall_mem_cons.mpr ⟨gF_needTwo_1, List.forall_mem_cons.mpr ⟨gF_needTwo_2, fun _ h => absurd h List.not_mem_nil⟩⟩⟩)
theorem gF_needThing_0 : am_okL κF_needThing 56 [(0, 1, 0, 0, 0), (1, 52, 2, 1, 0)] := am_o1 (Or.inl ⟨0, dX11_needThing_0, rfl, rfl⟩) (am_o52 (⟨9, dX11_needThing_1, rfl, rfl⟩) (trivial))
theorem gF_needThing_1 : am_okL κF_needThing 56 [(4, 1, 0, 0, 0), (5, 0, 0, 0, 8), (7, 58, 3, 2, 0)] := am_o1 (Or.inl ⟨0, dX11_needThing_4, rfl, rfl⟩) (am_o0 (Or.inr (Or.inl ⟨8, dX11_needThing_5, cb_8, rfl⟩)) (am_o58 (⟨14, dX11_needThing_7, rfl, rfl⟩) (trivial)))
theorem gF_needThing_2 : am_okL κF_needThing 56 [(10, 77, 3, 0, 0)] := am_o77 (⟨197, 264, 201, 4, fit_at_201, fit_sup, wT_946, wT_146, by decide, rfl, rfl, at_201, dX11_needThing_10, dX11_needThing_13, Or.inr ⟨dX11_needThing_14, dX11_needThing_17, dX11_needThing_20⟩⟩) (trivial)
theorem gF_needThing_3 : am_okL κF_needThing 56 [(21, 76, 0, 0, 0)] := am_o76 (⟨dX11_needThing_21, rfl⟩) (trivial)
theorem GF_needThing : am_okM qF_needThing := am_okM_of (κ := κF_needThing) (bl := pF_needThing) (Prod.ext rfl (Prod.ext rfl (Prod.ext zF_needThing rfl))) zF_needThing (List.forall_mem_cons.mpr ⟨gF_needThing_0, List.forall_mem_cons.mpr ⟨gF_needThing_1, List.forall_mem_cons.mpr ⟨gF_needThing_2, List.forall_mem_cons.mpr ⟨gF_needThing_3, fun _ h => absurd h List.not_mem_nil⟩⟩⟩⟩)
theorem gF_needAhead_0 : am_okL κF_needAhead 57 [(0, 1, 0, 0, 0), (1, 52, 2, 1, 0)] := am_o1 (Or.inl ⟨0, dX11_needAhead_0, rfl, rfl⟩) (am_o52 (⟨9, dX11_needAhead_1, rfl, rfl⟩) (trivial))
theorem gF_needAhead_1 : am_okL κF_needAhead 57 [(4, 1, 0, 0, 0), (5, 0, 0, 0, 100), (7, 61, 3, 2, 0)] := am_o1 (Or.inl ⟨0, dX11_needAhead_4, rfl, rfl⟩) (am_o0 (Or.inr (Or.inl ⟨100, dX11_needAhead_5, cb_100, rfl⟩)) (am_o61 (⟨14, dX11_needAhead_7, rfl, rfl⟩) (trivial)))
theorem gF_needAhead_2 : am_okL κF_needAhead 57 [(10, 77, 1, 0, 0)] := am_o77 (⟨110, 382, 114, 19, fit_at_114, fit_sup, wT_833, wT_144, by decide, rfl, rfl, at_114, dX11_needAhead_10, dX11_needAhead_13, Or.inr ⟨dX11_needAhead_14, dX11_needAhead_17, dX11_needAhead_20⟩⟩) (trivial)
theorem gF_needAhead_3 : am_okL κF_needAhead 57 [(21, 76, 0, 0, 0)] := am_o76 (⟨dX11_needAhead_21, rfl⟩) (trivial)
theorem GF_needAhead : am_okM qF_needAhead := am_okM_of (κ := κF_needAhead) (bl := pF_needAhead) (Prod.ext rfl (Prod.ext rfl (Prod.ext zF_needAhead rfl))) zF_needAhead (List.forall_mem_cons.mpr ⟨gF_needAhead_0, List.forall_mem_cons.mpr ⟨gF_needAhead_1, List.forall_mem_cons.mpr ⟨gF_needAhead_2, List.forall_mem_cons.mpr ⟨gF_needAhead_3, fun _ h => absurd h List.not_mem_nil⟩⟩⟩⟩)
theorem gF_takeFeels_0 : am_okL κF_takeFeels 58 [(0, 46, 0, 0, 0), (1, 19, 0, 9, 0), (4, 0, 0, 0, 2), (5, 0, 0, 0, 10), (7, 66, 308, 2, 8), (10, 75, 0, 0, 0)] := am_o46 (Or.inl ⟨0, dX11_takeFeels_0, rfl, rfl⟩) (am_o19 (⟨10, dX11_takeFeels_1, rfl, k_RX11_10_gA⟩) (am_o0 (Or.inl ⟨2, dX11_takeFeels_4, ci_2, rfl⟩) (am_o0 (Or.inr (Or.inl ⟨10, dX11_takeFeels_5, cb_10, rfl⟩)) (am_o66 (⟨⟨cal_308, by decide, ⟨_, rfl, rfl⟩, 384, dX11_takeFeels_7, rfl, lV_RX11_384.1, lV_RX11_384.2.1, lV_RX11_384.2.2.1, lV_RX11_384.2.2.2⟩, nl_308⟩) (am_o75 (⟨dX11_takeFeels_10, rfl⟩) (trivial))))))
theorem GF_takeFeels : am_okM qF_takeFeels := am_okM_of (κ := κF_takeFeels) (bl := pF_takeFeels) (Prod.ext rfl (Prod.ext rfl (Prod.ext zF_takeFeels rfl))) zF_takeFeels (List.forall_mem_cons.mpr ⟨gF_takeFeels_0, fun _ h => absurd h List.not_mem_nil⟩)
theorem gF_needFeels_0 : am_okL κF_needFeels 59 [(0, 46, 0, 0, 0), (1, 66, 58, 0, 9), (4, 51, 2, 1, 0)] := am_o46 (Or.inl ⟨0, dX11_needFeels_0, rfl, rfl⟩) (am_o66 (⟨⟨cal_58, by decide, ⟨_, rfl, rfl⟩, 260, dX11_needFeels_1, rfl, lV_RX11_260.1, lV_RX11_260.2.1, lV_RX11_260.2.2.1, lV_RX11_260.2.2.2⟩, nl_58⟩) (am_o51 (⟨14, dX11_needFeels_4, rfl, rfl⟩) (trivial)))
theorem gF_needFeels_1 : am_okL κF_needFeels 59 [(7, 77, 1, 0, 0)] := am_o77 (⟨110, 266, 114, 17, fit_at_114, fit_sup, wT_833, wT_144, by decide, rfl, rfl, at_114, dX11_needFeels_7, dX11_needFeels_10, Or.inr ⟨dX11_needFeels_11, dX11_needFeels_14, dX11_needFeels_17⟩⟩) (trivial)
theorem gF_needFeels_2 : am_okL κF_needFeels 59 [(18, 76, 0, 0, 0)] := am_o76 (⟨dX11_needFeels_18, rfl⟩) (trivial)
theorem GF_needFeels : am_okM qF_needFeels := am_okM_of (κ := κF_needFeels) (bl := pF_needFeels) (Prod.ext rfl (Prod.ext rfl (Prod.ext zF_needFeels rfl))) zF_needFeels (List.forall_mem_cons.mpr ⟨gF_needFeels_0, List.forall_mem_cons.mpr ⟨gF_needFeels_1, List.forall_mem_cons.mpr ⟨gF_needFeels_2, fun _ h => absurd h List.not_mem_nil⟩⟩⟩)
theorem gF_needLives_0 : am_okL κF_needLives 60 [(0, 46, 0, 0, 0), (1, 19, 0, 9, 0), (4, 0, 0, 0, 7), (6, 0, 0, 0, 255), (9, 66, 308, 2, 8), (12, 51, 2, 1, 0)] := am_o46 (Or.inl ⟨0, dX11_needLives_0, rfl, rfl⟩) (am_o19 (⟨10, dX11_needLives_1, rfl, k_RX11_10_gA⟩) (am_o0 (Or.inr (Or.inl ⟨7, dX11_needLives_4, cb_7, rfl⟩)) (am_o0 (Or.inr (Or.inr (Or.inl ⟨255, dX11_needLives_6, cs_255, rfl⟩))) (am_o66 (⟨⟨cal_308, by decide, ⟨_, rfl, rfl⟩, 384, dX11_needLives_9, rfl, lV_RX11_384.1, lV_RX11_384.2.1, lV_RX11_384.2.2.1, lV_RX11_384.2.2.2⟩, nl_308⟩) (am_o51 (⟨14, dX11_needLives_12, rfl, rfl⟩) (trivial))))))
theorem gF_needLives_1 : am_okL κF_needLives 60 [(15, 77, 1, 0, 0)] := am_o77 (⟨110, 387, 114, 20, fit_at_114, fit_sup, wT_833, wT_144, by decide, rfl, rfl, at_114, dX11_needLives_15, dX11_needLives_18, Or.inr ⟨dX11_needLives_19, dX11_needLives_22, dX11_needLives_25⟩⟩) (trivial)
theorem gF_needLives_2 : am_okL κF_needLives 60 [(26, 76, 0, 0, 0)] := am_o76 (⟨dX11_needLives_26, rfl⟩) (trivial)
theorem GF_needLives : am_okM qF_needLives := am_okM_of (κ := κF_needLives) (bl := pF_needLives) (Prod.ext rfl (Prod.ext rfl (Prod.ext zF_needLives rfl))) zF_needLives (List.forall_mem_cons.mpr ⟨gF_needLives_0, List.forall_mem_cons.mpr ⟨gF_needLives_1, List.forall_mem_cons.mpr ⟨gF_needLives_2, fun _ h => absurd h List.not_mem_nil⟩⟩⟩)
theorem gF_tellFact_0 : am_okL κF_tellFact 61 [(0, 46, 0, 0, 0), (1, 19, 4, 9, 0), (4, 46, 0, 0, 0), (5, 19, 1, 9, 0), (8, 67, 281, 1, 6), (11, 46, 0, 0, 0), (12, 19, 1, 9, 0), (15, 19, 1, 7, 0), (18, 1, 1, 0, 0), (19, 25, 0, 0, 0), (20, 1, 2, 0, 0), (21, 22, 0, 0, 0), (22, 2, 4, 0, 0), (24, 46, 0, 0, 0), (25, 19, 1, 9, 0), (28, 19, 1, 7, 0), (31, 1, 1, 0, 0), (32, 25, 0, 0, 0), (33, 1, 2, 0, 0), (34, 1, 3, 0, 0), (35, 27, 0, 0, 0), (36, 1, 4, 0, 0), (38, 74, 0, 0, 0)] := am_o46 (Or.inl ⟨0, dX11_tellFact_0, rfl, rfl⟩) (am_o19 (⟨32, dX11_tellFact_1, rfl, k_RX11_32_gA⟩) (am_o46 (Or.inl ⟨0, dX11_tellFact_4, rfl, rfl⟩) (am_o19 (⟨19, dX11_tellFact_5, rfl, k_RX11_19_gA⟩) (am_o67 (⟨⟨cal_281, by decide, ⟨_, rfl, rfl⟩, 175, dX11_tellFact_8, rfl, lV_RX11_175.1, lV_RX11_175.2.1, lV_RX11_175.2.2.1, lV_RX11_175.2.2.2⟩, nl_281⟩) (am_o46 (Or.inl ⟨0, dX11_tellFact_11, rfl, rfl⟩) (am_o19 (⟨19, dX11_tellFact_12, rfl, k_RX11_19_gA⟩) (am_o19 (⟨170, dX11_tellFact_15, rfl, k_RX11_170_gA⟩) (am_o1 (Or.inl ⟨1, dX11_tellFact_18, rfl, rfl⟩) (am_o25 (⟨dX11_tellFact_19, rfl⟩) (am_o1 (Or.inl ⟨2, dX11_tellFact_20, rfl, rfl⟩) (am_o22 (⟨dX11_tellFact_21, rfl⟩) (am_o2 (Or.inr ⟨dX11_tellFact_22, rfl⟩) (am_o46 (Or.inl ⟨0, dX11_tellFact_24, rfl, rfl⟩) (am_o19 (⟨19, dX11_tellFact_25, rfl, k_RX11_19_gA⟩) (am_o19 (⟨170, dX11_tellFact_28, rfl, k_RX11_170_gA⟩) (am_o1 (Or.inl ⟨1, dX11_tellFact_31, rfl, rfl⟩) (am_o25 (⟨dX11_tellFact_32, rfl⟩) (am_o1 (Or.inl ⟨2, dX11_tellFact_33, rfl, rfl⟩) (am_o1 (Or.inl ⟨3, dX11_tellFact_34, rfl, rfl⟩) (am_o27 (⟨dX11_tellFact_35, rfl⟩) (am_o1 (Or.inr ⟨dX11_tellFact_36, rfl⟩) (am_o74 (⟨dX11_tellFact_38, rfl⟩) (trivial)))))))))))))))))))))))
theorem GF_tellFact : am_okM qF_tellFact := am_okM_of (κ := κF_tellFact) (bl := pF_tellFact) (Prod.ext rfl (Prod.ext rfl (Prod.ext zF_tellFact rfl))) zF_tellFact (List.forall_mem_cons.mpr ⟨gF_tellFact_0, fun _ h => absurd h List.not_mem_nil⟩)
theorem gF_goAhead_0 : am_okL κF_goAhead 62 [(0, 46, 0, 0, 0), (1, 19, 2, 9, 0), (4, 46, 0, 0, 0), (5, 19, 1, 9, 0), (8, 67, 284, 1, 7), (11, 0, 0, 0, 0), (12, 2, 2, 0, 0), (13, 72, 1, 0, 0)] := am_o46 (Or.inl ⟨0, dX11_goAhead_0, rfl, rfl⟩) (am_o19 (⟨23, dX11_goAhead_1, rfl, k_RX11_23_gA⟩) (am_o46 (Or.inl ⟨0, dX11_goAhead_4, rfl, rfl⟩) (am_o19 (⟨19, dX11_goAhead_5, rfl, k_RX11_19_gA⟩) (am_o67 (⟨⟨cal_284, by decide, ⟨_, rfl, rfl⟩, 103, dX11_goAhead_8, rfl, lV_RX11_103.1, lV_RX11_103.2.1, lV_RX11_103.2.2.1, lV_RX11_103.2.2.2⟩, nl_284⟩) (am_o0 (Or.inl ⟨0, dX11_goAhead_11, ci_0, rfl⟩) (am_o2 (Or.inl ⟨2, dX11_goAhead_12, rfl, rfl⟩) (am_o72 (rfl) (trivial))))))))
theorem gF_goAhead_1 : am_okL κF_goAhead 62 [(13, 1, 2, 0, 0), (14, 1, 1, 0, 0), (15, 59, 3, 2, 0)] := am_o1 (Or.inl ⟨2, dX11_goAhead_13, rfl, rfl⟩) (am_o1 (Or.inl ⟨1, dX11_goAhead_14, rfl, rfl⟩) (am_o59 (⟨22, dX11_goAhead_15, rfl, rfl⟩) (trivial)))
theorem gF_goAhead_2 : am_okL κF_goAhead 62 [(18, 46, 0, 0, 0), (19, 19, 2, 9, 0), (22, 46, 0, 0, 0), (23, 19, 5, 9, 0), (26, 0, 0, 0, 0), (27, 66, 289, 2, 7), (30, 34, 0, 0, 0), (31, 3, 2, 0, 1), (34, 71, 1, 0, 0)] := am_o46 (Or.inl ⟨0, dX11_goAhead_18, rfl, rfl⟩) (am_o19 (⟨23, dX11_goAhead_19, rfl, k_RX11_23_gA⟩) (am_o46 (Or.inl ⟨0, dX11_goAhead_22, rfl, rfl⟩) (am_o19 (⟨39, dX11_goAhead_23, rfl, k_RX11_39_gA⟩) (am_o0 (Or.inl ⟨0, dX11_goAhead_26, ci_0, rfl⟩) (am_o66 (⟨⟨cal_289, by decide, ⟨_, rfl, rfl⟩, 178, dX11_goAhead_27, rfl, lV_RX11_178.1, lV_RX11_178.2.1, lV_RX11_178.2.2.1, lV_RX11_178.2.2.2⟩, nl_289⟩) (am_o34 (⟨dX11_goAhead_30, rfl⟩) (am_o3 (⟨1, dX11_goAhead_31, ci_1, rfl⟩) (am_o71 (⟨(-21), dX11_goAhead_34, rfl⟩) (trivial)))))))))
theorem gF_goAhead_3 : am_okL κF_goAhead 62 [(37, 76, 0, 0, 0)] := am_o76 (⟨dX11_goAhead_37, rfl⟩) (trivial)
theorem GF_goAhead : am_okM qF_goAhead := am_okM_of (κ := κF_goAhead) (bl := pF_goAhead) (Prod.ext rfl (Prod.ext rfl (Prod.ext zF_goAhead rfl))) zF_goAhead (List.forall_mem_cons.mpr ⟨gF_goAhead_0, List.forall_mem_cons.mpr ⟨gF_goAhead_1, List.forall_mem_cons.mpr ⟨gF_goAhead_2, List.forall_mem_cons.mpr ⟨gF_goAhead_3, fun _ h => absurd h List.not_mem_nil⟩⟩⟩⟩)
