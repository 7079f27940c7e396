abbrev jJ6_numberOfTrailingZeros_0f7a4 : zJ := (yJ6_numberOfTrailingZeros_0f7a4, cJ6_numberOfTrailingZeros_0f7a4, 2, (some .int), [])
abbrev jJ6_bitCount_0f7a4 : zJ := (yJ6_bitCount_0f7a4, cJ6_bitCount_0f7a4, 1, (some .int), [])
abbrev jJ13_bitCount_95d88 : zJ := (yJ13_bitCount_95d88, cJ13_bitCount_95d88, 2, (some .int), [])
abbrev jJ7_fill_53178 : zJ := (yJ7_fill_53178, cJ7_fill_53178, 4, (none : Option Jvm.ClassFile.FieldType), [])
abbrev jX8_copy : zJ := (yX8_copy, cX8_copy, 2, (none : Option Jvm.ClassFile.FieldType), [])
abbrev jX8_swap : zJ := (yX8_swap, cX8_swap, 4, (none : Option Jvm.ClassFile.FieldType), [])
abbrev jX8_darken : zJ := (yX8_darken, cX8_darken, 3, (none : Option Jvm.ClassFile.FieldType), [])
abbrev jX8_allShades : zJ := (yX8_allShades, cX8_allShades, 3, (some .int), [])
abbrev jX8_redOnes : zJ := (yX8_redOnes, cX8_redOnes, 3, (some .int), [])
abbrev jX7_copy : zJ := (yX7_copy, cX7_copy, 2, (none : Option Jvm.ClassFile.FieldType), [])
abbrev jX7_add : zJ := (yX7_add, cX7_add, 8, (none : Option Jvm.ClassFile.FieldType), [])
abbrev jX7_read : zJ := (yX7_read, cX7_read, 5, (some .int), [])
abbrev jX9_add : zJ := (yX9_add, cX9_add, 3, (none : Option Jvm.ClassFile.FieldType), [])
abbrev jX9_useUp : zJ := (yX9_useUp, cX9_useUp, 2, (some .int), [])
abbrev jX9_told : zJ := (yX9_told, cX9_told, 4, (some .int), [])
abbrev jX9_open : zJ := (yX9_open, cX9_open, 1, (none : Option Jvm.ClassFile.FieldType), [])
abbrev jX9_advance : zJ := (yX9_advance, cX9_advance, 1, (none : Option Jvm.ClassFile.FieldType), [])
abbrev jX9_isEnd : zJ := (yX9_isEnd, cX9_isEnd, 1, (some .boolean), [])
abbrev jX9_isSign : zJ := (yX9_isSign, cX9_isSign, 2, (some .boolean), [])
abbrev jX9_isWord : zJ := (yX9_isWord, cX9_isWord, 3, (some .boolean), [])
abbrev jJ0_length_8abf5 : zJ := (yJ0_length_8abf5, cJ0_length_8abf5, 1, (some .int), [])
abbrev jJ0_charAt_5068e : zJ := (yJ0_charAt_5068e, cJ0_charAt_5068e, 2, (some .char), [])
abbrev jX9_takeSign : zJ := (yX9_takeSign, cX9_takeSign, 2, (some .boolean), [])
abbrev jX9_takeWord : zJ := (yX9_takeWord, cX9_takeWord, 2, (some .boolean), [])
abbrev jX9_takeNumber : zJ := (yX9_takeNumber, cX9_takeNumber, 5, (some .int), [])
abbrev jX9_takeNumberAfter : zJ := (yX9_takeNumberAfter, cX9_takeNumberAfter, 4, (some .int), [])
abbrev jX9_takeLetters : zJ := (yX9_takeLetters, cX9_takeLetters, 5, (some .int), [])
abbrev jX3_copy : zJ := (yX3_copy, cX3_copy, 2, (none : Option Jvm.ClassFile.FieldType), [])
abbrev jX3_draw : zJ := (yX3_draw, cX3_draw, 1, (some .int), [])
abbrev jX3_allThings : zJ := (yX3_allThings, cX3_allThings, 1, (some .int), [])
abbrev jX3_worldCount : zJ := (yX3_worldCount, cX3_worldCount, 1, (some .int), [])
abbrev jX3_touching : zJ := (yX3_touching, cX3_touching, 4, (some .int), [])
abbrev jX3_leaning : zJ := (yX3_leaning, cX3_leaning, 4, (some .int), [])
abbrev jX3_weighs : zJ := (yX3_weighs, cX3_weighs, 7, (some .int), [])
abbrev jX5_remember : zJ := (yX5_remember, cX5_remember, 3, (none : Option Jvm.ClassFile.FieldType), [])
abbrev jX5_undoInto : zJ := (yX5_undoInto, cX5_undoInto, 4, (some .boolean), [])
abbrev jX5_forget : zJ := (yX5_forget, cX5_forget, 1, (none : Option Jvm.ClassFile.FieldType), [])
abbrev jX6_copy : zJ := (yX6_copy, cX6_copy, 2, (none : Option Jvm.ClassFile.FieldType), [])
abbrev jX6_read : zJ := (yX6_read, cX6_read, 3, (some .boolean), [])
abbrev jX6_readLine : zJ := (yX6_readLine, cX6_readLine, 4, (some .boolean), [])
abbrev jX6_kindHere : zJ := (yX6_kindHere, cX6_kindHere, 1, (some .int), [])
abbrev jX6_begin : zJ := (yX6_begin, cX6_begin, 3, (none : Option Jvm.ClassFile.FieldType), [])
abbrev jX6_readAny : zJ := (yX6_readAny, cX6_readAny, 4, (some .boolean), [])
abbrev jX6_readAll : zJ := (yX6_readAll, cX6_readAll, 4, (some .boolean), [])
abbrev jX6_addStep : zJ := (yX6_addStep, cX6_addStep, 2, (none : Option Jvm.ClassFile.FieldType), [])
abbrev jX6_readAtom : zJ := (yX6_readAtom, cX6_readAtom, 5, (some .boolean), [])
abbrev jX6_readDeeper : zJ := (yX6_readDeeper, cX6_readDeeper, 3, (some .boolean), [])
abbrev jX6_readSum : zJ := (yX6_readSum, cX6_readSum, 5, (some .boolean), [])
abbrev jX6_factHere : zJ := (yX6_factHere, cX6_factHere, 1, (some .int), [])
abbrev jX6_sum : zJ := (yX6_sum, cX6_sum, 7, (some .int), [])
abbrev jX6_note : zJ := (yX6_note, cX6_note, 6, (none : Option Jvm.ClassFile.FieldType), [])
abbrev jX6_holds : zJ := (yX6_holds, cX6_holds, 8, (some .boolean), [])
abbrev jX1_fallsBy : zJ := (yX1_fallsBy, cX1_fallsBy, 3, (some .int), [])
abbrev jX1_fall : zJ := (yX1_fall, cX1_fall, 4, (none : Option Jvm.ClassFile.FieldType), [])
abbrev jX1_wouldBePale : zJ := (yX1_wouldBePale, cX1_wouldBePale, 4, (some .int), [])
abbrev jX1_raise : zJ := (yX1_raise, cX1_raise, 7, (none : Option Jvm.ClassFile.FieldType), [])
abbrev jX1_ownOf : zJ := (yX1_ownOf, cX1_ownOf, 6, (some .int), [])
abbrev jX1_passes : zJ := (yX1_passes, cX1_passes, 3, (some .int), [])
abbrev jX1_givesAway : zJ := (yX1_givesAway, cX1_givesAway, 2, (some .boolean), [])
abbrev jX1_isSeen : zJ := (yX1_isSeen, cX1_isSeen, 6, (some .boolean), [])
abbrev jX11_readBy : zJ := (yX11_readBy, cX11_readBy, 2, (some .int), [])
abbrev jX1_isFoundOut : zJ := (yX1_isFoundOut, cX1_isFoundOut, 4, (some .boolean), [])
abbrev jX1_seeingWomen : zJ := (yX1_seeingWomen, cX1_seeingWomen, 5, (some .int), [])
abbrev jX1_utter : zJ := (yX1_utter, cX1_utter, 6, (some .int), [])
abbrev jX1_live : zJ := (yX1_live, cX1_live, 5, (some .int), [])
abbrev jX1_blushFalsely : zJ := (yX1_blushFalsely, cX1_blushFalsely, 3, (none : Option Jvm.ClassFile.FieldType), [])
abbrev jX10_weigh : zJ := (yX10_weigh, cX10_weigh, 7, (none : Option Jvm.ClassFile.FieldType), [])
abbrev jX10_firstAlike : zJ := (yX10_firstAlike, cX10_firstAlike, 5, (some .int), [])
abbrev jX10_isAlike : zJ := (yX10_isAlike, cX10_isAlike, 5, (some .boolean), [])
abbrev jX10_fitting : zJ := (yX10_fitting, cX10_fitting, 11, (some .long), [])
abbrev jX10_fittingRow : zJ := (yX10_fittingRow, cX10_fittingRow, 8, (some .long), [])
abbrev jX10_greatestPart : zJ := (yX10_greatestPart, cX10_greatestPart, 9, (some .int), [])
abbrev jX10_partsOf : zJ := (yX10_partsOf, cX10_partsOf, 6, (some .int), [])
abbrev jX10_partedBy : zJ := (yX10_partedBy, cX10_partedBy, 6, (some .int), [])
abbrev jX10_hidden : zJ := (yX10_hidden, cX10_hidden, 6, (some .int), [])
abbrev jX10_knownBy : zJ := (yX10_knownBy, cX10_knownBy, 8, (some .int), [])
abbrev jX10_markUnparted : zJ := (yX10_markUnparted, cX10_markUnparted, 5, (none : Option Jvm.ClassFile.FieldType), [])
abbrev jX0_sharedIn : zJ := (yX0_sharedIn, cX0_sharedIn, 5, (some .int), [])
abbrev jX0_search : zJ := (yX0_search, cX0_search, 3, (none : Option Jvm.ClassFile.FieldType), [])
abbrev jX0_extend : zJ := (yX0_extend, cX0_extend, 6, (none : Option Jvm.ClassFile.FieldType), [])
abbrev jX0_weighTried : zJ := (yX0_weighTried, cX0_weighTried, 5, (none : Option Jvm.ClassFile.FieldType), [])
abbrev jX0_changesTo : zJ := (yX0_changesTo, cX0_changesTo, 5, (some .int), [])
abbrev jX2_search : zJ := (yX2_search, cX2_search, 2, (none : Option Jvm.ClassFile.FieldType), [])
abbrev jX2_extend : zJ := (yX2_extend, cX2_extend, 5, (none : Option Jvm.ClassFile.FieldType), [])
abbrev jX2_unlike : zJ := (yX2_unlike, cX2_unlike, 6, (some .int), [])
abbrev jX4_read : zJ := (yX4_read, cX4_read, 3, (some .boolean), [])
abbrev jX4_readLine : zJ := (yX4_readLine, cX4_readLine, 2, (some .boolean), [])
abbrev jX4_readNumber : zJ := (yX4_readNumber, cX4_readNumber, 2, (some .boolean), [])
abbrev jX4_readWoman : zJ := (yX4_readWoman, cX4_readWoman, 3, (some .boolean), [])
abbrev jX4_readQuestion : zJ := (yX4_readQuestion, cX4_readQuestion, 3, (some .boolean), [])
abbrev jX4_readThing : zJ := (yX4_readThing, cX4_readThing, 6, (some .boolean), [])
abbrev jX4_readWitness : zJ := (yX4_readWitness, cX4_readWitness, 7, (some .boolean), [])
abbrev jX11_feed : zJ := (yX11_feed, cX11_feed, 6, (some .int), [])
abbrev jX11_end : zJ := (yX11_end, cX11_end, 2, (some .boolean), [])
abbrev jX11_court : zJ := (yX11_court, cX11_court, 1, (some .int), [])
abbrev jX11_law : zJ := (yX11_law, cX11_law, 1, (some .int), [])
abbrev jX11_fault : zJ := (yX11_fault, cX11_fault, 1, (some .int), [])
abbrev jX11_witness : zJ := (yX11_witness, cX11_witness, 4, (some .int), [])
abbrev jX11_needWitness : zJ := (yX11_needWitness, cX11_needWitness, 2, (none : Option Jvm.ClassFile.FieldType), [])
abbrev jX11_shareOf : zJ := (yX11_shareOf, cX11_shareOf, 3, (some .int), [])
abbrev jX11_foundOut : zJ := (yX11_foundOut, cX11_foundOut, 4, (some .int), [])
abbrev jX11_thing : zJ := (yX11_thing, cX11_thing, 3, (some .int), [])
abbrev jX11_needThing : zJ := (yX11_needThing, cX11_needThing, 2, (none : Option Jvm.ClassFile.FieldType), [])
abbrev jX11_asks : zJ := (yX11_asks, cX11_asks, 2, (some .int), [])
abbrev jX11_needQuestion : zJ := (yX11_needQuestion, cX11_needQuestion, 2, (none : Option Jvm.ClassFile.FieldType), [])
abbrev jX11_sharp : zJ := (yX11_sharp, cX11_sharp, 2, (some .int), [])
abbrev jX11_needWoman : zJ := (yX11_needWoman, cX11_needWoman, 2, (none : Option Jvm.ClassFile.FieldType), [])
abbrev jX11_stands : zJ := (yX11_stands, cX11_stands, 2, (some .int), [])
abbrev jX11_needPlace : zJ := (yX11_needPlace, cX11_needPlace, 2, (none : Option Jvm.ClassFile.FieldType), [])
abbrev jX11_moments : zJ := (yX11_moments, cX11_moments, 2, (some .int), [])
abbrev jX11_say : zJ := (yX11_say, cX11_say, 2, (some .int), [])
abbrev jX11_change : zJ := (yX11_change, cX11_change, 3, (some .int), [])
abbrev jX11_needTwo : zJ := (yX11_needTwo, cX11_needTwo, 3, (none : Option Jvm.ClassFile.FieldType), [])
abbrev jX11_drink : zJ := (yX11_drink, cX11_drink, 3, (some .int), [])
abbrev jX11_heat : zJ := (yX11_heat, cX11_heat, 3, (some .int), [])
abbrev jX11_tell : zJ := (yX11_tell, cX11_tell, 4, (some .boolean), [])
abbrev jX11_words : zJ := (yX11_words, cX11_words, 5, (some .int), [])
abbrev jX11_powder : zJ := (yX11_powder, cX11_powder, 3, (some .int), [])
abbrev jX11_rises : zJ := (yX11_rises, cX11_rises, 3, (some .int), [])
abbrev jX11_seen : zJ := (yX11_seen, cX11_seen, 5, (some .int), [])
abbrev jX11_gives : zJ := (yX11_gives, cX11_gives, 4, (some .int), [])
abbrev jX11_writes : zJ := (yX11_writes, cX11_writes, 3, (some .int), [])
abbrev jX11_pale : zJ := (yX11_pale, cX11_pale, 2, (some .int), [])
abbrev jX11_reddest : zJ := (yX11_reddest, cX11_reddest, 4, (some .int), [])
abbrev jX11_palest : zJ := (yX11_palest, cX11_palest, 4, (some .int), [])
abbrev jX11_fits : zJ := (yX11_fits, cX11_fits, 1, (some .int), [])
abbrev jX11_fittingWorlds : zJ := (yX11_fittingWorlds, cX11_fittingWorlds, 2, (some .long), [])
abbrev jX11_sure : zJ := (yX11_sure, cX11_sure, 5, (some .int), [])
abbrev jX11_never : zJ := (yX11_never, cX11_never, 5, (some .int), [])
abbrev jX11_next : zJ := (yX11_next, cX11_next, 7, (some .int), [])
abbrev jX11_dark : zJ := (yX11_dark, cX11_dark, 1, (some .int), [])
abbrev jX11_tells : zJ := (yX11_tells, cX11_tells, 2, (some .int), [])
abbrev jX11_shared : zJ := (yX11_shared, cX11_shared, 2, (some .int), [])
abbrev jX11_touchedBy : zJ := (yX11_touchedBy, cX11_touchedBy, 4, (some .int), [])
abbrev jX11_apart : zJ := (yX11_apart, cX11_apart, 2, (some .int), [])
abbrev jX11_row : zJ := (yX11_row, cX11_row, 3, (some .int), [])
abbrev jX11_wrong : zJ := (yX11_wrong, cX11_wrong, 4, (some .int), [])
abbrev jX11_needRows : zJ := (yX11_needRows, cX11_needRows, 8, (some .int), [])
abbrev jX11_allMayBe : zJ := (yX11_allMayBe, cX11_allMayBe, 4, (some .boolean), [])
abbrev jX11_shades : zJ := (yX11_shades, cX11_shades, 3, (some .int), [])
abbrev jX11_shadesLeft : zJ := (yX11_shadesLeft, cX11_shadesLeft, 10, (some .int), [])
abbrev jX11_vinegar : zJ := (yX11_vinegar, cX11_vinegar, 5, (some .int), [])
abbrev jX11_betrays : zJ := (yX11_betrays, cX11_betrays, 4, (some .boolean), [])
abbrev jX11_heats : zJ := (yX11_heats, cX11_heats, 5, (some .int), [])
abbrev jX11_couples : zJ := (yX11_couples, cX11_couples, 2, (some .int), [])
abbrev jX11_between : zJ := (yX11_between, cX11_between, 7, (some .int), [])
abbrev jX11_alone : zJ := (yX11_alone, cX11_alone, 3, (some .int), [])
abbrev jX11_rests : zJ := (yX11_rests, cX11_rests, 11, (some .int), [])
abbrev jX11_witnessHas : zJ := (yX11_witnessHas, cX11_witnessHas, 4, (some .int), [])
abbrev jX11_courtHas : zJ := (yX11_courtHas, cX11_courtHas, 3, (some .int), [])
abbrev jX11_odds : zJ := (yX11_odds, cX11_odds, 8, (some .int), [])
abbrev jX11_waysOf : zJ := (yX11_waysOf, cX11_waysOf, 6, (some .long), [])
abbrev jX11_weightiest : zJ := (yX11_weightiest, cX11_weightiest, 3, (some .int), [])
abbrev jX11_twins : zJ := (yX11_twins, cX11_twins, 5, (some .int), [])
abbrev jX11_blind : zJ := (yX11_blind, cX11_blind, 3, (some .int), [])
abbrev jX11_so : zJ := (yX11_so, cX11_so, 1, (some .int), [])
abbrev jX11_ahead : zJ := (yX11_ahead, cX11_ahead, 4, (some .int), [])
abbrev jX11_needAhead : zJ := (yX11_needAhead, cX11_needAhead, 2, (none : Option Jvm.ClassFile.FieldType), [])
abbrev jX11_trial : zJ := (yX11_trial, cX11_trial, 3, (some .int), [])
abbrev jX11_span : zJ := (yX11_span, cX11_span, 7, (some .int), [])
abbrev jX11_led : zJ := (yX11_led, cX11_led, 7, (some .int), [])
abbrev jX11_log : zJ := (yX11_log, cX11_log, 3, (some .int), [])
abbrev jX11_seed : zJ := (yX11_seed, cX11_seed, 3, (some .int), [])
abbrev jX11_undo : zJ := (yX11_undo, cX11_undo, 1, (some .boolean), [])
abbrev jX11_image : zJ := (yX11_image, cX11_image, 1, (none : Option Jvm.ClassFile.FieldType), [])
abbrev jX11_back : zJ := (yX11_back, cX11_back, 1, (some .boolean), [])
abbrev jX11_count : zJ := (yX11_count, cX11_count, 2, (some .int), [])
abbrev jX12_thrown : zJ := (yX12_thrown, cX12_thrown, 1, (some .int), [])
abbrev jX12_throwsIf : zJ := (yX12_throwsIf, cX12_throwsIf, 3, (some .boolean), [])
abbrev jX12_in : zJ := (yX12_in, cX12_in, 3, (some .boolean), [])
abbrev jX12_has : zJ := (yX12_has, cX12_has, 2, (some .boolean), [])
abbrev jX12_image : zJ := (yX12_image, cX12_image, 2, (none : Option Jvm.ClassFile.FieldType), [])
abbrev jX12_back : zJ := (yX12_back, cX12_back, 2, (some .boolean), [])
abbrev jX12_remembers : zJ := (yX12_remembers, cX12_remembers, 2, (none : Option Jvm.ClassFile.FieldType), [])
abbrev jX12_undo : zJ := (yX12_undo, cX12_undo, 2, (some .boolean), [])
abbrev jX12_keepsAll : zJ := (yX12_keepsAll, cX12_keepsAll, 2, (none : Option Jvm.ClassFile.FieldType), [])
abbrev jX12_bringsBack : zJ := (yX12_bringsBack, cX12_bringsBack, 2, (none : Option Jvm.ClassFile.FieldType), [])
abbrev jX12_witnesses : zJ := (yX12_witnesses, cX12_witnesses, 1, (some .int), [])
abbrev jX12_things : zJ := (yX12_things, cX12_things, 1, (some .int), [])
abbrev jX12_questions : zJ := (yX12_questions, cX12_questions, 1, (some .int), [])
abbrev jX12_women : zJ := (yX12_women, cX12_women, 1, (some .int), [])
abbrev jX12_at : zJ := (yX12_at, cX12_at, 2, (some .int), [])
abbrev jX12_of : zJ := (yX12_of, cX12_of, 3, (some .int), [])
abbrev jX12_thingAt : zJ := (yX12_thingAt, cX12_thingAt, 2, (some .int), [])
abbrev jX12_ofThing : zJ := (yX12_ofThing, cX12_ofThing, 3, (some .int), [])
abbrev jX12_allThings : zJ := (yX12_allThings, cX12_allThings, 1, (some .int), [])
abbrev jX12_whatIsSo : zJ := (yX12_whatIsSo, cX12_whatIsSo, 3, (some .int), [])
abbrev jX12_noWitness : zJ := (yX12_noWitness, cX12_noWitness, 2, (some .boolean), [])
abbrev jX12_noThing : zJ := (yX12_noThing, cX12_noThing, 2, (some .boolean), [])
abbrev jX12_noQuestion : zJ := (yX12_noQuestion, cX12_noQuestion, 2, (some .boolean), [])
abbrev jX12_noWoman : zJ := (yX12_noWoman, cX12_noWoman, 2, (some .boolean), [])
abbrev jX12_drawn : zJ := (yX12_drawn, cX12_drawn, 2, (some .int), [])
abbrev jX12_feed : zJ := (yX12_feed, cX12_feed, 7, (some .int), [])
abbrev jX12_end : zJ := (yX12_end, cX12_end, 2, (some .boolean), [])
abbrev jX12_isAt : zJ := (yX12_isAt, cX12_isAt, 3, (some .boolean), [])
abbrev jX12_blanks : zJ := (yX12_blanks, cX12_blanks, 1, (none : Option Jvm.ClassFile.FieldType), [])
abbrev jX12_letters : zJ := (yX12_letters, cX12_letters, 1, (none : Option Jvm.ClassFile.FieldType), [])
abbrev jX12_isWord : zJ := (yX12_isWord, cX12_isWord, 4, (some .boolean), [])
abbrev jX12_passes : zJ := (yX12_passes, cX12_passes, 2, (some .boolean), [])
abbrev jX12_sign : zJ := (yX12_sign, cX12_sign, 2, (some .boolean), [])
abbrev jX12_number : zJ := (yX12_number, cX12_number, 4, (some .int), [])
abbrev jX12_behind : zJ := (yX12_behind, cX12_behind, 4, (some .int), [])
abbrev jX12_told : zJ := (yX12_told, cX12_told, 2, (some .int), [])
abbrev jX12_fault : zJ := (yX12_fault, cX12_fault, 1, (some .int), [])
abbrev jX12_uses : zJ := (yX12_uses, cX12_uses, 1, (none : Option Jvm.ClassFile.FieldType), [])
abbrev jX12_readNumber : zJ := (yX12_readNumber, cX12_readNumber, 5, (some .boolean), [])
abbrev jX12_lettersTold : zJ := (yX12_lettersTold, cX12_lettersTold, 6, (some .int), [])
abbrev jX12_readWitness : zJ := (yX12_readWitness, cX12_readWitness, 6, (some .boolean), [])
abbrev jX12_readThing : zJ := (yX12_readThing, cX12_readThing, 5, (some .boolean), [])
abbrev jX12_readAsk : zJ := (yX12_readAsk, cX12_readAsk, 2, (some .boolean), [])
abbrev jX12_readWoman : zJ := (yX12_readWoman, cX12_readWoman, 2, (some .boolean), [])
abbrev jX12_readCourtLine : zJ := (yX12_readCourtLine, cX12_readCourtLine, 1, (some .boolean), [])
abbrev jX12_emits : zJ := (yX12_emits, cX12_emits, 3, (none : Option Jvm.ClassFile.FieldType), [])
abbrev jX12_wordOfPart : zJ := (yX12_wordOfPart, cX12_wordOfPart, 1, (some .int), [])
abbrev jX12_readPart : zJ := (yX12_readPart, cX12_readPart, 3, (some .boolean), [])
abbrev jX12_readSum : zJ := (yX12_readSum, cX12_readSum, 1, (some .boolean), [])
abbrev jX12_readTag : zJ := (yX12_readTag, cX12_readTag, 2, (some .boolean), [])
abbrev jX12_readAtom : zJ := (yX12_readAtom, cX12_readAtom, 2, (some .boolean), [])
abbrev jX12_readCond : zJ := (yX12_readCond, cX12_readCond, 1, (some .boolean), [])
abbrev jX12_readAllOf : zJ := (yX12_readAllOf, cX12_readAllOf, 1, (some .boolean), [])
abbrev jX12_readLawLine : zJ := (yX12_readLawLine, cX12_readLawLine, 3, (some .boolean), [])
abbrev jX12_readLine : zJ := (yX12_readLine, cX12_readLine, 3, (some .boolean), [])
abbrev jX12_readAll : zJ := (yX12_readAll, cX12_readAll, 3, (some .int), [])
abbrev jX12_court : zJ := (yX12_court, cX12_court, 3, (some .int), [])
abbrev jX12_law : zJ := (yX12_law, cX12_law, 3, (some .int), [])
abbrev jX12_weightOn : zJ := (yX12_weightOn, cX12_weightOn, 5, (some .int), [])
abbrev jX12_isEdge : zJ := (yX12_isEdge, cX12_isEdge, 2, (some .boolean), [])
abbrev jX12_factOf : zJ := (yX12_factOf, cX12_factOf, 5, (some .int), [])
abbrev jX12_holdsLine : zJ := (yX12_holdsLine, cX12_holdsLine, 11, (some .boolean), [])
abbrev jX12_sumOf : zJ := (yX12_sumOf, cX12_sumOf, 6, (some .int), [])
abbrev jX12_ownOf : zJ := (yX12_ownOf, cX12_ownOf, 4, (some .int), [])
abbrev jX12_fallsBy : zJ := (yX12_fallsBy, cX12_fallsBy, 2, (some .int), [])
abbrev jX12_passesOn : zJ := (yX12_passesOn, cX12_passesOn, 3, (some .int), [])
abbrev jX12_lays : zJ := (yX12_lays, cX12_lays, 6, (none : Option Jvm.ClassFile.FieldType), [])
abbrev jX12_saidBy : zJ := (yX12_saidBy, cX12_saidBy, 2, (some .int), [])
abbrev jX12_risesBy : zJ := (yX12_risesBy, cX12_risesBy, 3, (some .int), [])
abbrev jX12_isTold : zJ := (yX12_isTold, cX12_isTold, 6, (none : Option Jvm.ClassFile.FieldType), [])
abbrev jX12_isSaid : zJ := (yX12_isSaid, cX12_isSaid, 5, (some .int), [])
abbrev jX12_allFall : zJ := (yX12_allFall, cX12_allFall, 2, (none : Option Jvm.ClassFile.FieldType), [])
abbrev jX12_blushes : zJ := (yX12_blushes, cX12_blushes, 2, (none : Option Jvm.ClassFile.FieldType), [])
abbrev jX12_oneMoment : zJ := (yX12_oneMoment, cX12_oneMoment, 4, (some .int), [])
abbrev jX12_goesOn : zJ := (yX12_goesOn, cX12_goesOn, 5, (some .int), [])
abbrev jX12_moments : zJ := (yX12_moments, cX12_moments, 2, (some .int), [])
abbrev jX12_shadesOfAll : zJ := (yX12_shadesOfAll, cX12_shadesOfAll, 3, (some .int), [])
abbrev jX12_touchedOf : zJ := (yX12_touchedOf, cX12_touchedOf, 4, (some .int), [])
abbrev jX12_readBy : zJ := (yX12_readBy, cX12_readBy, 3, (some .int), [])
abbrev jX12_wouldSee : zJ := (yX12_wouldSee, cX12_wouldSee, 4, (some .boolean), [])
abbrev jX12_someSees : zJ := (yX12_someSees, cX12_someSees, 5, (some .boolean), [])
abbrev jX12_foundOut : zJ := (yX12_foundOut, cX12_foundOut, 4, (some .int), [])
abbrev jX12_witness : zJ := (yX12_witness, cX12_witness, 3, (some .int), [])
abbrev jX12_saying : zJ := (yX12_saying, cX12_saying, 4, (some .int), [])
abbrev jX12_thing : zJ := (yX12_thing, cX12_thing, 3, (some .int), [])
abbrev jX12_knownBy : zJ := (yX12_knownBy, cX12_knownBy, 4, (some .int), [])
abbrev jX12_asks : zJ := (yX12_asks, cX12_asks, 2, (some .int), [])
abbrev jX12_sharp : zJ := (yX12_sharp, cX12_sharp, 2, (some .int), [])
abbrev jX12_stands : zJ := (yX12_stands, cX12_stands, 2, (some .int), [])
abbrev jX12_say : zJ := (yX12_say, cX12_say, 2, (some .int), [])
abbrev jX12_noTwo : zJ := (yX12_noTwo, cX12_noTwo, 3, (some .boolean), [])
abbrev jX12_change : zJ := (yX12_change, cX12_change, 4, (some .int), [])
abbrev jX12_isNow : zJ := (yX12_isNow, cX12_isNow, 4, (some .int), [])
abbrev jX12_drink : zJ := (yX12_drink, cX12_drink, 3, (some .int), [])
abbrev jX12_heat : zJ := (yX12_heat, cX12_heat, 2, (some .int), [])
abbrev jX12_tell : zJ := (yX12_tell, cX12_tell, 3, (some .boolean), [])
abbrev jX12_words : zJ := (yX12_words, cX12_words, 3, (some .int), [])
abbrev jX12_powder : zJ := (yX12_powder, cX12_powder, 2, (some .int), [])
abbrev jX12_rises : zJ := (yX12_rises, cX12_rises, 3, (some .int), [])
abbrev jX12_seenBy : zJ := (yX12_seenBy, cX12_seenBy, 5, (some .int), [])
abbrev jX12_seen : zJ := (yX12_seen, cX12_seen, 3, (some .int), [])
abbrev jX12_givenAway : zJ := (yX12_givenAway, cX12_givenAway, 4, (some .int), [])
abbrev jX12_gives : zJ := (yX12_gives, cX12_gives, 2, (some .int), [])
abbrev jX12_writes : zJ := (yX12_writes, cX12_writes, 3, (some .int), [])
abbrev jX12_pale : zJ := (yX12_pale, cX12_pale, 3, (some .int), [])
abbrev jX12_reddest : zJ := (yX12_reddest, cX12_reddest, 3, (some .int), [])
abbrev jX12_palest : zJ := (yX12_palest, cX12_palest, 3, (some .int), [])
abbrev jX12_risenAt : zJ := (yX12_risenAt, cX12_risenAt, 3, (some .int), [])
abbrev jX12_laysWorlds : zJ := (yX12_laysWorlds, cX12_laysWorlds, 4, (none : Option Jvm.ClassFile.FieldType), [])
abbrev jX12_alikeBy : zJ := (yX12_alikeBy, cX12_alikeBy, 6, (some .boolean), [])
abbrev jX12_isRows : zJ := (yX12_isRows, cX12_isRows, 3, (some .boolean), [])
abbrev jX12_fitsRows : zJ := (yX12_fitsRows, cX12_fitsRows, 4, (some .boolean), [])
abbrev jX12_fits : zJ := (yX12_fits, cX12_fits, 3, (some .int), [])
abbrev jX12_sure : zJ := (yX12_sure, cX12_sure, 4, (some .int), [])
abbrev jX12_never : zJ := (yX12_never, cX12_never, 3, (some .int), [])
abbrev jX12_partBy : zJ := (yX12_partBy, cX12_partBy, 6, (some .int), [])
abbrev jX12_next : zJ := (yX12_next, cX12_next, 6, (some .int), [])
abbrev jX12_partedBy : zJ := (yX12_partedBy, cX12_partedBy, 5, (some .int), [])
abbrev jX12_laysMusts : zJ := (yX12_laysMusts, cX12_laysMusts, 4, (none : Option Jvm.ClassFile.FieldType), [])
abbrev jX12_tellsAll : zJ := (yX12_tellsAll, cX12_tellsAll, 4, (some .boolean), [])
abbrev jX12_dark : zJ := (yX12_dark, cX12_dark, 3, (some .int), [])
abbrev jX12_tells : zJ := (yX12_tells, cX12_tells, 6, (some .int), [])
abbrev jX12_isTouched : zJ := (yX12_isTouched, cX12_isTouched, 3, (some .boolean), [])
abbrev jX12_sharedIn : zJ := (yX12_sharedIn, cX12_sharedIn, 4, (some .int), [])
abbrev jX12_laysRow : zJ := (yX12_laysRow, cX12_laysRow, 2, (none : Option Jvm.ClassFile.FieldType), [])
abbrev jX12_shared : zJ := (yX12_shared, cX12_shared, 2, (some .int), [])
abbrev jX12_laysOrder : zJ := (yX12_laysOrder, cX12_laysOrder, 5, (some .boolean), [])
abbrev jX12_changes : zJ := (yX12_changes, cX12_changes, 4, (some .int), [])
abbrev jX12_bestRow : zJ := (yX12_bestRow, cX12_bestRow, 9, (some .int), [])
abbrev jX12_apart : zJ := (yX12_apart, cX12_apart, 2, (some .int), [])
abbrev jX12_row : zJ := (yX12_row, cX12_row, 3, (some .int), [])
abbrev jX12_isWritten : zJ := (yX12_isWritten, cX12_isWritten, 3, (some .boolean), [])
abbrev jX12_asWritten : zJ := (yX12_asWritten, cX12_asWritten, 6, (some .boolean), [])
abbrev jX12_shadesLeft : zJ := (yX12_shadesLeft, cX12_shadesLeft, 5, (some .int), [])
abbrev jX12_wrong : zJ := (yX12_wrong, cX12_wrong, 5, (some .int), [])
abbrev jX12_shades : zJ := (yX12_shades, cX12_shades, 2, (some .int), [])
abbrev jX12_vinegar : zJ := (yX12_vinegar, cX12_vinegar, 6, (some .int), [])
abbrev jX12_betrays : zJ := (yX12_betrays, cX12_betrays, 5, (some .boolean), [])
abbrev jX12_heats : zJ := (yX12_heats, cX12_heats, 7, (some .int), [])
abbrev jX12_unlike : zJ := (yX12_unlike, cX12_unlike, 5, (some .int), [])
abbrev jX12_firstOf : zJ := (yX12_firstOf, cX12_firstOf, 1, (some .int), [])
abbrev jX12_unlikelyBy : zJ := (yX12_unlikelyBy, cX12_unlikelyBy, 5, (some .int), [])
abbrev jX12_laysUnlikely : zJ := (yX12_laysUnlikely, cX12_laysUnlikely, 4, (none : Option Jvm.ClassFile.FieldType), [])
abbrev jX12_couples : zJ := (yX12_couples, cX12_couples, 7, (some .int), [])
abbrev jX12_between : zJ := (yX12_between, cX12_between, 7, (some .int), [])
abbrev jX12_alone : zJ := (yX12_alone, cX12_alone, 3, (some .int), [])
abbrev jX12_witnessHas : zJ := (yX12_witnessHas, cX12_witnessHas, 5, (some .int), [])
abbrev jX12_courtHas : zJ := (yX12_courtHas, cX12_courtHas, 4, (some .int), [])
abbrev jX12_rests : zJ := (yX12_rests, cX12_rests, 8, (some .int), [])
abbrev jX12_odds : zJ := (yX12_odds, cX12_odds, 8, (some .int), [])
abbrev jX12_weightiest : zJ := (yX12_weightiest, cX12_weightiest, 3, (some .int), [])
abbrev jX12_twins : zJ := (yX12_twins, cX12_twins, 4, (some .int), [])
abbrev jX12_blind : zJ := (yX12_blind, cX12_blind, 5, (some .int), [])
abbrev jX12_so : zJ := (yX12_so, cX12_so, 1, (some .int), [])
abbrev jX12_noAhead : zJ := (yX12_noAhead, cX12_noAhead, 1, (some .boolean), [])
abbrev jX12_ahead : zJ := (yX12_ahead, cX12_ahead, 4, (some .int), [])
abbrev jX12_redOnes : zJ := (yX12_redOnes, cX12_redOnes, 3, (some .int), [])
abbrev jX12_trial : zJ := (yX12_trial, cX12_trial, 4, (some .int), [])
abbrev jX12_span : zJ := (yX12_span, cX12_span, 6, (some .int), [])
abbrev jX12_ofLog : zJ := (yX12_ofLog, cX12_ofLog, 3, (some .int), [])
abbrev jX12_led : zJ := (yX12_led, cX12_led, 6, (some .int), [])
abbrev jX12_log : zJ := (yX12_log, cX12_log, 3, (some .int), [])
abbrev jX12_seed : zJ := (yX12_seed, cX12_seed, 3, (some .int), [])
abbrev jX12_count : zJ := (yX12_count, cX12_count, 2, (some .int), [])
abbrev jJ0_coder_7d493 : zJ := (yJ0_coder_7d493, cJ0_coder_7d493, 1, (some .byte), [])
abbrev jJ0_isLatin1_aae02 : zJ := (yJ0_isLatin1_aae02, cJ0_isLatin1_aae02, 1, (some .boolean), [])
abbrev jJ1_charAt_3b067 : zJ := (yJ1_charAt_3b067, cJ1_charAt_3b067, 2, (some .char), [])
abbrev jJ0_checkIndex_df160 : zJ := (yJ0_checkIndex_df160, cJ0_checkIndex_df160, 2, (none : Option Jvm.ClassFile.FieldType), [])
abbrev jJ3_checkIndex_8e157 : zJ := (yJ3_checkIndex_8e157, cJ3_checkIndex_8e157, 3, (some .int), [])
theorem zu_X8 : ∀ w ∈ u_ws RX8 TX8 7, w ∈ zT := List.forall_mem_cons.mpr ⟨zw_146, List.forall_mem_cons.mpr ⟨zw_148, List.forall_mem_cons.mpr ⟨zw_150, List.forall_mem_cons.mpr ⟨zw_152, List.forall_mem_cons.mpr ⟨zw_154, List.forall_mem_cons.mpr ⟨zw_156, List.forall_mem_cons.mpr ⟨zw_158, fun _ h => nomatch h⟩⟩⟩⟩⟩⟩⟩
theorem zu_X7 : ∀ w ∈ u_ws RX7 TX7 3, w ∈ zT := List.forall_mem_cons.mpr ⟨zw_171, List.forall_mem_cons.mpr ⟨zw_173, List.forall_mem_cons.mpr ⟨zw_175, fun _ h => nomatch h⟩⟩⟩
theorem zu_X9 : ∀ w ∈ u_ws RX9 TX9 5, w ∈ zT := List.forall_mem_cons.mpr ⟨zw_51, List.forall_mem_cons.mpr ⟨zw_53, List.forall_mem_cons.mpr ⟨zw_55, List.forall_mem_cons.mpr ⟨zw_57, List.forall_mem_cons.mpr ⟨zw_59, fun _ h => nomatch h⟩⟩⟩⟩⟩
theorem zu_X3 : ∀ w ∈ u_ws RX3 TX3 16, w ∈ zT := List.forall_mem_cons.mpr ⟨zw_241, List.forall_mem_cons.mpr ⟨zw_243, List.forall_mem_cons.mpr ⟨zw_245, List.forall_mem_cons.mpr ⟨zw_247, List.forall_mem_cons.mpr ⟨zw_249, List.forall_mem_cons.mpr ⟨zw_251, List.forall_mem_cons.mpr ⟨zw_253, List.forall_mem_cons.mpr ⟨zw_255, List.forall_mem_cons.mpr ⟨zw_257, List.forall_mem_cons.mpr ⟨zw_259, List.forall_mem_cons.mpr ⟨zw_261, List.forall_mem_cons.mpr ⟨zw_263, List.forall_mem_cons.mpr ⟨zw_265, List.forall_mem_cons.mpr ⟨zw_267, List.forall_mem_cons.mpr ⟨zw_269, List.forall_mem_cons.mpr ⟨zw_271, fun _ h => nomatch h⟩⟩⟩⟩⟩⟩⟩⟩⟩⟩⟩⟩⟩⟩⟩⟩
theorem zu_X5 : ∀ w ∈ u_ws RX5 TX5 3, w ∈ zT := List.forall_mem_cons.mpr ⟨zw_287, List.forall_mem_cons.mpr ⟨zw_289, List.forall_mem_cons.mpr ⟨zw_291, fun _ h => nomatch h⟩⟩⟩
theorem zu_X6 : ∀ w ∈ u_ws RX6 TX6 8, w ∈ zT := List.forall_mem_cons.mpr ⟨zw_79, List.forall_mem_cons.mpr ⟨zw_81, List.forall_mem_cons.mpr ⟨zw_83, List.forall_mem_cons.mpr ⟨zw_85, List.forall_mem_cons.mpr ⟨zw_87, List.forall_mem_cons.mpr ⟨zw_89, List.forall_mem_cons.mpr ⟨zw_91, List.forall_mem_cons.mpr ⟨zw_93, fun _ h => nomatch h⟩⟩⟩⟩⟩⟩⟩⟩
theorem zu_X1 : ∀ w ∈ u_ws RX1 TX1 5, w ∈ zT := List.forall_mem_cons.mpr ⟨zw_312, List.forall_mem_cons.mpr ⟨zw_314, List.forall_mem_cons.mpr ⟨zw_316, List.forall_mem_cons.mpr ⟨zw_318, List.forall_mem_cons.mpr ⟨zw_320, fun _ h => nomatch h⟩⟩⟩⟩⟩
theorem zu_X10 : ∀ w ∈ u_ws RX10 TX10 4, w ∈ zT := List.forall_mem_cons.mpr ⟨zw_333, List.forall_mem_cons.mpr ⟨zw_335, List.forall_mem_cons.mpr ⟨zw_337, List.forall_mem_cons.mpr ⟨zw_339, fun _ h => nomatch h⟩⟩⟩⟩
theorem zu_X0 : ∀ w ∈ u_ws RX0 TX0 4, w ∈ zT := List.forall_mem_cons.mpr ⟨zw_354, List.forall_mem_cons.mpr ⟨zw_356, List.forall_mem_cons.mpr ⟨zw_358, List.forall_mem_cons.mpr ⟨zw_360, fun _ h => nomatch h⟩⟩⟩⟩
theorem zu_X2 : ∀ w ∈ u_ws RX2 TX2 3, w ∈ zT := List.forall_mem_cons.mpr ⟨zw_374, List.forall_mem_cons.mpr ⟨zw_376, List.forall_mem_cons.mpr ⟨zw_378, fun _ h => nomatch h⟩⟩⟩
theorem zu_X11 : ∀ w ∈ u_ws RX11 TX11 13, w ∈ zT := List.forall_mem_cons.mpr ⟨zw_394, List.forall_mem_cons.mpr ⟨zw_396, List.forall_mem_cons.mpr ⟨zw_398, List.forall_mem_cons.mpr ⟨zw_400, List.forall_mem_cons.mpr ⟨zw_402, List.forall_mem_cons.mpr ⟨zw_404, List.forall_mem_cons.mpr ⟨zw_406, List.forall_mem_cons.mpr ⟨zw_408, List.forall_mem_cons.mpr ⟨zw_410, List.forall_mem_cons.mpr ⟨zw_412, List.forall_mem_cons.mpr ⟨zw_414, List.forall_mem_cons.mpr ⟨zw_416, List.forall_mem_cons.mpr ⟨zw_418, fun _ h => nomatch h⟩⟩⟩⟩⟩⟩⟩⟩⟩⟩⟩⟩⟩
theorem zu_X12 : ∀ w ∈ u_ws RX12 TX12 27, w ∈ zT := List.forall_mem_cons.mpr ⟨zw_1492, List.forall_mem_cons.mpr ⟨zw_1494, List.forall_mem_cons.mpr ⟨zw_1496, List.forall_mem_cons.mpr ⟨zw_1498, List.forall_mem_cons.mpr ⟨zw_1500, List.forall_mem_cons.mpr ⟨zw_1502, List.forall_mem_cons.mpr ⟨zw_1504, List.forall_mem_cons.mpr ⟨zw_1506, List.forall_mem_cons.mpr ⟨zw_1508, List.forall_mem_cons.mpr ⟨zw_1510, List.forall_mem_cons.mpr ⟨zw_1512, List.forall_mem_cons.mpr ⟨zw_1514, List.forall_mem_cons.mpr ⟨zw_1516, List.forall_mem_cons.mpr ⟨zw_1518, List.forall_mem_cons.mpr ⟨zw_1520, List.forall_mem_cons.mpr ⟨zw_1522, List.forall_mem_cons.mpr ⟨zw_1524, List.forall_mem_cons.mpr ⟨zw_1526, List.forall_mem_cons.mpr ⟨zw_1528, List.forall_mem_cons.mpr ⟨zw_1530, List.forall_mem_cons.mpr ⟨zw_1532, List.forall_mem_cons.mpr ⟨zw_1534, List.forall_mem_cons.mpr ⟨zw_1536, List.forall_mem_cons.mpr ⟨zw_1538, List.forall_mem_cons.mpr ⟨zw_1540, List.forall_mem_cons.mpr ⟨zw_1542, List.forall_mem_cons.mpr ⟨zw_1544, fun _ h => nomatch h⟩⟩⟩⟩⟩⟩⟩⟩⟩⟩⟩⟩⟩⟩⟩⟩⟩⟩⟩⟩⟩⟩⟩⟩⟩⟩⟩
theorem zsC_0 {c : Nat} (h : zIsC c) : zShape[c]? = some (.inl (3, [some (c + 1), some (c + 8), some (c + 10), some (c + 11), some (c + 12), some (c + 13), none, none, none, none, none, none, none, none, none, none])) := by
  obtain ⟨i, hi, rfl⟩ := h
  match i, hi with
  | 0, _ => rfl
  | 1, _ => rfl
  | 2, _ => rfl
  | 3, _ => rfl
  | 4, _ => rfl
  | 5, _ => rfl
  | 6, _ => rfl
  | 7, _ => rfl
  | 8, _ => rfl
  | 9, _ => rfl
  | 10, _ => rfl
  | 11, _ => rfl
  | 12, _ => rfl
  | 13, _ => rfl
  | 14, _ => rfl
  | n + 15, hi => omega
theorem zsC_1 {c : Nat} (h : zIsC c) : zShape[c + 1]? = some (.inl (7, [some (c + 2), some (c + 3), some (c + 4), some (c + 5), some (c + 6), some (c + 7), none])) := by
  obtain ⟨i, hi, rfl⟩ := h
  match i, hi with
  | 0, _ => rfl
  | 1, _ => rfl
  | 2, _ => rfl
  | 3, _ => rfl
  | 4, _ => rfl
  | 5, _ => rfl
  | 6, _ => rfl
  | 7, _ => rfl
  | 8, _ => rfl
  | 9, _ => rfl
  | 10, _ => rfl
  | 11, _ => rfl
  | 12, _ => rfl
  | 13, _ => rfl
  | 14, _ => rfl
  | n + 15, hi => omega
theorem zsC_2 {c : Nat} (h : zIsC c) : zShape[c + 2]? = some (.inr (0, 5)) := by
  obtain ⟨i, hi, rfl⟩ := h
  match i, hi with
  | 0, _ => rfl
  | 1, _ => rfl
  | 2, _ => rfl
  | 3, _ => rfl
  | 4, _ => rfl
  | 5, _ => rfl
  | 6, _ => rfl
  | 7, _ => rfl
  | 8, _ => rfl
  | 9, _ => rfl
  | 10, _ => rfl
  | 11, _ => rfl
  | 12, _ => rfl
  | 13, _ => rfl
  | 14, _ => rfl
  | n + 15, hi => omega
theorem zsC_3 {c : Nat} (h : zIsC c) : zShape[c + 3]? = some (.inr (0, 5)) := by
  obtain ⟨i, hi, rfl⟩ := h
  match i, hi with
  | 0, _ => rfl
  | 1, _ => rfl
  | 2, _ => rfl
  | 3, _ => rfl
  | 4, _ => rfl
  | 5, _ => rfl
  | 6, _ => rfl
  | 7, _ => rfl
  | 8, _ => rfl
  | 9, _ => rfl
  | 10, _ => rfl
  | 11, _ => rfl
  | 12, _ => rfl
  | 13, _ => rfl
  | 14, _ => rfl
  | n + 15, hi => omega
theorem zsC_4 {c : Nat} (h : zIsC c) : zShape[c + 4]? = some (.inr (0, 5)) := by
  obtain ⟨i, hi, rfl⟩ := h
  match i, hi with
  | 0, _ => rfl
  | 1, _ => rfl
  | 2, _ => rfl
  | 3, _ => rfl
  | 4, _ => rfl
  | 5, _ => rfl
  | 6, _ => rfl
  | 7, _ => rfl
  | 8, _ => rfl
  | 9, _ => rfl
  | 10, _ => rfl
  | 11, _ => rfl
  | 12, _ => rfl
  | 13, _ => rfl
  | 14, _ => rfl
  | n + 15, hi => omega
theorem zsC_5 {c : Nat} (h : zIsC c) : zShape[c + 5]? = some (.inr (0, 5)) := by
  obtain ⟨i, hi, rfl⟩ := h
  match i, hi with
  | 0, _ => rfl
  | 1, _ => rfl
  | 2, _ => rfl
  | 3, _ => rfl
  | 4, _ => rfl
  | 5, _ => rfl
  | 6, _ => rfl
  | 7, _ => rfl
  | 8, _ => rfl
  | 9, _ => rfl
  | 10, _ => rfl
  | 11, _ => rfl
  | 12, _ => rfl
  | 13, _ => rfl
  | 14, _ => rfl
  | n + 15, hi => omega
theorem zsC_6 {c : Nat} (h : zIsC c) : zShape[c + 6]? = some (.inr (0, 5)) := by
  obtain ⟨i, hi, rfl⟩ := h
  match i, hi with
  | 0, _ => rfl
  | 1, _ => rfl
  | 2, _ => rfl
  | 3, _ => rfl
  | 4, _ => rfl
  | 5, _ => rfl
  | 6, _ => rfl
  | 7, _ => rfl
  | 8, _ => rfl
  | 9, _ => rfl
  | 10, _ => rfl
  | 11, _ => rfl
  | 12, _ => rfl
  | 13, _ => rfl
  | 14, _ => rfl
  | n + 15, hi => omega
theorem zsC_7 {c : Nat} (h : zIsC c) : zShape[c + 7]? = some (.inr (0, 5)) := by
  obtain ⟨i, hi, rfl⟩ := h
  match i, hi with
  | 0, _ => rfl
  | 1, _ => rfl
  | 2, _ => rfl
  | 3, _ => rfl
  | 4, _ => rfl
  | 5, _ => rfl
  | 6, _ => rfl
  | 7, _ => rfl
  | 8, _ => rfl
  | 9, _ => rfl
  | 10, _ => rfl
  | 11, _ => rfl
  | 12, _ => rfl
  | 13, _ => rfl
  | 14, _ => rfl
  | n + 15, hi => omega
theorem zsC_8 {c : Nat} (h : zIsC c) : zShape[c + 8]? = some (.inl (6, [some (c + 9), none, none])) := by
  obtain ⟨i, hi, rfl⟩ := h
  match i, hi with
  | 0, _ => rfl
  | 1, _ => rfl
  | 2, _ => rfl
  | 3, _ => rfl
  | 4, _ => rfl
  | 5, _ => rfl
  | 6, _ => rfl
  | 7, _ => rfl
  | 8, _ => rfl
  | 9, _ => rfl
  | 10, _ => rfl
  | 11, _ => rfl
  | 12, _ => rfl
  | 13, _ => rfl
  | 14, _ => rfl
  | n + 15, hi => omega
theorem zsC_9 {c : Nat} (h : zIsC c) : zShape[c + 9]? = some (.inr (3, 60)) := by
  obtain ⟨i, hi, rfl⟩ := h
  match i, hi with
  | 0, _ => rfl
  | 1, _ => rfl
  | 2, _ => rfl
  | 3, _ => rfl
  | 4, _ => rfl
  | 5, _ => rfl
  | 6, _ => rfl
  | 7, _ => rfl
  | 8, _ => rfl
  | 9, _ => rfl
  | 10, _ => rfl
  | 11, _ => rfl
  | 12, _ => rfl
  | 13, _ => rfl
  | 14, _ => rfl
  | n + 15, hi => omega
theorem zsC_10 {c : Nat} (h : zIsC c) : zShape[c + 10]? = some (.inr (0, 6)) := by
  obtain ⟨i, hi, rfl⟩ := h
  match i, hi with
  | 0, _ => rfl
  | 1, _ => rfl
  | 2, _ => rfl
  | 3, _ => rfl
  | 4, _ => rfl
  | 5, _ => rfl
  | 6, _ => rfl
  | 7, _ => rfl
  | 8, _ => rfl
  | 9, _ => rfl
  | 10, _ => rfl
  | 11, _ => rfl
  | 12, _ => rfl
  | 13, _ => rfl
  | 14, _ => rfl
  | n + 15, hi => omega
theorem zsC_11 {c : Nat} (h : zIsC c) : zShape[c + 11]? = some (.inr (0, 6)) := by
  obtain ⟨i, hi, rfl⟩ := h
  match i, hi with
  | 0, _ => rfl
  | 1, _ => rfl
  | 2, _ => rfl
  | 3, _ => rfl
  | 4, _ => rfl
  | 5, _ => rfl
  | 6, _ => rfl
  | 7, _ => rfl
  | 8, _ => rfl
  | 9, _ => rfl
  | 10, _ => rfl
  | 11, _ => rfl
  | 12, _ => rfl
  | 13, _ => rfl
  | 14, _ => rfl
  | n + 15, hi => omega
theorem zsC_12 {c : Nat} (h : zIsC c) : zShape[c + 12]? = some (.inr (0, 8)) := by
  obtain ⟨i, hi, rfl⟩ := h
  match i, hi with
  | 0, _ => rfl
  | 1, _ => rfl
  | 2, _ => rfl
  | 3, _ => rfl
  | 4, _ => rfl
  | 5, _ => rfl
  | 6, _ => rfl
  | 7, _ => rfl
  | 8, _ => rfl
  | 9, _ => rfl
  | 10, _ => rfl
  | 11, _ => rfl
  | 12, _ => rfl
  | 13, _ => rfl
  | 14, _ => rfl
  | n + 15, hi => omega
theorem zsC_13 {c : Nat} (h : zIsC c) : zShape[c + 13]? = some (.inr (0, 4)) := by
  obtain ⟨i, hi, rfl⟩ := h
  match i, hi with
  | 0, _ => rfl
  | 1, _ => rfl
  | 2, _ => rfl
  | 3, _ => rfl
  | 4, _ => rfl
  | 5, _ => rfl
  | 6, _ => rfl
  | 7, _ => rfl
  | 8, _ => rfl
  | 9, _ => rfl
  | 10, _ => rfl
  | 11, _ => rfl
  | 12, _ => rfl
  | 13, _ => rfl
  | 14, _ => rfl
  | n + 15, hi => omega
theorem zsL_0 {b : Nat} (h : zIsL b) : zShape[b]? = some (.inl (5, [some (b + 1), some (b + 2), some (b + 3), some (b + 4), some (b + 5), some (b + 6), none, none])) := by
  rcases h with rfl | rfl | rfl <;> rfl
theorem zsL_1 {b : Nat} (h : zIsL b) : zShape[b + 1]? = some (.inr (0, 12)) := by
  rcases h with rfl | rfl | rfl <;> rfl
theorem zsL_2 {b : Nat} (h : zIsL b) : zShape[b + 2]? = some (.inr (0, 12)) := by
  rcases h with rfl | rfl | rfl <;> rfl
theorem zsL_3 {b : Nat} (h : zIsL b) : zShape[b + 3]? = some (.inr (0, 12)) := by
  rcases h with rfl | rfl | rfl <;> rfl
theorem zsL_4 {b : Nat} (h : zIsL b) : zShape[b + 4]? = some (.inr (0, 400)) := by
  rcases h with rfl | rfl | rfl <;> rfl
theorem zsL_5 {b : Nat} (h : zIsL b) : zShape[b + 5]? = some (.inr (0, 11)) := by
  rcases h with rfl | rfl | rfl <;> rfl
theorem zsL_6 {b : Nat} (h : zIsL b) : zShape[b + 6]? = some (.inr (0, 30)) := by
  rcases h with rfl | rfl | rfl <;> rfl
theorem zg_X8_9 : zGet RX8 9 7 0 := ⟨RX8, TX8, 7, rfl, by decide, zu_X8, Or.inl zw_108⟩
theorem zc_X8_34 : zCop RX8 34 := ⟨zw_449, zw_451, zw_450, zw_13⟩
theorem zg_X8_15 : zGet RX8 15 7 1 := ⟨RX8, TX8, 7, rfl, by decide, zu_X8, Or.inl zw_113⟩
theorem zg_X8_18 : zGet RX8 18 7 2 := ⟨RX8, TX8, 7, rfl, by decide, zu_X8, Or.inl zw_118⟩
theorem zg_X8_21 : zGet RX8 21 7 3 := ⟨RX8, TX8, 7, rfl, by decide, zu_X8, Or.inl zw_123⟩
theorem zg_X8_24 : zGet RX8 24 7 4 := ⟨RX8, TX8, 7, rfl, by decide, zu_X8, Or.inl zw_129⟩
theorem zg_X8_27 : zGet RX8 27 7 5 := ⟨RX8, TX8, 7, rfl, by decide, zu_X8, Or.inl zw_134⟩
theorem zg_X8_30 : zGet RX8 30 7 6 := ⟨RX8, TX8, 7, rfl, by decide, zu_X8, Or.inl zw_138⟩
theorem zp_X8_30 : zPut RX8 30 7 6 .int := ⟨RX8, TX8, 7, tyX8, rfl, by decide, zu_X8, Or.inl zw_138, tyX8_ok, nmX8, rfl, by decide +kernel⟩
theorem zs_62 : zShape[62]? = some (.inl (7, [some 63, some 64, some 65, some 66, some 67, some 68, none])) := rfl
theorem zs_67 : zShape[67]? = some (.inr (0, 5)) := rfl
theorem zs_68 : zShape[68]? = some (.inr (0, 5)) := rfl
theorem zm_X8_40 : zMath RX8 40 Lib.Math.min.name Lib.Math.min.code := ⟨zw_1081, zw_527, zw_25, zw_528⟩
theorem zg_X7_9 : zGet RX7 9 6 0 := ⟨RX7, TX7, 3, rfl, by decide, zu_X7, Or.inl zw_167⟩
theorem zc_X7_22 : zCop RX7 22 := ⟨zw_456, zw_451, zw_450, zw_13⟩
theorem zg_X7_15 : zGet RX7 15 6 1 := ⟨RX7, TX7, 3, rfl, by decide, zu_X7, Or.inl zw_168⟩
theorem zp_X7_15 : zPut RX7 15 6 1 .int := ⟨RX7, TX7, 3, tyX7, rfl, by decide, zu_X7, Or.inl zw_168, tyX7_ok, nmX7, rfl, by decide +kernel⟩
theorem zg_X7_19 : zGet RX7 19 6 2 := ⟨RX7, TX7, 3, rfl, by decide, zu_X7, Or.inl zw_170⟩
theorem zp_X7_19 : zPut RX7 19 6 2 .int := ⟨RX7, TX7, 3, tyX7, rfl, by decide, zu_X7, Or.inl zw_170, tyX7_ok, nmX7, rfl, by decide +kernel⟩
theorem zm_X7_28 : zMath RX7 28 Lib.Math.min.name Lib.Math.min.code := ⟨zw_1086, zw_527, zw_25, zw_528⟩
theorem zg_X9_15 : zGet RX9 15 8 1 := ⟨RX9, TX9, 5, rfl, by decide, zu_X9, Or.inl zw_45⟩
theorem zs_20 : zShape[20]? = some (.inl (8, [some 21, none, none, none, none])) := rfl
theorem zg_X9_9 : zGet RX9 9 8 0 := ⟨RX9, TX9, 5, rfl, by decide, zu_X9, Or.inl zw_44⟩
theorem zs_21 : zShape[21]? = some (.inr (0, 400)) := rfl
theorem zp_X9_15 : zPut RX9 15 8 1 .int := ⟨RX9, TX9, 5, tyX9, rfl, by decide, zu_X9, Or.inl zw_45, tyX9_ok, nmX9, rfl, by decide +kernel⟩
theorem zp_X9_25 : zPut RX9 25 8 4 .int := ⟨RX9, TX9, 5, tyX9, rfl, by decide, zu_X9, Or.inl zw_50, tyX9_ok, nmX9, rfl, by decide +kernel⟩
theorem zi_X9_28 : zInv RX9 28 jX9_advance 0 := ⟨zw_637, zw_638, zw_639, zw_2, zw_640, by decide, by decide, by decide +kernel, by decide⟩
theorem zg_X9_25 : zGet RX9 25 8 4 := ⟨RX9, TX9, 5, rfl, by decide, zu_X9, Or.inl zw_50⟩
theorem zp_X9_22 : zPut RX9 22 8 3 .int := ⟨RX9, TX9, 5, tyX9, rfl, by decide, zu_X9, Or.inl zw_48, tyX9_ok, nmX9, rfl, by decide +kernel⟩
theorem zg_X9_22 : zGet RX9 22 8 3 := ⟨RX9, TX9, 5, rfl, by decide, zu_X9, Or.inl zw_48⟩
theorem zp_X9_19 : zPut RX9 19 8 2 .int := ⟨RX9, TX9, 5, tyX9, rfl, by decide, zu_X9, Or.inl zw_47, tyX9_ok, nmX9, rfl, by decide +kernel⟩
theorem zg_X9_19 : zGet RX9 19 8 2 := ⟨RX9, TX9, 5, rfl, by decide, zu_X9, Or.inl zw_47⟩
theorem zi_X9_31 : zInv RX9 31 jJ0_length_8abf5 0 := ⟨zw_653, zw_654, zw_655, zw_15, zw_656, by decide, by decide, by decide +kernel, by decide⟩
theorem zi_X9_37 : zInv RX9 37 jJ0_charAt_5068e 1 := ⟨zw_663, zw_664, zw_665, zw_15, zw_666, by decide, by decide, by decide +kernel, by decide⟩
theorem zi_X9_41 : zInv RX9 41 jX9_isSign 1 := ⟨zw_754, zw_755, zw_756, zw_2, zw_757, by decide, by decide, by decide +kernel, by decide⟩
theorem zi_X9_45 : zInv RX9 45 jX9_isWord 1 := ⟨zw_714, zw_650, zw_651, zw_2, zw_652, by decide, by decide, by decide +kernel, by decide⟩
theorem zi_X9_49 : zInv RX9 49 jX9_takeWord 1 := ⟨zw_710, zw_711, zw_712, zw_2, zw_713, by decide, by decide, by decide +kernel, by decide⟩
theorem zi_X9_52 : zInv RX9 52 jX9_takeNumber 2 := ⟨zw_715, zw_716, zw_717, zw_2, zw_718, by decide, by decide, by decide +kernel, by decide⟩
theorem zg_X3_12 : zGet RX3 12 3 0 := ⟨RX3, TX3, 16, rfl, by decide, zu_X3, Or.inl zw_179⟩
theorem zi_X3_69 : zInv RX3 69 jX8_copy 1 := ⟨zw_445, zw_446, zw_447, zw_5, zw_448, by decide, by decide, by decide +kernel, by decide⟩
theorem zg_X3_21 : zGet RX3 21 3 1 := ⟨RX3, TX3, 16, rfl, by decide, zu_X3, Or.inl zw_186⟩
theorem zi_X3_73 : zInv RX3 73 jX7_copy 1 := ⟨zw_452, zw_453, zw_454, zw_6, zw_455, by decide, by decide, by decide +kernel, by decide⟩
theorem zg_X3_25 : zGet RX3 25 3 2 := ⟨RX3, TX3, 16, rfl, by decide, zu_X3, Or.inl zw_189⟩
theorem zc_X3_76 : zCop RX3 76 := ⟨zw_457, zw_451, zw_450, zw_13⟩
theorem zg_X3_29 : zGet RX3 29 3 3 := ⟨RX3, TX3, 16, rfl, by decide, zu_X3, Or.inl zw_192⟩
theorem zg_X3_32 : zGet RX3 32 3 4 := ⟨RX3, TX3, 16, rfl, by decide, zu_X3, Or.inl zw_195⟩
theorem zg_X3_35 : zGet RX3 35 3 5 := ⟨RX3, TX3, 16, rfl, by decide, zu_X3, Or.inl zw_199⟩
theorem zg_X3_38 : zGet RX3 38 3 6 := ⟨RX3, TX3, 16, rfl, by decide, zu_X3, Or.inl zw_204⟩
theorem zp_X3_38 : zPut RX3 38 3 6 .int := ⟨RX3, TX3, 16, tyX3, rfl, by decide, zu_X3, Or.inl zw_204, tyX3_ok, nmX3, rfl, by decide +kernel⟩
theorem zg_X3_42 : zGet RX3 42 3 7 := ⟨RX3, TX3, 16, rfl, by decide, zu_X3, Or.inl zw_207⟩
theorem zp_X3_42 : zPut RX3 42 3 7 .int := ⟨RX3, TX3, 16, tyX3, rfl, by decide, zu_X3, Or.inl zw_207, tyX3_ok, nmX3, rfl, by decide +kernel⟩
theorem zg_X3_45 : zGet RX3 45 3 8 := ⟨RX3, TX3, 16, rfl, by decide, zu_X3, Or.inl zw_212⟩
theorem zp_X3_45 : zPut RX3 45 3 8 .int := ⟨RX3, TX3, 16, tyX3, rfl, by decide, zu_X3, Or.inl zw_212, tyX3_ok, nmX3, rfl, by decide +kernel⟩
theorem zg_X3_48 : zGet RX3 48 3 9 := ⟨RX3, TX3, 16, rfl, by decide, zu_X3, Or.inl zw_217⟩
theorem zp_X3_48 : zPut RX3 48 3 9 .int := ⟨RX3, TX3, 16, tyX3, rfl, by decide, zu_X3, Or.inl zw_217, tyX3_ok, nmX3, rfl, by decide +kernel⟩
theorem zg_X3_51 : zGet RX3 51 3 10 := ⟨RX3, TX3, 16, rfl, by decide, zu_X3, Or.inl zw_219⟩
theorem zp_X3_51 : zPut RX3 51 3 10 .int := ⟨RX3, TX3, 16, tyX3, rfl, by decide, zu_X3, Or.inl zw_219, tyX3_ok, nmX3, rfl, by decide +kernel⟩
theorem zg_X3_54 : zGet RX3 54 3 11 := ⟨RX3, TX3, 16, rfl, by decide, zu_X3, Or.inl zw_223⟩
theorem zp_X3_54 : zPut RX3 54 3 11 .int := ⟨RX3, TX3, 16, tyX3, rfl, by decide, zu_X3, Or.inl zw_223, tyX3_ok, nmX3, rfl, by decide +kernel⟩
theorem zg_X3_57 : zGet RX3 57 3 12 := ⟨RX3, TX3, 16, rfl, by decide, zu_X3, Or.inl zw_228⟩
theorem zp_X3_57 : zPut RX3 57 3 12 .int := ⟨RX3, TX3, 16, tyX3, rfl, by decide, zu_X3, Or.inl zw_228, tyX3_ok, nmX3, rfl, by decide +kernel⟩
theorem zg_X3_60 : zGet RX3 60 3 13 := ⟨RX3, TX3, 16, rfl, by decide, zu_X3, Or.inl zw_232⟩
theorem zp_X3_60 : zPut RX3 60 3 13 .int := ⟨RX3, TX3, 16, tyX3, rfl, by decide, zu_X3, Or.inl zw_232, tyX3_ok, nmX3, rfl, by decide +kernel⟩
theorem zg_X3_63 : zGet RX3 63 3 14 := ⟨RX3, TX3, 16, rfl, by decide, zu_X3, Or.inl zw_235⟩
theorem zp_X3_63 : zPut RX3 63 3 14 .int := ⟨RX3, TX3, 16, tyX3, rfl, by decide, zu_X3, Or.inl zw_235, tyX3_ok, nmX3, rfl, by decide +kernel⟩
theorem zg_X3_66 : zGet RX3 66 3 15 := ⟨RX3, TX3, 16, rfl, by decide, zu_X3, Or.inl zw_239⟩
theorem zp_X3_66 : zPut RX3 66 3 15 .int := ⟨RX3, TX3, 16, tyX3, rfl, by decide, zu_X3, Or.inl zw_239, tyX3_ok, nmX3, rfl, by decide +kernel⟩
theorem zg_X5_11 : zGet RX5 11 4 0 := ⟨RX5, TX5, 3, rfl, by decide, zu_X5, Or.inl zw_283⟩
theorem zs_59 : zShape[59]? = some (.inl (4, [some 60, none, none])) := rfl
theorem zg_X5_21 : zGet RX5 21 4 2 := ⟨RX5, TX5, 3, rfl, by decide, zu_X5, Or.inl zw_286⟩
theorem zs_60 : zShape[60]? = some (.inr (4, 12)) := rfl
theorem zi_X5_25 : zInv RX5 25 jX3_copy 1 := ⟨zw_599, zw_442, zw_443, zw_4, zw_444, by decide, by decide, by decide +kernel, by decide⟩
theorem zp_X5_21 : zPut RX5 21 4 2 .int := ⟨RX5, TX5, 3, tyX5, rfl, by decide, zu_X5, Or.inl zw_286, tyX5_ok, nmX5, rfl, by decide +kernel⟩
theorem zg_X5_17 : zGet RX5 17 4 1 := ⟨RX5, TX5, 3, rfl, by decide, zu_X5, Or.inl zw_284⟩
theorem zm_X5_29 : zMath RX5 29 Lib.Math.min.name Lib.Math.min.code := ⟨zw_1061, zw_527, zw_25, zw_528⟩
theorem zp_X5_17 : zPut RX5 17 4 1 .int := ⟨RX5, TX5, 3, tyX5, rfl, by decide, zu_X5, Or.inl zw_284, tyX5_ok, nmX5, rfl, by decide +kernel⟩
theorem zs_61 : zShape[61]? = some (.inl (3, [some 62, some 69, some 71, some 72, some 73, some 74, none, none, none, none, none, none, none, none, none, none])) := rfl
theorem zg_X6_9 : zGet RX6 9 5 0 := ⟨RX6, TX6, 8, rfl, by decide, zu_X6, Or.inl zw_69⟩
theorem zc_X6_37 : zCop RX6 37 := ⟨zw_608, zw_451, zw_450, zw_13⟩
theorem zg_X6_15 : zGet RX6 15 5 1 := ⟨RX6, TX6, 8, rfl, by decide, zu_X6, Or.inl zw_70⟩
theorem zg_X6_18 : zGet RX6 18 5 2 := ⟨RX6, TX6, 8, rfl, by decide, zu_X6, Or.inl zw_71⟩
theorem zg_X6_21 : zGet RX6 21 5 3 := ⟨RX6, TX6, 8, rfl, by decide, zu_X6, Or.inl zw_72⟩
theorem zg_X6_30 : zGet RX6 30 5 6 := ⟨RX6, TX6, 8, rfl, by decide, zu_X6, Or.inl zw_75⟩
theorem zp_X6_30 : zPut RX6 30 5 6 .int := ⟨RX6, TX6, 8, tyX6, rfl, by decide, zu_X6, Or.inl zw_75, tyX6_ok, nmX6, rfl, by decide +kernel⟩
theorem zg_X6_34 : zGet RX6 34 5 7 := ⟨RX6, TX6, 8, rfl, by decide, zu_X6, Or.inl zw_78⟩
theorem zp_X6_34 : zPut RX6 34 5 7 .int := ⟨RX6, TX6, 8, tyX6, rfl, by decide, zu_X6, Or.inl zw_78, tyX6_ok, nmX6, rfl, by decide +kernel⟩
theorem zs_22 : zShape[22]? = some (.inl (5, [some 23, some 24, some 25, some 26, some 27, some 28, none, none])) := rfl
theorem zi_X6_43 : zInv RX6 43 jX9_open 0 := ⟨zw_858, zw_634, zw_635, zw_2, zw_636, by decide, by decide, by decide +kernel, by decide⟩
theorem zi_X6_48 : zInv RX6 48 jX9_isEnd 0 := ⟨zw_859, zw_642, zw_643, zw_2, zw_644, by decide, by decide, by decide +kernel, by decide⟩
theorem zi_X6_52 : zInv RX6 52 jX6_readLine 1 := ⟨zw_860, zw_862, zws_1_8, zw_3, zw_863, by decide, by decide, by decide +kernel, by decide⟩
theorem zi_X6_56 : zInv RX6 56 jX9_takeSign 1 := ⟨zw_897, zw_751, zw_752, zw_2, zw_753, by decide, by decide, by decide +kernel, by decide⟩
theorem zi_X6_60 : zInvS RX6 60 jX6_kindHere 1 := ⟨zw_864, zw_865, zw_3, zw_866, by decide, by decide, by decide +kernel, by decide⟩
theorem zi_X6_64 : zInv RX6 64 jX9_advance 0 := ⟨zw_871, zw_638, zw_639, zw_2, zw_640, by decide, by decide, by decide +kernel, by decide⟩
theorem zi_X6_67 : zInv RX6 67 jX9_takeNumber 2 := ⟨zw_872, zw_716, zw_717, zw_2, zw_718, by decide, by decide, by decide +kernel, by decide⟩
theorem zi_X6_71 : zInv RX6 71 jX6_begin 2 := ⟨zw_873, zw_875, zws_1_9, zw_3, zw_876, by decide, by decide, by decide +kernel, by decide⟩
theorem zi_X6_77 : zInv RX6 77 jX9_takeWord 1 := ⟨zw_878, zw_711, zw_712, zw_2, zw_713, by decide, by decide, by decide +kernel, by decide⟩
theorem zi_X6_81 : zInv RX6 81 jX6_readAny 2 := ⟨zw_879, zw_881, zws_1_10, zw_3, zw_882, by decide, by decide, by decide +kernel, by decide⟩
theorem zi_X6_87 : zInv RX6 87 jX9_isWord 1 := ⟨zw_868, zw_650, zw_651, zw_2, zw_652, by decide, by decide, by decide +kernel, by decide⟩
theorem zi_X6_94 : zInv RX6 94 jX6_readAll 2 := ⟨zw_883, zw_885, zws_1_11, zw_3, zw_886, by decide, by decide, by decide +kernel, by decide⟩
theorem zi_X6_99 : zInv RX6 99 jX6_addStep 1 := ⟨zw_898, zw_900, zws_1_14, zw_3, zw_901, by decide, by decide, by decide +kernel, by decide⟩
theorem zi_X6_103 : zInv RX6 103 jX6_readAtom 2 := ⟨zw_887, zw_889, zws_1_12, zw_3, zw_890, by decide, by decide, by decide +kernel, by decide⟩
theorem zi_X6_110 : zInv RX6 110 jX9_isSign 1 := ⟨zw_892, zw_755, zw_756, zw_2, zw_757, by decide, by decide, by decide +kernel, by decide⟩
theorem zi_X6_113 : zInv RX6 113 jX6_readDeeper 2 := ⟨zw_893, zw_895, zws_1_13, zw_3, zw_896, by decide, by decide, by decide +kernel, by decide⟩
theorem zi_X6_122 : zInv RX6 122 jX6_readSum 1 := ⟨zw_905, zw_907, zws_1_15, zw_3, zw_908, by decide, by decide, by decide +kernel, by decide⟩
theorem zi_X6_125 : zInvS RX6 125 jX6_factHere 1 := ⟨zw_909, zw_910, zw_3, zw_911, by decide, by decide, by decide +kernel, by decide⟩
theorem zs_23 : zShape[23]? = some (.inr (0, 12)) := rfl
theorem zs_24 : zShape[24]? = some (.inr (0, 12)) := rfl
theorem zs_25 : zShape[25]? = some (.inr (0, 12)) := rfl
theorem zs_26 : zShape[26]? = some (.inr (0, 400)) := rfl
theorem zs_36 : zShape[36]? = some (.inl (5, [some 37, some 38, some 39, some 40, some 41, some 42, none, none])) := rfl
theorem zi_X6_144 : zInv RX6 144 jX6_note 3 := ⟨zw_474, zw_476, zws_1_0, zw_3, zw_477, by decide, by decide, by decide +kernel, by decide⟩
theorem zs_37 : zShape[37]? = some (.inr (0, 12)) := rfl
theorem zi_X6_148 : zInv RX6 148 jX6_holds 1 := ⟨zw_478, zw_480, zws_1_1, zw_3, zw_481, by decide, by decide, by decide +kernel, by decide⟩
theorem zs_38 : zShape[38]? = some (.inr (0, 12)) := rfl
theorem zg_X6_152 : zGet RX6 152 3 0 := ⟨RX3, TX3, 16, rfl, by decide, zu_X3, Or.inr ⟨_, zw_185⟩⟩
theorem zg_X6_158 : zGet RX6 158 7 4 := ⟨RX8, TX8, 7, rfl, by decide, zu_X8, Or.inr ⟨_, zw_133⟩⟩
theorem zg_X6_24 : zGet RX6 24 5 4 := ⟨RX6, TX6, 8, rfl, by decide, zu_X6, Or.inl zw_73⟩
theorem zs_41 : zShape[41]? = some (.inr (0, 11)) := rfl
theorem zg_X6_162 : zGet RX6 162 7 0 := ⟨RX8, TX8, 7, rfl, by decide, zu_X8, Or.inr ⟨_, zw_112⟩⟩
theorem zg_X6_164 : zGet RX6 164 7 1 := ⟨RX8, TX8, 7, rfl, by decide, zu_X8, Or.inr ⟨_, zw_117⟩⟩
theorem zg_X6_166 : zGet RX6 166 7 2 := ⟨RX8, TX8, 7, rfl, by decide, zu_X8, Or.inr ⟨_, zw_122⟩⟩
theorem zg_X6_168 : zGet RX6 168 7 3 := ⟨RX8, TX8, 7, rfl, by decide, zu_X8, Or.inr ⟨_, zw_128⟩⟩
theorem zg_X6_170 : zGet RX6 170 3 11 := ⟨RX3, TX3, 16, rfl, by decide, zu_X3, Or.inr ⟨_, zw_226⟩⟩
theorem zg_X6_172 : zGet RX6 172 7 6 := ⟨RX8, TX8, 7, rfl, by decide, zu_X8, Or.inr ⟨_, zw_144⟩⟩
theorem zs_39 : zShape[39]? = some (.inr (0, 12)) := rfl
theorem zg_X6_27 : zGet RX6 27 5 5 := ⟨RX6, TX6, 8, rfl, by decide, zu_X6, Or.inl zw_74⟩
theorem zs_42 : zShape[42]? = some (.inr (0, 30)) := rfl
theorem zs_40 : zShape[40]? = some (.inr (0, 400)) := rfl
theorem zg_X1_31 : zGet RX1 31 3 11 := ⟨RX3, TX3, 16, rfl, by decide, zu_X3, Or.inr ⟨_, zw_224⟩⟩
theorem zg_X1_12 : zGet RX1 12 1 0 := ⟨RX1, TX1, 5, rfl, by decide, zu_X1, Or.inl zw_302⟩
theorem zs_43 : zShape[43]? = some (.inl (1, [some 36, some 44, some 45, some 46, some 47])) := rfl
theorem zi_X1_37 : zInv RX1 37 jX6_sum 4 := ⟨zw_470, zw_471, zw_472, zw_3, zw_473, by decide, by decide, by decide +kernel, by decide⟩
theorem zg_X1_41 : zGet RX1 41 3 0 := ⟨RX3, TX3, 16, rfl, by decide, zu_X3, Or.inr ⟨_, zw_181⟩⟩
theorem zg_X1_45 : zGet RX1 45 7 6 := ⟨RX8, TX8, 7, rfl, by decide, zu_X8, Or.inr ⟨_, zw_140⟩⟩
theorem zg_X1_50 : zGet RX1 50 7 3 := ⟨RX8, TX8, 7, rfl, by decide, zu_X8, Or.inr ⟨_, zw_124⟩⟩
theorem zi_X1_53 : zInv RX1 53 jX1_fallsBy 2 := ⟨zw_466, zw_467, zw_468, zw_8, zw_469, by decide, by decide, by decide +kernel, by decide⟩
theorem zm_X1_57 : zMath RX1 57 Lib.Math.max.name Lib.Math.max.code := ⟨zw_482, zw_483, zw_25, zw_484⟩
theorem zg_X1_18 : zGet RX1 18 1 1 := ⟨RX1, TX1, 5, rfl, by decide, zu_X1, Or.inl zw_304⟩
theorem zi_X1_63 : zInv RX1 63 jX3_weighs 3 := ⟨zw_514, zw_515, zw_516, zw_4, zw_517, by decide, by decide, by decide +kernel, by decide⟩
theorem zs_44 : zShape[44]? = some (.inr (0, 5)) := rfl
theorem zg_X1_22 : zGet RX1 22 1 2 := ⟨RX1, TX1, 5, rfl, by decide, zu_X1, Or.inl zw_306⟩
theorem zi_X1_67 : zInv RX1 67 jX1_ownOf 2 := ⟨zw_518, zw_519, zw_520, zw_8, zw_521, by decide, by decide, by decide +kernel, by decide⟩
theorem zs_45 : zShape[45]? = some (.inr (0, 5)) := rfl
theorem zg_X1_25 : zGet RX1 25 1 3 := ⟨RX1, TX1, 5, rfl, by decide, zu_X1, Or.inl zw_308⟩
theorem zi_X1_70 : zInv RX1 70 jX1_passes 2 := ⟨zw_522, zw_524, zws_1_3, zw_8, zw_525, by decide, by decide, by decide +kernel, by decide⟩
theorem zg_X1_73 : zGet RX1 73 7 5 := ⟨RX8, TX8, 7, rfl, by decide, zu_X8, Or.inr ⟨_, zw_135⟩⟩
theorem zg_X1_28 : zGet RX1 28 1 4 := ⟨RX1, TX1, 5, rfl, by decide, zu_X1, Or.inl zw_309⟩
theorem zs_47 : zShape[47]? = some (.inr (0, 5)) := rfl
theorem zs_46 : zShape[46]? = some (.inr (0, 5)) := rfl
theorem zg_X1_76 : zGet RX1 76 7 0 := ⟨RX8, TX8, 7, rfl, by decide, zu_X8, Or.inr ⟨_, zw_110⟩⟩
theorem zg_X1_79 : zGet RX1 79 7 1 := ⟨RX8, TX8, 7, rfl, by decide, zu_X8, Or.inr ⟨_, zw_115⟩⟩
theorem zg_X1_82 : zGet RX1 82 7 2 := ⟨RX8, TX8, 7, rfl, by decide, zu_X8, Or.inr ⟨_, zw_120⟩⟩
theorem zg_X1_85 : zGet RX1 85 5 6 := ⟨RX6, TX6, 8, rfl, by decide, zu_X6, Or.inr ⟨_, zw_77⟩⟩
theorem zm_X1_88 : zMath RX1 88 Lib.Math.min.name Lib.Math.min.code := ⟨zw_526, zw_527, zw_25, zw_528⟩
theorem zg_X1_91 : zGet RX1 91 3 5 := ⟨RX3, TX3, 16, rfl, by decide, zu_X3, Or.inr ⟨_, zw_202⟩⟩
theorem zn_X1_94 : zInvN RX1 94 jX11_readBy 2 "BlushCourt" := ⟨zw_580, zw_581, zw_1, zw_582, by decide, by decide, by decide +kernel, by decide⟩
theorem zg_X1_97 : zGet RX1 97 3 8 := ⟨RX3, TX3, 16, rfl, by decide, zu_X3, Or.inr ⟨_, zw_215⟩⟩
theorem zi_X1_100 : zInv RX1 100 jX1_isSeen 3 := ⟨zw_576, zw_577, zw_578, zw_8, zw_579, by decide, by decide, by decide +kernel, by decide⟩
theorem zg_X1_104 : zGet RX1 104 3 10 := ⟨RX3, TX3, 16, rfl, by decide, zu_X3, Or.inr ⟨_, zw_222⟩⟩
theorem zi_X1_107 : zInv RX1 107 jX1_raise 3 := ⟨zw_1076, zw_511, zw_512, zw_8, zw_513, by decide, by decide, by decide +kernel, by decide⟩
theorem zi_X1_111 : zInv RX1 111 jX8_darken 2 := ⟨zw_1077, zw_1078, zw_1079, zw_5, zw_1080, by decide, by decide, by decide +kernel, by decide⟩
theorem zg_X1_115 : zGet RX1 115 3 1 := ⟨RX3, TX3, 16, rfl, by decide, zu_X3, Or.inr ⟨_, zw_187⟩⟩
theorem zg_X1_119 : zGet RX1 119 3 14 := ⟨RX3, TX3, 16, rfl, by decide, zu_X3, Or.inr ⟨_, zw_237⟩⟩
theorem zi_X1_122 : zInv RX1 122 jX7_add 5 := ⟨zw_1082, zw_1083, zw_1084, zw_6, zw_1085, by decide, by decide, by decide +kernel, by decide⟩
theorem zi_X1_128 : zInv RX1 128 jX1_fall 1 := ⟨zw_1066, zw_463, zw_464, zw_8, zw_465, by decide, by decide, by decide +kernel, by decide⟩
theorem zi_X1_132 : zInv RX1 132 jX3_draw 0 := ⟨zw_1067, zw_1068, zw_1069, zw_4, zw_1070, by decide, by decide, by decide +kernel, by decide⟩
theorem zg_X1_136 : zGet RX1 136 3 13 := ⟨RX3, TX3, 16, rfl, by decide, zu_X3, Or.inr ⟨_, zw_234⟩⟩
theorem zg_X1_139 : zGet RX1 139 3 7 := ⟨RX3, TX3, 16, rfl, by decide, zu_X3, Or.inr ⟨_, zw_210⟩⟩
theorem zi_X1_142 : zInv RX1 142 jX1_utter 3 := ⟨zw_1072, zw_1073, zw_1074, zw_8, zw_1075, by decide, by decide, by decide +kernel, by decide⟩
theorem zi_X1_146 : zInv RX1 146 jX1_blushFalsely 1 := ⟨zw_1087, zw_1089, zws_2_8, zw_8, zw_1090, by decide, by decide, by decide +kernel, by decide⟩
theorem zp_X1_119 : zPut RX1 119 3 14 .int := ⟨RX3, TX3, 16, tyX3, rfl, by decide, zu_X3, Or.inr ⟨_, zw_237⟩, tyX3_ok, nmX3, rfl, by decide +kernel⟩
theorem zg_X1_149 : zGet RX1 149 3 12 := ⟨RX3, TX3, 16, rfl, by decide, zu_X3, Or.inr ⟨_, zw_230⟩⟩
theorem zi_X10_24 : zInv RX10 24 jX3_worldCount 0 := ⟨zw_505, zw_506, zw_507, zw_4, zw_508, by decide, by decide, by decide +kernel, by decide⟩
theorem zg_X10_30 : zGet RX10 30 3 4 := ⟨RX3, TX3, 16, rfl, by decide, zu_X3, Or.inr ⟨_, zw_196⟩⟩
theorem zs_73 : zShape[73]? = some (.inr (0, 8)) := rfl
theorem zi_X10_39 : zInv RX10 39 jX1_raise 3 := ⟨zw_510, zw_511, zw_512, zw_8, zw_513, by decide, by decide, by decide +kernel, by decide⟩
theorem zg_X10_45 : zGet RX10 45 1 4 := ⟨RX1, TX1, 5, rfl, by decide, zu_X1, Or.inr ⟨_, zw_310⟩⟩
theorem zg_X10_9 : zGet RX10 9 9 0 := ⟨RX10, TX10, 4, rfl, by decide, zu_X10, Or.inl zw_329⟩
theorem zs_48 : zShape[48]? = some (.inl (9, [some 49, some 50, some 51, some 52])) := rfl
theorem zc_X10_33 : zCop RX10 33 := ⟨zw_509, zw_451, zw_450, zw_13⟩
theorem zs_49 : zShape[49]? = some (.inr (0, 320)) := rfl
theorem zg_X10_15 : zGet RX10 15 9 1 := ⟨RX10, TX10, 4, rfl, by decide, zu_X10, Or.inl zw_330⟩
theorem zg_X10_48 : zGet RX10 48 3 0 := ⟨RX3, TX3, 16, rfl, by decide, zu_X3, Or.inr ⟨_, zw_180⟩⟩
theorem zg_X10_52 : zGet RX10 52 7 6 := ⟨RX8, TX8, 7, rfl, by decide, zu_X8, Or.inr ⟨_, zw_139⟩⟩
theorem zi_X10_58 : zInv RX10 58 jX10_firstAlike 3 := ⟨zw_529, zw_531, zws_1_4, zw_9, zw_532, by decide, by decide, by decide +kernel, by decide⟩
theorem zs_50 : zShape[50]? = some (.inr (0, 512)) := rfl
theorem zi_X10_62 : zInv RX10 62 jX10_isAlike 3 := ⟨zw_533, zw_535, zws_1_5, zw_9, zw_536, by decide, by decide, by decide +kernel, by decide⟩
theorem zg_X10_68 : zGet RX10 68 3 7 := ⟨RX3, TX3, 16, rfl, by decide, zu_X3, Or.inr ⟨_, zw_209⟩⟩
theorem zi_X10_71 : zInv RX10 71 jX9_told 2 := ⟨zw_1217, zw_1208, zw_1209, zw_2, zw_1210, by decide, by decide, by decide +kernel, by decide⟩
theorem zi_X10_77 : zInv RX10 77 jX10_weigh 3 := ⟨zw_501, zw_503, zws_1_2, zw_9, zw_504, by decide, by decide, by decide +kernel, by decide⟩
theorem zi_X10_81 : zInv RX10 81 jX10_fittingRow 3 := ⟨zw_1218, zw_1220, zws_2_12, zw_9, zw_1221, by decide, by decide, by decide +kernel, by decide⟩
theorem zg_X10_18 : zGet RX10 18 9 2 := ⟨RX10, TX10, 4, rfl, by decide, zu_X10, Or.inl zw_331⟩
theorem zi_X10_85 : zInvS RX10 85 jJ7_fill_53178 2 := ⟨zw_1008, zw_1009, zw_27, zw_1010, by decide, by decide, by decide +kernel, by decide⟩
theorem zs_51 : zShape[51]? = some (.inr (0, 64)) := rfl
theorem zm_X10_91 : zMath RX10 91 Lib.Math.max.name Lib.Math.max.code := ⟨zw_1254, zw_483, zw_25, zw_484⟩
theorem zi_X10_96 : zInv RX10 96 jX10_partedBy 3 := ⟨zw_537, zw_539, zws_1_6, zw_9, zw_540, by decide, by decide, by decide +kernel, by decide⟩
theorem zi_X10_99 : zInv RX10 99 jX10_markUnparted 2 := ⟨zw_1004, zw_1006, zws_2_4, zw_9, zw_1007, by decide, by decide, by decide +kernel, by decide⟩
theorem zi_X10_103 : zInvS RX10 103 jJ6_bitCount_0f7a4 1 := ⟨zw_1011, zw_554, zw_28, zw_555, by decide, by decide, by decide +kernel, by decide⟩
theorem zg_X10_21 : zGet RX10 21 9 3 := ⟨RX10, TX10, 4, rfl, by decide, zu_X10, Or.inl zw_332⟩
theorem zs_52 : zShape[52]? = some (.inr (0, 256)) := rfl
theorem zp_X0_18 : zPut RX0 18 0 2 .int := ⟨RX0, TX0, 4, tyX0, rfl, by decide, zu_X0, Or.inl zw_351, tyX0_ok, nmX0, rfl, by decide +kernel⟩
theorem zs_53 : zShape[53]? = some (.inl (0, [some 54, some 55, none, none])) := rfl
theorem zp_X0_22 : zPut RX0 22 0 3 .int := ⟨RX0, TX0, 4, tyX0, rfl, by decide, zu_X0, Or.inl zw_352, tyX0_ok, nmX0, rfl, by decide +kernel⟩
theorem zi_X0_25 : zInv RX0 25 jX0_extend 4 := ⟨zw_1292, zw_1294, zws_2_14, zw_10, zw_1295, by decide, by decide, by decide +kernel, by decide⟩
theorem zg_X0_29 : zGet RX0 29 7 6 := ⟨RX8, TX8, 7, rfl, by decide, zu_X8, Or.inr ⟨_, zw_142⟩⟩
theorem zi_X0_34 : zInv RX0 34 jX0_weighTried 2 := ⟨zw_1296, zw_1298, zws_2_15, zw_10, zw_1299, by decide, by decide, by decide +kernel, by decide⟩
theorem zg_X0_15 : zGet RX0 15 0 1 := ⟨RX0, TX0, 4, rfl, by decide, zu_X0, Or.inl zw_350⟩
theorem zs_55 : zShape[55]? = some (.inr (0, 5)) := rfl
theorem zi_X0_38 : zInvS RX0 38 jX0_sharedIn 3 := ⟨zw_1300, zw_1279, zw_10, zw_1280, by decide, by decide, by decide +kernel, by decide⟩
theorem zg_X0_18 : zGet RX0 18 0 2 := ⟨RX0, TX0, 4, rfl, by decide, zu_X0, Or.inl zw_351⟩
theorem zi_X0_42 : zInv RX0 42 jX0_changesTo 1 := ⟨zw_1301, zw_1303, zws_3_0, zw_10, zw_1304, by decide, by decide, by decide +kernel, by decide⟩
theorem zg_X0_22 : zGet RX0 22 0 3 := ⟨RX0, TX0, 4, rfl, by decide, zu_X0, Or.inl zw_352⟩
theorem zg_X0_9 : zGet RX0 9 0 0 := ⟨RX0, TX0, 4, rfl, by decide, zu_X0, Or.inl zw_348⟩
theorem zc_X0_46 : zCop RX0 46 := ⟨zw_1305, zw_451, zw_450, zw_13⟩
theorem zs_54 : zShape[54]? = some (.inr (0, 5)) := rfl
theorem zg_X0_52 : zGet RX0 52 7 4 := ⟨RX8, TX8, 7, rfl, by decide, zu_X8, Or.inr ⟨_, zw_131⟩⟩
theorem zg_X2_15 : zGet RX2 15 2 1 := ⟨RX2, TX2, 3, rfl, by decide, zu_X2, Or.inl zw_371⟩
theorem zs_56 : zShape[56]? = some (.inl (2, [some 57, some 58, none])) := rfl
theorem zi_X2_22 : zInvS RX2 22 jJ7_fill_53178 2 := ⟨zw_1362, zw_1009, zw_27, zw_1010, by decide, by decide, by decide +kernel, by decide⟩
theorem zp_X2_18 : zPut RX2 18 2 2 .int := ⟨RX2, TX2, 3, tyX2, rfl, by decide, zu_X2, Or.inl zw_372, tyX2_ok, nmX2, rfl, by decide +kernel⟩
theorem zi_X2_28 : zInv RX2 28 jX2_extend 3 := ⟨zw_1363, zw_1365, zws_3_3, zw_11, zw_1366, by decide, by decide, by decide +kernel, by decide⟩
theorem zg_X2_32 : zGet RX2 32 3 8 := ⟨RX3, TX3, 16, rfl, by decide, zu_X3, Or.inr ⟨_, zw_213⟩⟩
theorem zs_58 : zShape[58]? = some (.inr (0, 4)) := rfl
theorem zg_X2_18 : zGet RX2 18 2 2 := ⟨RX2, TX2, 3, rfl, by decide, zu_X2, Or.inl zw_372⟩
theorem zg_X2_9 : zGet RX2 9 2 0 := ⟨RX2, TX2, 3, rfl, by decide, zu_X2, Or.inl zw_369⟩
theorem zc_X2_37 : zCop RX2 37 := ⟨zw_1367, zw_451, zw_450, zw_13⟩
theorem zs_57 : zShape[57]? = some (.inr (0, 4)) := rfl
theorem zi_X2_43 : zInvS RX2 43 jX2_unlike 3 := ⟨zw_1368, zw_1369, zw_11, zw_1370, by decide, by decide, by decide +kernel, by decide⟩
theorem zg_X2_47 : zGet RX2 47 3 0 := ⟨RX3, TX3, 16, rfl, by decide, zu_X3, Or.inr ⟨_, zw_183⟩⟩
theorem zg_X2_51 : zGet RX2 51 7 6 := ⟨RX8, TX8, 7, rfl, by decide, zu_X8, Or.inr ⟨_, zw_143⟩⟩
theorem zg_X2_56 : zGet RX2 56 7 3 := ⟨RX8, TX8, 7, rfl, by decide, zu_X8, Or.inr ⟨_, zw_125⟩⟩
theorem zs_66 : zShape[66]? = some (.inr (0, 5)) := rfl
theorem zg_X2_59 : zGet RX2 59 3 5 := ⟨RX3, TX3, 16, rfl, by decide, zu_X3, Or.inr ⟨_, zw_200⟩⟩
theorem zs_74 : zShape[74]? = some (.inr (0, 4)) := rfl
theorem zn_X2_62 : zInvN RX2 62 jX11_readBy 2 "BlushCourt" := ⟨zw_1371, zw_581, zw_1, zw_582, by decide, by decide, by decide +kernel, by decide⟩
theorem zi_X4_9 : zInv RX4 9 jX9_open 0 := ⟨zw_633, zw_634, zw_635, zw_2, zw_636, by decide, by decide, by decide +kernel, by decide⟩
theorem zi_X4_14 : zInv RX4 14 jX9_isEnd 0 := ⟨zw_641, zw_642, zw_643, zw_2, zw_644, by decide, by decide, by decide +kernel, by decide⟩
theorem zi_X4_18 : zInvS RX4 18 jX4_readLine 2 := ⟨zw_645, zw_646, zw_14, zw_647, by decide, by decide, by decide +kernel, by decide⟩
theorem zi_X4_24 : zInv RX4 24 jX9_takeSign 1 := ⟨zw_750, zw_751, zw_752, zw_2, zw_753, by decide, by decide, by decide +kernel, by decide⟩
theorem zi_X4_30 : zInv RX4 30 jX9_isWord 1 := ⟨zw_649, zw_650, zw_651, zw_2, zw_652, by decide, by decide, by decide +kernel, by decide⟩
theorem zi_X4_74 : zInvS RX4 74 jX4_readNumber 2 := ⟨zw_743, zw_744, zw_14, zw_745, by decide, by decide, by decide +kernel, by decide⟩
theorem zg_X4_68 : zGet RX4 68 3 8 := ⟨RX3, TX3, 16, rfl, by decide, zu_X3, Or.inr ⟨_, zw_214⟩⟩
theorem zs_75 : zShape[75]? = some (.inl (3, [some 76, some 83, some 85, some 86, some 87, some 88, none, none, none, none, none, none, none, none, none, none])) := rfl
theorem zi_X4_71 : zInvS RX4 71 jX4_readWoman 2 := ⟨zw_739, zw_740, zw_14, zw_741, by decide, by decide, by decide +kernel, by decide⟩
theorem zg_X4_60 : zGet RX4 60 3 7 := ⟨RX3, TX3, 16, rfl, by decide, zu_X3, Or.inr ⟨_, zw_208⟩⟩
theorem zi_X4_63 : zInvS RX4 63 jX4_readQuestion 2 := ⟨zw_735, zw_736, zw_14, zw_737, by decide, by decide, by decide +kernel, by decide⟩
theorem zg_X4_52 : zGet RX4 52 3 6 := ⟨RX3, TX3, 16, rfl, by decide, zu_X3, Or.inr ⟨_, zw_205⟩⟩
theorem zi_X4_55 : zInvS RX4 55 jX4_readThing 2 := ⟨zw_723, zw_724, zw_14, zw_725, by decide, by decide, by decide +kernel, by decide⟩
theorem zg_X4_34 : zGet RX4 34 3 0 := ⟨RX3, TX3, 16, rfl, by decide, zu_X3, Or.inr ⟨_, zw_182⟩⟩
theorem zg_X4_40 : zGet RX4 40 7 6 := ⟨RX8, TX8, 7, rfl, by decide, zu_X8, Or.inr ⟨_, zw_141⟩⟩
theorem zs_76 : zShape[76]? = some (.inl (7, [some 77, some 78, some 79, some 80, some 81, some 82, none])) := rfl
theorem zi_X4_46 : zInvS RX4 46 jX4_readWitness 2 := ⟨zw_701, zw_702, zw_14, zw_703, by decide, by decide, by decide +kernel, by decide⟩
theorem zi_X4_79 : zInv RX4 79 jX9_takeNumberAfter 3 := ⟨zw_706, zw_707, zw_708, zw_2, zw_709, by decide, by decide, by decide +kernel, by decide⟩
theorem zp_X4_96 : zPut RX4 96 3 14 .int := ⟨RX3, TX3, 16, tyX3, rfl, by decide, zu_X3, Or.inr ⟨_, zw_236⟩, tyX3_ok, nmX3, rfl, by decide +kernel⟩
theorem zg_X4_96 : zGet RX4 96 3 14 := ⟨RX3, TX3, 16, rfl, by decide, zu_X3, Or.inr ⟨_, zw_236⟩⟩
theorem zp_X4_92 : zPut RX4 92 3 13 .int := ⟨RX3, TX3, 16, tyX3, rfl, by decide, zu_X3, Or.inr ⟨_, zw_233⟩, tyX3_ok, nmX3, rfl, by decide +kernel⟩
theorem zg_X4_92 : zGet RX4 92 3 13 := ⟨RX3, TX3, 16, rfl, by decide, zu_X3, Or.inr ⟨_, zw_233⟩⟩
theorem zp_X4_87 : zPut RX4 87 3 12 .int := ⟨RX3, TX3, 16, tyX3, rfl, by decide, zu_X3, Or.inr ⟨_, zw_229⟩, tyX3_ok, nmX3, rfl, by decide +kernel⟩
theorem zg_X4_87 : zGet RX4 87 3 12 := ⟨RX3, TX3, 16, rfl, by decide, zu_X3, Or.inr ⟨_, zw_229⟩⟩
theorem zp_X4_83 : zPut RX4 83 3 11 .int := ⟨RX3, TX3, 16, tyX3, rfl, by decide, zu_X3, Or.inr ⟨_, zw_225⟩, tyX3_ok, nmX3, rfl, by decide +kernel⟩
theorem zg_X4_83 : zGet RX4 83 3 11 := ⟨RX3, TX3, 16, rfl, by decide, zu_X3, Or.inr ⟨_, zw_225⟩⟩
theorem zi_X4_98 : zInv RX4 98 jX9_advance 0 := ⟨zw_704, zw_638, zw_639, zw_2, zw_640, by decide, by decide, by decide +kernel, by decide⟩
theorem zg_X4_109 : zGet RX4 109 7 0 := ⟨RX8, TX8, 7, rfl, by decide, zu_X8, Or.inr ⟨_, zw_109⟩⟩
theorem zs_77 : zShape[77]? = some (.inr (0, 5)) := rfl
theorem zg_X4_112 : zGet RX4 112 7 1 := ⟨RX8, TX8, 7, rfl, by decide, zu_X8, Or.inr ⟨_, zw_114⟩⟩
theorem zs_78 : zShape[78]? = some (.inr (0, 5)) := rfl
theorem zg_X4_114 : zGet RX4 114 7 2 := ⟨RX8, TX8, 7, rfl, by decide, zu_X8, Or.inr ⟨_, zw_119⟩⟩
theorem zs_79 : zShape[79]? = some (.inr (0, 5)) := rfl
theorem zg_X4_116 : zGet RX4 116 7 3 := ⟨RX8, TX8, 7, rfl, by decide, zu_X8, Or.inr ⟨_, zw_126⟩⟩
theorem zs_80 : zShape[80]? = some (.inr (0, 5)) := rfl
theorem zg_X4_118 : zGet RX4 118 7 4 := ⟨RX8, TX8, 7, rfl, by decide, zu_X8, Or.inr ⟨_, zw_130⟩⟩
theorem zs_81 : zShape[81]? = some (.inr (0, 5)) := rfl
theorem zg_X4_121 : zGet RX4 121 7 5 := ⟨RX8, TX8, 7, rfl, by decide, zu_X8, Or.inr ⟨_, zw_136⟩⟩
theorem zs_82 : zShape[82]? = some (.inr (0, 5)) := rfl
theorem zp_X4_40 : zPut RX4 40 7 6 .int := ⟨RX8, TX8, 7, tyX8, rfl, by decide, zu_X8, Or.inr ⟨_, zw_141⟩, tyX8_ok, nmX8, rfl, by decide +kernel⟩
theorem zi_X4_128 : zInv RX4 128 jX9_takeWord 1 := ⟨zw_728, zw_711, zw_712, zw_2, zw_713, by decide, by decide, by decide +kernel, by decide⟩
theorem zi_X4_131 : zInv RX4 131 jX9_takeLetters 1 := ⟨zw_729, zw_730, zw_731, zw_2, zw_732, by decide, by decide, by decide +kernel, by decide⟩
theorem zg_X4_137 : zGet RX4 137 3 2 := ⟨RX3, TX3, 16, rfl, by decide, zu_X3, Or.inr ⟨_, zw_190⟩⟩
theorem zs_85 : zShape[85]? = some (.inr (0, 6)) := rfl
theorem zg_X4_139 : zGet RX4 139 3 3 := ⟨RX3, TX3, 16, rfl, by decide, zu_X3, Or.inr ⟨_, zw_193⟩⟩
theorem zs_86 : zShape[86]? = some (.inr (0, 6)) := rfl
theorem zg_X4_141 : zGet RX4 141 3 10 := ⟨RX3, TX3, 16, rfl, by decide, zu_X3, Or.inr ⟨_, zw_220⟩⟩
theorem zp_X4_141 : zPut RX4 141 3 10 .int := ⟨RX3, TX3, 16, tyX3, rfl, by decide, zu_X3, Or.inr ⟨_, zw_220⟩, tyX3_ok, nmX3, rfl, by decide +kernel⟩
theorem zp_X4_52 : zPut RX4 52 3 6 .int := ⟨RX3, TX3, 16, tyX3, rfl, by decide, zu_X3, Or.inr ⟨_, zw_205⟩, tyX3_ok, nmX3, rfl, by decide +kernel⟩
theorem zg_X4_143 : zGet RX4 143 3 4 := ⟨RX3, TX3, 16, rfl, by decide, zu_X3, Or.inr ⟨_, zw_197⟩⟩
theorem zs_87 : zShape[87]? = some (.inr (0, 8)) := rfl
theorem zp_X4_60 : zPut RX4 60 3 7 .int := ⟨RX3, TX3, 16, tyX3, rfl, by decide, zu_X3, Or.inr ⟨_, zw_208⟩, tyX3_ok, nmX3, rfl, by decide +kernel⟩
theorem zg_X4_148 : zGet RX4 148 3 5 := ⟨RX3, TX3, 16, rfl, by decide, zu_X3, Or.inr ⟨_, zw_201⟩⟩
theorem zs_88 : zShape[88]? = some (.inr (0, 4)) := rfl
theorem zp_X4_68 : zPut RX4 68 3 8 .int := ⟨RX3, TX3, 16, tyX3, rfl, by decide, zu_X3, Or.inr ⟨_, zw_214⟩, tyX3_ok, nmX3, rfl, by decide +kernel⟩
theorem zg_X11_10 : zGet RX11 10 10 0 := ⟨RX11, TX11, 13, rfl, by decide, zu_X11, Or.inl zw_381⟩
theorem zs_19 : zShape[19]? = some (.inl (10, [some 20, some 22, some 29, some 61, some 75, some 89, some 59, some 43, some 48, some 53, some 56, none, none])) := rfl
theorem zg_X11_82 : zGet RX11 82 8 1 := ⟨RX9, TX9, 5, rfl, by decide, zu_X9, Or.inr ⟨_, zw_46⟩⟩
theorem zi_X11_85 : zInv RX11 85 jX9_add 1 := ⟨zw_425, zw_426, zw_427, zw_2, zw_428, by decide, by decide, by decide +kernel, by decide⟩
theorem zp_X11_82 : zPut RX11 82 8 1 .int := ⟨RX9, TX9, 5, tyX9, rfl, by decide, zu_X9, Or.inr ⟨_, zw_46⟩, tyX9_ok, nmX9, rfl, by decide +kernel⟩
theorem zg_X11_33 : zGet RX11 33 10 4 := ⟨RX11, TX11, 13, rfl, by decide, zu_X11, Or.inl zw_385⟩
theorem zg_X11_29 : zGet RX11 29 10 3 := ⟨RX11, TX11, 13, rfl, by decide, zu_X11, Or.inl zw_384⟩
theorem zi_X11_89 : zInv RX11 89 jX3_copy 1 := ⟨zw_441, zw_442, zw_443, zw_4, zw_444, by decide, by decide, by decide +kernel, by decide⟩
theorem zi_X11_93 : zInvS RX11 93 jX4_read 2 := ⟨zw_630, zw_631, zw_14, zw_632, by decide, by decide, by decide +kernel, by decide⟩
theorem zg_X11_99 : zGet RX11 99 8 3 := ⟨RX9, TX9, 5, rfl, by decide, zu_X9, Or.inr ⟨_, zw_49⟩⟩
theorem zp_X11_74 : zPut RX11 74 10 11 .int := ⟨RX11, TX11, 13, tyX11, rfl, by decide, zu_X11, Or.inl zw_392, tyX11_ok, nmX11, rfl, by decide +kernel⟩
theorem zi_X11_102 : zInv RX11 102 jX9_useUp 0 := ⟨zw_758, zw_759, zw_760, zw_2, zw_761, by decide, by decide, by decide +kernel, by decide⟩
theorem zg_X11_74 : zGet RX11 74 10 11 := ⟨RX11, TX11, 13, rfl, by decide, zu_X11, Or.inl zw_392⟩
theorem zg_X11_113 : zGet RX11 113 3 9 := ⟨RX3, TX3, 16, rfl, by decide, zu_X3, Or.inr ⟨_, zw_218⟩⟩
theorem zp_X11_113 : zPut RX11 113 3 9 .int := ⟨RX3, TX3, 16, tyX3, rfl, by decide, zu_X3, Or.inr ⟨_, zw_218⟩, tyX3_ok, nmX3, rfl, by decide +kernel⟩
theorem zg_X11_42 : zGet RX11 42 10 6 := ⟨RX11, TX11, 13, rfl, by decide, zu_X11, Or.inl zw_387⟩
theorem zi_X11_121 : zInv RX11 121 jX5_forget 0 := ⟨zw_613, zw_614, zw_615, zw_7, zw_616, by decide, by decide, by decide +kernel, by decide⟩
theorem zat_X11_120 : ∀ w ∈ vx_atS RX11 120 "java/lang/UnsupportedOperationException" ["java/lang/RuntimeException", "java/lang/Exception"], w ∈ zT := zall_zT (by decide +kernel)
theorem zt_X11_116_118 : zThr RX11 116 118 120 "java/lang/UnsupportedOperationException" ["java/lang/RuntimeException", "java/lang/Exception"] 17 := ⟨by decide +kernel, by decide +kernel, by decide, zw_831, zw_23, zat_X11_120, by decide +kernel, _, _, rfl⟩
theorem zat_X11_110 : ∀ w ∈ vx_atS RX11 110 "java/lang/IllegalArgumentException" ["java/lang/RuntimeException", "java/lang/Exception"], w ∈ zT := zall_zT (by decide +kernel)
theorem zt_X11_106_108 : zThr RX11 106 108 110 "java/lang/IllegalArgumentException" ["java/lang/RuntimeException", "java/lang/Exception"] 16 := ⟨by decide +kernel, by decide +kernel, by decide, zw_762, zw_22, zat_X11_110, by decide +kernel, _, _, rfl⟩
theorem zg_X11_19 : zGet RX11 19 10 1 := ⟨RX11, TX11, 13, rfl, by decide, zu_X11, Or.inl zw_382⟩
theorem zi_X11_124 : zInv RX11 124 jX6_read 1 := ⟨zw_854, zw_855, zw_856, zw_3, zw_857, by decide, by decide, by decide +kernel, by decide⟩
theorem zg_X11_49 : zGet RX11 49 10 7 := ⟨RX11, TX11, 13, rfl, by decide, zu_X11, Or.inl zw_388⟩
theorem zg_X11_127 : zGet RX11 127 1 0 := ⟨RX1, TX1, 5, rfl, by decide, zu_X1, Or.inr ⟨_, zw_303⟩⟩
theorem zi_X11_130 : zInv RX11 130 jX6_copy 1 := ⟨zw_604, zw_605, zw_606, zw_3, zw_607, by decide, by decide, by decide +kernel, by decide⟩
theorem zg_X11_133 : zGet RX11 133 5 6 := ⟨RX6, TX6, 8, rfl, by decide, zu_X6, Or.inr ⟨_, zw_76⟩⟩
theorem zi_X11_136 : zInv RX11 136 jX11_needWitness 1 := ⟨zw_931, zw_933, zws_2_0, zw_1, zw_934, by decide, by decide, by decide +kernel, by decide⟩
theorem zg_X11_139 : zGet RX11 139 3 0 := ⟨RX3, TX3, 16, rfl, by decide, zu_X3, Or.inr ⟨_, zw_184⟩⟩
theorem zg_X11_143 : zGet RX11 143 7 0 := ⟨RX8, TX8, 7, rfl, by decide, zu_X8, Or.inr ⟨_, zw_111⟩⟩
theorem zs_63 : zShape[63]? = some (.inr (0, 5)) := rfl
theorem zg_X11_149 : zGet RX11 149 7 1 := ⟨RX8, TX8, 7, rfl, by decide, zu_X8, Or.inr ⟨_, zw_116⟩⟩
theorem zs_64 : zShape[64]? = some (.inr (0, 5)) := rfl
theorem zg_X11_152 : zGet RX11 152 7 2 := ⟨RX8, TX8, 7, rfl, by decide, zu_X8, Or.inr ⟨_, zw_121⟩⟩
theorem zs_65 : zShape[65]? = some (.inr (0, 5)) := rfl
theorem zg_X11_155 : zGet RX11 155 7 3 := ⟨RX8, TX8, 7, rfl, by decide, zu_X8, Or.inr ⟨_, zw_127⟩⟩
theorem zg_X11_158 : zGet RX11 158 7 4 := ⟨RX8, TX8, 7, rfl, by decide, zu_X8, Or.inr ⟨_, zw_132⟩⟩
theorem zi_X11_161 : zInv RX11 161 jX1_fallsBy 2 := ⟨zw_951, zw_467, zw_468, zw_8, zw_469, by decide, by decide, by decide +kernel, by decide⟩
theorem zi_X11_165 : zInv RX11 165 jX11_shareOf 1 := ⟨zw_952, zw_954, zws_2_1, zw_1, zw_955, by decide, by decide, by decide +kernel, by decide⟩
theorem zi_X11_169 : zInv RX11 169 jX3_touching 1 := ⟨zw_956, zw_957, zw_958, zw_4, zw_959, by decide, by decide, by decide +kernel, by decide⟩
theorem zi_X11_172 : zInv RX11 172 jX11_foundOut 1 := ⟨zw_960, zw_962, zws_2_2, zw_1, zw_963, by decide, by decide, by decide +kernel, by decide⟩
theorem zi_X11_180 : zInv RX11 180 jX11_needThing 1 := ⟨zw_991, zw_993, zws_2_3, zw_1, zw_994, by decide, by decide, by decide +kernel, by decide⟩
theorem zg_X11_183 : zGet RX11 183 3 2 := ⟨RX3, TX3, 16, rfl, by decide, zu_X3, Or.inr ⟨_, zw_191⟩⟩
theorem zs_71 : zShape[71]? = some (.inr (0, 6)) := rfl
theorem zg_X11_186 : zGet RX11 186 3 3 := ⟨RX3, TX3, 16, rfl, by decide, zu_X3, Or.inr ⟨_, zw_194⟩⟩
theorem zs_72 : zShape[72]? = some (.inr (0, 6)) := rfl
theorem zg_X11_189 : zGet RX11 189 3 10 := ⟨RX3, TX3, 16, rfl, by decide, zu_X3, Or.inr ⟨_, zw_221⟩⟩
theorem zi_X11_192 : zInv RX11 192 jX3_leaning 1 := ⟨zw_996, zw_997, zw_998, zw_4, zw_999, by decide, by decide, by decide +kernel, by decide⟩
theorem zg_X11_56 : zGet RX11 56 10 8 := ⟨RX11, TX11, 13, rfl, by decide, zu_X11, Or.inl zw_389⟩
theorem zi_X11_195 : zInv RX11 195 jX10_knownBy 3 := ⟨zw_1000, zw_1001, zw_1002, zw_9, zw_1003, by decide, by decide, by decide +kernel, by decide⟩
theorem zi_X11_201 : zInv RX11 201 jX11_needQuestion 1 := ⟨zw_1020, zw_1022, zws_2_5, zw_1, zw_1023, by decide, by decide, by decide +kernel, by decide⟩
theorem zg_X11_204 : zGet RX11 204 3 4 := ⟨RX3, TX3, 16, rfl, by decide, zu_X3, Or.inr ⟨_, zw_198⟩⟩
theorem zi_X11_207 : zInv RX11 207 jX11_needWoman 1 := ⟨zw_1032, zw_1034, zws_2_6, zw_1, zw_1035, by decide, by decide, by decide +kernel, by decide⟩
theorem zg_X11_210 : zGet RX11 210 3 5 := ⟨RX3, TX3, 16, rfl, by decide, zu_X3, Or.inr ⟨_, zw_203⟩⟩
theorem zi_X11_213 : zInv RX11 213 jX11_needPlace 1 := ⟨zw_1044, zw_1046, zws_2_7, zw_1, zw_1047, by decide, by decide, by decide +kernel, by decide⟩
theorem zg_X11_216 : zGet RX11 216 7 5 := ⟨RX8, TX8, 7, rfl, by decide, zu_X8, Or.inr ⟨_, zw_137⟩⟩
theorem zi_X11_221 : zInv RX11 221 jX5_remember 1 := ⟨zw_1057, zw_1058, zw_1059, zw_7, zw_1060, by decide, by decide, by decide +kernel, by decide⟩
theorem zi_X11_224 : zInv RX11 224 jX1_live 2 := ⟨zw_1062, zw_1063, zw_1064, zw_8, zw_1065, by decide, by decide, by decide +kernel, by decide⟩
theorem zt_X11_106_219 : zThr RX11 106 219 110 "java/lang/IllegalArgumentException" ["java/lang/RuntimeException", "java/lang/Exception"] 43 := ⟨by decide +kernel, by decide +kernel, by decide, zw_762, zw_22, zat_X11_110, by decide +kernel, _, _, rfl⟩
theorem zi_X11_227 : zInv RX11 227 jX1_utter 3 := ⟨zw_1098, zw_1073, zw_1074, zw_8, zw_1075, by decide, by decide, by decide +kernel, by decide⟩
theorem zi_X11_231 : zInv RX11 231 jX11_needTwo 2 := ⟨zw_1106, zw_1108, zws_2_9, zw_1, zw_1109, by decide, by decide, by decide +kernel, by decide⟩
theorem zi_X11_235 : zInv RX11 235 jX8_swap 2 := ⟨zw_1111, zw_1112, zw_1113, zw_5, zw_1114, by decide, by decide, by decide +kernel, by decide⟩
theorem zm_X11_240 : zMath RX11 240 Lib.Math.min.name Lib.Math.min.code := ⟨zw_1123, zw_527, zw_25, zw_528⟩
theorem zt_X11_106_238 : zThr RX11 106 238 110 "java/lang/IllegalArgumentException" ["java/lang/RuntimeException", "java/lang/Exception"] 45 := ⟨by decide +kernel, by decide +kernel, by decide, zw_762, zw_22, zat_X11_110, by decide +kernel, _, _, rfl⟩
theorem zg_X11_248 : zGet RX11 248 3 11 := ⟨RX3, TX3, 16, rfl, by decide, zu_X3, Or.inr ⟨_, zw_227⟩⟩
theorem zp_X11_248 : zPut RX11 248 3 11 .int := ⟨RX3, TX3, 16, tyX3, rfl, by decide, zu_X3, Or.inr ⟨_, zw_227⟩, tyX3_ok, nmX3, rfl, by decide +kernel⟩
theorem zt_X11_106_246 : zThr RX11 106 246 110 "java/lang/IllegalArgumentException" ["java/lang/RuntimeException", "java/lang/Exception"] 46 := ⟨by decide +kernel, by decide +kernel, by decide, zw_762, zw_22, zat_X11_110, by decide +kernel, _, _, rfl⟩
theorem zp_X11_189 : zPut RX11 189 3 10 .int := ⟨RX3, TX3, 16, tyX3, rfl, by decide, zu_X3, Or.inr ⟨_, zw_221⟩, tyX3_ok, nmX3, rfl, by decide +kernel⟩
theorem zi_X11_251 : zInv RX11 251 jX3_allThings 0 := ⟨zw_1146, zw_1147, zw_1148, zw_4, zw_1149, by decide, by decide, by decide +kernel, by decide⟩
theorem zt_X11_106_254 : zThr RX11 106 254 110 "java/lang/IllegalArgumentException" ["java/lang/RuntimeException", "java/lang/Exception"] 47 := ⟨by decide +kernel, by decide +kernel, by decide, zw_762, zw_22, zat_X11_110, by decide +kernel, _, _, rfl⟩
theorem zi_X11_256 : zInv RX11 256 jX1_raise 3 := ⟨zw_571, zw_511, zw_512, zw_8, zw_513, by decide, by decide, by decide +kernel, by decide⟩
theorem zg_X11_260 : zGet RX11 260 1 4 := ⟨RX1, TX1, 5, rfl, by decide, zu_X1, Or.inr ⟨_, zw_311⟩⟩
theorem zg_X11_263 : zGet RX11 263 7 6 := ⟨RX8, TX8, 7, rfl, by decide, zu_X8, Or.inr ⟨_, zw_145⟩⟩
theorem zi_X11_266 : zInv RX11 266 jX1_isSeen 3 := ⟨zw_1172, zw_577, zw_578, zw_8, zw_579, by decide, by decide, by decide +kernel, by decide⟩
theorem zi_X11_270 : zInv RX11 270 jX1_givesAway 1 := ⟨zw_1180, zw_1181, zw_1182, zw_8, zw_1183, by decide, by decide, by decide +kernel, by decide⟩
theorem zi_X11_274 : zInvS RX11 274 jX11_readBy 2 := ⟨zw_1191, zw_581, zw_1, zw_582, by decide, by decide, by decide +kernel, by decide⟩
theorem zi_X11_277 : zInv RX11 277 jX8_allShades 0 := ⟨zw_458, zw_459, zw_460, zw_5, zw_461, by decide, by decide, by decide +kernel, by decide⟩
theorem zi_X11_280 : zInv RX11 280 jX1_fall 1 := ⟨zw_462, zw_463, zw_464, zw_8, zw_465, by decide, by decide, by decide +kernel, by decide⟩
theorem zi_X11_283 : zInv RX11 283 jX11_fittingWorlds 0 := ⟨zw_1199, zw_1201, zws_2_10, zw_1, zw_1202, by decide, by decide, by decide +kernel, by decide⟩
theorem zi_X11_287 : zInvS RX11 287 jJ13_bitCount_95d88 1 := ⟨zw_1222, zw_1223, zw_29, zw_1224, by decide, by decide, by decide +kernel, by decide⟩
theorem zi_X11_293 : zInv RX11 293 jX3_worldCount 0 := ⟨zw_1235, zw_506, zw_507, zw_4, zw_508, by decide, by decide, by decide +kernel, by decide⟩
theorem zg_X11_296 : zGet RX11 296 3 7 := ⟨RX3, TX3, 16, rfl, by decide, zu_X3, Or.inr ⟨_, zw_211⟩⟩
theorem zi_X11_299 : zInv RX11 299 jX10_greatestPart 4 := ⟨zw_1250, zw_1251, zw_1252, zw_9, zw_1253, by decide, by decide, by decide +kernel, by decide⟩
theorem zi_X11_303 : zInv RX11 303 jX10_hidden 2 := ⟨zw_497, zw_498, zw_499, zw_9, zw_500, by decide, by decide, by decide +kernel, by decide⟩
theorem zi_X11_307 : zInv RX11 307 jX10_partsOf 3 := ⟨zw_1262, zw_1263, zw_1264, zw_9, zw_1265, by decide, by decide, by decide +kernel, by decide⟩
theorem zi_X11_310 : zInv RX11 310 jX11_touchedBy 1 := ⟨zw_1273, zw_1275, zws_2_13, zw_1, zw_1276, by decide, by decide, by decide +kernel, by decide⟩
theorem zi_X11_313 : zInvS RX11 313 jX0_sharedIn 3 := ⟨zw_1278, zw_1279, zw_10, zw_1280, by decide, by decide, by decide +kernel, by decide⟩
theorem zg_X11_63 : zGet RX11 63 10 9 := ⟨RX11, TX11, 13, rfl, by decide, zu_X11, Or.inl zw_390⟩
theorem zi_X11_317 : zInv RX11 317 jX0_search 2 := ⟨zw_1288, zw_1289, zw_1290, zw_10, zw_1291, by decide, by decide, by decide +kernel, by decide⟩
theorem zg_X11_321 : zGet RX11 321 0 3 := ⟨RX0, TX0, 4, rfl, by decide, zu_X0, Or.inr ⟨_, zw_353⟩⟩
theorem zg_X11_324 : zGet RX11 324 0 0 := ⟨RX0, TX0, 4, rfl, by decide, zu_X0, Or.inr ⟨_, zw_349⟩⟩
theorem zg_X11_327 : zGet RX11 327 3 8 := ⟨RX3, TX3, 16, rfl, by decide, zu_X3, Or.inr ⟨_, zw_216⟩⟩
theorem zi_X11_330 : zInv RX11 330 jX11_needRows 4 := ⟨zw_1203, zw_1205, zws_2_11, zw_1, zw_1206, by decide, by decide, by decide +kernel, by decide⟩
theorem zi_X11_334 : zInvS RX11 334 jJ6_bitCount_0f7a4 1 := ⟨zw_553, zw_554, zw_28, zw_555, by decide, by decide, by decide +kernel, by decide⟩
theorem zi_X11_338 : zInv RX11 338 jX11_allMayBe 2 := ⟨zw_1320, zw_1322, zws_3_1, zw_1, zw_1323, by decide, by decide, by decide +kernel, by decide⟩
theorem zi_X11_342 : zInv RX11 342 jX11_shadesLeft 3 := ⟨zw_1324, zw_1326, zws_3_2, zw_1, zw_1327, by decide, by decide, by decide +kernel, by decide⟩
theorem zg_X11_346 : zGet RX11 346 1 2 := ⟨RX1, TX1, 5, rfl, by decide, zu_X1, Or.inr ⟨_, zw_307⟩⟩
theorem zi_X11_349 : zInv RX11 349 jX1_ownOf 2 := ⟨zw_1343, zw_519, zw_520, zw_8, zw_521, by decide, by decide, by decide +kernel, by decide⟩
theorem zi_X11_352 : zInv RX11 352 jX1_isFoundOut 2 := ⟨zw_964, zw_965, zw_966, zw_8, zw_967, by decide, by decide, by decide +kernel, by decide⟩
theorem zg_X11_356 : zGet RX11 356 1 1 := ⟨RX1, TX1, 5, rfl, by decide, zu_X1, Or.inr ⟨_, zw_305⟩⟩
theorem zi_X11_357 : zInv RX11 357 jX1_wouldBePale 1 := ⟨zw_545, zw_546, zw_547, zw_8, zw_548, by decide, by decide, by decide +kernel, by decide⟩
theorem zg_X11_70 : zGet RX11 70 10 10 := ⟨RX11, TX11, 13, rfl, by decide, zu_X11, Or.inl zw_391⟩
theorem zi_X11_361 : zInv RX11 361 jX2_search 1 := ⟨zw_1358, zw_1359, zw_1360, zw_11, zw_1361, by decide, by decide, by decide +kernel, by decide⟩
theorem zg_X11_366 : zGet RX11 366 2 0 := ⟨RX2, TX2, 3, rfl, by decide, zu_X2, Or.inr ⟨_, zw_370⟩⟩
theorem zg_X11_363 : zGet RX11 363 2 2 := ⟨RX2, TX2, 3, rfl, by decide, zu_X2, Or.inr ⟨_, zw_373⟩⟩
theorem zm_X11_367 : zMath RX11 367 Lib.Math.max.name Lib.Math.max.code := ⟨zw_1328, zw_483, zw_25, zw_484⟩
theorem zi_X11_370 : zInvS RX11 370 jX11_witnessHas 4 := ⟨zw_1386, zw_1387, zw_1, zw_1388, by decide, by decide, by decide +kernel, by decide⟩
theorem zi_X11_373 : zInvS RX11 373 jX11_courtHas 3 := ⟨zw_1389, zw_1390, zw_1, zw_1391, by decide, by decide, by decide +kernel, by decide⟩
theorem zi_X11_378 : zInv RX11 378 jX11_waysOf 2 := ⟨zw_1400, zw_1402, zws_3_4, zw_1, zw_1403, by decide, by decide, by decide +kernel, by decide⟩
theorem zg_X11_384 : zGet RX11 384 3 6 := ⟨RX3, TX3, 16, rfl, by decide, zu_X3, Or.inr ⟨_, zw_206⟩⟩
theorem zi_X11_387 : zInv RX11 387 jX1_seeingWomen 1 := ⟨zw_572, zw_573, zw_574, zw_8, zw_575, by decide, by decide, by decide +kernel, by decide⟩
theorem zi_X11_390 : zInv RX11 390 jX11_needAhead 1 := ⟨zw_1412, zw_1414, zws_3_5, zw_1, zw_1415, by decide, by decide, by decide +kernel, by decide⟩
theorem zi_X11_393 : zInv RX11 393 jX8_redOnes 0 := ⟨zw_1423, zw_1424, zw_1425, zw_5, zw_1426, by decide, by decide, by decide +kernel, by decide⟩
theorem zp_X11_396 : zPut RX11 396 3 15 .int := ⟨RX3, TX3, 16, tyX3, rfl, by decide, zu_X3, Or.inr ⟨_, zw_240⟩, tyX3_ok, nmX3, rfl, by decide +kernel⟩
theorem zg_X11_399 : zGet RX11 399 3 1 := ⟨RX3, TX3, 16, rfl, by decide, zu_X3, Or.inr ⟨_, zw_188⟩⟩
theorem zg_X11_403 : zGet RX11 403 6 1 := ⟨RX7, TX7, 3, rfl, by decide, zu_X7, Or.inr ⟨_, zw_169⟩⟩
theorem zs_69 : zShape[69]? = some (.inl (6, [some 70, none, none])) := rfl
theorem zi_X11_406 : zInv RX11 406 jX7_read 2 := ⟨zw_1441, zw_1442, zw_1443, zw_6, zw_1444, by decide, by decide, by decide +kernel, by decide⟩
theorem zg_X11_396 : zGet RX11 396 3 15 := ⟨RX3, TX3, 16, rfl, by decide, zu_X3, Or.inr ⟨_, zw_240⟩⟩
theorem zi_X11_410 : zInv RX11 410 jX5_undoInto 1 := ⟨zw_595, zw_596, zw_597, zw_7, zw_598, by decide, by decide, by decide +kernel, by decide⟩
theorem zg_X11_36 : zGet RX11 36 10 5 := ⟨RX11, TX11, 13, rfl, by decide, zu_X11, Or.inl zw_386⟩
theorem zs_89 : zShape[89]? = some (.inl (3, [some 90, some 97, some 99, some 100, some 101, some 102, none, none, none, none, none, none, none, none, none, none])) := rfl
theorem zg_X11_23 : zGet RX11 23 10 2 := ⟨RX11, TX11, 13, rfl, by decide, zu_X11, Or.inl zw_383⟩
theorem zs_29 : zShape[29]? = some (.inl (5, [some 30, some 31, some 32, some 33, some 34, some 35, none, none])) := rfl
theorem zp_X11_78 : zPut RX11 78 10 12 .boolean := ⟨RX11, TX11, 13, tyX11, rfl, by decide, zu_X11, Or.inl zw_393, tyX11_ok, nmX11, rfl, by decide +kernel⟩
theorem zg_X11_78 : zGet RX11 78 10 12 := ⟨RX11, TX11, 13, rfl, by decide, zu_X11, Or.inl zw_393⟩
theorem zg_X11_414 : zGet RX11 414 3 14 := ⟨RX3, TX3, 16, rfl, by decide, zu_X3, Or.inr ⟨_, zw_238⟩⟩
theorem zg_X11_417 : zGet RX11 417 4 1 := ⟨RX5, TX5, 3, rfl, by decide, zu_X5, Or.inr ⟨_, zw_285⟩⟩
theorem zat_X11_422 : ∀ w ∈ vx_atS RX11 422 "java/lang/IndexOutOfBoundsException" ["java/lang/RuntimeException", "java/lang/Exception"], w ∈ zT := zall_zT (by decide +kernel)
theorem zt_X11_418_420 : zThr RX11 418 420 422 "java/lang/IndexOutOfBoundsException" ["java/lang/RuntimeException", "java/lang/Exception"] 36 := ⟨by decide +kernel, by decide +kernel, by decide, zw_935, zw_24, zat_X11_422, by decide +kernel, _, _, rfl⟩
theorem zt_X11_106_423 : zThr RX11 106 423 110 "java/lang/IllegalArgumentException" ["java/lang/RuntimeException", "java/lang/Exception"] 44 := ⟨by decide +kernel, by decide +kernel, by decide, zw_762, zw_22, zat_X11_110, by decide +kernel, _, _, rfl⟩
theorem zt_X11_418_425 : zThr RX11 418 425 422 "java/lang/IndexOutOfBoundsException" ["java/lang/RuntimeException", "java/lang/Exception"] 38 := ⟨by decide +kernel, by decide +kernel, by decide, zw_935, zw_24, zat_X11_422, by decide +kernel, _, _, rfl⟩
theorem zt_X11_418_427 : zThr RX11 418 427 422 "java/lang/IndexOutOfBoundsException" ["java/lang/RuntimeException", "java/lang/Exception"] 40 := ⟨by decide +kernel, by decide +kernel, by decide, zw_935, zw_24, zat_X11_422, by decide +kernel, _, _, rfl⟩
theorem zt_X11_418_429 : zThr RX11 418 429 422 "java/lang/IndexOutOfBoundsException" ["java/lang/RuntimeException", "java/lang/Exception"] 41 := ⟨by decide +kernel, by decide +kernel, by decide, zw_935, zw_24, zat_X11_422, by decide +kernel, _, _, rfl⟩
theorem zt_X11_418_431 : zThr RX11 418 431 422 "java/lang/IndexOutOfBoundsException" ["java/lang/RuntimeException", "java/lang/Exception"] 42 := ⟨by decide +kernel, by decide +kernel, by decide, zw_935, zw_24, zat_X11_422, by decide +kernel, _, _, rfl⟩
theorem zi_X11_433 : zInv RX11 433 jX9_told 2 := ⟨zw_1207, zw_1208, zw_1209, zw_2, zw_1210, by decide, by decide, by decide +kernel, by decide⟩
theorem zt_X11_106_436 : zThr RX11 106 436 110 "java/lang/IllegalArgumentException" ["java/lang/RuntimeException", "java/lang/Exception"] 48 := ⟨by decide +kernel, by decide +kernel, by decide, zw_762, zw_22, zat_X11_110, by decide +kernel, _, _, rfl⟩
theorem zi_X11_438 : zInv RX11 438 jX10_fitting 4 := ⟨zw_1212, zw_1213, zw_1214, zw_9, zw_1215, by decide, by decide, by decide +kernel, by decide⟩
theorem zi_X11_442 : zInv RX11 442 jX3_weighs 3 := ⟨zw_1277, zw_515, zw_516, zw_4, zw_517, by decide, by decide, by decide +kernel, by decide⟩
theorem zg_X11_445 : zGet RX11 445 3 12 := ⟨RX3, TX3, 16, rfl, by decide, zu_X3, Or.inr ⟨_, zw_231⟩⟩
theorem zg_X12_3 : zGet RX12 3 11 0 := ⟨RX12, TX12, 27, rfl, by decide, zu_X12, Or.inl zw_1465⟩
theorem zs_0 : zShape[0]? = some (.inl (11, [none, some 1, some 2, some 3, some 4, some 5, none, none, some 6, none, none, none, none, none, none, some 7, none, some 8, some 9, some 10, some 11, some 12, some 13, some 14, some 15, some 16, some 17])) := rfl
theorem zp_X12_3 : zPut RX12 3 11 0 .int := ⟨RX12, TX12, 27, tyX12, rfl, by decide, zu_X12, Or.inl zw_1465, tyX12_ok, nmX12, rfl, by decide +kernel⟩
theorem zp_X12_71 : zPut RX12 71 11 6 .boolean := ⟨RX12, TX12, 27, tyX12, rfl, by decide, zu_X12, Or.inl zw_1471, tyX12_ok, nmX12, rfl, by decide +kernel⟩
theorem zg_X12_17 : zGet RX12 17 11 2 := ⟨RX12, TX12, 27, rfl, by decide, zu_X12, Or.inl zw_1467⟩
theorem zg_X12_13 : zGet RX12 13 11 1 := ⟨RX12, TX12, 27, rfl, by decide, zu_X12, Or.inl zw_1466⟩
theorem zs_1 : zShape[1]? = some (.inr (0, 2070)) := rfl
theorem zs_2 : zShape[2]? = some (.inr (0, 1221)) := rfl
theorem zg_X12_71 : zGet RX12 71 11 6 := ⟨RX12, TX12, 27, rfl, by decide, zu_X12, Or.inl zw_1471⟩
theorem zp_X12_75 : zPut RX12 75 11 7 .int := ⟨RX12, TX12, 27, tyX12, rfl, by decide, zu_X12, Or.inl zw_1472, tyX12_ok, nmX12, rfl, by decide +kernel⟩
theorem zg_X12_75 : zGet RX12 75 11 7 := ⟨RX12, TX12, 27, rfl, by decide, zu_X12, Or.inl zw_1472⟩
theorem zg_X12_26 : zGet RX12 26 11 5 := ⟨RX12, TX12, 27, rfl, by decide, zu_X12, Or.inl zw_1470⟩
theorem zs_5 : zShape[5]? = some (.inr (0, 4464)) := rfl
theorem zg_X12_23 : zGet RX12 23 11 4 := ⟨RX12, TX12, 27, rfl, by decide, zu_X12, Or.inl zw_1469⟩
theorem zs_4 : zShape[4]? = some (.inr (0, 372)) := rfl
theorem zi_X12_78 : zInvS RX12 78 jX12_at 2 := ⟨zw_1639, zw_1640, zw_12, zw_1641, by decide, by decide, by decide +kernel, by decide⟩
theorem zi_X12_82 : zInvS RX12 82 jX12_thingAt 2 := ⟨zw_1660, zw_1661, zw_12, zw_1662, by decide, by decide, by decide +kernel, by decide⟩
theorem zi_X12_85 : zInv RX12 85 jX12_things 0 := ⟨zw_1647, zw_1649, zws_4_5, zw_12, zw_1650, by decide, by decide, by decide +kernel, by decide⟩
theorem zi_X12_89 : zInv RX12 89 jX12_ofThing 2 := ⟨zw_1797, zw_1799, zws_6_1, zw_12, zw_1800, by decide, by decide, by decide +kernel, by decide⟩
theorem zi_X12_92 : zInv RX12 92 jX12_witnesses 0 := ⟨zw_1615, zw_1617, zws_3_15, zw_12, zw_1618, by decide, by decide, by decide +kernel, by decide⟩
theorem zi_X12_95 : zInvS RX12 95 jX12_in 3 := ⟨zw_1754, zw_1755, zw_12, zw_1756, by decide, by decide, by decide +kernel, by decide⟩
theorem zi_X12_99 : zInv RX12 99 jX12_questions 0 := ⟨zw_1669, zw_1671, zws_4_8, zw_12, zw_1672, by decide, by decide, by decide +kernel, by decide⟩
theorem zi_X12_102 : zInv RX12 102 jX12_women 0 := ⟨zw_1678, zw_1680, zws_4_10, zw_12, zw_1681, by decide, by decide, by decide +kernel, by decide⟩
theorem zg_X12_106 : zGet RX12 106 11 9 := ⟨RX12, TX12, 27, rfl, by decide, zu_X12, Or.inl zw_1474⟩
theorem zg_X12_36 : zGet RX12 36 11 15 := ⟨RX12, TX12, 27, rfl, by decide, zu_X12, Or.inl zw_1480⟩
theorem zs_7 : zShape[7]? = some (.inr (0, 5)) := rfl
theorem zp_X12_106 : zPut RX12 106 11 9 .int := ⟨RX12, TX12, 27, tyX12, rfl, by decide, zu_X12, Or.inl zw_1474, tyX12_ok, nmX12, rfl, by decide +kernel⟩
theorem zg_X12_29 : zGet RX12 29 11 8 := ⟨RX12, TX12, 27, rfl, by decide, zu_X12, Or.inl zw_1473⟩
theorem zs_6 : zShape[6]? = some (.inr (1, 400)) := rfl
theorem zg_X12_109 : zGet RX12 109 11 10 := ⟨RX12, TX12, 27, rfl, by decide, zu_X12, Or.inl zw_1475⟩
theorem zg_X12_112 : zGet RX12 112 11 11 := ⟨RX12, TX12, 27, rfl, by decide, zu_X12, Or.inl zw_1476⟩
theorem zi_X12_115 : zInv RX12 115 jX12_isAt 2 := ⟨zw_1588, zw_1590, zws_3_9, zw_12, zw_1591, by decide, by decide, by decide +kernel, by decide⟩
theorem zp_X12_119 : zPut RX12 119 11 12 .int := ⟨RX12, TX12, 27, tyX12, rfl, by decide, zu_X12, Or.inl zw_1477, tyX12_ok, nmX12, rfl, by decide +kernel⟩
theorem zp_X12_109 : zPut RX12 109 11 10 .int := ⟨RX12, TX12, 27, tyX12, rfl, by decide, zu_X12, Or.inl zw_1475, tyX12_ok, nmX12, rfl, by decide +kernel⟩
theorem zi_X12_122 : zInv RX12 122 jX12_blanks 0 := ⟨zw_1584, zw_1586, zws_3_8, zw_12, zw_1587, by decide, by decide, by decide +kernel, by decide⟩
theorem zg_X12_119 : zGet RX12 119 11 12 := ⟨RX12, TX12, 27, rfl, by decide, zu_X12, Or.inl zw_1477⟩
theorem zi_X12_125 : zInv RX12 125 jJ0_length_8abf5 0 := ⟨zw_1609, zw_654, zw_655, zw_15, zw_656, by decide, by decide, by decide +kernel, by decide⟩
theorem zi_X12_130 : zInv RX12 130 jJ0_charAt_5068e 1 := ⟨zw_1610, zw_664, zw_665, zw_15, zw_666, by decide, by decide, by decide +kernel, by decide⟩
theorem zi_X12_134 : zInv RX12 134 jX12_letters 0 := ⟨zw_1596, zw_1598, zws_3_11, zw_12, zw_1599, by decide, by decide, by decide +kernel, by decide⟩
theorem zi_X12_137 : zInv RX12 137 jX12_isWord 1 := ⟨zw_1605, zw_1607, zws_3_13, zw_12, zw_1608, by decide, by decide, by decide +kernel, by decide⟩
theorem zi_X12_141 : zInv RX12 141 jX12_number 2 := ⟨zw_1624, zw_1626, zws_4_1, zw_12, zw_1627, by decide, by decide, by decide +kernel, by decide⟩
theorem zi_X12_144 : zInv RX12 144 jX12_passes 1 := ⟨zw_1634, zw_1636, zws_4_3, zw_12, zw_1637, by decide, by decide, by decide +kernel, by decide⟩
theorem zg_X12_33 : zGet RX12 33 11 14 := ⟨RX12, TX12, 27, rfl, by decide, zu_X12, Or.inl zw_1479⟩
theorem zp_X12_112 : zPut RX12 112 11 11 .int := ⟨RX12, TX12, 27, tyX12, rfl, by decide, zu_X12, Or.inl zw_1476, tyX12_ok, nmX12, rfl, by decide +kernel⟩
theorem zi_X12_147 : zInvS RX12 147 jX12_has 2 := ⟨zw_1657, zw_1658, zw_12, zw_1659, by decide, by decide, by decide +kernel, by decide⟩
theorem zi_X12_152 : zInv RX12 152 jX12_behind 3 := ⟨zw_1620, zw_1622, zws_4_0, zw_12, zw_1623, by decide, by decide, by decide +kernel, by decide⟩
theorem zi_X12_160 : zInv RX12 160 jX12_told 1 := ⟨zw_1630, zw_1632, zws_4_2, zw_12, zw_1633, by decide, by decide, by decide +kernel, by decide⟩
theorem zi_X12_170 : zInv RX12 170 jX12_lettersTold 1 := ⟨zw_1653, zw_1655, zws_4_6, zw_12, zw_1656, by decide, by decide, by decide +kernel, by decide⟩
theorem zi_X12_201 : zInv RX12 201 jX12_readNumber 3 := ⟨zw_1684, zw_1686, zws_4_11, zw_12, zw_1687, by decide, by decide, by decide +kernel, by decide⟩
theorem zi_X12_196 : zInv RX12 196 jX12_readWoman 0 := ⟨zw_1674, zw_1676, zws_4_9, zw_12, zw_1677, by decide, by decide, by decide +kernel, by decide⟩
theorem zi_X12_191 : zInv RX12 191 jX12_readAsk 0 := ⟨zw_1665, zw_1667, zws_4_7, zw_12, zw_1668, by decide, by decide, by decide +kernel, by decide⟩
theorem zi_X12_186 : zInv RX12 186 jX12_readThing 0 := ⟨zw_1643, zw_1645, zws_4_4, zw_12, zw_1646, by decide, by decide, by decide +kernel, by decide⟩
theorem zi_X12_180 : zInv RX12 180 jX12_readWitness 0 := ⟨zw_1611, zw_1613, zws_3_14, zw_12, zw_1614, by decide, by decide, by decide +kernel, by decide⟩
theorem zg_X12_210 : zGet RX12 210 11 16 := ⟨RX12, TX12, 27, rfl, by decide, zu_X12, Or.inl zw_1481⟩
theorem zp_X12_210 : zPut RX12 210 11 16 .int := ⟨RX12, TX12, 27, tyX12, rfl, by decide, zu_X12, Or.inl zw_1481, tyX12_ok, nmX12, rfl, by decide +kernel⟩
theorem zi_X12_215 : zInv RX12 215 jX12_wordOfPart 0 := ⟨zw_1735, zw_1737, zws_5_5, zw_12, zw_1738, by decide, by decide, by decide +kernel, by decide⟩
theorem zi_X12_218 : zInv RX12 218 jX12_emits 2 := ⟨zw_1716, zw_1718, zws_5_1, zw_12, zw_1719, by decide, by decide, by decide +kernel, by decide⟩
theorem zi_X12_222 : zInv RX12 222 jX12_readPart 0 := ⟨zw_1731, zw_1733, zws_5_4, zw_12, zw_1734, by decide, by decide, by decide +kernel, by decide⟩
theorem zi_X12_225 : zInv RX12 225 jX12_sign 1 := ⟨zw_1711, zw_1713, zws_5_0, zw_12, zw_1714, by decide, by decide, by decide +kernel, by decide⟩
theorem zi_X12_246 : zInv RX12 246 jX12_readTag 0 := ⟨zw_1720, zw_1722, zws_5_2, zw_12, zw_1723, by decide, by decide, by decide +kernel, by decide⟩
theorem zi_X12_249 : zInv RX12 249 jX12_readSum 0 := ⟨zw_1727, zw_1729, zws_5_3, zw_12, zw_1730, by decide, by decide, by decide +kernel, by decide⟩
theorem zg_X12_235 : zGet RX12 235 11 13 := ⟨RX12, TX12, 27, rfl, by decide, zu_X12, Or.inl zw_1478⟩
theorem zp_X12_235 : zPut RX12 235 11 13 .int := ⟨RX12, TX12, 27, tyX12, rfl, by decide, zu_X12, Or.inl zw_1478, tyX12_ok, nmX12, rfl, by decide +kernel⟩
theorem zi_X12_243 : zInv RX12 243 jX12_readAtom 0 := ⟨zw_1707, zw_1709, zws_4_15, zw_12, zw_1710, by decide, by decide, by decide +kernel, by decide⟩
theorem zi_X12_238 : zInv RX12 238 jX12_readCond 0 := ⟨zw_1699, zw_1701, zws_4_13, zw_12, zw_1702, by decide, by decide, by decide +kernel, by decide⟩
theorem zi_X12_254 : zInv RX12 254 jX12_readAllOf 0 := ⟨zw_1703, zw_1705, zws_4_14, zw_12, zw_1706, by decide, by decide, by decide +kernel, by decide⟩
theorem zi_X12_268 : zInv RX12 268 jX12_readLawLine 1 := ⟨zw_1691, zw_1693, zws_4_12, zw_12, zw_1694, by decide, by decide, by decide +kernel, by decide⟩
theorem zi_X12_265 : zInv RX12 265 jX12_readCourtLine 0 := ⟨zw_1600, zw_1602, zws_3_12, zw_12, zw_1603, by decide, by decide, by decide +kernel, by decide⟩
theorem zi_X12_271 : zInv RX12 271 jX12_uses 0 := ⟨zw_1580, zw_1582, zws_3_7, zw_12, zw_1583, by decide, by decide, by decide +kernel, by decide⟩
theorem zi_X12_274 : zInv RX12 274 jX12_readLine 2 := ⟨zw_1592, zw_1594, zws_3_10, zw_12, zw_1595, by decide, by decide, by decide +kernel, by decide⟩
theorem zi_X12_278 : zInv RX12 278 jX12_readAll 1 := ⟨zw_1576, zw_1578, zws_3_6, zw_12, zw_1579, by decide, by decide, by decide +kernel, by decide⟩
theorem zg_X12_20 : zGet RX12 20 11 3 := ⟨RX12, TX12, 27, rfl, by decide, zu_X12, Or.inl zw_1468⟩
theorem zs_3 : zShape[3]? = some (.inr (0, 1221)) := rfl
theorem zp_X12_33 : zPut RX12 33 11 14 .int := ⟨RX12, TX12, 27, tyX12, rfl, by decide, zu_X12, Or.inl zw_1479, tyX12_ok, nmX12, rfl, by decide +kernel⟩
theorem zi_X12_282 : zInv RX12 282 jX12_throwsIf 2 := ⟨zw_1742, zw_1744, zws_5_6, zw_12, zw_1745, by decide, by decide, by decide +kernel, by decide⟩
theorem zi_X12_285 : zInv RX12 285 jX12_of 2 := ⟨zw_1789, zw_1791, zws_5_15, zw_12, zw_1792, by decide, by decide, by decide +kernel, by decide⟩
theorem zi_X12_288 : zInv RX12 288 jX12_weightOn 2 := ⟨zw_1793, zw_1795, zws_6_0, zw_12, zw_1796, by decide, by decide, by decide +kernel, by decide⟩
theorem zi_X12_291 : zInv RX12 291 jX12_isEdge 1 := ⟨zw_1801, zw_1803, zws_6_2, zw_12, zw_1804, by decide, by decide, by decide +kernel, by decide⟩
theorem zg_X12_39 : zGet RX12 39 11 17 := ⟨RX12, TX12, 27, rfl, by decide, zu_X12, Or.inl zw_1482⟩
theorem zs_8 : zShape[8]? = some (.inr (0, 400)) := rfl
theorem zi_X12_294 : zInv RX12 294 jX12_factOf 4 := ⟨zw_1785, zw_1787, zws_5_14, zw_12, zw_1788, by decide, by decide, by decide +kernel, by decide⟩
theorem zi_X12_298 : zInv RX12 298 jX12_holdsLine 3 := ⟨zw_1781, zw_1783, zws_5_13, zw_12, zw_1784, by decide, by decide, by decide +kernel, by decide⟩
theorem zi_X12_301 : zInv RX12 301 jX12_sumOf 3 := ⟨zw_1777, zw_1779, zws_5_12, zw_12, zw_1780, by decide, by decide, by decide +kernel, by decide⟩
theorem zm_X12_305 : zMath RX12 305 Lib.Math.max.name Lib.Math.max.code := ⟨zw_1805, zw_483, zw_25, zw_484⟩
theorem zm_X12_310 : zMath RX12 310 Lib.Math.min.name Lib.Math.min.code := ⟨zw_1835, zw_527, zw_25, zw_528⟩
theorem zg_X12_42 : zGet RX12 42 11 18 := ⟨RX12, TX12, 27, rfl, by decide, zu_X12, Or.inl zw_1483⟩
theorem zi_X12_313 : zInv RX12 313 jX12_ownOf 2 := ⟨zw_1827, zw_1829, zws_6_8, zw_12, zw_1830, by decide, by decide, by decide +kernel, by decide⟩
theorem zs_9 : zShape[9]? = some (.inr (0, 5)) := rfl
theorem zi_X12_316 : zInv RX12 316 jX12_passesOn 2 := ⟨zw_1831, zw_1833, zws_6_9, zw_12, zw_1834, by decide, by decide, by decide +kernel, by decide⟩
theorem zi_X12_319 : zInv RX12 319 jX12_whatIsSo 0 := ⟨zw_1819, zw_1821, zws_6_6, zw_12, zw_1822, by decide, by decide, by decide +kernel, by decide⟩
theorem zi_X12_322 : zInv RX12 322 jX12_saidBy 1 := ⟨zw_1815, zw_1817, zws_6_5, zw_12, zw_1818, by decide, by decide, by decide +kernel, by decide⟩
theorem zi_X12_325 : zInv RX12 325 jX12_lays 1 := ⟨zw_1823, zw_1825, zws_6_7, zw_12, zw_1826, by decide, by decide, by decide +kernel, by decide⟩
theorem zi_X12_329 : zInv RX12 329 jX12_isTold 4 := ⟨zw_1836, zw_1838, zws_6_10, zw_12, zw_1839, by decide, by decide, by decide +kernel, by decide⟩
theorem zg_X12_45 : zGet RX12 45 11 19 := ⟨RX12, TX12, 27, rfl, by decide, zu_X12, Or.inl zw_1484⟩
theorem zi_X12_333 : zInv RX12 333 jX12_fallsBy 1 := ⟨zw_1773, zw_1775, zws_5_11, zw_12, zw_1776, by decide, by decide, by decide +kernel, by decide⟩
theorem zs_10 : zShape[10]? = some (.inr (0, 5)) := rfl
theorem zi_X12_336 : zInv RX12 336 jX12_drawn 1 := ⟨zw_1806, zw_1808, zws_6_3, zw_12, zw_1809, by decide, by decide, by decide +kernel, by decide⟩
theorem zi_X12_339 : zInv RX12 339 jX12_allFall 0 := ⟨zw_1769, zw_1771, zws_5_10, zw_12, zw_1772, by decide, by decide, by decide +kernel, by decide⟩
theorem zi_X12_342 : zInv RX12 342 jX12_isSaid 2 := ⟨zw_1811, zw_1813, zws_6_4, zw_12, zw_1814, by decide, by decide, by decide +kernel, by decide⟩
theorem zi_X12_345 : zInv RX12 345 jX12_blushes 1 := ⟨zw_1840, zw_1842, zws_6_11, zw_12, zw_1843, by decide, by decide, by decide +kernel, by decide⟩
theorem zi_X12_348 : zInv RX12 348 jX12_oneMoment 1 := ⟨zw_1765, zw_1767, zws_5_9, zw_12, zw_1768, by decide, by decide, by decide +kernel, by decide⟩
theorem zi_X12_351 : zInv RX12 351 jX12_remembers 0 := ⟨zw_1757, zw_1759, zws_5_7, zw_12, zw_1760, by decide, by decide, by decide +kernel, by decide⟩
theorem zi_X12_354 : zInv RX12 354 jX12_goesOn 2 := ⟨zw_1761, zw_1763, zws_5_8, zw_12, zw_1764, by decide, by decide, by decide +kernel, by decide⟩
theorem zi_X12_358 : zInv RX12 358 jX12_readBy 2 := ⟨zw_1876, zw_1878, zws_7_3, zw_12, zw_1879, by decide, by decide, by decide +kernel, by decide⟩
theorem zi_X12_361 : zInv RX12 361 jX12_wouldSee 3 := ⟨zw_1872, zw_1874, zws_7_2, zw_12, zw_1875, by decide, by decide, by decide +kernel, by decide⟩
theorem zi_X12_364 : zInv RX12 364 jX12_risesBy 2 := ⟨zw_1864, zw_1866, zws_7_0, zw_12, zw_1867, by decide, by decide, by decide +kernel, by decide⟩
theorem zi_X12_367 : zInv RX12 367 jX12_someSees 2 := ⟨zw_1868, zw_1870, zws_7_1, zw_12, zw_1871, by decide, by decide, by decide +kernel, by decide⟩
theorem zi_X12_370 : zInv RX12 370 jX12_noWitness 1 := ⟨zw_1848, zw_1850, zws_6_12, zw_12, zw_1851, by decide, by decide, by decide +kernel, by decide⟩
theorem zi_X12_373 : zInv RX12 373 jX12_shadesOfAll 0 := ⟨zw_1852, zw_1854, zws_6_13, zw_12, zw_1855, by decide, by decide, by decide +kernel, by decide⟩
theorem zi_X12_376 : zInv RX12 376 jX12_touchedOf 1 := ⟨zw_1856, zw_1858, zws_6_14, zw_12, zw_1859, by decide, by decide, by decide +kernel, by decide⟩
theorem zi_X12_379 : zInv RX12 379 jX12_foundOut 1 := ⟨zw_1860, zw_1862, zws_6_15, zw_12, zw_1863, by decide, by decide, by decide +kernel, by decide⟩
theorem zi_X12_382 : zInv RX12 382 jX12_noThing 1 := ⟨zw_1884, zw_1886, zws_7_4, zw_12, zw_1887, by decide, by decide, by decide +kernel, by decide⟩
theorem zi_X12_388 : zInv RX12 388 jX12_knownBy 1 := ⟨zw_1892, zw_1894, zws_7_6, zw_12, zw_1895, by decide, by decide, by decide +kernel, by decide⟩
theorem zi_X12_385 : zInv RX12 385 jX12_saying 1 := ⟨zw_1888, zw_1890, zws_7_5, zw_12, zw_1891, by decide, by decide, by decide +kernel, by decide⟩
theorem zi_X12_391 : zInv RX12 391 jX12_noQuestion 1 := ⟨zw_1928, zw_1930, zws_7_13, zw_12, zw_1931, by decide, by decide, by decide +kernel, by decide⟩
theorem zi_X12_394 : zInv RX12 394 jX12_noWoman 1 := ⟨zw_1936, zw_1938, zws_7_14, zw_12, zw_1939, by decide, by decide, by decide +kernel, by decide⟩
theorem zi_X12_397 : zInv RX12 397 jX12_noTwo 2 := ⟨zw_1952, zw_1954, zws_7_15, zw_12, zw_1955, by decide, by decide, by decide +kernel, by decide⟩
theorem zi_X12_400 : zInv RX12 400 jX12_isNow 2 := ⟨zw_1960, zw_1962, zws_8_0, zw_12, zw_1963, by decide, by decide, by decide +kernel, by decide⟩
theorem zi_X12_403 : zInv RX12 403 jX12_allThings 0 := ⟨zw_1900, zw_1902, zws_7_8, zw_12, zw_1903, by decide, by decide, by decide +kernel, by decide⟩
theorem zi_X12_406 : zInv RX12 406 jX12_seenBy 2 := ⟨zw_1988, zw_1990, zws_8_1, zw_12, zw_1991, by decide, by decide, by decide +kernel, by decide⟩
theorem zi_X12_409 : zInv RX12 409 jX12_givenAway 1 := ⟨zw_1996, zw_1998, zws_8_2, zw_12, zw_1999, by decide, by decide, by decide +kernel, by decide⟩
theorem zi_X12_412 : zInv RX12 412 jX12_keepsAll 0 := ⟨zw_2008, zw_2010, zws_8_3, zw_12, zw_2011, by decide, by decide, by decide +kernel, by decide⟩
theorem zi_X12_415 : zInv RX12 415 jX12_bringsBack 0 := ⟨zw_2012, zw_2014, zws_8_4, zw_12, zw_2015, by decide, by decide, by decide +kernel, by decide⟩
theorem zg_X12_48 : zGet RX12 48 11 20 := ⟨RX12, TX12, 27, rfl, by decide, zu_X12, Or.inl zw_1485⟩
theorem zi_X12_418 : zInvS RX12 418 jX12_risenAt 3 := ⟨zw_1904, zw_1905, zw_12, zw_1906, by decide, by decide, by decide +kernel, by decide⟩
theorem zs_11 : zShape[11]? = some (.inr (0, 2560)) := rfl
theorem zi_X12_421 : zInv RX12 421 jX12_isRows 0 := ⟨zw_2028, zw_2030, zws_8_5, zw_12, zw_2031, by decide, by decide, by decide +kernel, by decide⟩
theorem zi_X12_424 : zInv RX12 424 jX12_laysWorlds 0 := ⟨zw_1896, zw_1898, zws_7_7, zw_12, zw_1899, by decide, by decide, by decide +kernel, by decide⟩
theorem zi_X12_427 : zInv RX12 427 jX12_fitsRows 1 := ⟨zw_2032, zw_2034, zws_8_6, zw_12, zw_2035, by decide, by decide, by decide +kernel, by decide⟩
theorem zg_X12_51 : zGet RX12 51 11 21 := ⟨RX12, TX12, 27, rfl, by decide, zu_X12, Or.inl zw_1486⟩
theorem zs_12 : zShape[12]? = some (.inr (2, 64)) := rfl
theorem zi_X12_430 : zInv RX12 430 jX12_alikeBy 3 := ⟨zw_1915, zw_1917, zws_7_11, zw_12, zw_1918, by decide, by decide, by decide +kernel, by decide⟩
theorem zi_X12_434 : zInv RX12 434 jX12_partBy 1 := ⟨zw_2049, zw_2051, zws_8_7, zw_12, zw_2052, by decide, by decide, by decide +kernel, by decide⟩
theorem zg_X12_55 : zGet RX12 55 11 22 := ⟨RX12, TX12, 27, rfl, by decide, zu_X12, Or.inl zw_1487⟩
theorem zs_13 : zShape[13]? = some (.inr (2, 256)) := rfl
theorem zi_X12_437 : zInv RX12 437 jX12_partedBy 2 := ⟨zw_1911, zw_1913, zws_7_10, zw_12, zw_1914, by decide, by decide, by decide +kernel, by decide⟩
theorem zi_X12_440 : zInv RX12 440 jX12_laysMusts 1 := ⟨zw_1907, zw_1909, zws_7_9, zw_12, zw_1910, by decide, by decide, by decide +kernel, by decide⟩
theorem zi_X12_443 : zInvS RX12 443 jJ6_bitCount_0f7a4 1 := ⟨zw_1919, zw_554, zw_28, zw_555, by decide, by decide, by decide +kernel, by decide⟩
theorem zi_X12_448 : zInv RX12 448 jX12_tellsAll 1 := ⟨zw_1920, zw_1922, zws_7_12, zw_12, zw_1923, by decide, by decide, by decide +kernel, by decide⟩
theorem zg_X12_58 : zGet RX12 58 11 23 := ⟨RX12, TX12, 27, rfl, by decide, zu_X12, Or.inl zw_1488⟩
theorem zs_14 : zShape[14]? = some (.inr (0, 5)) := rfl
theorem zi_X12_451 : zInv RX12 451 jX12_isTouched 2 := ⟨zw_2073, zw_2075, zws_8_10, zw_12, zw_2076, by decide, by decide, by decide +kernel, by decide⟩
theorem zi_X12_454 : zInv RX12 454 jX12_laysRow 0 := ⟨zw_2065, zw_2067, zws_8_8, zw_12, zw_2068, by decide, by decide, by decide +kernel, by decide⟩
theorem zi_X12_457 : zInv RX12 457 jX12_sharedIn 1 := ⟨zw_2069, zw_2071, zws_8_9, zw_12, zw_2072, by decide, by decide, by decide +kernel, by decide⟩
theorem zi_X12_460 : zInv RX12 460 jX12_laysOrder 1 := ⟨zw_2085, zw_2087, zws_8_12, zw_12, zw_2088, by decide, by decide, by decide +kernel, by decide⟩
theorem zi_X12_463 : zInv RX12 463 jX12_changes 0 := ⟨zw_2089, zw_2091, zws_8_13, zw_12, zw_2092, by decide, by decide, by decide +kernel, by decide⟩
theorem zg_X12_61 : zGet RX12 61 11 24 := ⟨RX12, TX12, 27, rfl, by decide, zu_X12, Or.inl zw_1489⟩
theorem zs_15 : zShape[15]? = some (.inr (0, 5)) := rfl
theorem zi_X12_466 : zInv RX12 466 jX12_bestRow 1 := ⟨zw_2081, zw_2083, zws_8_11, zw_12, zw_2084, by decide, by decide, by decide +kernel, by decide⟩
theorem zi_X12_469 : zInv RX12 469 jX12_asWritten 3 := ⟨zw_2109, zw_2111, zws_9_0, zw_12, zw_2112, by decide, by decide, by decide +kernel, by decide⟩
theorem zi_X12_472 : zInv RX12 472 jX12_isWritten 0 := ⟨zw_2101, zw_2103, zws_8_14, zw_12, zw_2104, by decide, by decide, by decide +kernel, by decide⟩
theorem zi_X12_475 : zInv RX12 475 jX12_shadesLeft 2 := ⟨zw_2105, zw_2107, zws_8_15, zw_12, zw_2108, by decide, by decide, by decide +kernel, by decide⟩
theorem zi_X12_478 : zInvS RX12 478 jJ6_numberOfTrailingZeros_0f7a4 1 := ⟨zw_2144, zw_2145, zw_28, zw_2146, by decide, by decide, by decide +kernel, by decide⟩
theorem zi_X12_481 : zInvS RX12 481 jX12_firstOf 1 := ⟨zw_2141, zw_2142, zw_12, zw_2143, by decide, by decide, by decide +kernel, by decide⟩
theorem zi_X12_484 : zInv RX12 484 jX12_unlike 2 := ⟨zw_2148, zw_2150, zws_9_3, zw_12, zw_2151, by decide, by decide, by decide +kernel, by decide⟩
theorem zg_X12_64 : zGet RX12 64 11 25 := ⟨RX12, TX12, 27, rfl, by decide, zu_X12, Or.inl zw_1490⟩
theorem zs_16 : zShape[16]? = some (.inr (0, 16)) := rfl
theorem zi_X12_487 : zInv RX12 487 jX12_unlikelyBy 2 := ⟨zw_2137, zw_2139, zws_9_2, zw_12, zw_2140, by decide, by decide, by decide +kernel, by decide⟩
theorem zi_X12_490 : zInv RX12 490 jX12_laysUnlikely 0 := ⟨zw_2133, zw_2135, zws_9_1, zw_12, zw_2136, by decide, by decide, by decide +kernel, by decide⟩
theorem zi_X12_493 : zInv RX12 493 jX12_witnessHas 4 := ⟨zw_2164, zw_2166, zws_9_4, zw_12, zw_2167, by decide, by decide, by decide +kernel, by decide⟩
theorem zi_X12_496 : zInv RX12 496 jX12_courtHas 3 := ⟨zw_2168, zw_2170, zws_9_5, zw_12, zw_2171, by decide, by decide, by decide +kernel, by decide⟩
theorem zg_X12_67 : zGet RX12 67 11 26 := ⟨RX12, TX12, 27, rfl, by decide, zu_X12, Or.inl zw_1491⟩
theorem zs_17 : zShape[17]? = some (.inr (3, 6)) := rfl
theorem zi_X12_503 : zInvS RX12 503 jX12_noAhead 1 := ⟨zw_2198, zw_2199, zw_12, zw_2200, by decide, by decide, by decide +kernel, by decide⟩
theorem zi_X12_506 : zInv RX12 506 jX12_redOnes 0 := ⟨zw_2205, zw_2207, zws_9_6, zw_12, zw_2208, by decide, by decide, by decide +kernel, by decide⟩
theorem zi_X12_509 : zInv RX12 509 jX12_ofLog 2 := ⟨zw_2217, zw_2219, zws_9_7, zw_12, zw_2220, by decide, by decide, by decide +kernel, by decide⟩
theorem zi_J0_335 : zInv RJ0 335 jJ0_coder_7d493 0 := ⟨zw_657, zw_658, zw_659, zw_15, zw_660, by decide, by decide, by decide +kernel, by decide⟩
theorem zi_J0_492 : zInv RJ0 492 jJ0_isLatin1_aae02 0 := ⟨zw_667, zw_668, zw_669, zw_15, zw_670, by decide, by decide, by decide +kernel, by decide⟩
theorem zi_J0_495 : zInvS RJ0 495 jJ1_charAt_3b067 2 := ⟨zw_671, zw_672, zw_16, zw_673, by decide, by decide, by decide +kernel, by decide⟩
theorem zi_J1_9 : zInvS RJ1 9 jJ0_checkIndex_df160 2 := ⟨zw_674, zw_675, zw_15, zw_676, by decide, by decide, by decide +kernel, by decide⟩
theorem zi_J0_1059 : zInvS RJ0 1059 jJ3_checkIndex_8e157 3 := ⟨zw_679, zw_680, zw_17, zw_681, by decide, by decide, by decide +kernel, by decide⟩
