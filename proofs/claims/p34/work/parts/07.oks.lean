set_option maxRecDepth 100000 in
theorem pm_ok_0 : pm_I0.all (pm_okB (yX0_doAgain, cX0_doAgain, 2, some (.boolean), 0, 0, false)) = true := by decide +kernel
set_option maxRecDepth 100000 in
theorem pm_ok_1 : pm_I1.all (pm_okB (yX0_dropOldest, cX0_dropOldest, 2, none, 0, 0, false)) = true := by decide +kernel
set_option maxRecDepth 100000 in
theorem pm_ok_2 : pm_I2.all (pm_okB (yX0_empty, cX0_empty, 1, none, 0, 0, false)) = true := by decide +kernel
set_option maxRecDepth 100000 in
theorem pm_ok_3 : pm_I3.all (pm_okB (yX0_forgetActs, cX0_forgetActs, 1, none, 0, 0, false)) = true := by decide +kernel
set_option maxRecDepth 100000 in
theorem pm_ok_4 : pm_I4.all (pm_okB (yX0_note, cX0_note, 5, none, 4, 0, false)) = true := by decide +kernel
set_option maxRecDepth 100000 in
theorem pm_ok_5 : pm_I5.all (pm_okB (yX0_putSale, cX0_putSale, 3, none, 2, 0, false)) = true := by decide +kernel
set_option maxRecDepth 100000 in
theorem pm_ok_6 : pm_I6.all (pm_okB (yX0_putWord, cX0_putWord, 2, none, 1, 0, false)) = true := by decide +kernel
set_option maxRecDepth 100000 in
theorem pm_ok_7 : pm_I7.all (pm_okB (yX0_rowWithout, cX0_rowWithout, 5, some (.int), 2, 0, false)) = true := by decide +kernel
set_option maxRecDepth 100000 in
theorem pm_ok_8 : pm_I8.all (pm_okB (yX0_takeBack, cX0_takeBack, 1, some (.boolean), 0, 0, false)) = true := by decide +kernel
set_option maxRecDepth 100000 in
theorem pm_ok_9 : pm_I9.all (pm_okB (yX1_giveBack, cX1_giveBack, 2, none, 1, 1, false)) = true := by decide +kernel
set_option maxRecDepth 100000 in
theorem pm_ok_10 : pm_I10.all (pm_okB (yX1_keep, cX1_keep, 2, none, 1, 1, false)) = true := by decide +kernel
set_option maxRecDepth 100000 in
theorem pm_ok_11 : pm_I11.all (pm_okB (yX2_bindAlt, cX2_bindAlt, 7, some (.boolean), 2, 2, false)) = true := by decide +kernel
set_option maxRecDepth 100000 in
theorem pm_ok_12 : pm_I12.all (pm_okB (yX2_bindParts, cX2_bindParts, 3, some (.boolean), 0, 2, false)) = true := by decide +kernel
set_option maxRecDepth 100000 in
theorem pm_ok_13 : pm_I13.all (pm_okB (yX2_pass, cX2_pass, 2, some (.boolean), 1, 2, false)) = true := by decide +kernel
set_option maxRecDepth 100000 in
theorem pm_ok_14 : pm_I14.all (pm_okB (yX2_passFirst, cX2_passFirst, 2, some (.boolean), 1, 2, false)) = true := by decide +kernel
set_option maxRecDepth 100000 in
theorem pm_ok_15 : pm_I15.all (pm_okB (yX2_passNewName, cX2_passNewName, 1, some (.boolean), 0, 2, false)) = true := by decide +kernel
set_option maxRecDepth 100000 in
theorem pm_ok_16 : pm_I16.all (pm_okB (yX2_passNumber, cX2_passNumber, 3, some (.boolean), 2, 2, false)) = true := by decide +kernel
set_option maxRecDepth 100000 in
theorem pm_ok_17 : pm_I17.all (pm_okB (yX2_passPairName, cX2_passPairName, 3, some (.boolean), 2, 2, false)) = true := by decide +kernel
set_option maxRecDepth 100000 in
theorem pm_ok_18 : pm_I18.all (pm_okB (yX2_readAlt, cX2_readAlt, 2, some (.boolean), 0, 2, false)) = true := by decide +kernel
set_option maxRecDepth 100000 in
theorem pm_ok_19 : pm_I19.all (pm_okB (yX2_readLength, cX2_readLength, 2, some (.boolean), 0, 2, false)) = true := by decide +kernel
set_option maxRecDepth 100000 in
theorem pm_ok_20 : pm_I20.all (pm_okB (yX2_readPair, cX2_readPair, 5, some (.boolean), 0, 2, false)) = true := by decide +kernel
set_option maxRecDepth 100000 in
theorem pm_ok_21 : pm_I21.all (pm_okB (yX2_readRule, cX2_readRule, 5, some (.boolean), 0, 2, false)) = true := by decide +kernel
set_option maxRecDepth 100000 in
theorem pm_ok_22 : pm_I22.all (pm_okB (yX2_readTurns, cX2_readTurns, 3, some (.boolean), 0, 2, false)) = true := by decide +kernel
set_option maxRecDepth 100000 in
theorem pm_ok_23 : pm_I23.all (pm_okB (yX2_readWord, cX2_readWord, 3, some (.boolean), 0, 2, false)) = true := by decide +kernel
set_option maxRecDepth 100000 in
theorem pm_ok_24 : pm_I24.all (pm_okB (yX2_readWorths, cX2_readWorths, 5, some (.boolean), 2, 2, false)) = true := by decide +kernel
set_option maxRecDepth 100000 in
theorem pm_ok_25 : pm_I25.all (pm_okB (yX2_readsInto, cX2_readsInto, 6, some (.boolean), 3, 2, false)) = true := by decide +kernel
set_option maxRecDepth 100000 in
theorem pm_ok_26 : pm_I26.all (pm_okB (yX2_symbolAtHand, cX2_symbolAtHand, 1, some (.int), 0, 2, false)) = true := by decide +kernel
set_option maxRecDepth 100000 in
theorem pm_ok_27 : pm_I27.all (pm_okB (yX3_better, cX3_better, 3, some (.int), 3, 3, true)) = true := by decide +kernel
set_option maxRecDepth 100000 in
theorem pm_ok_28 : pm_I28.all (pm_okB (yX3_clearResults, cX3_clearResults, 4, none, 2, 3, false)) = true := by decide +kernel
set_option maxRecDepth 100000 in
theorem pm_ok_29 : pm_I29.all (pm_okB (yX3_endOf, cX3_endOf, 3, some (.int), 1, 3, false)) = true := by decide +kernel
set_option maxRecDepth 100000 in
theorem pm_ok_30 : pm_I30.all (pm_okB (yX3_findLotEnds, cX3_findLotEnds, 4, none, 1, 3, false)) = true := by decide +kernel
set_option maxRecDepth 100000 in
theorem pm_ok_31 : pm_I31.all (pm_okB (yX3_firstSwap, cX3_firstSwap, 9, some (.int), 2, 3, false)) = true := by decide +kernel
set_option maxRecDepth 100000 in
theorem pm_ok_32 : pm_I32.all (pm_okB (yX3_forget, cX3_forget, 1, none, 0, 3, false)) = true := by decide +kernel
set_option maxRecDepth 100000 in
theorem pm_ok_33 : pm_I33.all (pm_okB (yX3_heldBy, cX3_heldBy, 6, some (.int), 2, 3, false)) = true := by decide +kernel
set_option maxRecDepth 100000 in
theorem pm_ok_34 : pm_I34.all (pm_okB (yX3_isBribed, cX3_isBribed, 3, some (.boolean), 2, 3, false)) = true := by decide +kernel
set_option maxRecDepth 100000 in
theorem pm_ok_35 : pm_I35.all (pm_okB (yX3_leastBribe, cX3_leastBribe, 6, some (.int), 3, 3, false)) = true := by decide +kernel
set_option maxRecDepth 100000 in
theorem pm_ok_36 : pm_I36.all (pm_okB (yX3_meansMore, cX3_meansMore, 4, some (.boolean), 4, 3, true)) = true := by decide +kernel
set_option maxRecDepth 100000 in
theorem pm_ok_37 : pm_I37.all (pm_okB (yX3_offer, cX3_offer, 8, none, 3, 3, false)) = true := by decide +kernel
set_option maxRecDepth 100000 in
theorem pm_ok_38 : pm_I38.all (pm_okB (yX3_sumOf, cX3_sumOf, 5, some (.int), 3, 3, true)) = true := by decide +kernel
set_option maxRecDepth 100000 in
theorem pm_ok_39 : pm_I39.all (pm_okB (yX3_worthTo, cX3_worthTo, 5, some (.int), 3, 3, false)) = true := by decide +kernel
set_option maxRecDepth 100000 in
theorem pm_ok_40 : pm_I40.all (pm_okB (yX4_empty, cX4_empty, 2, none, 0, 4, false)) = true := by decide +kernel
set_option maxRecDepth 100000 in
theorem pm_ok_41 : pm_I41.all (pm_okB (yX4_findShortest, cX4_findShortest, 7, none, 1, 4, false)) = true := by decide +kernel
set_option maxRecDepth 100000 in
theorem pm_ok_42 : pm_I42.all (pm_okB (yX4_hasPlace, cX4_hasPlace, 2, some (.boolean), 1, 4, false)) = true := by decide +kernel
set_option maxRecDepth 100000 in
theorem pm_ok_43 : pm_I43.all (pm_okB (yX4_hasWord, cX4_hasWord, 2, some (.boolean), 1, 4, false)) = true := by decide +kernel
set_option maxRecDepth 100000 in
theorem pm_ok_44 : pm_I44.all (pm_okB (yX4_meaningBehind, cX4_meaningBehind, 5, some (.int), 3, 4, false)) = true := by decide +kernel
set_option maxRecDepth 100000 in
theorem pm_ok_45 : pm_I45.all (pm_okB (yX4_meaningOf, cX4_meaningOf, 6, some (.int), 3, 4, false)) = true := by decide +kernel
set_option maxRecDepth 100000 in
theorem pm_ok_46 : pm_I46.all (pm_okB (yX4_rulesNextTo, cX4_rulesNextTo, 7, some (.int), 2, 4, false)) = true := by decide +kernel
set_option maxRecDepth 100000 in
theorem pm_ok_47 : pm_I47.all (pm_okB (yX4_rulesOfUse, cX4_rulesOfUse, 5, some (.int), 1, 4, false)) = true := by decide +kernel
set_option maxRecDepth 100000 in
theorem pm_ok_48 : pm_I48.all (pm_okB (yX4_sizeOfAlt, cX4_sizeOfAlt, 6, some (.int), 2, 4, false)) = true := by decide +kernel
set_option maxRecDepth 100000 in
theorem pm_ok_49 : pm_I49.all (pm_okB (yX4_symbolOf, cX4_symbolOf, 4, some (.int), 1, 4, false)) = true := by decide +kernel
set_option maxRecDepth 100000 in
theorem pm_ok_50 : pm_I50.all (pm_okB (yX4_turnAt, cX4_turnAt, 2, some (.int), 1, 4, false)) = true := by decide +kernel
set_option maxRecDepth 100000 in
theorem pm_ok_51 : pm_I51.all (pm_okB (yX5_beginColumn, cX5_beginColumn, 9, none, 3, 5, false)) = true := by decide +kernel
set_option maxRecDepth 100000 in
theorem pm_ok_52 : pm_I52.all (pm_okB (yX5_fillColumn, cX5_fillColumn, 12, none, 4, 5, false)) = true := by decide +kernel
set_option maxRecDepth 100000 in
theorem pm_ok_53 : pm_I53.all (pm_okB (yX5_goOn, cX5_goOn, 5, none, 2, 5, false)) = true := by decide +kernel
set_option maxRecDepth 100000 in
theorem pm_ok_54 : pm_I54.all (pm_okB (yX5_nextWords, cX5_nextWords, 5, some (.int), 2, 5, false)) = true := by decide +kernel
set_option maxRecDepth 100000 in
theorem pm_ok_55 : pm_I55.all (pm_okB (yX5_readBeginning, cX5_readBeginning, 5, none, 3, 5, false)) = true := by decide +kernel
set_option maxRecDepth 100000 in
theorem pm_ok_56 : pm_I56.all (pm_okB (yX5_startsOfAlt, cX5_startsOfAlt, 14, some (.long), 3, 5, false)) = true := by decide +kernel
set_option maxRecDepth 100000 in
theorem pm_ok_57 : pm_I57.all (pm_okB (yX6_agree, cX6_agree, 7, some (.boolean), 3, 6, false)) = true := by decide +kernel
set_option maxRecDepth 100000 in
theorem pm_ok_58 : pm_I58.all (pm_okB (yX6_takeBack, cX6_takeBack, 2, some (.boolean), 1, 6, false)) = true := by decide +kernel
set_option maxRecDepth 100000 in
theorem pm_ok_59 : pm_I59.all (pm_okB (yX6_tell, cX6_tell, 4, some (.int), 3, 6, false)) = true := by decide +kernel
set_option maxRecDepth 100000 in
theorem pm_ok_60 : pm_I60.all (pm_okB (yX7_countOf, cX7_countOf, 6, some (.int), 3, 7, false)) = true := by decide +kernel
set_option maxRecDepth 100000 in
theorem pm_ok_61 : pm_I61.all (pm_okB (yX7_fillColumn, cX7_fillColumn, 9, none, 2, 7, false)) = true := by decide +kernel
set_option maxRecDepth 100000 in
theorem pm_ok_62 : pm_I62.all (pm_okB (yX7_forget, cX7_forget, 1, none, 0, 7, false)) = true := by decide +kernel
set_option maxRecDepth 100000 in
theorem pm_ok_63 : pm_I63.all (pm_okB (yX7_waysOfAlt, cX7_waysOfAlt, 12, some (.int), 5, 7, false)) = true := by decide +kernel
set_option maxRecDepth 100000 in
theorem pm_ok_64 : pm_I64.all (pm_okB (yX8_advance, cX8_advance, 2, none, 0, 8, false)) = true := by decide +kernel
set_option maxRecDepth 100000 in
theorem pm_ok_65 : pm_I65.all (pm_okB (yX8_begin, cX8_begin, 3, none, 2, 8, false)) = true := by decide +kernel
set_option maxRecDepth 100000 in
theorem pm_ok_66 : pm_I66.all (pm_okB (yX8_refuse, cX8_refuse, 2, some (.boolean), 1, 8, false)) = true := by decide +kernel
set_option maxRecDepth 100000 in
theorem pm_ok_67 : pm_I67.all (pm_okB (yX8_takeDigits, cX8_takeDigits, 2, none, 0, 8, false)) = true := by decide +kernel
set_option maxRecDepth 100000 in
theorem pm_ok_68 : pm_I68.all (pm_okB (yX8_takeLetters, cX8_takeLetters, 2, none, 0, 8, false)) = true := by decide +kernel
set_option maxRecDepth 100000 in
theorem pm_ok_69 : pm_I69.all (pm_okB (yX9_add, cX9_add, 6, none, 3, 9, false)) = true := by decide +kernel
set_option maxRecDepth 100000 in
theorem pm_ok_70 : pm_I70.all (pm_okB (yX9_addRoot, cX9_addRoot, 4, none, 2, 9, false)) = true := by decide +kernel
set_option maxRecDepth 100000 in
theorem pm_ok_71 : pm_I71.all (pm_okB (yX9_forget, cX9_forget, 1, none, 0, 9, false)) = true := by decide +kernel
set_option maxRecDepth 100000 in
theorem pm_ok_72 : pm_I72.all (pm_okB (yX9_grow, cX9_grow, 8, none, 3, 9, false)) = true := by decide +kernel
set_option maxRecDepth 100000 in
theorem pm_ok_73 : pm_I73.all (pm_okB (yX9_growBehind, cX9_growBehind, 5, none, 4, 9, false)) = true := by decide +kernel
set_option maxRecDepth 100000 in
theorem pm_ok_74 : pm_I74.all (pm_okB (yX9_growFrom, cX9_growFrom, 8, none, 5, 9, false)) = true := by decide +kernel
set_option maxRecDepth 100000 in
theorem pm_ok_75 : pm_I75.all (pm_okB (yX9_hasCharters, cX9_hasCharters, 1, some (.boolean), 0, 9, false)) = true := by decide +kernel
set_option maxRecDepth 100000 in
theorem pm_ok_76 : pm_I76.all (pm_okB (yX9_isCharter, cX9_isCharter, 2, some (.boolean), 1, 9, false)) = true := by decide +kernel
set_option maxRecDepth 100000 in
theorem pm_ok_77 : pm_I77.all (pm_okB (yX9_wordAt, cX9_wordAt, 3, some (.int), 2, 9, false)) = true := by decide +kernel
set_option maxRecDepth 100000 in
theorem pm_ok_78 : pm_I78.all (pm_okB (yX9_wordsInto, cX9_wordsInto, 4, none, 2, 9, false)) = true := by decide +kernel
set_option maxRecDepth 100000 in
theorem pm_ok_79 : pm_I79.all (pm_okB (yX10_about, cX10_about, 2, some (.int), 1, 10, false)) = true := by decide +kernel
set_option maxRecDepth 100000 in
theorem pm_ok_80 : pm_I80.all (pm_okB (yX10_back, cX10_back, 2, some (.int), 1, 10, false)) = true := by decide +kernel
set_option maxRecDepth 100000 in
theorem pm_ok_81 : pm_I81.all (pm_okB (yX10_behind, cX10_behind, 4, some (.int), 3, 10, false)) = true := by decide +kernel
set_option maxRecDepth 100000 in
theorem pm_ok_82 : pm_I82.all (pm_okB (yX10_best, cX10_best, 5, some (.int), 1, 10, false)) = true := by decide +kernel
set_option maxRecDepth 100000 in
theorem pm_ok_83 : pm_I83.all (pm_okB (yX10_bribe, cX10_bribe, 4, some (.int), 2, 10, false)) = true := by decide +kernel
set_option maxRecDepth 100000 in
theorem pm_ok_84 : pm_I84.all (pm_okB (yX10_doubtful, cX10_doubtful, 4, some (.int), 0, 10, false)) = true := by decide +kernel
set_option maxRecDepth 100000 in
theorem pm_ok_85 : pm_I85.all (pm_okB (yX10_end, cX10_end, 2, some (.int), 1, 10, false)) = true := by decide +kernel
set_option maxRecDepth 100000 in
theorem pm_ok_86 : pm_I86.all (pm_okB (yX10_fault, cX10_fault, 2, some (.int), 1, 10, false)) = true := by decide +kernel
set_option maxRecDepth 100000 in
theorem pm_ok_87 : pm_I87.all (pm_okB (yX10_feed, cX10_feed, 6, some (.int), 5, 10, false)) = true := by decide +kernel
set_option maxRecDepth 100000 in
theorem pm_ok_88 : pm_I88.all (pm_okB (yX10_fit, cX10_fit, 4, some (.int), 0, 10, false)) = true := by decide +kernel
set_option maxRecDepth 100000 in
theorem pm_ok_89 : pm_I89.all (pm_okB (yX10_forgetOldPort, cX10_forgetOldPort, 2, none, 0, 10, false)) = true := by decide +kernel
set_option maxRecDepth 100000 in
theorem pm_ok_90 : pm_I90.all (pm_okB (yX10_growEarnest, cX10_growEarnest, 2, some (.object "GuildCharter$Tree"), 0, 10, false)) = true := by decide +kernel
set_option maxRecDepth 100000 in
theorem pm_ok_91 : pm_I91.all (pm_okB (yX10_growHoles, cX10_growHoles, 2, some (.object "GuildCharter$Tree"), 0, 10, false)) = true := by decide +kernel
set_option maxRecDepth 100000 in
theorem pm_ok_92 : pm_I92.all (pm_okB (yX10_growWhole, cX10_growWhole, 1, some (.object "GuildCharter$Tree"), 0, 10, false)) = true := by decide +kernel
set_option maxRecDepth 100000 in
theorem pm_ok_93 : pm_I93.all (pm_okB (yX10_held, cX10_held, 3, some (.int), 1, 10, false)) = true := by decide +kernel
set_option maxRecDepth 100000 in
theorem pm_ok_94 : pm_I94.all (pm_okB (yX10_hole, cX10_hole, 4, some (.boolean), 2, 10, false)) = true := by decide +kernel
set_option maxRecDepth 100000 in
theorem pm_ok_95 : pm_I95.all (pm_okB (yX10_image, cX10_image, 2, some (.int), 1, 10, false)) = true := by decide +kernel
set_option maxRecDepth 100000 in
theorem pm_ok_96 : pm_I96.all (pm_okB (yX10_isGuild, cX10_isGuild, 1, some (.boolean), 1, 10, true)) = true := by decide +kernel
set_option maxRecDepth 100000 in
theorem pm_ok_97 : pm_I97.all (pm_okB (yX10_isUnwritten, cX10_isUnwritten, 2, some (.boolean), 1, 10, false)) = true := by decide +kernel
set_option maxRecDepth 100000 in
theorem pm_ok_98 : pm_I98.all (pm_okB (yX10_later, cX10_later, 2, some (.int), 1, 10, false)) = true := by decide +kernel
set_option maxRecDepth 100000 in
theorem pm_ok_99 : pm_I99.all (pm_okB (yX10_lay, cX10_lay, 4, none, 2, 10, false)) = true := by decide +kernel
set_option maxRecDepth 100000 in
theorem pm_ok_100 : pm_I100.all (pm_okB (yX10_lies, cX10_lies, 2, some (.int), 1, 10, false)) = true := by decide +kernel
set_option maxRecDepth 100000 in
theorem pm_ok_101 : pm_I101.all (pm_okB (yX10_lots, cX10_lots, 5, some (.int), 1, 10, false)) = true := by decide +kernel
set_option maxRecDepth 100000 in
theorem pm_ok_102 : pm_I102.all (pm_okB (yX10_means, cX10_means, 2, some (.int), 1, 10, false)) = true := by decide +kernel
set_option maxRecDepth 100000 in
theorem pm_ok_103 : pm_I103.all (pm_okB (yX10_next, cX10_next, 1, some (.int), 0, 10, false)) = true := by decide +kernel
set_option maxRecDepth 100000 in
theorem pm_ok_104 : pm_I104.all (pm_okB (yX10_nextInEarnest, cX10_nextInEarnest, 1, some (.int), 0, 10, false)) = true := by decide +kernel
set_option maxRecDepth 100000 in
theorem pm_ok_105 : pm_I105.all (pm_okB (yX10_orders, cX10_orders, 5, some (.int), 1, 10, false)) = true := by decide +kernel
set_option maxRecDepth 100000 in
theorem pm_ok_106 : pm_I106.all (pm_okB (yX10_ownAsInEarnest, cX10_ownAsInEarnest, 2, none, 0, 10, false)) = true := by decide +kernel
set_option maxRecDepth 100000 in
theorem pm_ok_107 : pm_I107.all (pm_okB (yX10_ownerInEarnest, cX10_ownerInEarnest, 2, some (.int), 1, 10, false)) = true := by decide +kernel
set_option maxRecDepth 100000 in
theorem pm_ok_108 : pm_I108.all (pm_okB (yX10_port, cX10_port, 2, some (.int), 0, 10, false)) = true := by decide +kernel
set_option maxRecDepth 100000 in
theorem pm_ok_109 : pm_I109.all (pm_okB (yX10_readings, cX10_readings, 1, some (.int), 0, 10, false)) = true := by decide +kernel
set_option maxRecDepth 100000 in
theorem pm_ok_110 : pm_I110.all (pm_okB (yX10_redo, cX10_redo, 1, some (.boolean), 0, 10, false)) = true := by decide +kernel
set_option maxRecDepth 100000 in
theorem pm_ok_111 : pm_I111.all (pm_okB (yX10_seen, cX10_seen, 4, some (.int), 3, 10, false)) = true := by decide +kernel
set_option maxRecDepth 100000 in
theorem pm_ok_112 : pm_I112.all (pm_okB (yX10_sell, cX10_sell, 4, some (.int), 2, 10, false)) = true := by decide +kernel
set_option maxRecDepth 100000 in
theorem pm_ok_113 : pm_I113.all (pm_okB (yX10_share, cX10_share, 6, some (.int), 2, 10, false)) = true := by decide +kernel
set_option maxRecDepth 100000 in
theorem pm_ok_114 : pm_I114.all (pm_okB (yX10_shortest, cX10_shortest, 2, some (.int), 1, 10, false)) = true := by decide +kernel
set_option maxRecDepth 100000 in
theorem pm_ok_115 : pm_I115.all (pm_okB (yX10_sixShares, cX10_sixShares, 7, some (.int), 2, 10, false)) = true := by decide +kernel
set_option maxRecDepth 100000 in
theorem pm_ok_116 : pm_I116.all (pm_okB (yX10_struck, cX10_struck, 7, some (.int), 1, 10, false)) = true := by decide +kernel
set_option maxRecDepth 100000 in
theorem pm_ok_117 : pm_I117.all (pm_okB (yX10_swap, cX10_swap, 2, some (.int), 0, 10, false)) = true := by decide +kernel
set_option maxRecDepth 100000 in
theorem pm_ok_118 : pm_I118.all (pm_okB (yX10_tapeNumber, cX10_tapeNumber, 3, none, 1, 10, false)) = true := by decide +kernel
set_option maxRecDepth 100000 in
theorem pm_ok_119 : pm_I119.all (pm_okB (yX10_turn, cX10_turn, 2, some (.int), 1, 10, false)) = true := by decide +kernel
set_option maxRecDepth 100000 in
theorem pm_ok_120 : pm_I120.all (pm_okB (yX10_undo, cX10_undo, 1, some (.boolean), 0, 10, false)) = true := by decide +kernel
set_option maxRecDepth 100000 in
theorem pm_ok_121 : pm_I121.all (pm_okB (yX10_untell, cX10_untell, 2, some (.boolean), 1, 10, false)) = true := by decide +kernel
set_option maxRecDepth 100000 in
theorem pm_ok_122 : pm_I122.all (pm_okB (yX10_used, cX10_used, 1, some (.int), 0, 10, false)) = true := by decide +kernel
set_option maxRecDepth 100000 in
theorem pm_ok_123 : pm_I123.all (pm_okB (yX10_wipe, cX10_wipe, 2, some (.int), 0, 10, false)) = true := by decide +kernel
set_option maxRecDepth 100000 in
theorem pm_ok_124 : pm_I124.all (pm_okB (yX10_word, cX10_word, 2, some (.int), 1, 10, false)) = true := by decide +kernel
set_option maxRecDepth 100000 in
theorem pm_ok_125 : pm_I125.all (pm_okB (yX10_worth, cX10_worth, 3, some (.int), 2, 10, false)) = true := by decide +kernel
set_option maxRecDepth 100000 in
theorem pm_ok_126 : pm_I126.all (pm_okB (yX10_write, cX10_write, 2, some (.int), 1, 10, false)) = true := by decide +kernel
set_option maxRecDepth 100000 in
theorem pm_ok_127 : pm_I127.all (pm_okB (yX10_written, cX10_written, 4, some (.int), 1, 10, false)) = true := by decide +kernel
set_option maxRecDepth 100000 in
theorem pm_ok_128 : pm_I128.all (pm_okB (yX11_about, cX11_about, 2, some (.int), 1, 11, false)) = true := by decide +kernel
set_option maxRecDepth 100000 in
theorem pm_ok_129 : pm_I129.all (pm_okB (yX11_areGrouped, cX11_areGrouped, 4, some (.boolean), 3, 11, false)) = true := by decide +kernel
set_option maxRecDepth 100000 in
theorem pm_ok_130 : pm_I130.all (pm_okB (yX11_atMost, cX11_atMost, 2, some (.long), 1, 11, true)) = true := by decide +kernel
set_option maxRecDepth 100000 in
theorem pm_ok_131 : pm_I131.all (pm_okB (yX11_back, cX11_back, 3, some (.int), 1, 11, false)) = true := by decide +kernel
set_option maxRecDepth 100000 in
theorem pm_ok_132 : pm_I132.all (pm_okB (yX11_begin, cX11_begin, 2, none, 0, 11, false)) = true := by decide +kernel
set_option maxRecDepth 100000 in
theorem pm_ok_133 : pm_I133.all (pm_okB (yX11_behind, cX11_behind, 4, some (.int), 3, 11, false)) = true := by decide +kernel
set_option maxRecDepth 100000 in
theorem pm_ok_134 : pm_I134.all (pm_okB (yX11_best, cX11_best, 4, some (.int), 1, 11, false)) = true := by decide +kernel
set_option maxRecDepth 100000 in
theorem pm_ok_135 : pm_I135.all (pm_okB (yX11_bribe, cX11_bribe, 3, some (.int), 2, 11, false)) = true := by decide +kernel
set_option maxRecDepth 100000 in
theorem pm_ok_136 : pm_I136.all (pm_okB (yX11_canCome, cX11_canCome, 2, some (.boolean), 1, 11, false)) = true := by decide +kernel
set_option maxRecDepth 100000 in
theorem pm_ok_137 : pm_I137.all (pm_okB (yX11_canGoOn, cX11_canGoOn, 3, some (.boolean), 1, 11, false)) = true := by decide +kernel
set_option maxRecDepth 100000 in
theorem pm_ok_138 : pm_I138.all (pm_okB (yX11_clearBank, cX11_clearBank, 2, none, 0, 11, false)) = true := by decide +kernel
set_option maxRecDepth 100000 in
theorem pm_ok_139 : pm_I139.all (pm_okB (yX11_common, cX11_common, 5, some (.int), 2, 11, true)) = true := by decide +kernel
set_option maxRecDepth 100000 in
theorem pm_ok_140 : pm_I140.all (pm_okB (yX11_doesRead, cX11_doesRead, 8, some (.boolean), 3, 11, false)) = true := by decide +kernel
set_option maxRecDepth 100000 in
theorem pm_ok_141 : pm_I141.all (pm_okB (yX11_doubtful, cX11_doubtful, 4, some (.int), 0, 11, false)) = true := by decide +kernel
set_option maxRecDepth 100000 in
theorem pm_ok_142 : pm_I142.all (pm_okB (yX11_end, cX11_end, 2, some (.int), 1, 11, false)) = true := by decide +kernel
set_option maxRecDepth 100000 in
theorem pm_ok_143 : pm_I143.all (pm_okB (yX11_endsBy, cX11_endsBy, 3, some (.int), 2, 11, false)) = true := by decide +kernel
set_option maxRecDepth 100000 in
theorem pm_ok_144 : pm_I144.all (pm_okB (yX11_exchange, cX11_exchange, 3, none, 1, 11, false)) = true := by decide +kernel
set_option maxRecDepth 100000 in
theorem pm_ok_145 : pm_I145.all (pm_okB (yX11_fails, cX11_fails, 3, none, 2, 11, false)) = true := by decide +kernel
set_option maxRecDepth 100000 in
theorem pm_ok_146 : pm_I146.all (pm_okB (yX11_fault, cX11_fault, 2, some (.int), 1, 11, false)) = true := by decide +kernel
set_option maxRecDepth 100000 in
theorem pm_ok_147 : pm_I147.all (pm_okB (yX11_feed, cX11_feed, 8, some (.int), 5, 11, false)) = true := by decide +kernel
set_option maxRecDepth 100000 in
theorem pm_ok_148 : pm_I148.all (pm_okB (yX11_fit, cX11_fit, 1, some (.int), 0, 11, false)) = true := by decide +kernel
set_option maxRecDepth 100000 in
theorem pm_ok_149 : pm_I149.all (pm_okB (yX11_fresh, cX11_fresh, 3, some (.long), 0, 11, false)) = true := by decide +kernel
set_option maxRecDepth 100000 in
theorem pm_ok_150 : pm_I150.all (pm_okB (yX11_gain, cX11_gain, 3, some (.int), 2, 11, false)) = true := by decide +kernel
set_option maxRecDepth 100000 in
theorem pm_ok_151 : pm_I151.all (pm_okB (yX11_gainOf, cX11_gainOf, 5, some (.int), 2, 11, false)) = true := by decide +kernel
set_option maxRecDepth 100000 in
theorem pm_ok_152 : pm_I152.all (pm_okB (yX11_goOn, cX11_goOn, 3, none, 0, 11, false)) = true := by decide +kernel
set_option maxRecDepth 100000 in
theorem pm_ok_153 : pm_I153.all (pm_okB (yX11_held, cX11_held, 2, some (.int), 1, 11, false)) = true := by decide +kernel
set_option maxRecDepth 100000 in
theorem pm_ok_154 : pm_I154.all (pm_okB (yX11_heldBy, cX11_heldBy, 3, some (.int), 1, 11, false)) = true := by decide +kernel
set_option maxRecDepth 100000 in
theorem pm_ok_155 : pm_I155.all (pm_okB (yX11_hole, cX11_hole, 3, some (.boolean), 2, 11, false)) = true := by decide +kernel
set_option maxRecDepth 100000 in
theorem pm_ok_156 : pm_I156.all (pm_okB (yX11_image, cX11_image, 3, some (.int), 1, 11, false)) = true := by decide +kernel
set_option maxRecDepth 100000 in
theorem pm_ok_157 : pm_I157.all (pm_okB (yX11_isBetter, cX11_isBetter, 6, some (.boolean), 4, 11, false)) = true := by decide +kernel
set_option maxRecDepth 100000 in
theorem pm_ok_158 : pm_I158.all (pm_okB (yX11_isDigit, cX11_isDigit, 1, some (.boolean), 1, 11, true)) = true := by decide +kernel
set_option maxRecDepth 100000 in
theorem pm_ok_159 : pm_I159.all (pm_okB (yX11_isFull, cX11_isFull, 1, some (.boolean), 0, 11, false)) = true := by decide +kernel
set_option maxRecDepth 100000 in
theorem pm_ok_160 : pm_I160.all (pm_okB (yX11_isGood, cX11_isGood, 1, some (.boolean), 0, 11, false)) = true := by decide +kernel
set_option maxRecDepth 100000 in
theorem pm_ok_161 : pm_I161.all (pm_okB (yX11_isGuild, cX11_isGuild, 1, some (.boolean), 1, 11, true)) = true := by decide +kernel
set_option maxRecDepth 100000 in
theorem pm_ok_162 : pm_I162.all (pm_okB (yX11_isIn, cX11_isIn, 3, some (.boolean), 3, 11, true)) = true := by decide +kernel
set_option maxRecDepth 100000 in
theorem pm_ok_163 : pm_I163.all (pm_okB (yX11_isKept, cX11_isKept, 2, some (.boolean), 1, 11, true)) = true := by decide +kernel
set_option maxRecDepth 100000 in
theorem pm_ok_164 : pm_I164.all (pm_okB (yX11_isLetter, cX11_isLetter, 1, some (.boolean), 1, 11, true)) = true := by decide +kernel
set_option maxRecDepth 100000 in
theorem pm_ok_165 : pm_I165.all (pm_okB (yX11_isOnPath, cX11_isOnPath, 3, some (.boolean), 1, 11, false)) = true := by decide +kernel
set_option maxRecDepth 100000 in
theorem pm_ok_166 : pm_I166.all (pm_okB (yX11_isPlace, cX11_isPlace, 2, some (.boolean), 1, 11, false)) = true := by decide +kernel
set_option maxRecDepth 100000 in
theorem pm_ok_167 : pm_I167.all (pm_okB (yX11_isRead, cX11_isRead, 2, some (.boolean), 1, 11, false)) = true := by decide +kernel
set_option maxRecDepth 100000 in
theorem pm_ok_168 : pm_I168.all (pm_okB (yX11_isSignHere, cX11_isSignHere, 2, some (.boolean), 1, 11, false)) = true := by decide +kernel
set_option maxRecDepth 100000 in
theorem pm_ok_169 : pm_I169.all (pm_okB (yX11_isSo, cX11_isSo, 4, some (.boolean), 2, 11, false)) = true := by decide +kernel
set_option maxRecDepth 100000 in
theorem pm_ok_170 : pm_I170.all (pm_okB (yX11_isWord, cX11_isWord, 3, some (.boolean), 1, 11, false)) = true := by decide +kernel
set_option maxRecDepth 100000 in
theorem pm_ok_171 : pm_I171.all (pm_okB (yX11_isWordOf, cX11_isWordOf, 2, some (.boolean), 1, 11, false)) = true := by decide +kernel
set_option maxRecDepth 100000 in
theorem pm_ok_172 : pm_I172.all (pm_okB (yX11_keepAct, cX11_keepAct, 4, none, 2, 11, false)) = true := by decide +kernel
set_option maxRecDepth 100000 in
theorem pm_ok_173 : pm_I173.all (pm_okB (yX11_keyOf, cX11_keyOf, 6, some (.long), 2, 11, false)) = true := by decide +kernel
set_option maxRecDepth 100000 in
theorem pm_ok_174 : pm_I174.all (pm_okB (yX11_known, cX11_known, 2, some (.int), 0, 11, false)) = true := by decide +kernel
set_option maxRecDepth 100000 in
theorem pm_ok_175 : pm_I175.all (pm_okB (yX11_later, cX11_later, 2, some (.int), 1, 11, false)) = true := by decide +kernel
set_option maxRecDepth 100000 in
theorem pm_ok_176 : pm_I176.all (pm_okB (yX11_lay, cX11_lay, 3, none, 1, 11, false)) = true := by decide +kernel
set_option maxRecDepth 100000 in
theorem pm_ok_177 : pm_I177.all (pm_okB (yX11_layEnds, cX11_layEnds, 5, none, 1, 11, false)) = true := by decide +kernel
set_option maxRecDepth 100000 in
theorem pm_ok_178 : pm_I178.all (pm_okB (yX11_layFromNone, cX11_layFromNone, 1, some (.boolean), 0, 11, false)) = true := by decide +kernel
set_option maxRecDepth 100000 in
theorem pm_ok_179 : pm_I179.all (pm_okB (yX11_layFromRow, cX11_layFromRow, 2, some (.boolean), 0, 11, false)) = true := by decide +kernel
set_option maxRecDepth 100000 in
theorem pm_ok_180 : pm_I180.all (pm_okB (yX11_layList, cX11_layList, 6, some (.boolean), 2, 11, false)) = true := by decide +kernel
set_option maxRecDepth 100000 in
theorem pm_ok_181 : pm_I181.all (pm_okB (yX11_layShortest, cX11_layShortest, 5, none, 0, 11, false)) = true := by decide +kernel
set_option maxRecDepth 100000 in
theorem pm_ok_182 : pm_I182.all (pm_okB (yX11_lies, cX11_lies, 2, some (.int), 1, 11, false)) = true := by decide +kernel
set_option maxRecDepth 100000 in
theorem pm_ok_183 : pm_I183.all (pm_okB (yX11_longOf, cX11_longOf, 1, some (.int), 0, 11, false)) = true := by decide +kernel
set_option maxRecDepth 100000 in
theorem pm_ok_184 : pm_I184.all (pm_okB (yX11_lots, cX11_lots, 4, some (.int), 1, 11, false)) = true := by decide +kernel
set_option maxRecDepth 100000 in
theorem pm_ok_185 : pm_I185.all (pm_okB (yX11_means, cX11_means, 2, some (.int), 1, 11, false)) = true := by decide +kernel
set_option maxRecDepth 100000 in
theorem pm_ok_186 : pm_I186.all (pm_okB (yX11_meansOf, cX11_meansOf, 5, some (.int), 2, 11, false)) = true := by decide +kernel
set_option maxRecDepth 100000 in
theorem pm_ok_187 : pm_I187.all (pm_okB (yX11_misplaced, cX11_misplaced, 1, none, 0, 11, false)) = true := by decide +kernel
set_option maxRecDepth 100000 in
theorem pm_ok_188 : pm_I188.all (pm_okB (yX11_must, cX11_must, 2, none, 1, 11, false)) = true := by decide +kernel
set_option maxRecDepth 100000 in
theorem pm_ok_189 : pm_I189.all (pm_okB (yX11_next, cX11_next, 3, some (.int), 0, 11, false)) = true := by decide +kernel
set_option maxRecDepth 100000 in
theorem pm_ok_190 : pm_I190.all (pm_okB (yX11_numeral, cX11_numeral, 4, some (.int), 2, 11, false)) = true := by decide +kernel
set_option maxRecDepth 100000 in
theorem pm_ok_191 : pm_I191.all (pm_okB (yX11_orderTurn, cX11_orderTurn, 6, some (.int), 2, 11, true)) = true := by decide +kernel
set_option maxRecDepth 100000 in
theorem pm_ok_192 : pm_I192.all (pm_okB (yX11_orders, cX11_orders, 4, some (.int), 1, 11, false)) = true := by decide +kernel
set_option maxRecDepth 100000 in
theorem pm_ok_193 : pm_I193.all (pm_okB (yX11_packed, cX11_packed, 3, some (.int), 0, 11, false)) = true := by decide +kernel
set_option maxRecDepth 100000 in
theorem pm_ok_194 : pm_I194.all (pm_okB (yX11_pairOf, cX11_pairOf, 4, some (.int), 3, 11, false)) = true := by decide +kernel
set_option maxRecDepth 100000 in
theorem pm_ok_195 : pm_I195.all (pm_okB (yX11_plays, cX11_plays, 6, some (.int), 1, 11, false)) = true := by decide +kernel
set_option maxRecDepth 100000 in
theorem pm_ok_196 : pm_I196.all (pm_okB (yX11_port, cX11_port, 2, some (.int), 0, 11, false)) = true := by decide +kernel
set_option maxRecDepth 100000 in
theorem pm_ok_197 : pm_I197.all (pm_okB (yX11_readAlt, cX11_readAlt, 2, none, 0, 11, false)) = true := by decide +kernel
set_option maxRecDepth 100000 in
theorem pm_ok_198 : pm_I198.all (pm_okB (yX11_readLine, cX11_readLine, 3, none, 0, 11, false)) = true := by decide +kernel
set_option maxRecDepth 100000 in
theorem pm_ok_199 : pm_I199.all (pm_okB (yX11_readPair, cX11_readPair, 6, none, 0, 11, false)) = true := by decide +kernel
set_option maxRecDepth 100000 in
theorem pm_ok_200 : pm_I200.all (pm_okB (yX11_readRule, cX11_readRule, 2, none, 0, 11, false)) = true := by decide +kernel
set_option maxRecDepth 100000 in
theorem pm_ok_201 : pm_I201.all (pm_okB (yX11_readTurns, cX11_readTurns, 2, none, 0, 11, false)) = true := by decide +kernel
set_option maxRecDepth 100000 in
theorem pm_ok_202 : pm_I202.all (pm_okB (yX11_readWord, cX11_readWord, 3, none, 0, 11, false)) = true := by decide +kernel
set_option maxRecDepth 100000 in
theorem pm_ok_203 : pm_I203.all (pm_okB (yX11_readings, cX11_readings, 1, some (.int), 0, 11, false)) = true := by decide +kernel
set_option maxRecDepth 100000 in
theorem pm_ok_204 : pm_I204.all (pm_okB (yX11_readingsOf, cX11_readingsOf, 6, some (.long), 1, 11, false)) = true := by decide +kernel
set_option maxRecDepth 100000 in
theorem pm_ok_205 : pm_I205.all (pm_okB (yX11_redo, cX11_redo, 1, some (.boolean), 0, 11, false)) = true := by decide +kernel
set_option maxRecDepth 100000 in
theorem pm_ok_206 : pm_I206.all (pm_okB (yX11_ruleOf, cX11_ruleOf, 4, some (.int), 1, 11, false)) = true := by decide +kernel
set_option maxRecDepth 100000 in
theorem pm_ok_207 : pm_I207.all (pm_okB (yX11_seen, cX11_seen, 4, some (.int), 3, 11, false)) = true := by decide +kernel
set_option maxRecDepth 100000 in
theorem pm_ok_208 : pm_I208.all (pm_okB (yX11_sell, cX11_sell, 4, some (.int), 2, 11, false)) = true := by decide +kernel
set_option maxRecDepth 100000 in
theorem pm_ok_209 : pm_I209.all (pm_okB (yX11_settle, cX11_settle, 5, none, 0, 11, false)) = true := by decide +kernel
set_option maxRecDepth 100000 in
theorem pm_ok_210 : pm_I210.all (pm_okB (yX11_share, cX11_share, 7, some (.int), 2, 11, false)) = true := by decide +kernel
set_option maxRecDepth 100000 in
theorem pm_ok_211 : pm_I211.all (pm_okB (yX11_shortest, cX11_shortest, 2, some (.int), 1, 11, false)) = true := by decide +kernel
set_option maxRecDepth 100000 in
theorem pm_ok_212 : pm_I212.all (pm_okB (yX11_sign, cX11_sign, 2, some (.int), 1, 11, false)) = true := by decide +kernel
set_option maxRecDepth 100000 in
theorem pm_ok_213 : pm_I213.all (pm_okB (yX11_struck, cX11_struck, 6, some (.int), 1, 11, false)) = true := by decide +kernel
set_option maxRecDepth 100000 in
theorem pm_ok_214 : pm_I214.all (pm_okB (yX11_sumOf, cX11_sumOf, 5, some (.int), 1, 11, false)) = true := by decide +kernel
set_option maxRecDepth 100000 in
theorem pm_ok_215 : pm_I215.all (pm_okB (yX11_swap, cX11_swap, 7, some (.int), 0, 11, false)) = true := by decide +kernel
set_option maxRecDepth 100000 in
theorem pm_ok_216 : pm_I216.all (pm_okB (yX11_takeCharter, cX11_takeCharter, 2, none, 0, 11, false)) = true := by decide +kernel
set_option maxRecDepth 100000 in
theorem pm_ok_217 : pm_I217.all (pm_okB (yX11_toldTurn, cX11_toldTurn, 2, some (.int), 1, 11, false)) = true := by decide +kernel
set_option maxRecDepth 100000 in
theorem pm_ok_218 : pm_I218.all (pm_okB (yX11_tryRow, cX11_tryRow, 2, none, 0, 11, false)) = true := by decide +kernel
set_option maxRecDepth 100000 in
theorem pm_ok_219 : pm_I219.all (pm_okB (yX11_tryWithout, cX11_tryWithout, 4, none, 1, 11, false)) = true := by decide +kernel
set_option maxRecDepth 100000 in
theorem pm_ok_220 : pm_I220.all (pm_okB (yX11_turn, cX11_turn, 2, some (.int), 1, 11, false)) = true := by decide +kernel
set_option maxRecDepth 100000 in
theorem pm_ok_221 : pm_I221.all (pm_okB (yX11_turnsByOrder, cX11_turnsByOrder, 3, none, 1, 11, false)) = true := by decide +kernel
set_option maxRecDepth 100000 in
theorem pm_ok_222 : pm_I222.all (pm_okB (yX11_turnsNow, cX11_turnsNow, 2, none, 0, 11, false)) = true := by decide +kernel
set_option maxRecDepth 100000 in
theorem pm_ok_223 : pm_I223.all (pm_okB (yX11_undo, cX11_undo, 1, some (.boolean), 0, 11, false)) = true := by decide +kernel
set_option maxRecDepth 100000 in
theorem pm_ok_224 : pm_I224.all (pm_okB (yX11_unpack, cX11_unpack, 3, none, 1, 11, false)) = true := by decide +kernel
set_option maxRecDepth 100000 in
theorem pm_ok_225 : pm_I225.all (pm_okB (yX11_untell, cX11_untell, 2, some (.boolean), 1, 11, false)) = true := by decide +kernel
set_option maxRecDepth 100000 in
theorem pm_ok_226 : pm_I226.all (pm_okB (yX11_used, cX11_used, 5, some (.int), 0, 11, false)) = true := by decide +kernel
set_option maxRecDepth 100000 in
theorem pm_ok_227 : pm_I227.all (pm_okB (yX11_waysBy, cX11_waysBy, 7, some (.long), 3, 11, false)) = true := by decide +kernel
set_option maxRecDepth 100000 in
theorem pm_ok_228 : pm_I228.all (pm_okB (yX11_wipe, cX11_wipe, 2, some (.int), 0, 11, false)) = true := by decide +kernel
set_option maxRecDepth 100000 in
theorem pm_ok_229 : pm_I229.all (pm_okB (yX11_word, cX11_word, 2, some (.int), 1, 11, false)) = true := by decide +kernel
set_option maxRecDepth 100000 in
theorem pm_ok_230 : pm_I230.all (pm_okB (yX11_wordIn, cX11_wordIn, 3, some (.int), 2, 11, false)) = true := by decide +kernel
set_option maxRecDepth 100000 in
theorem pm_ok_231 : pm_I231.all (pm_okB (yX11_wordOf, cX11_wordOf, 4, some (.int), 1, 11, false)) = true := by decide +kernel
set_option maxRecDepth 100000 in
theorem pm_ok_232 : pm_I232.all (pm_okB (yX11_worth, cX11_worth, 3, some (.int), 2, 11, false)) = true := by decide +kernel
set_option maxRecDepth 100000 in
theorem pm_ok_233 : pm_I233.all (pm_okB (yX11_write, cX11_write, 2, some (.int), 1, 11, false)) = true := by decide +kernel
set_option maxRecDepth 100000 in
theorem pm_ok_234 : pm_I234.all (pm_okB (yX11_written, cX11_written, 3, some (.int), 1, 11, false)) = true := by decide +kernel
set_option maxRecDepth 100000 in
theorem pm_ok_235 : pm_I235.all (pm_okB (yJ7_fill_53178, cJ7_fill_53178, 4, none, 2, 13, true)) = true := by decide +kernel
theorem pm_ok : ∀ (k : Nat) (me : pm_Me) (l : List (Nat × pm_Ins)), k < 236 → pm_M[k]? = some me → pm_I[k]? = some l → l.all (pm_okB me) = true := fun k => match k with
  | 0 => fun _ _ _ h1 h2 => by cases h1; cases h2; exact pm_ok_0
  | 1 => fun _ _ _ h1 h2 => by cases h1; cases h2; exact pm_ok_1
  | 2 => fun _ _ _ h1 h2 => by cases h1; cases h2; exact pm_ok_2
  | 3 => fun _ _ _ h1 h2 => by cases h1; cases h2; exact pm_ok_3
  | 4 => fun _ _ _ h1 h2 => by cases h1; cases h2; exact pm_ok_4
  | 5 => fun _ _ _ h1 h2 => by cases h1; cases h2; exact pm_ok_5
  | 6 => fun _ _ _ h1 h2 => by cases h1; cases h2; exact pm_ok_6
  | 7 => fun _ _ _ h1 h2 => by cases h1; cases h2; exact pm_ok_7
  | 8 => fun _ _ _ h1 h2 => by cases h1; cases h2; exact pm_ok_8
  | 9 => fun _ _ _ h1 h2 => by cases h1; cases h2; exact pm_ok_9
  | 10 => fun _ _ _ h1 h2 => by cases h1; cases h2; exact pm_ok_10
  | 11 => fun _ _ _ h1 h2 => by cases h1; cases h2; exact pm_ok_11
  | 12 => fun _ _ _ h1 h2 => by cases h1; cases h2; exact pm_ok_12
  | 13 => fun _ _ _ h1 h2 => by cases h1; cases h2; exact pm_ok_13
  | 14 => fun _ _ _ h1 h2 => by cases h1; cases h2; exact pm_ok_14
  | 15 => fun _ _ _ h1 h2 => by cases h1; cases h2; exact pm_ok_15
  | 16 => fun _ _ _ h1 h2 => by cases h1; cases h2; exact pm_ok_16
  | 17 => fun _ _ _ h1 h2 => by cases h1; cases h2; exact pm_ok_17
  | 18 => fun _ _ _ h1 h2 => by cases h1; cases h2; exact pm_ok_18
  | 19 => fun _ _ _ h1 h2 => by cases h1; cases h2; exact pm_ok_19
  | 20 => fun _ _ _ h1 h2 => by cases h1; cases h2; exact pm_ok_20
  | 21 => fun _ _ _ h1 h2 => by cases h1; cases h2; exact pm_ok_21
  | 22 => fun _ _ _ h1 h2 => by cases h1; cases h2; exact pm_ok_22
  | 23 => fun _ _ _ h1 h2 => by cases h1; cases h2; exact pm_ok_23
  | 24 => fun _ _ _ h1 h2 => by cases h1; cases h2; exact pm_ok_24
  | 25 => fun _ _ _ h1 h2 => by cases h1; cases h2; exact pm_ok_25
  | 26 => fun _ _ _ h1 h2 => by cases h1; cases h2; exact pm_ok_26
  | 27 => fun _ _ _ h1 h2 => by cases h1; cases h2; exact pm_ok_27
  | 28 => fun _ _ _ h1 h2 => by cases h1; cases h2; exact pm_ok_28
  | 29 => fun _ _ _ h1 h2 => by cases h1; cases h2; exact pm_ok_29
  | 30 => fun _ _ _ h1 h2 => by cases h1; cases h2; exact pm_ok_30
  | 31 => fun _ _ _ h1 h2 => by cases h1; cases h2; exact pm_ok_31
  | 32 => fun _ _ _ h1 h2 => by cases h1; cases h2; exact pm_ok_32
  | 33 => fun _ _ _ h1 h2 => by cases h1; cases h2; exact pm_ok_33
  | 34 => fun _ _ _ h1 h2 => by cases h1; cases h2; exact pm_ok_34
  | 35 => fun _ _ _ h1 h2 => by cases h1; cases h2; exact pm_ok_35
  | 36 => fun _ _ _ h1 h2 => by cases h1; cases h2; exact pm_ok_36
  | 37 => fun _ _ _ h1 h2 => by cases h1; cases h2; exact pm_ok_37
  | 38 => fun _ _ _ h1 h2 => by cases h1; cases h2; exact pm_ok_38
  | 39 => fun _ _ _ h1 h2 => by cases h1; cases h2; exact pm_ok_39
  | 40 => fun _ _ _ h1 h2 => by cases h1; cases h2; exact pm_ok_40
  | 41 => fun _ _ _ h1 h2 => by cases h1; cases h2; exact pm_ok_41
  | 42 => fun _ _ _ h1 h2 => by cases h1; cases h2; exact pm_ok_42
  | 43 => fun _ _ _ h1 h2 => by cases h1; cases h2; exact pm_ok_43
  | 44 => fun _ _ _ h1 h2 => by cases h1; cases h2; exact pm_ok_44
  | 45 => fun _ _ _ h1 h2 => by cases h1; cases h2; exact pm_ok_45
  | 46 => fun _ _ _ h1 h2 => by cases h1; cases h2; exact pm_ok_46
  | 47 => fun _ _ _ h1 h2 => by cases h1; cases h2; exact pm_ok_47
  | 48 => fun _ _ _ h1 h2 => by cases h1; cases h2; exact pm_ok_48
  | 49 => fun _ _ _ h1 h2 => by cases h1; cases h2; exact pm_ok_49
  | 50 => fun _ _ _ h1 h2 => by cases h1; cases h2; exact pm_ok_50
  | 51 => fun _ _ _ h1 h2 => by cases h1; cases h2; exact pm_ok_51
  | 52 => fun _ _ _ h1 h2 => by cases h1; cases h2; exact pm_ok_52
  | 53 => fun _ _ _ h1 h2 => by cases h1; cases h2; exact pm_ok_53
  | 54 => fun _ _ _ h1 h2 => by cases h1; cases h2; exact pm_ok_54
  | 55 => fun _ _ _ h1 h2 => by cases h1; cases h2; exact pm_ok_55
  | 56 => fun _ _ _ h1 h2 => by cases h1; cases h2; exact pm_ok_56
  | 57 => fun _ _ _ h1 h2 => by cases h1; cases h2; exact pm_ok_57
  | 58 => fun _ _ _ h1 h2 => by cases h1; cases h2; exact pm_ok_58
  | 59 => fun _ _ _ h1 h2 => by cases h1; cases h2; exact pm_ok_59
  | 60 => fun _ _ _ h1 h2 => by cases h1; cases h2; exact pm_ok_60
  | 61 => fun _ _ _ h1 h2 => by cases h1; cases h2; exact pm_ok_61
  | 62 => fun _ _ _ h1 h2 => by cases h1; cases h2; exact pm_ok_62
  | 63 => fun _ _ _ h1 h2 => by cases h1; cases h2; exact pm_ok_63
  | 64 => fun _ _ _ h1 h2 => by cases h1; cases h2; exact pm_ok_64
  | 65 => fun _ _ _ h1 h2 => by cases h1; cases h2; exact pm_ok_65
  | 66 => fun _ _ _ h1 h2 => by cases h1; cases h2; exact pm_ok_66
  | 67 => fun _ _ _ h1 h2 => by cases h1; cases h2; exact pm_ok_67
  | 68 => fun _ _ _ h1 h2 => by cases h1; cases h2; exact pm_ok_68
  | 69 => fun _ _ _ h1 h2 => by cases h1; cases h2; exact pm_ok_69
  | 70 => fun _ _ _ h1 h2 => by cases h1; cases h2; exact pm_ok_70
  | 71 => fun _ _ _ h1 h2 => by cases h1; cases h2; exact pm_ok_71
  | 72 => fun _ _ _ h1 h2 => by cases h1; cases h2; exact pm_ok_72
  | 73 => fun _ _ _ h1 h2 => by cases h1; cases h2; exact pm_ok_73
  | 74 => fun _ _ _ h1 h2 => by cases h1; cases h2; exact pm_ok_74
  | 75 => fun _ _ _ h1 h2 => by cases h1; cases h2; exact pm_ok_75
  | 76 => fun _ _ _ h1 h2 => by cases h1; cases h2; exact pm_ok_76
  | 77 => fun _ _ _ h1 h2 => by cases h1; cases h2; exact pm_ok_77
  | 78 => fun _ _ _ h1 h2 => by cases h1; cases h2; exact pm_ok_78
  | 79 => fun _ _ _ h1 h2 => by cases h1; cases h2; exact pm_ok_79
  | 80 => fun _ _ _ h1 h2 => by cases h1; cases h2; exact pm_ok_80
  | 81 => fun _ _ _ h1 h2 => by cases h1; cases h2; exact pm_ok_81
  | 82 => fun _ _ _ h1 h2 => by cases h1; cases h2; exact pm_ok_82
  | 83 => fun _ _ _ h1 h2 => by cases h1; cases h2; exact pm_ok_83
  | 84 => fun _ _ _ h1 h2 => by cases h1; cases h2; exact pm_ok_84
  | 85 => fun _ _ _ h1 h2 => by cases h1; cases h2; exact pm_ok_85
  | 86 => fun _ _ _ h1 h2 => by cases h1; cases h2; exact pm_ok_86
  | 87 => fun _ _ _ h1 h2 => by cases h1; cases h2; exact pm_ok_87
  | 88 => fun _ _ _ h1 h2 => by cases h1; cases h2; exact pm_ok_88
  | 89 => fun _ _ _ h1 h2 => by cases h1; cases h2; exact pm_ok_89
  | 90 => fun _ _ _ h1 h2 => by cases h1; cases h2; exact pm_ok_90
  | 91 => fun _ _ _ h1 h2 => by cases h1; cases h2; exact pm_ok_91
  | 92 => fun _ _ _ h1 h2 => by cases h1; cases h2; exact pm_ok_92
  | 93 => fun _ _ _ h1 h2 => by cases h1; cases h2; exact pm_ok_93
  | 94 => fun _ _ _ h1 h2 => by cases h1; cases h2; exact pm_ok_94
  | 95 => fun _ _ _ h1 h2 => by cases h1; cases h2; exact pm_ok_95
  | 96 => fun _ _ _ h1 h2 => by cases h1; cases h2; exact pm_ok_96
  | 97 => fun _ _ _ h1 h2 => by cases h1; cases h2; exact pm_ok_97
  | 98 => fun _ _ _ h1 h2 => by cases h1; cases h2; exact pm_ok_98
  | 99 => fun _ _ _ h1 h2 => by cases h1; cases h2; exact pm_ok_99
  | 100 => fun _ _ _ h1 h2 => by cases h1; cases h2; exact pm_ok_100
  | 101 => fun _ _ _ h1 h2 => by cases h1; cases h2; exact pm_ok_101
  | 102 => fun _ _ _ h1 h2 => by cases h1; cases h2; exact pm_ok_102
  | 103 => fun _ _ _ h1 h2 => by cases h1; cases h2; exact pm_ok_103
  | 104 => fun _ _ _ h1 h2 => by cases h1; cases h2; exact pm_ok_104
  | 105 => fun _ _ _ h1 h2 => by cases h1; cases h2; exact pm_ok_105
  | 106 => fun _ _ _ h1 h2 => by cases h1; cases h2; exact pm_ok_106
  | 107 => fun _ _ _ h1 h2 => by cases h1; cases h2; exact pm_ok_107
  | 108 => fun _ _ _ h1 h2 => by cases h1; cases h2; exact pm_ok_108
  | 109 => fun _ _ _ h1 h2 => by cases h1; cases h2; exact pm_ok_109
  | 110 => fun _ _ _ h1 h2 => by cases h1; cases h2; exact pm_ok_110
  | 111 => fun _ _ _ h1 h2 => by cases h1; cases h2; exact pm_ok_111
  | 112 => fun _ _ _ h1 h2 => by cases h1; cases h2; exact pm_ok_112
  | 113 => fun _ _ _ h1 h2 => by cases h1; cases h2; exact pm_ok_113
  | 114 => fun _ _ _ h1 h2 => by cases h1; cases h2; exact pm_ok_114
  | 115 => fun _ _ _ h1 h2 => by cases h1; cases h2; exact pm_ok_115
  | 116 => fun _ _ _ h1 h2 => by cases h1; cases h2; exact pm_ok_116
  | 117 => fun _ _ _ h1 h2 => by cases h1; cases h2; exact pm_ok_117
  | 118 => fun _ _ _ h1 h2 => by cases h1; cases h2; exact pm_ok_118
  | 119 => fun _ _ _ h1 h2 => by cases h1; cases h2; exact pm_ok_119
  | 120 => fun _ _ _ h1 h2 => by cases h1; cases h2; exact pm_ok_120
  | 121 => fun _ _ _ h1 h2 => by cases h1; cases h2; exact pm_ok_121
  | 122 => fun _ _ _ h1 h2 => by cases h1; cases h2; exact pm_ok_122
  | 123 => fun _ _ _ h1 h2 => by cases h1; cases h2; exact pm_ok_123
  | 124 => fun _ _ _ h1 h2 => by cases h1; cases h2; exact pm_ok_124
  | 125 => fun _ _ _ h1 h2 => by cases h1; cases h2; exact pm_ok_125
  | 126 => fun _ _ _ h1 h2 => by cases h1; cases h2; exact pm_ok_126
  | 127 => fun _ _ _ h1 h2 => by cases h1; cases h2; exact pm_ok_127
  | 128 => fun _ _ _ h1 h2 => by cases h1; cases h2; exact pm_ok_128
  | 129 => fun _ _ _ h1 h2 => by cases h1; cases h2; exact pm_ok_129
  | 130 => fun _ _ _ h1 h2 => by cases h1; cases h2; exact pm_ok_130
  | 131 => fun _ _ _ h1 h2 => by cases h1; cases h2; exact pm_ok_131
  | 132 => fun _ _ _ h1 h2 => by cases h1; cases h2; exact pm_ok_132
  | 133 => fun _ _ _ h1 h2 => by cases h1; cases h2; exact pm_ok_133
  | 134 => fun _ _ _ h1 h2 => by cases h1; cases h2; exact pm_ok_134
  | 135 => fun _ _ _ h1 h2 => by cases h1; cases h2; exact pm_ok_135
  | 136 => fun _ _ _ h1 h2 => by cases h1; cases h2; exact pm_ok_136
  | 137 => fun _ _ _ h1 h2 => by cases h1; cases h2; exact pm_ok_137
  | 138 => fun _ _ _ h1 h2 => by cases h1; cases h2; exact pm_ok_138
  | 139 => fun _ _ _ h1 h2 => by cases h1; cases h2; exact pm_ok_139
  | 140 => fun _ _ _ h1 h2 => by cases h1; cases h2; exact pm_ok_140
  | 141 => fun _ _ _ h1 h2 => by cases h1; cases h2; exact pm_ok_141
  | 142 => fun _ _ _ h1 h2 => by cases h1; cases h2; exact pm_ok_142
  | 143 => fun _ _ _ h1 h2 => by cases h1; cases h2; exact pm_ok_143
  | 144 => fun _ _ _ h1 h2 => by cases h1; cases h2; exact pm_ok_144
  | 145 => fun _ _ _ h1 h2 => by cases h1; cases h2; exact pm_ok_145
  | 146 => fun _ _ _ h1 h2 => by cases h1; cases h2; exact pm_ok_146
  | 147 => fun _ _ _ h1 h2 => by cases h1; cases h2; exact pm_ok_147
  | 148 => fun _ _ _ h1 h2 => by cases h1; cases h2; exact pm_ok_148
  | 149 => fun _ _ _ h1 h2 => by cases h1; cases h2; exact pm_ok_149
  | 150 => fun _ _ _ h1 h2 => by cases h1; cases h2; exact pm_ok_150
  | 151 => fun _ _ _ h1 h2 => by cases h1; cases h2; exact pm_ok_151
  | 152 => fun _ _ _ h1 h2 => by cases h1; cases h2; exact pm_ok_152
  | 153 => fun _ _ _ h1 h2 => by cases h1; cases h2; exact pm_ok_153
  | 154 => fun _ _ _ h1 h2 => by cases h1; cases h2; exact pm_ok_154
  | 155 => fun _ _ _ h1 h2 => by cases h1; cases h2; exact pm_ok_155
  | 156 => fun _ _ _ h1 h2 => by cases h1; cases h2; exact pm_ok_156
  | 157 => fun _ _ _ h1 h2 => by cases h1; cases h2; exact pm_ok_157
  | 158 => fun _ _ _ h1 h2 => by cases h1; cases h2; exact pm_ok_158
  | 159 => fun _ _ _ h1 h2 => by cases h1; cases h2; exact pm_ok_159
  | 160 => fun _ _ _ h1 h2 => by cases h1; cases h2; exact pm_ok_160
  | 161 => fun _ _ _ h1 h2 => by cases h1; cases h2; exact pm_ok_161
  | 162 => fun _ _ _ h1 h2 => by cases h1; cases h2; exact pm_ok_162
  | 163 => fun _ _ _ h1 h2 => by cases h1; cases h2; exact pm_ok_163
  | 164 => fun _ _ _ h1 h2 => by cases h1; cases h2; exact pm_ok_164
  | 165 => fun _ _ _ h1 h2 => by cases h1; cases h2; exact pm_ok_165
  | 166 => fun _ _ _ h1 h2 => by cases h1; cases h2; exact pm_ok_166
  | 167 => fun _ _ _ h1 h2 => by cases h1; cases h2; exact pm_ok_167
  | 168 => fun _ _ _ h1 h2 => by cases h1; cases h2; exact pm_ok_168
  | 169 => fun _ _ _ h1 h2 => by cases h1; cases h2; exact pm_ok_169
  | 170 => fun _ _ _ h1 h2 => by cases h1; cases h2; exact pm_ok_170
  | 171 => fun _ _ _ h1 h2 => by cases h1; cases h2; exact pm_ok_171
  | 172 => fun _ _ _ h1 h2 => by cases h1; cases h2; exact pm_ok_172
  | 173 => fun _ _ _ h1 h2 => by cases h1; cases h2; exact pm_ok_173
  | 174 => fun _ _ _ h1 h2 => by cases h1; cases h2; exact pm_ok_174
  | 175 => fun _ _ _ h1 h2 => by cases h1; cases h2; exact pm_ok_175
  | 176 => fun _ _ _ h1 h2 => by cases h1; cases h2; exact pm_ok_176
  | 177 => fun _ _ _ h1 h2 => by cases h1; cases h2; exact pm_ok_177
  | 178 => fun _ _ _ h1 h2 => by cases h1; cases h2; exact pm_ok_178
  | 179 => fun _ _ _ h1 h2 => by cases h1; cases h2; exact pm_ok_179
  | 180 => fun _ _ _ h1 h2 => by cases h1; cases h2; exact pm_ok_180
  | 181 => fun _ _ _ h1 h2 => by cases h1; cases h2; exact pm_ok_181
  | 182 => fun _ _ _ h1 h2 => by cases h1; cases h2; exact pm_ok_182
  | 183 => fun _ _ _ h1 h2 => by cases h1; cases h2; exact pm_ok_183
  | 184 => fun _ _ _ h1 h2 => by cases h1; cases h2; exact pm_ok_184
  | 185 => fun _ _ _ h1 h2 => by cases h1; cases h2; exact pm_ok_185
  | 186 => fun _ _ _ h1 h2 => by cases h1; cases h2; exact pm_ok_186
  | 187 => fun _ _ _ h1 h2 => by cases h1; cases h2; exact pm_ok_187
  | 188 => fun _ _ _ h1 h2 => by cases h1; cases h2; exact pm_ok_188
  | 189 => fun _ _ _ h1 h2 => by cases h1; cases h2; exact pm_ok_189
  | 190 => fun _ _ _ h1 h2 => by cases h1; cases h2; exact pm_ok_190
  | 191 => fun _ _ _ h1 h2 => by cases h1; cases h2; exact pm_ok_191
  | 192 => fun _ _ _ h1 h2 => by cases h1; cases h2; exact pm_ok_192
  | 193 => fun _ _ _ h1 h2 => by cases h1; cases h2; exact pm_ok_193
  | 194 => fun _ _ _ h1 h2 => by cases h1; cases h2; exact pm_ok_194
  | 195 => fun _ _ _ h1 h2 => by cases h1; cases h2; exact pm_ok_195
  | 196 => fun _ _ _ h1 h2 => by cases h1; cases h2; exact pm_ok_196
  | 197 => fun _ _ _ h1 h2 => by cases h1; cases h2; exact pm_ok_197
  | 198 => fun _ _ _ h1 h2 => by cases h1; cases h2; exact pm_ok_198
  | 199 => fun _ _ _ h1 h2 => by cases h1; cases h2; exact pm_ok_199
  | 200 => fun _ _ _ h1 h2 => by cases h1; cases h2; exact pm_ok_200
  | 201 => fun _ _ _ h1 h2 => by cases h1; cases h2; exact pm_ok_201
  | 202 => fun _ _ _ h1 h2 => by cases h1; cases h2; exact pm_ok_202
  | 203 => fun _ _ _ h1 h2 => by cases h1; cases h2; exact pm_ok_203
  | 204 => fun _ _ _ h1 h2 => by cases h1; cases h2; exact pm_ok_204
  | 205 => fun _ _ _ h1 h2 => by cases h1; cases h2; exact pm_ok_205
  | 206 => fun _ _ _ h1 h2 => by cases h1; cases h2; exact pm_ok_206
  | 207 => fun _ _ _ h1 h2 => by cases h1; cases h2; exact pm_ok_207
  | 208 => fun _ _ _ h1 h2 => by cases h1; cases h2; exact pm_ok_208
  | 209 => fun _ _ _ h1 h2 => by cases h1; cases h2; exact pm_ok_209
  | 210 => fun _ _ _ h1 h2 => by cases h1; cases h2; exact pm_ok_210
  | 211 => fun _ _ _ h1 h2 => by cases h1; cases h2; exact pm_ok_211
  | 212 => fun _ _ _ h1 h2 => by cases h1; cases h2; exact pm_ok_212
  | 213 => fun _ _ _ h1 h2 => by cases h1; cases h2; exact pm_ok_213
  | 214 => fun _ _ _ h1 h2 => by cases h1; cases h2; exact pm_ok_214
  | 215 => fun _ _ _ h1 h2 => by cases h1; cases h2; exact pm_ok_215
  | 216 => fun _ _ _ h1 h2 => by cases h1; cases h2; exact pm_ok_216
  | 217 => fun _ _ _ h1 h2 => by cases h1; cases h2; exact pm_ok_217
  | 218 => fun _ _ _ h1 h2 => by cases h1; cases h2; exact pm_ok_218
  | 219 => fun _ _ _ h1 h2 => by cases h1; cases h2; exact pm_ok_219
  | 220 => fun _ _ _ h1 h2 => by cases h1; cases h2; exact pm_ok_220
  | 221 => fun _ _ _ h1 h2 => by cases h1; cases h2; exact pm_ok_221
  | 222 => fun _ _ _ h1 h2 => by cases h1; cases h2; exact pm_ok_222
  | 223 => fun _ _ _ h1 h2 => by cases h1; cases h2; exact pm_ok_223
  | 224 => fun _ _ _ h1 h2 => by cases h1; cases h2; exact pm_ok_224
  | 225 => fun _ _ _ h1 h2 => by cases h1; cases h2; exact pm_ok_225
  | 226 => fun _ _ _ h1 h2 => by cases h1; cases h2; exact pm_ok_226
  | 227 => fun _ _ _ h1 h2 => by cases h1; cases h2; exact pm_ok_227
  | 228 => fun _ _ _ h1 h2 => by cases h1; cases h2; exact pm_ok_228
  | 229 => fun _ _ _ h1 h2 => by cases h1; cases h2; exact pm_ok_229
  | 230 => fun _ _ _ h1 h2 => by cases h1; cases h2; exact pm_ok_230
  | 231 => fun _ _ _ h1 h2 => by cases h1; cases h2; exact pm_ok_231
  | 232 => fun _ _ _ h1 h2 => by cases h1; cases h2; exact pm_ok_232
  | 233 => fun _ _ _ h1 h2 => by cases h1; cases h2; exact pm_ok_233
  | 234 => fun _ _ _ h1 h2 => by cases h1; cases h2; exact pm_ok_234
  | 235 => fun _ _ _ h1 h2 => by cases h1; cases h2; exact pm_ok_235
  | k + 236 => fun _ _ h _ _ => absurd h (by omega)
