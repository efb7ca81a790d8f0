set_option maxRecDepth 100000 in
theorem pm_mk_0 : pm_Mk (yX0_doAgain, cX0_doAgain, 2, some (.boolean), 0, 0, false) := ⟨pm_inG pm_mc_0 rfl, pm_inG pm_in_0 rfl, by decide +kernel, rfl, by decide +kernel, ⟨pm_inG pm_mi_0 rfl, pm_inG pm_me_0 rfl⟩, by decide, Or.inr (Or.inr (Or.inl rfl))⟩
set_option maxRecDepth 100000 in
theorem pm_mk_1 : pm_Mk (yX0_dropOldest, cX0_dropOldest, 2, none, 0, 0, false) := ⟨pm_inG pm_mc_1 rfl, pm_inG pm_in_0 rfl, by decide +kernel, rfl, by decide +kernel, ⟨pm_inG pm_mi_1 rfl, pm_inG pm_me_1 rfl⟩, by decide, Or.inl rfl⟩
set_option maxRecDepth 100000 in
theorem pm_mk_2 : pm_Mk (yX0_empty, cX0_empty, 1, none, 0, 0, false) := ⟨pm_inG pm_mc_2 rfl, pm_inG pm_in_0 rfl, by decide +kernel, rfl, by decide +kernel, ⟨pm_inG pm_mi_2 rfl, pm_inG pm_me_2 rfl⟩, by decide, Or.inl rfl⟩
set_option maxRecDepth 100000 in
theorem pm_mk_3 : pm_Mk (yX0_forgetActs, cX0_forgetActs, 1, none, 0, 0, false) := ⟨pm_inG pm_mc_3 rfl, pm_inG pm_in_0 rfl, by decide +kernel, rfl, by decide +kernel, ⟨pm_inG pm_mi_3 rfl, pm_inG pm_me_3 rfl⟩, by decide, Or.inl rfl⟩
set_option maxRecDepth 100000 in
theorem pm_mk_4 : pm_Mk (yX0_note, cX0_note, 5, none, 4, 0, false) := ⟨pm_inG pm_mc_4 rfl, pm_inG pm_in_0 rfl, by decide +kernel, rfl, by decide +kernel, ⟨pm_inG pm_mi_4 rfl, pm_inG pm_me_4 rfl⟩, by decide, Or.inl rfl⟩
set_option maxRecDepth 100000 in
theorem pm_mk_5 : pm_Mk (yX0_putSale, cX0_putSale, 3, none, 2, 0, false) := ⟨pm_inG pm_mc_5 rfl, pm_inG pm_in_0 rfl, by decide +kernel, rfl, by decide +kernel, ⟨pm_inG pm_mi_5 rfl, pm_inG pm_me_5 rfl⟩, by decide, Or.inl rfl⟩
set_option maxRecDepth 100000 in
theorem pm_mk_6 : pm_Mk (yX0_putWord, cX0_putWord, 2, none, 1, 0, false) := ⟨pm_inG pm_mc_6 rfl, pm_inG pm_in_0 rfl, by decide +kernel, rfl, by decide +kernel, ⟨pm_inG pm_mi_6 rfl, pm_inG pm_me_6 rfl⟩, by decide, Or.inl rfl⟩
set_option maxRecDepth 100000 in
theorem pm_mk_7 : pm_Mk (yX0_rowWithout, cX0_rowWithout, 5, some (.int), 2, 0, false) := ⟨pm_inG pm_mc_7 rfl, pm_inG pm_in_0 rfl, by decide +kernel, rfl, by decide +kernel, ⟨pm_inG pm_mi_7 rfl, pm_inG pm_me_7 rfl⟩, by decide, Or.inr (Or.inl rfl)⟩
set_option maxRecDepth 100000 in
theorem pm_mk_8 : pm_Mk (yX0_takeBack, cX0_takeBack, 1, some (.boolean), 0, 0, false) := ⟨pm_inG pm_mc_8 rfl, pm_inG pm_in_0 rfl, by decide +kernel, rfl, by decide +kernel, ⟨pm_inG pm_mi_8 rfl, pm_inG pm_me_8 rfl⟩, by decide, Or.inr (Or.inr (Or.inl rfl))⟩
set_option maxRecDepth 100000 in
theorem pm_mk_9 : pm_Mk (yX1_giveBack, cX1_giveBack, 2, none, 1, 1, false) := ⟨pm_inG pm_mc_9 rfl, pm_inG pm_in_1 rfl, by decide +kernel, rfl, by decide +kernel, ⟨pm_inG pm_mi_9 rfl, pm_inG pm_me_9 rfl⟩, by decide, Or.inl rfl⟩
set_option maxRecDepth 100000 in
theorem pm_mk_10 : pm_Mk (yX1_keep, cX1_keep, 2, none, 1, 1, false) := ⟨pm_inG pm_mc_10 rfl, pm_inG pm_in_1 rfl, by decide +kernel, rfl, by decide +kernel, ⟨pm_inG pm_mi_10 rfl, pm_inG pm_me_10 rfl⟩, by decide, Or.inl rfl⟩
set_option maxRecDepth 100000 in
theorem pm_mk_11 : pm_Mk (yX2_bindAlt, cX2_bindAlt, 7, some (.boolean), 2, 2, false) := ⟨pm_inG pm_mc_11 rfl, pm_inG pm_in_2 rfl, by decide +kernel, rfl, by decide +kernel, ⟨pm_inG pm_mi_11 rfl, pm_inG pm_me_11 rfl⟩, by decide, Or.inr (Or.inr (Or.inl rfl))⟩
set_option maxRecDepth 100000 in
theorem pm_mk_12 : pm_Mk (yX2_bindParts, cX2_bindParts, 3, some (.boolean), 0, 2, false) := ⟨pm_inG pm_mc_12 rfl, pm_inG pm_in_2 rfl, by decide +kernel, rfl, by decide +kernel, ⟨pm_inG pm_mi_12 rfl, pm_inG pm_me_12 rfl⟩, by decide, Or.inr (Or.inr (Or.inl rfl))⟩
set_option maxRecDepth 100000 in
theorem pm_mk_13 : pm_Mk (yX2_pass, cX2_pass, 2, some (.boolean), 1, 2, false) := ⟨pm_inG pm_mc_13 rfl, pm_inG pm_in_2 rfl, by decide +kernel, rfl, by decide +kernel, ⟨pm_inG pm_mi_13 rfl, pm_inG pm_me_13 rfl⟩, by decide, Or.inr (Or.inr (Or.inl rfl))⟩
set_option maxRecDepth 100000 in
theorem pm_mk_14 : pm_Mk (yX2_passFirst, cX2_passFirst, 2, some (.boolean), 1, 2, false) := ⟨pm_inG pm_mc_14 rfl, pm_inG pm_in_2 rfl, by decide +kernel, rfl, by decide +kernel, ⟨pm_inG pm_mi_14 rfl, pm_inG pm_me_14 rfl⟩, by decide, Or.inr (Or.inr (Or.inl rfl))⟩
set_option maxRecDepth 100000 in
theorem pm_mk_15 : pm_Mk (yX2_passNewName, cX2_passNewName, 1, some (.boolean), 0, 2, false) := ⟨pm_inG pm_mc_15 rfl, pm_inG pm_in_2 rfl, by decide +kernel, rfl, by decide +kernel, ⟨pm_inG pm_mi_15 rfl, pm_inG pm_me_15 rfl⟩, by decide, Or.inr (Or.inr (Or.inl rfl))⟩
set_option maxRecDepth 100000 in
theorem pm_mk_16 : pm_Mk (yX2_passNumber, cX2_passNumber, 3, some (.boolean), 2, 2, false) := ⟨pm_inG pm_mc_16 rfl, pm_inG pm_in_2 rfl, by decide +kernel, rfl, by decide +kernel, ⟨pm_inG pm_mi_16 rfl, pm_inG pm_me_16 rfl⟩, by decide, Or.inr (Or.inr (Or.inl rfl))⟩
set_option maxRecDepth 100000 in
theorem pm_mk_17 : pm_Mk (yX2_passPairName, cX2_passPairName, 3, some (.boolean), 2, 2, false) := ⟨pm_inG pm_mc_17 rfl, pm_inG pm_in_2 rfl, by decide +kernel, rfl, by decide +kernel, ⟨pm_inG pm_mi_17 rfl, pm_inG pm_me_17 rfl⟩, by decide, Or.inr (Or.inr (Or.inl rfl))⟩
set_option maxRecDepth 100000 in
theorem pm_mk_18 : pm_Mk (yX2_readAlt, cX2_readAlt, 2, some (.boolean), 0, 2, false) := ⟨pm_inG pm_mc_18 rfl, pm_inG pm_in_2 rfl, by decide +kernel, rfl, by decide +kernel, ⟨pm_inG pm_mi_18 rfl, pm_inG pm_me_18 rfl⟩, by decide, Or.inr (Or.inr (Or.inl rfl))⟩
set_option maxRecDepth 100000 in
theorem pm_mk_19 : pm_Mk (yX2_readLength, cX2_readLength, 2, some (.boolean), 0, 2, false) := ⟨pm_inG pm_mc_19 rfl, pm_inG pm_in_2 rfl, by decide +kernel, rfl, by decide +kernel, ⟨pm_inG pm_mi_19 rfl, pm_inG pm_me_19 rfl⟩, by decide, Or.inr (Or.inr (Or.inl rfl))⟩
set_option maxRecDepth 100000 in
theorem pm_mk_20 : pm_Mk (yX2_readPair, cX2_readPair, 5, some (.boolean), 0, 2, false) := ⟨pm_inG pm_mc_20 rfl, pm_inG pm_in_2 rfl, by decide +kernel, rfl, by decide +kernel, ⟨pm_inG pm_mi_20 rfl, pm_inG pm_me_20 rfl⟩, by decide, Or.inr (Or.inr (Or.inl rfl))⟩
set_option maxRecDepth 100000 in
theorem pm_mk_21 : pm_Mk (yX2_readRule, cX2_readRule, 5, some (.boolean), 0, 2, false) := ⟨pm_inG pm_mc_21 rfl, pm_inG pm_in_2 rfl, by decide +kernel, rfl, by decide +kernel, ⟨pm_inG pm_mi_21 rfl, pm_inG pm_me_21 rfl⟩, by decide, Or.inr (Or.inr (Or.inl rfl))⟩
set_option maxRecDepth 100000 in
theorem pm_mk_22 : pm_Mk (yX2_readTurns, cX2_readTurns, 3, some (.boolean), 0, 2, false) := ⟨pm_inG pm_mc_22 rfl, pm_inG pm_in_2 rfl, by decide +kernel, rfl, by decide +kernel, ⟨pm_inG pm_mi_22 rfl, pm_inG pm_me_22 rfl⟩, by decide, Or.inr (Or.inr (Or.inl rfl))⟩
set_option maxRecDepth 100000 in
theorem pm_mk_23 : pm_Mk (yX2_readWord, cX2_readWord, 3, some (.boolean), 0, 2, false) := ⟨pm_inG pm_mc_23 rfl, pm_inG pm_in_2 rfl, by decide +kernel, rfl, by decide +kernel, ⟨pm_inG pm_mi_23 rfl, pm_inG pm_me_23 rfl⟩, by decide, Or.inr (Or.inr (Or.inl rfl))⟩
set_option maxRecDepth 100000 in
theorem pm_mk_24 : pm_Mk (yX2_readWorths, cX2_readWorths, 5, some (.boolean), 2, 2, false) := ⟨pm_inG pm_mc_24 rfl, pm_inG pm_in_2 rfl, by decide +kernel, rfl, by decide +kernel, ⟨pm_inG pm_mi_24 rfl, pm_inG pm_me_24 rfl⟩, by decide, Or.inr (Or.inr (Or.inl rfl))⟩
set_option maxRecDepth 100000 in
theorem pm_mk_25 : pm_Mk (yX2_readsInto, cX2_readsInto, 6, some (.boolean), 3, 2, false) := ⟨pm_inG pm_mc_25 rfl, pm_inG pm_in_2 rfl, by decide +kernel, rfl, by decide +kernel, ⟨pm_inG pm_mi_25 rfl, pm_inG pm_me_25 rfl⟩, by decide, Or.inr (Or.inr (Or.inl rfl))⟩
set_option maxRecDepth 100000 in
theorem pm_mk_26 : pm_Mk (yX2_symbolAtHand, cX2_symbolAtHand, 1, some (.int), 0, 2, false) := ⟨pm_inG pm_mc_26 rfl, pm_inG pm_in_2 rfl, by decide +kernel, rfl, by decide +kernel, ⟨pm_inG pm_mi_26 rfl, pm_inG pm_me_26 rfl⟩, by decide, Or.inr (Or.inl rfl)⟩
set_option maxRecDepth 100000 in
theorem pm_mk_27 : pm_Mk (yX3_better, cX3_better, 3, some (.int), 3, 3, true) := ⟨pm_inG pm_mc_27 rfl, pm_inG pm_in_3 rfl, by decide +kernel, rfl, by decide +kernel, pm_inG pm_ms_27 rfl, by decide, Or.inr (Or.inl rfl)⟩
set_option maxRecDepth 100000 in
theorem pm_mk_28 : pm_Mk (yX3_clearResults, cX3_clearResults, 4, none, 2, 3, false) := ⟨pm_inG pm_mc_28 rfl, pm_inG pm_in_3 rfl, by decide +kernel, rfl, by decide +kernel, ⟨pm_inG pm_mi_28 rfl, pm_inG pm_me_28 rfl⟩, by decide, Or.inl rfl⟩
set_option maxRecDepth 100000 in
theorem pm_mk_29 : pm_Mk (yX3_endOf, cX3_endOf, 3, some (.int), 1, 3, false) := ⟨pm_inG pm_mc_29 rfl, pm_inG pm_in_3 rfl, by decide +kernel, rfl, by decide +kernel, ⟨pm_inG pm_mi_29 rfl, pm_inG pm_me_29 rfl⟩, by decide, Or.inr (Or.inl rfl)⟩
set_option maxRecDepth 100000 in
theorem pm_mk_30 : pm_Mk (yX3_findLotEnds, cX3_findLotEnds, 4, none, 1, 3, false) := ⟨pm_inG pm_mc_30 rfl, pm_inG pm_in_3 rfl, by decide +kernel, rfl, by decide +kernel, ⟨pm_inG pm_mi_30 rfl, pm_inG pm_me_30 rfl⟩, by decide, Or.inl rfl⟩
set_option maxRecDepth 100000 in
theorem pm_mk_31 : pm_Mk (yX3_firstSwap, cX3_firstSwap, 9, some (.int), 2, 3, false) := ⟨pm_inG pm_mc_31 rfl, pm_inG pm_in_3 rfl, by decide +kernel, rfl, by decide +kernel, ⟨pm_inG pm_mi_31 rfl, pm_inG pm_me_31 rfl⟩, by decide, Or.inr (Or.inl rfl)⟩
set_option maxRecDepth 100000 in
theorem pm_mk_32 : pm_Mk (yX3_forget, cX3_forget, 1, none, 0, 3, false) := ⟨pm_inG pm_mc_32 rfl, pm_inG pm_in_3 rfl, by decide +kernel, rfl, by decide +kernel, ⟨pm_inG pm_mi_32 rfl, pm_inG pm_me_32 rfl⟩, by decide, Or.inl rfl⟩
set_option maxRecDepth 100000 in
theorem pm_mk_33 : pm_Mk (yX3_heldBy, cX3_heldBy, 6, some (.int), 2, 3, false) := ⟨pm_inG pm_mc_33 rfl, pm_inG pm_in_3 rfl, by decide +kernel, rfl, by decide +kernel, ⟨pm_inG pm_mi_33 rfl, pm_inG pm_me_33 rfl⟩, by decide, Or.inr (Or.inl rfl)⟩
set_option maxRecDepth 100000 in
theorem pm_mk_34 : pm_Mk (yX3_isBribed, cX3_isBribed, 3, some (.boolean), 2, 3, false) := ⟨pm_inG pm_mc_34 rfl, pm_inG pm_in_3 rfl, by decide +kernel, rfl, by decide +kernel, ⟨pm_inG pm_mi_34 rfl, pm_inG pm_me_34 rfl⟩, by decide, Or.inr (Or.inr (Or.inl rfl))⟩
set_option maxRecDepth 100000 in
theorem pm_mk_35 : pm_Mk (yX3_leastBribe, cX3_leastBribe, 6, some (.int), 3, 3, false) := ⟨pm_inG pm_mc_35 rfl, pm_inG pm_in_3 rfl, by decide +kernel, rfl, by decide +kernel, ⟨pm_inG pm_mi_35 rfl, pm_inG pm_me_35 rfl⟩, by decide, Or.inr (Or.inl rfl)⟩
set_option maxRecDepth 100000 in
theorem pm_mk_36 : pm_Mk (yX3_meansMore, cX3_meansMore, 4, some (.boolean), 4, 3, true) := ⟨pm_inG pm_mc_36 rfl, pm_inG pm_in_3 rfl, by decide +kernel, rfl, by decide +kernel, pm_inG pm_ms_36 rfl, by decide, Or.inr (Or.inr (Or.inl rfl))⟩
set_option maxRecDepth 100000 in
theorem pm_mk_37 : pm_Mk (yX3_offer, cX3_offer, 8, none, 3, 3, false) := ⟨pm_inG pm_mc_37 rfl, pm_inG pm_in_3 rfl, by decide +kernel, rfl, by decide +kernel, ⟨pm_inG pm_mi_37 rfl, pm_inG pm_me_37 rfl⟩, by decide, Or.inl rfl⟩
set_option maxRecDepth 100000 in
theorem pm_mk_38 : pm_Mk (yX3_sumOf, cX3_sumOf, 5, some (.int), 3, 3, true) := ⟨pm_inG pm_mc_38 rfl, pm_inG pm_in_3 rfl, by decide +kernel, rfl, by decide +kernel, pm_inG pm_ms_38 rfl, by decide, Or.inr (Or.inl rfl)⟩
set_option maxRecDepth 100000 in
theorem pm_mk_39 : pm_Mk (yX3_worthTo, cX3_worthTo, 5, some (.int), 3, 3, false) := ⟨pm_inG pm_mc_39 rfl, pm_inG pm_in_3 rfl, by decide +kernel, rfl, by decide +kernel, ⟨pm_inG pm_mi_39 rfl, pm_inG pm_me_39 rfl⟩, by decide, Or.inr (Or.inl rfl)⟩
set_option maxRecDepth 100000 in
theorem pm_mk_40 : pm_Mk (yX4_empty, cX4_empty, 2, none, 0, 4, false) := ⟨pm_inG pm_mc_40 rfl, pm_inG pm_in_4 rfl, by decide +kernel, rfl, by decide +kernel, ⟨pm_inG pm_mi_40 rfl, pm_inG pm_me_40 rfl⟩, by decide, Or.inl rfl⟩
set_option maxRecDepth 100000 in
theorem pm_mk_41 : pm_Mk (yX4_findShortest, cX4_findShortest, 7, none, 1, 4, false) := ⟨pm_inG pm_mc_41 rfl, pm_inG pm_in_4 rfl, by decide +kernel, rfl, by decide +kernel, ⟨pm_inG pm_mi_41 rfl, pm_inG pm_me_41 rfl⟩, by decide, Or.inl rfl⟩
set_option maxRecDepth 100000 in
theorem pm_mk_42 : pm_Mk (yX4_hasPlace, cX4_hasPlace, 2, some (.boolean), 1, 4, false) := ⟨pm_inG pm_mc_42 rfl, pm_inG pm_in_4 rfl, by decide +kernel, rfl, by decide +kernel, ⟨pm_inG pm_mi_42 rfl, pm_inG pm_me_42 rfl⟩, by decide, Or.inr (Or.inr (Or.inl rfl))⟩
set_option maxRecDepth 100000 in
theorem pm_mk_43 : pm_Mk (yX4_hasWord, cX4_hasWord, 2, some (.boolean), 1, 4, false) := ⟨pm_inG pm_mc_43 rfl, pm_inG pm_in_4 rfl, by decide +kernel, rfl, by decide +kernel, ⟨pm_inG pm_mi_43 rfl, pm_inG pm_me_43 rfl⟩, by decide, Or.inr (Or.inr (Or.inl rfl))⟩
set_option maxRecDepth 100000 in
theorem pm_mk_44 : pm_Mk (yX4_meaningBehind, cX4_meaningBehind, 5, some (.int), 3, 4, false) := ⟨pm_inG pm_mc_44 rfl, pm_inG pm_in_4 rfl, by decide +kernel, rfl, by decide +kernel, ⟨pm_inG pm_mi_44 rfl, pm_inG pm_me_44 rfl⟩, by decide, Or.inr (Or.inl rfl)⟩
set_option maxRecDepth 100000 in
theorem pm_mk_45 : pm_Mk (yX4_meaningOf, cX4_meaningOf, 6, some (.int), 3, 4, false) := ⟨pm_inG pm_mc_45 rfl, pm_inG pm_in_4 rfl, by decide +kernel, rfl, by decide +kernel, ⟨pm_inG pm_mi_45 rfl, pm_inG pm_me_45 rfl⟩, by decide, Or.inr (Or.inl rfl)⟩
set_option maxRecDepth 100000 in
theorem pm_mk_46 : pm_Mk (yX4_rulesNextTo, cX4_rulesNextTo, 7, some (.int), 2, 4, false) := ⟨pm_inG pm_mc_46 rfl, pm_inG pm_in_4 rfl, by decide +kernel, rfl, by decide +kernel, ⟨pm_inG pm_mi_46 rfl, pm_inG pm_me_46 rfl⟩, by decide, Or.inr (Or.inl rfl)⟩
set_option maxRecDepth 100000 in
theorem pm_mk_47 : pm_Mk (yX4_rulesOfUse, cX4_rulesOfUse, 5, some (.int), 1, 4, false) := ⟨pm_inG pm_mc_47 rfl, pm_inG pm_in_4 rfl, by decide +kernel, rfl, by decide +kernel, ⟨pm_inG pm_mi_47 rfl, pm_inG pm_me_47 rfl⟩, by decide, Or.inr (Or.inl rfl)⟩
set_option maxRecDepth 100000 in
theorem pm_mk_48 : pm_Mk (yX4_sizeOfAlt, cX4_sizeOfAlt, 6, some (.int), 2, 4, false) := ⟨pm_inG pm_mc_48 rfl, pm_inG pm_in_4 rfl, by decide +kernel, rfl, by decide +kernel, ⟨pm_inG pm_mi_48 rfl, pm_inG pm_me_48 rfl⟩, by decide, Or.inr (Or.inl rfl)⟩
set_option maxRecDepth 100000 in
theorem pm_mk_49 : pm_Mk (yX4_symbolOf, cX4_symbolOf, 4, some (.int), 1, 4, false) := ⟨pm_inG pm_mc_49 rfl, pm_inG pm_in_4 rfl, by decide +kernel, rfl, by decide +kernel, ⟨pm_inG pm_mi_49 rfl, pm_inG pm_me_49 rfl⟩, by decide, Or.inr (Or.inl rfl)⟩
set_option maxRecDepth 100000 in
theorem pm_mk_50 : pm_Mk (yX4_turnAt, cX4_turnAt, 2, some (.int), 1, 4, false) := ⟨pm_inG pm_mc_50 rfl, pm_inG pm_in_4 rfl, by decide +kernel, rfl, by decide +kernel, ⟨pm_inG pm_mi_50 rfl, pm_inG pm_me_50 rfl⟩, by decide, Or.inr (Or.inl rfl)⟩
set_option maxRecDepth 100000 in
theorem pm_mk_51 : pm_Mk (yX5_beginColumn, cX5_beginColumn, 9, none, 3, 5, false) := ⟨pm_inG pm_mc_51 rfl, pm_inG pm_in_5 rfl, by decide +kernel, rfl, by decide +kernel, ⟨pm_inG pm_mi_51 rfl, pm_inG pm_me_51 rfl⟩, by decide, Or.inl rfl⟩
set_option maxRecDepth 100000 in
theorem pm_mk_52 : pm_Mk (yX5_fillColumn, cX5_fillColumn, 12, none, 4, 5, false) := ⟨pm_inG pm_mc_52 rfl, pm_inG pm_in_5 rfl, by decide +kernel, rfl, by decide +kernel, ⟨pm_inG pm_mi_52 rfl, pm_inG pm_me_52 rfl⟩, by decide, Or.inl rfl⟩
set_option maxRecDepth 100000 in
theorem pm_mk_53 : pm_Mk (yX5_goOn, cX5_goOn, 5, none, 2, 5, false) := ⟨pm_inG pm_mc_53 rfl, pm_inG pm_in_5 rfl, by decide +kernel, rfl, by decide +kernel, ⟨pm_inG pm_mi_53 rfl, pm_inG pm_me_53 rfl⟩, by decide, Or.inl rfl⟩
set_option maxRecDepth 100000 in
theorem pm_mk_54 : pm_Mk (yX5_nextWords, cX5_nextWords, 5, some (.int), 2, 5, false) := ⟨pm_inG pm_mc_54 rfl, pm_inG pm_in_5 rfl, by decide +kernel, rfl, by decide +kernel, ⟨pm_inG pm_mi_54 rfl, pm_inG pm_me_54 rfl⟩, by decide, Or.inr (Or.inl rfl)⟩
set_option maxRecDepth 100000 in
theorem pm_mk_55 : pm_Mk (yX5_readBeginning, cX5_readBeginning, 5, none, 3, 5, false) := ⟨pm_inG pm_mc_55 rfl, pm_inG pm_in_5 rfl, by decide +kernel, rfl, by decide +kernel, ⟨pm_inG pm_mi_55 rfl, pm_inG pm_me_55 rfl⟩, by decide, Or.inl rfl⟩
set_option maxRecDepth 100000 in
theorem pm_mk_56 : pm_Mk (yX5_startsOfAlt, cX5_startsOfAlt, 14, some (.long), 3, 5, false) := ⟨pm_inG pm_mc_56 rfl, pm_inG pm_in_5 rfl, by decide +kernel, rfl, by decide +kernel, ⟨pm_inG pm_mi_56 rfl, pm_inG pm_me_56 rfl⟩, by decide, Or.inr (Or.inr (Or.inr (Or.inl rfl)))⟩
set_option maxRecDepth 100000 in
theorem pm_mk_57 : pm_Mk (yX6_agree, cX6_agree, 7, some (.boolean), 3, 6, false) := ⟨pm_inG pm_mc_57 rfl, pm_inG pm_in_6 rfl, by decide +kernel, rfl, by decide +kernel, ⟨pm_inG pm_mi_57 rfl, pm_inG pm_me_57 rfl⟩, by decide, Or.inr (Or.inr (Or.inl rfl))⟩
set_option maxRecDepth 100000 in
theorem pm_mk_58 : pm_Mk (yX6_takeBack, cX6_takeBack, 2, some (.boolean), 1, 6, false) := ⟨pm_inG pm_mc_58 rfl, pm_inG pm_in_6 rfl, by decide +kernel, rfl, by decide +kernel, ⟨pm_inG pm_mi_58 rfl, pm_inG pm_me_58 rfl⟩, by decide, Or.inr (Or.inr (Or.inl rfl))⟩
set_option maxRecDepth 100000 in
theorem pm_mk_59 : pm_Mk (yX6_tell, cX6_tell, 4, some (.int), 3, 6, false) := ⟨pm_inG pm_mc_59 rfl, pm_inG pm_in_6 rfl, by decide +kernel, rfl, by decide +kernel, ⟨pm_inG pm_mi_59 rfl, pm_inG pm_me_59 rfl⟩, by decide, Or.inr (Or.inl rfl)⟩
set_option maxRecDepth 100000 in
theorem pm_mk_60 : pm_Mk (yX7_countOf, cX7_countOf, 6, some (.int), 3, 7, false) := ⟨pm_inG pm_mc_60 rfl, pm_inG pm_in_7 rfl, by decide +kernel, rfl, by decide +kernel, ⟨pm_inG pm_mi_60 rfl, pm_inG pm_me_60 rfl⟩, by decide, Or.inr (Or.inl rfl)⟩
set_option maxRecDepth 100000 in
theorem pm_mk_61 : pm_Mk (yX7_fillColumn, cX7_fillColumn, 9, none, 2, 7, false) := ⟨pm_inG pm_mc_61 rfl, pm_inG pm_in_7 rfl, by decide +kernel, rfl, by decide +kernel, ⟨pm_inG pm_mi_61 rfl, pm_inG pm_me_61 rfl⟩, by decide, Or.inl rfl⟩
set_option maxRecDepth 100000 in
theorem pm_mk_62 : pm_Mk (yX7_forget, cX7_forget, 1, none, 0, 7, false) := ⟨pm_inG pm_mc_62 rfl, pm_inG pm_in_7 rfl, by decide +kernel, rfl, by decide +kernel, ⟨pm_inG pm_mi_62 rfl, pm_inG pm_me_62 rfl⟩, by decide, Or.inl rfl⟩
set_option maxRecDepth 100000 in
theorem pm_mk_63 : pm_Mk (yX7_waysOfAlt, cX7_waysOfAlt, 12, some (.int), 5, 7, false) := ⟨pm_inG pm_mc_63 rfl, pm_inG pm_in_7 rfl, by decide +kernel, rfl, by decide +kernel, ⟨pm_inG pm_mi_63 rfl, pm_inG pm_me_63 rfl⟩, by decide, Or.inr (Or.inl rfl)⟩
set_option maxRecDepth 100000 in
theorem pm_mk_64 : pm_Mk (yX8_advance, cX8_advance, 2, none, 0, 8, false) := ⟨pm_inG pm_mc_64 rfl, pm_inG pm_in_8 rfl, by decide +kernel, rfl, by decide +kernel, ⟨pm_inG pm_mi_64 rfl, pm_inG pm_me_64 rfl⟩, by decide, Or.inl rfl⟩
set_option maxRecDepth 100000 in
theorem pm_mk_65 : pm_Mk (yX8_begin, cX8_begin, 3, none, 2, 8, false) := ⟨pm_inG pm_mc_65 rfl, pm_inG pm_in_8 rfl, by decide +kernel, rfl, by decide +kernel, ⟨pm_inG pm_mi_65 rfl, pm_inG pm_me_65 rfl⟩, by decide, Or.inl rfl⟩
set_option maxRecDepth 100000 in
theorem pm_mk_66 : pm_Mk (yX8_refuse, cX8_refuse, 2, some (.boolean), 1, 8, false) := ⟨pm_inG pm_mc_66 rfl, pm_inG pm_in_8 rfl, by decide +kernel, rfl, by decide +kernel, ⟨pm_inG pm_mi_66 rfl, pm_inG pm_me_66 rfl⟩, by decide, Or.inr (Or.inr (Or.inl rfl))⟩
set_option maxRecDepth 100000 in
theorem pm_mk_67 : pm_Mk (yX8_takeDigits, cX8_takeDigits, 2, none, 0, 8, false) := ⟨pm_inG pm_mc_67 rfl, pm_inG pm_in_8 rfl, by decide +kernel, rfl, by decide +kernel, ⟨pm_inG pm_mi_67 rfl, pm_inG pm_me_67 rfl⟩, by decide, Or.inl rfl⟩
set_option maxRecDepth 100000 in
theorem pm_mk_68 : pm_Mk (yX8_takeLetters, cX8_takeLetters, 2, none, 0, 8, false) := ⟨pm_inG pm_mc_68 rfl, pm_inG pm_in_8 rfl, by decide +kernel, rfl, by decide +kernel, ⟨pm_inG pm_mi_68 rfl, pm_inG pm_me_68 rfl⟩, by decide, Or.inl rfl⟩
set_option maxRecDepth 100000 in
theorem pm_mk_69 : pm_Mk (yX9_add, cX9_add, 6, none, 3, 9, false) := ⟨pm_inG pm_mc_69 rfl, pm_inG pm_in_9 rfl, by decide +kernel, rfl, by decide +kernel, ⟨pm_inG pm_mi_69 rfl, pm_inG pm_me_69 rfl⟩, by decide, Or.inl rfl⟩
set_option maxRecDepth 100000 in
theorem pm_mk_70 : pm_Mk (yX9_addRoot, cX9_addRoot, 4, none, 2, 9, false) := ⟨pm_inG pm_mc_70 rfl, pm_inG pm_in_9 rfl, by decide +kernel, rfl, by decide +kernel, ⟨pm_inG pm_mi_70 rfl, pm_inG pm_me_70 rfl⟩, by decide, Or.inl rfl⟩
set_option maxRecDepth 100000 in
theorem pm_mk_71 : pm_Mk (yX9_forget, cX9_forget, 1, none, 0, 9, false) := ⟨pm_inG pm_mc_71 rfl, pm_inG pm_in_9 rfl, by decide +kernel, rfl, by decide +kernel, ⟨pm_inG pm_mi_71 rfl, pm_inG pm_me_71 rfl⟩, by decide, Or.inl rfl⟩
set_option maxRecDepth 100000 in
theorem pm_mk_72 : pm_Mk (yX9_grow, cX9_grow, 8, none, 3, 9, false) := ⟨pm_inG pm_mc_72 rfl, pm_inG pm_in_9 rfl, by decide +kernel, rfl, by decide +kernel, ⟨pm_inG pm_mi_72 rfl, pm_inG pm_me_72 rfl⟩, by decide, Or.inl rfl⟩
set_option maxRecDepth 100000 in
theorem pm_mk_73 : pm_Mk (yX9_growBehind, cX9_growBehind, 5, none, 4, 9, false) := ⟨pm_inG pm_mc_73 rfl, pm_inG pm_in_9 rfl, by decide +kernel, rfl, by decide +kernel, ⟨pm_inG pm_mi_73 rfl, pm_inG pm_me_73 rfl⟩, by decide, Or.inl rfl⟩
set_option maxRecDepth 100000 in
theorem pm_mk_74 : pm_Mk (yX9_growFrom, cX9_growFrom, 8, none, 5, 9, false) := ⟨pm_inG pm_mc_74 rfl, pm_inG pm_in_9 rfl, by decide +kernel, rfl, by decide +kernel, ⟨pm_inG pm_mi_74 rfl, pm_inG pm_me_74 rfl⟩, by decide, Or.inl rfl⟩
set_option maxRecDepth 100000 in
theorem pm_mk_75 : pm_Mk (yX9_hasCharters, cX9_hasCharters, 1, some (.boolean), 0, 9, false) := ⟨pm_inG pm_mc_75 rfl, pm_inG pm_in_9 rfl, by decide +kernel, rfl, by decide +kernel, ⟨pm_inG pm_mi_75 rfl, pm_inG pm_me_75 rfl⟩, by decide, Or.inr (Or.inr (Or.inl rfl))⟩
set_option maxRecDepth 100000 in
theorem pm_mk_76 : pm_Mk (yX9_isCharter, cX9_isCharter, 2, some (.boolean), 1, 9, false) := ⟨pm_inG pm_mc_76 rfl, pm_inG pm_in_9 rfl, by decide +kernel, rfl, by decide +kernel, ⟨pm_inG pm_mi_76 rfl, pm_inG pm_me_76 rfl⟩, by decide, Or.inr (Or.inr (Or.inl rfl))⟩
set_option maxRecDepth 100000 in
theorem pm_mk_77 : pm_Mk (yX9_wordAt, cX9_wordAt, 3, some (.int), 2, 9, false) := ⟨pm_inG pm_mc_77 rfl, pm_inG pm_in_9 rfl, by decide +kernel, rfl, by decide +kernel, ⟨pm_inG pm_mi_77 rfl, pm_inG pm_me_77 rfl⟩, by decide, Or.inr (Or.inl rfl)⟩
set_option maxRecDepth 100000 in
theorem pm_mk_78 : pm_Mk (yX9_wordsInto, cX9_wordsInto, 4, none, 2, 9, false) := ⟨pm_inG pm_mc_78 rfl, pm_inG pm_in_9 rfl, by decide +kernel, rfl, by decide +kernel, ⟨pm_inG pm_mi_78 rfl, pm_inG pm_me_78 rfl⟩, by decide, Or.inl rfl⟩
set_option maxRecDepth 100000 in
theorem pm_mk_79 : pm_Mk (yX10_about, cX10_about, 2, some (.int), 1, 10, false) := ⟨pm_inG pm_mc_79 rfl, pm_inG pm_in_10 rfl, by decide +kernel, rfl, by decide +kernel, ⟨pm_inG pm_mi_79 rfl, pm_inG pm_me_79 rfl⟩, by decide, Or.inr (Or.inl rfl)⟩
set_option maxRecDepth 100000 in
theorem pm_mk_80 : pm_Mk (yX10_back, cX10_back, 2, some (.int), 1, 10, false) := ⟨pm_inG pm_mc_80 rfl, pm_inG pm_in_10 rfl, by decide +kernel, rfl, by decide +kernel, ⟨pm_inG pm_mi_80 rfl, pm_inG pm_me_80 rfl⟩, by decide, Or.inr (Or.inl rfl)⟩
set_option maxRecDepth 100000 in
theorem pm_mk_81 : pm_Mk (yX10_behind, cX10_behind, 4, some (.int), 3, 10, false) := ⟨pm_inG pm_mc_81 rfl, pm_inG pm_in_10 rfl, by decide +kernel, rfl, by decide +kernel, ⟨pm_inG pm_mi_81 rfl, pm_inG pm_me_81 rfl⟩, by decide, Or.inr (Or.inl rfl)⟩
set_option maxRecDepth 100000 in
theorem pm_mk_82 : pm_Mk (yX10_best, cX10_best, 5, some (.int), 1, 10, false) := ⟨pm_inG pm_mc_82 rfl, pm_inG pm_in_10 rfl, by decide +kernel, rfl, by decide +kernel, ⟨pm_inG pm_mi_82 rfl, pm_inG pm_me_82 rfl⟩, by decide, Or.inr (Or.inl rfl)⟩
set_option maxRecDepth 100000 in
theorem pm_mk_83 : pm_Mk (yX10_bribe, cX10_bribe, 4, some (.int), 2, 10, false) := ⟨pm_inG pm_mc_83 rfl, pm_inG pm_in_10 rfl, by decide +kernel, rfl, by decide +kernel, ⟨pm_inG pm_mi_83 rfl, pm_inG pm_me_83 rfl⟩, by decide, Or.inr (Or.inl rfl)⟩
set_option maxRecDepth 100000 in
theorem pm_mk_84 : pm_Mk (yX10_doubtful, cX10_doubtful, 4, some (.int), 0, 10, false) := ⟨pm_inG pm_mc_84 rfl, pm_inG pm_in_10 rfl, by decide +kernel, rfl, by decide +kernel, ⟨pm_inG pm_mi_84 rfl, pm_inG pm_me_84 rfl⟩, by decide, Or.inr (Or.inl rfl)⟩
set_option maxRecDepth 100000 in
theorem pm_mk_85 : pm_Mk (yX10_end, cX10_end, 2, some (.int), 1, 10, false) := ⟨pm_inG pm_mc_85 rfl, pm_inG pm_in_10 rfl, by decide +kernel, rfl, by decide +kernel, ⟨pm_inG pm_mi_85 rfl, pm_inG pm_me_85 rfl⟩, by decide, Or.inr (Or.inl rfl)⟩
set_option maxRecDepth 100000 in
theorem pm_mk_86 : pm_Mk (yX10_fault, cX10_fault, 2, some (.int), 1, 10, false) := ⟨pm_inG pm_mc_86 rfl, pm_inG pm_in_10 rfl, by decide +kernel, rfl, by decide +kernel, ⟨pm_inG pm_mi_86 rfl, pm_inG pm_me_86 rfl⟩, by decide, Or.inr (Or.inl rfl)⟩
set_option maxRecDepth 100000 in
theorem pm_mk_87 : pm_Mk (yX10_feed, cX10_feed, 6, some (.int), 5, 10, false) := ⟨pm_inG pm_mc_87 rfl, pm_inG pm_in_10 rfl, by decide +kernel, rfl, by decide +kernel, ⟨pm_inG pm_mi_87 rfl, pm_inG pm_me_87 rfl⟩, by decide, Or.inr (Or.inl rfl)⟩
set_option maxRecDepth 100000 in
theorem pm_mk_88 : pm_Mk (yX10_fit, cX10_fit, 4, some (.int), 0, 10, false) := ⟨pm_inG pm_mc_88 rfl, pm_inG pm_in_10 rfl, by decide +kernel, rfl, by decide +kernel, ⟨pm_inG pm_mi_88 rfl, pm_inG pm_me_88 rfl⟩, by decide, Or.inr (Or.inl rfl)⟩
set_option maxRecDepth 100000 in
theorem pm_mk_89 : pm_Mk (yX10_forgetOldPort, cX10_forgetOldPort, 2, none, 0, 10, false) := ⟨pm_inG pm_mc_89 rfl, pm_inG pm_in_10 rfl, by decide +kernel, rfl, by decide +kernel, ⟨pm_inG pm_mi_89 rfl, pm_inG pm_me_89 rfl⟩, by decide, Or.inl rfl⟩
set_option maxRecDepth 100000 in
theorem pm_mk_90 : pm_Mk (yX10_growEarnest, cX10_growEarnest, 2, some (.object "GuildCharter$Tree"), 0, 10, false) := ⟨pm_inG pm_mc_90 rfl, pm_inG pm_in_10 rfl, by decide +kernel, rfl, by decide +kernel, ⟨pm_inG pm_mi_90 rfl, pm_inG pm_me_90 rfl⟩, by decide, Or.inr (Or.inr (Or.inr (Or.inr ⟨_, rfl⟩)))⟩
set_option maxRecDepth 100000 in
theorem pm_mk_91 : pm_Mk (yX10_growHoles, cX10_growHoles, 2, some (.object "GuildCharter$Tree"), 0, 10, false) := ⟨pm_inG pm_mc_91 rfl, pm_inG pm_in_10 rfl, by decide +kernel, rfl, by decide +kernel, ⟨pm_inG pm_mi_91 rfl, pm_inG pm_me_91 rfl⟩, by decide, Or.inr (Or.inr (Or.inr (Or.inr ⟨_, rfl⟩)))⟩
set_option maxRecDepth 100000 in
theorem pm_mk_92 : pm_Mk (yX10_growWhole, cX10_growWhole, 1, some (.object "GuildCharter$Tree"), 0, 10, false) := ⟨pm_inG pm_mc_92 rfl, pm_inG pm_in_10 rfl, by decide +kernel, rfl, by decide +kernel, ⟨pm_inG pm_mi_92 rfl, pm_inG pm_me_92 rfl⟩, by decide, Or.inr (Or.inr (Or.inr (Or.inr ⟨_, rfl⟩)))⟩
set_option maxRecDepth 100000 in
theorem pm_mk_93 : pm_Mk (yX10_held, cX10_held, 3, some (.int), 1, 10, false) := ⟨pm_inG pm_mc_93 rfl, pm_inG pm_in_10 rfl, by decide +kernel, rfl, by decide +kernel, ⟨pm_inG pm_mi_93 rfl, pm_inG pm_me_93 rfl⟩, by decide, Or.inr (Or.inl rfl)⟩
set_option maxRecDepth 100000 in
theorem pm_mk_94 : pm_Mk (yX10_hole, cX10_hole, 4, some (.boolean), 2, 10, false) := ⟨pm_inG pm_mc_94 rfl, pm_inG pm_in_10 rfl, by decide +kernel, rfl, by decide +kernel, ⟨pm_inG pm_mi_94 rfl, pm_inG pm_me_94 rfl⟩, by decide, Or.inr (Or.inr (Or.inl rfl))⟩
set_option maxRecDepth 100000 in
theorem pm_mk_95 : pm_Mk (yX10_image, cX10_image, 2, some (.int), 1, 10, false) := ⟨pm_inG pm_mc_95 rfl, pm_inG pm_in_10 rfl, by decide +kernel, rfl, by decide +kernel, ⟨pm_inG pm_mi_95 rfl, pm_inG pm_me_95 rfl⟩, by decide, Or.inr (Or.inl rfl)⟩
set_option maxRecDepth 100000 in
theorem pm_mk_96 : pm_Mk (yX10_isGuild, cX10_isGuild, 1, some (.boolean), 1, 10, true) := ⟨pm_inG pm_mc_96 rfl, pm_inG pm_in_10 rfl, by decide +kernel, rfl, by decide +kernel, pm_inG pm_ms_96 rfl, by decide, Or.inr (Or.inr (Or.inl rfl))⟩
set_option maxRecDepth 100000 in
theorem pm_mk_97 : pm_Mk (yX10_isUnwritten, cX10_isUnwritten, 2, some (.boolean), 1, 10, false) := ⟨pm_inG pm_mc_97 rfl, pm_inG pm_in_10 rfl, by decide +kernel, rfl, by decide +kernel, ⟨pm_inG pm_mi_97 rfl, pm_inG pm_me_97 rfl⟩, by decide, Or.inr (Or.inr (Or.inl rfl))⟩
set_option maxRecDepth 100000 in
theorem pm_mk_98 : pm_Mk (yX10_later, cX10_later, 2, some (.int), 1, 10, false) := ⟨pm_inG pm_mc_98 rfl, pm_inG pm_in_10 rfl, by decide +kernel, rfl, by decide +kernel, ⟨pm_inG pm_mi_98 rfl, pm_inG pm_me_98 rfl⟩, by decide, Or.inr (Or.inl rfl)⟩
set_option maxRecDepth 100000 in
theorem pm_mk_99 : pm_Mk (yX10_lay, cX10_lay, 4, none, 2, 10, false) := ⟨pm_inG pm_mc_99 rfl, pm_inG pm_in_10 rfl, by decide +kernel, rfl, by decide +kernel, ⟨pm_inG pm_mi_99 rfl, pm_inG pm_me_99 rfl⟩, by decide, Or.inl rfl⟩
set_option maxRecDepth 100000 in
theorem pm_mk_100 : pm_Mk (yX10_lies, cX10_lies, 2, some (.int), 1, 10, false) := ⟨pm_inG pm_mc_100 rfl, pm_inG pm_in_10 rfl, by decide +kernel, rfl, by decide +kernel, ⟨pm_inG pm_mi_100 rfl, pm_inG pm_me_100 rfl⟩, by decide, Or.inr (Or.inl rfl)⟩
set_option maxRecDepth 100000 in
theorem pm_mk_101 : pm_Mk (yX10_lots, cX10_lots, 5, some (.int), 1, 10, false) := ⟨pm_inG pm_mc_101 rfl, pm_inG pm_in_10 rfl, by decide +kernel, rfl, by decide +kernel, ⟨pm_inG pm_mi_101 rfl, pm_inG pm_me_101 rfl⟩, by decide, Or.inr (Or.inl rfl)⟩
set_option maxRecDepth 100000 in
theorem pm_mk_102 : pm_Mk (yX10_means, cX10_means, 2, some (.int), 1, 10, false) := ⟨pm_inG pm_mc_102 rfl, pm_inG pm_in_10 rfl, by decide +kernel, rfl, by decide +kernel, ⟨pm_inG pm_mi_102 rfl, pm_inG pm_me_102 rfl⟩, by decide, Or.inr (Or.inl rfl)⟩
set_option maxRecDepth 100000 in
theorem pm_mk_103 : pm_Mk (yX10_next, cX10_next, 1, some (.int), 0, 10, false) := ⟨pm_inG pm_mc_103 rfl, pm_inG pm_in_10 rfl, by decide +kernel, rfl, by decide +kernel, ⟨pm_inG pm_mi_103 rfl, pm_inG pm_me_103 rfl⟩, by decide, Or.inr (Or.inl rfl)⟩
set_option maxRecDepth 100000 in
theorem pm_mk_104 : pm_Mk (yX10_nextInEarnest, cX10_nextInEarnest, 1, some (.int), 0, 10, false) := ⟨pm_inG pm_mc_104 rfl, pm_inG pm_in_10 rfl, by decide +kernel, rfl, by decide +kernel, ⟨pm_inG pm_mi_104 rfl, pm_inG pm_me_104 rfl⟩, by decide, Or.inr (Or.inl rfl)⟩
set_option maxRecDepth 100000 in
theorem pm_mk_105 : pm_Mk (yX10_orders, cX10_orders, 5, some (.int), 1, 10, false) := ⟨pm_inG pm_mc_105 rfl, pm_inG pm_in_10 rfl, by decide +kernel, rfl, by decide +kernel, ⟨pm_inG pm_mi_105 rfl, pm_inG pm_me_105 rfl⟩, by decide, Or.inr (Or.inl rfl)⟩
set_option maxRecDepth 100000 in
theorem pm_mk_106 : pm_Mk (yX10_ownAsInEarnest, cX10_ownAsInEarnest, 2, none, 0, 10, false) := ⟨pm_inG pm_mc_106 rfl, pm_inG pm_in_10 rfl, by decide +kernel, rfl, by decide +kernel, ⟨pm_inG pm_mi_106 rfl, pm_inG pm_me_106 rfl⟩, by decide, Or.inl rfl⟩
set_option maxRecDepth 100000 in
theorem pm_mk_107 : pm_Mk (yX10_ownerInEarnest, cX10_ownerInEarnest, 2, some (.int), 1, 10, false) := ⟨pm_inG pm_mc_107 rfl, pm_inG pm_in_10 rfl, by decide +kernel, rfl, by decide +kernel, ⟨pm_inG pm_mi_107 rfl, pm_inG pm_me_107 rfl⟩, by decide, Or.inr (Or.inl rfl)⟩
set_option maxRecDepth 100000 in
theorem pm_mk_108 : pm_Mk (yX10_port, cX10_port, 2, some (.int), 0, 10, false) := ⟨pm_inG pm_mc_108 rfl, pm_inG pm_in_10 rfl, by decide +kernel, rfl, by decide +kernel, ⟨pm_inG pm_mi_108 rfl, pm_inG pm_me_108 rfl⟩, by decide, Or.inr (Or.inl rfl)⟩
set_option maxRecDepth 100000 in
theorem pm_mk_109 : pm_Mk (yX10_readings, cX10_readings, 1, some (.int), 0, 10, false) := ⟨pm_inG pm_mc_109 rfl, pm_inG pm_in_10 rfl, by decide +kernel, rfl, by decide +kernel, ⟨pm_inG pm_mi_109 rfl, pm_inG pm_me_109 rfl⟩, by decide, Or.inr (Or.inl rfl)⟩
set_option maxRecDepth 100000 in
theorem pm_mk_110 : pm_Mk (yX10_redo, cX10_redo, 1, some (.boolean), 0, 10, false) := ⟨pm_inG pm_mc_110 rfl, pm_inG pm_in_10 rfl, by decide +kernel, rfl, by decide +kernel, ⟨pm_inG pm_mi_110 rfl, pm_inG pm_me_110 rfl⟩, by decide, Or.inr (Or.inr (Or.inl rfl))⟩
set_option maxRecDepth 100000 in
theorem pm_mk_111 : pm_Mk (yX10_seen, cX10_seen, 4, some (.int), 3, 10, false) := ⟨pm_inG pm_mc_111 rfl, pm_inG pm_in_10 rfl, by decide +kernel, rfl, by decide +kernel, ⟨pm_inG pm_mi_111 rfl, pm_inG pm_me_111 rfl⟩, by decide, Or.inr (Or.inl rfl)⟩
set_option maxRecDepth 100000 in
theorem pm_mk_112 : pm_Mk (yX10_sell, cX10_sell, 4, some (.int), 2, 10, false) := ⟨pm_inG pm_mc_112 rfl, pm_inG pm_in_10 rfl, by decide +kernel, rfl, by decide +kernel, ⟨pm_inG pm_mi_112 rfl, pm_inG pm_me_112 rfl⟩, by decide, Or.inr (Or.inl rfl)⟩
set_option maxRecDepth 100000 in
theorem pm_mk_113 : pm_Mk (yX10_share, cX10_share, 6, some (.int), 2, 10, false) := ⟨pm_inG pm_mc_113 rfl, pm_inG pm_in_10 rfl, by decide +kernel, rfl, by decide +kernel, ⟨pm_inG pm_mi_113 rfl, pm_inG pm_me_113 rfl⟩, by decide, Or.inr (Or.inl rfl)⟩
set_option maxRecDepth 100000 in
theorem pm_mk_114 : pm_Mk (yX10_shortest, cX10_shortest, 2, some (.int), 1, 10, false) := ⟨pm_inG pm_mc_114 rfl, pm_inG pm_in_10 rfl, by decide +kernel, rfl, by decide +kernel, ⟨pm_inG pm_mi_114 rfl, pm_inG pm_me_114 rfl⟩, by decide, Or.inr (Or.inl rfl)⟩
set_option maxRecDepth 100000 in
theorem pm_mk_115 : pm_Mk (yX10_sixShares, cX10_sixShares, 7, some (.int), 2, 10, false) := ⟨pm_inG pm_mc_115 rfl, pm_inG pm_in_10 rfl, by decide +kernel, rfl, by decide +kernel, ⟨pm_inG pm_mi_115 rfl, pm_inG pm_me_115 rfl⟩, by decide, Or.inr (Or.inl rfl)⟩
set_option maxRecDepth 100000 in
theorem pm_mk_116 : pm_Mk (yX10_struck, cX10_struck, 7, some (.int), 1, 10, false) := ⟨pm_inG pm_mc_116 rfl, pm_inG pm_in_10 rfl, by decide +kernel, rfl, by decide +kernel, ⟨pm_inG pm_mi_116 rfl, pm_inG pm_me_116 rfl⟩, by decide, Or.inr (Or.inl rfl)⟩
set_option maxRecDepth 100000 in
theorem pm_mk_117 : pm_Mk (yX10_swap, cX10_swap, 2, some (.int), 0, 10, false) := ⟨pm_inG pm_mc_117 rfl, pm_inG pm_in_10 rfl, by decide +kernel, rfl, by decide +kernel, ⟨pm_inG pm_mi_117 rfl, pm_inG pm_me_117 rfl⟩, by decide, Or.inr (Or.inl rfl)⟩
set_option maxRecDepth 100000 in
theorem pm_mk_118 : pm_Mk (yX10_tapeNumber, cX10_tapeNumber, 3, none, 1, 10, false) := ⟨pm_inG pm_mc_118 rfl, pm_inG pm_in_10 rfl, by decide +kernel, rfl, by decide +kernel, ⟨pm_inG pm_mi_118 rfl, pm_inG pm_me_118 rfl⟩, by decide, Or.inl rfl⟩
set_option maxRecDepth 100000 in
theorem pm_mk_119 : pm_Mk (yX10_turn, cX10_turn, 2, some (.int), 1, 10, false) := ⟨pm_inG pm_mc_119 rfl, pm_inG pm_in_10 rfl, by decide +kernel, rfl, by decide +kernel, ⟨pm_inG pm_mi_119 rfl, pm_inG pm_me_119 rfl⟩, by decide, Or.inr (Or.inl rfl)⟩
set_option maxRecDepth 100000 in
theorem pm_mk_120 : pm_Mk (yX10_undo, cX10_undo, 1, some (.boolean), 0, 10, false) := ⟨pm_inG pm_mc_120 rfl, pm_inG pm_in_10 rfl, by decide +kernel, rfl, by decide +kernel, ⟨pm_inG pm_mi_120 rfl, pm_inG pm_me_120 rfl⟩, by decide, Or.inr (Or.inr (Or.inl rfl))⟩
set_option maxRecDepth 100000 in
theorem pm_mk_121 : pm_Mk (yX10_untell, cX10_untell, 2, some (.boolean), 1, 10, false) := ⟨pm_inG pm_mc_121 rfl, pm_inG pm_in_10 rfl, by decide +kernel, rfl, by decide +kernel, ⟨pm_inG pm_mi_121 rfl, pm_inG pm_me_121 rfl⟩, by decide, Or.inr (Or.inr (Or.inl rfl))⟩
set_option maxRecDepth 100000 in
theorem pm_mk_122 : pm_Mk (yX10_used, cX10_used, 1, some (.int), 0, 10, false) := ⟨pm_inG pm_mc_122 rfl, pm_inG pm_in_10 rfl, by decide +kernel, rfl, by decide +kernel, ⟨pm_inG pm_mi_122 rfl, pm_inG pm_me_122 rfl⟩, by decide, Or.inr (Or.inl rfl)⟩
set_option maxRecDepth 100000 in
theorem pm_mk_123 : pm_Mk (yX10_wipe, cX10_wipe, 2, some (.int), 0, 10, false) := ⟨pm_inG pm_mc_123 rfl, pm_inG pm_in_10 rfl, by decide +kernel, rfl, by decide +kernel, ⟨pm_inG pm_mi_123 rfl, pm_inG pm_me_123 rfl⟩, by decide, Or.inr (Or.inl rfl)⟩
set_option maxRecDepth 100000 in
theorem pm_mk_124 : pm_Mk (yX10_word, cX10_word, 2, some (.int), 1, 10, false) := ⟨pm_inG pm_mc_124 rfl, pm_inG pm_in_10 rfl, by decide +kernel, rfl, by decide +kernel, ⟨pm_inG pm_mi_124 rfl, pm_inG pm_me_124 rfl⟩, by decide, Or.inr (Or.inl rfl)⟩
set_option maxRecDepth 100000 in
theorem pm_mk_125 : pm_Mk (yX10_worth, cX10_worth, 3, some (.int), 2, 10, false) := ⟨pm_inG pm_mc_125 rfl, pm_inG pm_in_10 rfl, by decide +kernel, rfl, by decide +kernel, ⟨pm_inG pm_mi_125 rfl, pm_inG pm_me_125 rfl⟩, by decide, Or.inr (Or.inl rfl)⟩
set_option maxRecDepth 100000 in
theorem pm_mk_126 : pm_Mk (yX10_write, cX10_write, 2, some (.int), 1, 10, false) := ⟨pm_inG pm_mc_126 rfl, pm_inG pm_in_10 rfl, by decide +kernel, rfl, by decide +kernel, ⟨pm_inG pm_mi_126 rfl, pm_inG pm_me_126 rfl⟩, by decide, Or.inr (Or.inl rfl)⟩
set_option maxRecDepth 100000 in
theorem pm_mk_127 : pm_Mk (yX10_written, cX10_written, 4, some (.int), 1, 10, false) := ⟨pm_inG pm_mc_127 rfl, pm_inG pm_in_10 rfl, by decide +kernel, rfl, by decide +kernel, ⟨pm_inG pm_mi_127 rfl, pm_inG pm_me_127 rfl⟩, by decide, Or.inr (Or.inl rfl)⟩
set_option maxRecDepth 100000 in
theorem pm_mk_128 : pm_Mk (yX11_about, cX11_about, 2, some (.int), 1, 11, false) := ⟨pm_inG pm_mc_128 rfl, pm_inG pm_in_11 rfl, by decide +kernel, rfl, by decide +kernel, ⟨pm_inG pm_mi_128 rfl, pm_inG pm_me_128 rfl⟩, by decide, Or.inr (Or.inl rfl)⟩
set_option maxRecDepth 100000 in
theorem pm_mk_129 : pm_Mk (yX11_areGrouped, cX11_areGrouped, 4, some (.boolean), 3, 11, false) := ⟨pm_inG pm_mc_129 rfl, pm_inG pm_in_11 rfl, by decide +kernel, rfl, by decide +kernel, ⟨pm_inG pm_mi_129 rfl, pm_inG pm_me_129 rfl⟩, by decide, Or.inr (Or.inr (Or.inl rfl))⟩
set_option maxRecDepth 100000 in
theorem pm_mk_130 : pm_Mk (yX11_atMost, cX11_atMost, 2, some (.long), 1, 11, true) := ⟨pm_inG pm_mc_130 rfl, pm_inG pm_in_11 rfl, by decide +kernel, rfl, by decide +kernel, pm_inG pm_ms_130 rfl, by decide, Or.inr (Or.inr (Or.inr (Or.inl rfl)))⟩
set_option maxRecDepth 100000 in
theorem pm_mk_131 : pm_Mk (yX11_back, cX11_back, 3, some (.int), 1, 11, false) := ⟨pm_inG pm_mc_131 rfl, pm_inG pm_in_11 rfl, by decide +kernel, rfl, by decide +kernel, ⟨pm_inG pm_mi_131 rfl, pm_inG pm_me_131 rfl⟩, by decide, Or.inr (Or.inl rfl)⟩
set_option maxRecDepth 100000 in
theorem pm_mk_132 : pm_Mk (yX11_begin, cX11_begin, 2, none, 0, 11, false) := ⟨pm_inG pm_mc_132 rfl, pm_inG pm_in_11 rfl, by decide +kernel, rfl, by decide +kernel, ⟨pm_inG pm_mi_132 rfl, pm_inG pm_me_132 rfl⟩, by decide, Or.inl rfl⟩
set_option maxRecDepth 100000 in
theorem pm_mk_133 : pm_Mk (yX11_behind, cX11_behind, 4, some (.int), 3, 11, false) := ⟨pm_inG pm_mc_133 rfl, pm_inG pm_in_11 rfl, by decide +kernel, rfl, by decide +kernel, ⟨pm_inG pm_mi_133 rfl, pm_inG pm_me_133 rfl⟩, by decide, Or.inr (Or.inl rfl)⟩
set_option maxRecDepth 100000 in
theorem pm_mk_134 : pm_Mk (yX11_best, cX11_best, 4, some (.int), 1, 11, false) := ⟨pm_inG pm_mc_134 rfl, pm_inG pm_in_11 rfl, by decide +kernel, rfl, by decide +kernel, ⟨pm_inG pm_mi_134 rfl, pm_inG pm_me_134 rfl⟩, by decide, Or.inr (Or.inl rfl)⟩
set_option maxRecDepth 100000 in
theorem pm_mk_135 : pm_Mk (yX11_bribe, cX11_bribe, 3, some (.int), 2, 11, false) := ⟨pm_inG pm_mc_135 rfl, pm_inG pm_in_11 rfl, by decide +kernel, rfl, by decide +kernel, ⟨pm_inG pm_mi_135 rfl, pm_inG pm_me_135 rfl⟩, by decide, Or.inr (Or.inl rfl)⟩
set_option maxRecDepth 100000 in
theorem pm_mk_136 : pm_Mk (yX11_canCome, cX11_canCome, 2, some (.boolean), 1, 11, false) := ⟨pm_inG pm_mc_136 rfl, pm_inG pm_in_11 rfl, by decide +kernel, rfl, by decide +kernel, ⟨pm_inG pm_mi_136 rfl, pm_inG pm_me_136 rfl⟩, by decide, Or.inr (Or.inr (Or.inl rfl))⟩
set_option maxRecDepth 100000 in
theorem pm_mk_137 : pm_Mk (yX11_canGoOn, cX11_canGoOn, 3, some (.boolean), 1, 11, false) := ⟨pm_inG pm_mc_137 rfl, pm_inG pm_in_11 rfl, by decide +kernel, rfl, by decide +kernel, ⟨pm_inG pm_mi_137 rfl, pm_inG pm_me_137 rfl⟩, by decide, Or.inr (Or.inr (Or.inl rfl))⟩
set_option maxRecDepth 100000 in
theorem pm_mk_138 : pm_Mk (yX11_clearBank, cX11_clearBank, 2, none, 0, 11, false) := ⟨pm_inG pm_mc_138 rfl, pm_inG pm_in_11 rfl, by decide +kernel, rfl, by decide +kernel, ⟨pm_inG pm_mi_138 rfl, pm_inG pm_me_138 rfl⟩, by decide, Or.inl rfl⟩
set_option maxRecDepth 100000 in
theorem pm_mk_139 : pm_Mk (yX11_common, cX11_common, 5, some (.int), 2, 11, true) := ⟨pm_inG pm_mc_139 rfl, pm_inG pm_in_11 rfl, by decide +kernel, rfl, by decide +kernel, pm_inG pm_ms_139 rfl, by decide, Or.inr (Or.inl rfl)⟩
set_option maxRecDepth 100000 in
theorem pm_mk_140 : pm_Mk (yX11_doesRead, cX11_doesRead, 8, some (.boolean), 3, 11, false) := ⟨pm_inG pm_mc_140 rfl, pm_inG pm_in_11 rfl, by decide +kernel, rfl, by decide +kernel, ⟨pm_inG pm_mi_140 rfl, pm_inG pm_me_140 rfl⟩, by decide, Or.inr (Or.inr (Or.inl rfl))⟩
set_option maxRecDepth 100000 in
theorem pm_mk_141 : pm_Mk (yX11_doubtful, cX11_doubtful, 4, some (.int), 0, 11, false) := ⟨pm_inG pm_mc_141 rfl, pm_inG pm_in_11 rfl, by decide +kernel, rfl, by decide +kernel, ⟨pm_inG pm_mi_141 rfl, pm_inG pm_me_141 rfl⟩, by decide, Or.inr (Or.inl rfl)⟩
set_option maxRecDepth 100000 in
theorem pm_mk_142 : pm_Mk (yX11_end, cX11_end, 2, some (.int), 1, 11, false) := ⟨pm_inG pm_mc_142 rfl, pm_inG pm_in_11 rfl, by decide +kernel, rfl, by decide +kernel, ⟨pm_inG pm_mi_142 rfl, pm_inG pm_me_142 rfl⟩, by decide, Or.inr (Or.inl rfl)⟩
set_option maxRecDepth 100000 in
theorem pm_mk_143 : pm_Mk (yX11_endsBy, cX11_endsBy, 3, some (.int), 2, 11, false) := ⟨pm_inG pm_mc_143 rfl, pm_inG pm_in_11 rfl, by decide +kernel, rfl, by decide +kernel, ⟨pm_inG pm_mi_143 rfl, pm_inG pm_me_143 rfl⟩, by decide, Or.inr (Or.inl rfl)⟩
set_option maxRecDepth 100000 in
theorem pm_mk_144 : pm_Mk (yX11_exchange, cX11_exchange, 3, none, 1, 11, false) := ⟨pm_inG pm_mc_144 rfl, pm_inG pm_in_11 rfl, by decide +kernel, rfl, by decide +kernel, ⟨pm_inG pm_mi_144 rfl, pm_inG pm_me_144 rfl⟩, by decide, Or.inl rfl⟩
set_option maxRecDepth 100000 in
theorem pm_mk_145 : pm_Mk (yX11_fails, cX11_fails, 3, none, 2, 11, false) := ⟨pm_inG pm_mc_145 rfl, pm_inG pm_in_11 rfl, by decide +kernel, rfl, by decide +kernel, ⟨pm_inG pm_mi_145 rfl, pm_inG pm_me_145 rfl⟩, by decide, Or.inl rfl⟩
set_option maxRecDepth 100000 in
theorem pm_mk_146 : pm_Mk (yX11_fault, cX11_fault, 2, some (.int), 1, 11, false) := ⟨pm_inG pm_mc_146 rfl, pm_inG pm_in_11 rfl, by decide +kernel, rfl, by decide +kernel, ⟨pm_inG pm_mi_146 rfl, pm_inG pm_me_146 rfl⟩, by decide, Or.inr (Or.inl rfl)⟩
set_option maxRecDepth 100000 in
theorem pm_mk_147 : pm_Mk (yX11_feed, cX11_feed, 8, some (.int), 5, 11, false) := ⟨pm_inG pm_mc_147 rfl, pm_inG pm_in_11 rfl, by decide +kernel, rfl, by decide +kernel, ⟨pm_inG pm_mi_147 rfl, pm_inG pm_me_147 rfl⟩, by decide, Or.inr (Or.inl rfl)⟩
set_option maxRecDepth 100000 in
theorem pm_mk_148 : pm_Mk (yX11_fit, cX11_fit, 1, some (.int), 0, 11, false) := ⟨pm_inG pm_mc_148 rfl, pm_inG pm_in_11 rfl, by decide +kernel, rfl, by decide +kernel, ⟨pm_inG pm_mi_148 rfl, pm_inG pm_me_148 rfl⟩, by decide, Or.inr (Or.inl rfl)⟩
set_option maxRecDepth 100000 in
theorem pm_mk_149 : pm_Mk (yX11_fresh, cX11_fresh, 3, some (.long), 0, 11, false) := ⟨pm_inG pm_mc_149 rfl, pm_inG pm_in_11 rfl, by decide +kernel, rfl, by decide +kernel, ⟨pm_inG pm_mi_149 rfl, pm_inG pm_me_149 rfl⟩, by decide, Or.inr (Or.inr (Or.inr (Or.inl rfl)))⟩
set_option maxRecDepth 100000 in
theorem pm_mk_150 : pm_Mk (yX11_gain, cX11_gain, 3, some (.int), 2, 11, false) := ⟨pm_inG pm_mc_150 rfl, pm_inG pm_in_11 rfl, by decide +kernel, rfl, by decide +kernel, ⟨pm_inG pm_mi_150 rfl, pm_inG pm_me_150 rfl⟩, by decide, Or.inr (Or.inl rfl)⟩
set_option maxRecDepth 100000 in
theorem pm_mk_151 : pm_Mk (yX11_gainOf, cX11_gainOf, 5, some (.int), 2, 11, false) := ⟨pm_inG pm_mc_151 rfl, pm_inG pm_in_11 rfl, by decide +kernel, rfl, by decide +kernel, ⟨pm_inG pm_mi_151 rfl, pm_inG pm_me_151 rfl⟩, by decide, Or.inr (Or.inl rfl)⟩
set_option maxRecDepth 100000 in
theorem pm_mk_152 : pm_Mk (yX11_goOn, cX11_goOn, 3, none, 0, 11, false) := ⟨pm_inG pm_mc_152 rfl, pm_inG pm_in_11 rfl, by decide +kernel, rfl, by decide +kernel, ⟨pm_inG pm_mi_152 rfl, pm_inG pm_me_152 rfl⟩, by decide, Or.inl rfl⟩
set_option maxRecDepth 100000 in
theorem pm_mk_153 : pm_Mk (yX11_held, cX11_held, 2, some (.int), 1, 11, false) := ⟨pm_inG pm_mc_153 rfl, pm_inG pm_in_11 rfl, by decide +kernel, rfl, by decide +kernel, ⟨pm_inG pm_mi_153 rfl, pm_inG pm_me_153 rfl⟩, by decide, Or.inr (Or.inl rfl)⟩
set_option maxRecDepth 100000 in
theorem pm_mk_154 : pm_Mk (yX11_heldBy, cX11_heldBy, 3, some (.int), 1, 11, false) := ⟨pm_inG pm_mc_154 rfl, pm_inG pm_in_11 rfl, by decide +kernel, rfl, by decide +kernel, ⟨pm_inG pm_mi_154 rfl, pm_inG pm_me_154 rfl⟩, by decide, Or.inr (Or.inl rfl)⟩
set_option maxRecDepth 100000 in
theorem pm_mk_155 : pm_Mk (yX11_hole, cX11_hole, 3, some (.boolean), 2, 11, false) := ⟨pm_inG pm_mc_155 rfl, pm_inG pm_in_11 rfl, by decide +kernel, rfl, by decide +kernel, ⟨pm_inG pm_mi_155 rfl, pm_inG pm_me_155 rfl⟩, by decide, Or.inr (Or.inr (Or.inl rfl))⟩
set_option maxRecDepth 100000 in
theorem pm_mk_156 : pm_Mk (yX11_image, cX11_image, 3, some (.int), 1, 11, false) := ⟨pm_inG pm_mc_156 rfl, pm_inG pm_in_11 rfl, by decide +kernel, rfl, by decide +kernel, ⟨pm_inG pm_mi_156 rfl, pm_inG pm_me_156 rfl⟩, by decide, Or.inr (Or.inl rfl)⟩
set_option maxRecDepth 100000 in
theorem pm_mk_157 : pm_Mk (yX11_isBetter, cX11_isBetter, 6, some (.boolean), 4, 11, false) := ⟨pm_inG pm_mc_157 rfl, pm_inG pm_in_11 rfl, by decide +kernel, rfl, by decide +kernel, ⟨pm_inG pm_mi_157 rfl, pm_inG pm_me_157 rfl⟩, by decide, Or.inr (Or.inr (Or.inl rfl))⟩
set_option maxRecDepth 100000 in
theorem pm_mk_158 : pm_Mk (yX11_isDigit, cX11_isDigit, 1, some (.boolean), 1, 11, true) := ⟨pm_inG pm_mc_158 rfl, pm_inG pm_in_11 rfl, by decide +kernel, rfl, by decide +kernel, pm_inG pm_ms_158 rfl, by decide, Or.inr (Or.inr (Or.inl rfl))⟩
set_option maxRecDepth 100000 in
theorem pm_mk_159 : pm_Mk (yX11_isFull, cX11_isFull, 1, some (.boolean), 0, 11, false) := ⟨pm_inG pm_mc_159 rfl, pm_inG pm_in_11 rfl, by decide +kernel, rfl, by decide +kernel, ⟨pm_inG pm_mi_159 rfl, pm_inG pm_me_159 rfl⟩, by decide, Or.inr (Or.inr (Or.inl rfl))⟩
set_option maxRecDepth 100000 in
theorem pm_mk_160 : pm_Mk (yX11_isGood, cX11_isGood, 1, some (.boolean), 0, 11, false) := ⟨pm_inG pm_mc_160 rfl, pm_inG pm_in_11 rfl, by decide +kernel, rfl, by decide +kernel, ⟨pm_inG pm_mi_160 rfl, pm_inG pm_me_160 rfl⟩, by decide, Or.inr (Or.inr (Or.inl rfl))⟩
set_option maxRecDepth 100000 in
theorem pm_mk_161 : pm_Mk (yX11_isGuild, cX11_isGuild, 1, some (.boolean), 1, 11, true) := ⟨pm_inG pm_mc_161 rfl, pm_inG pm_in_11 rfl, by decide +kernel, rfl, by decide +kernel, pm_inG pm_ms_161 rfl, by decide, Or.inr (Or.inr (Or.inl rfl))⟩
set_option maxRecDepth 100000 in
theorem pm_mk_162 : pm_Mk (yX11_isIn, cX11_isIn, 3, some (.boolean), 3, 11, true) := ⟨pm_inG pm_mc_162 rfl, pm_inG pm_in_11 rfl, by decide +kernel, rfl, by decide +kernel, pm_inG pm_ms_162 rfl, by decide, Or.inr (Or.inr (Or.inl rfl))⟩
set_option maxRecDepth 100000 in
theorem pm_mk_163 : pm_Mk (yX11_isKept, cX11_isKept, 2, some (.boolean), 1, 11, true) := ⟨pm_inG pm_mc_163 rfl, pm_inG pm_in_11 rfl, by decide +kernel, rfl, by decide +kernel, pm_inG pm_ms_163 rfl, by decide, Or.inr (Or.inr (Or.inl rfl))⟩
set_option maxRecDepth 100000 in
theorem pm_mk_164 : pm_Mk (yX11_isLetter, cX11_isLetter, 1, some (.boolean), 1, 11, true) := ⟨pm_inG pm_mc_164 rfl, pm_inG pm_in_11 rfl, by decide +kernel, rfl, by decide +kernel, pm_inG pm_ms_164 rfl, by decide, Or.inr (Or.inr (Or.inl rfl))⟩
set_option maxRecDepth 100000 in
theorem pm_mk_165 : pm_Mk (yX11_isOnPath, cX11_isOnPath, 3, some (.boolean), 1, 11, false) := ⟨pm_inG pm_mc_165 rfl, pm_inG pm_in_11 rfl, by decide +kernel, rfl, by decide +kernel, ⟨pm_inG pm_mi_165 rfl, pm_inG pm_me_165 rfl⟩, by decide, Or.inr (Or.inr (Or.inl rfl))⟩
set_option maxRecDepth 100000 in
theorem pm_mk_166 : pm_Mk (yX11_isPlace, cX11_isPlace, 2, some (.boolean), 1, 11, false) := ⟨pm_inG pm_mc_166 rfl, pm_inG pm_in_11 rfl, by decide +kernel, rfl, by decide +kernel, ⟨pm_inG pm_mi_166 rfl, pm_inG pm_me_166 rfl⟩, by decide, Or.inr (Or.inr (Or.inl rfl))⟩
set_option maxRecDepth 100000 in
theorem pm_mk_167 : pm_Mk (yX11_isRead, cX11_isRead, 2, some (.boolean), 1, 11, false) := ⟨pm_inG pm_mc_167 rfl, pm_inG pm_in_11 rfl, by decide +kernel, rfl, by decide +kernel, ⟨pm_inG pm_mi_167 rfl, pm_inG pm_me_167 rfl⟩, by decide, Or.inr (Or.inr (Or.inl rfl))⟩
set_option maxRecDepth 100000 in
theorem pm_mk_168 : pm_Mk (yX11_isSignHere, cX11_isSignHere, 2, some (.boolean), 1, 11, false) := ⟨pm_inG pm_mc_168 rfl, pm_inG pm_in_11 rfl, by decide +kernel, rfl, by decide +kernel, ⟨pm_inG pm_mi_168 rfl, pm_inG pm_me_168 rfl⟩, by decide, Or.inr (Or.inr (Or.inl rfl))⟩
set_option maxRecDepth 100000 in
theorem pm_mk_169 : pm_Mk (yX11_isSo, cX11_isSo, 4, some (.boolean), 2, 11, false) := ⟨pm_inG pm_mc_169 rfl, pm_inG pm_in_11 rfl, by decide +kernel, rfl, by decide +kernel, ⟨pm_inG pm_mi_169 rfl, pm_inG pm_me_169 rfl⟩, by decide, Or.inr (Or.inr (Or.inl rfl))⟩
set_option maxRecDepth 100000 in
theorem pm_mk_170 : pm_Mk (yX11_isWord, cX11_isWord, 3, some (.boolean), 1, 11, false) := ⟨pm_inG pm_mc_170 rfl, pm_inG pm_in_11 rfl, by decide +kernel, rfl, by decide +kernel, ⟨pm_inG pm_mi_170 rfl, pm_inG pm_me_170 rfl⟩, by decide, Or.inr (Or.inr (Or.inl rfl))⟩
set_option maxRecDepth 100000 in
theorem pm_mk_171 : pm_Mk (yX11_isWordOf, cX11_isWordOf, 2, some (.boolean), 1, 11, false) := ⟨pm_inG pm_mc_171 rfl, pm_inG pm_in_11 rfl, by decide +kernel, rfl, by decide +kernel, ⟨pm_inG pm_mi_171 rfl, pm_inG pm_me_171 rfl⟩, by decide, Or.inr (Or.inr (Or.inl rfl))⟩
set_option maxRecDepth 100000 in
theorem pm_mk_172 : pm_Mk (yX11_keepAct, cX11_keepAct, 4, none, 2, 11, false) := ⟨pm_inG pm_mc_172 rfl, pm_inG pm_in_11 rfl, by decide +kernel, rfl, by decide +kernel, ⟨pm_inG pm_mi_172 rfl, pm_inG pm_me_172 rfl⟩, by decide, Or.inl rfl⟩
set_option maxRecDepth 100000 in
theorem pm_mk_173 : pm_Mk (yX11_keyOf, cX11_keyOf, 6, some (.long), 2, 11, false) := ⟨pm_inG pm_mc_173 rfl, pm_inG pm_in_11 rfl, by decide +kernel, rfl, by decide +kernel, ⟨pm_inG pm_mi_173 rfl, pm_inG pm_me_173 rfl⟩, by decide, Or.inr (Or.inr (Or.inr (Or.inl rfl)))⟩
set_option maxRecDepth 100000 in
theorem pm_mk_174 : pm_Mk (yX11_known, cX11_known, 2, some (.int), 0, 11, false) := ⟨pm_inG pm_mc_174 rfl, pm_inG pm_in_11 rfl, by decide +kernel, rfl, by decide +kernel, ⟨pm_inG pm_mi_174 rfl, pm_inG pm_me_174 rfl⟩, by decide, Or.inr (Or.inl rfl)⟩
set_option maxRecDepth 100000 in
theorem pm_mk_175 : pm_Mk (yX11_later, cX11_later, 2, some (.int), 1, 11, false) := ⟨pm_inG pm_mc_175 rfl, pm_inG pm_in_11 rfl, by decide +kernel, rfl, by decide +kernel, ⟨pm_inG pm_mi_175 rfl, pm_inG pm_me_175 rfl⟩, by decide, Or.inr (Or.inl rfl)⟩
set_option maxRecDepth 100000 in
theorem pm_mk_176 : pm_Mk (yX11_lay, cX11_lay, 3, none, 1, 11, false) := ⟨pm_inG pm_mc_176 rfl, pm_inG pm_in_11 rfl, by decide +kernel, rfl, by decide +kernel, ⟨pm_inG pm_mi_176 rfl, pm_inG pm_me_176 rfl⟩, by decide, Or.inl rfl⟩
set_option maxRecDepth 100000 in
theorem pm_mk_177 : pm_Mk (yX11_layEnds, cX11_layEnds, 5, none, 1, 11, false) := ⟨pm_inG pm_mc_177 rfl, pm_inG pm_in_11 rfl, by decide +kernel, rfl, by decide +kernel, ⟨pm_inG pm_mi_177 rfl, pm_inG pm_me_177 rfl⟩, by decide, Or.inl rfl⟩
set_option maxRecDepth 100000 in
theorem pm_mk_178 : pm_Mk (yX11_layFromNone, cX11_layFromNone, 1, some (.boolean), 0, 11, false) := ⟨pm_inG pm_mc_178 rfl, pm_inG pm_in_11 rfl, by decide +kernel, rfl, by decide +kernel, ⟨pm_inG pm_mi_178 rfl, pm_inG pm_me_178 rfl⟩, by decide, Or.inr (Or.inr (Or.inl rfl))⟩
set_option maxRecDepth 100000 in
theorem pm_mk_179 : pm_Mk (yX11_layFromRow, cX11_layFromRow, 2, some (.boolean), 0, 11, false) := ⟨pm_inG pm_mc_179 rfl, pm_inG pm_in_11 rfl, by decide +kernel, rfl, by decide +kernel, ⟨pm_inG pm_mi_179 rfl, pm_inG pm_me_179 rfl⟩, by decide, Or.inr (Or.inr (Or.inl rfl))⟩
set_option maxRecDepth 100000 in
theorem pm_mk_180 : pm_Mk (yX11_layList, cX11_layList, 6, some (.boolean), 2, 11, false) := ⟨pm_inG pm_mc_180 rfl, pm_inG pm_in_11 rfl, by decide +kernel, rfl, by decide +kernel, ⟨pm_inG pm_mi_180 rfl, pm_inG pm_me_180 rfl⟩, by decide, Or.inr (Or.inr (Or.inl rfl))⟩
set_option maxRecDepth 100000 in
theorem pm_mk_181 : pm_Mk (yX11_layShortest, cX11_layShortest, 5, none, 0, 11, false) := ⟨pm_inG pm_mc_181 rfl, pm_inG pm_in_11 rfl, by decide +kernel, rfl, by decide +kernel, ⟨pm_inG pm_mi_181 rfl, pm_inG pm_me_181 rfl⟩, by decide, Or.inl rfl⟩
set_option maxRecDepth 100000 in
theorem pm_mk_182 : pm_Mk (yX11_lies, cX11_lies, 2, some (.int), 1, 11, false) := ⟨pm_inG pm_mc_182 rfl, pm_inG pm_in_11 rfl, by decide +kernel, rfl, by decide +kernel, ⟨pm_inG pm_mi_182 rfl, pm_inG pm_me_182 rfl⟩, by decide, Or.inr (Or.inl rfl)⟩
set_option maxRecDepth 100000 in
theorem pm_mk_183 : pm_Mk (yX11_longOf, cX11_longOf, 1, some (.int), 0, 11, false) := ⟨pm_inG pm_mc_183 rfl, pm_inG pm_in_11 rfl, by decide +kernel, rfl, by decide +kernel, ⟨pm_inG pm_mi_183 rfl, pm_inG pm_me_183 rfl⟩, by decide, Or.inr (Or.inl rfl)⟩
set_option maxRecDepth 100000 in
theorem pm_mk_184 : pm_Mk (yX11_lots, cX11_lots, 4, some (.int), 1, 11, false) := ⟨pm_inG pm_mc_184 rfl, pm_inG pm_in_11 rfl, by decide +kernel, rfl, by decide +kernel, ⟨pm_inG pm_mi_184 rfl, pm_inG pm_me_184 rfl⟩, by decide, Or.inr (Or.inl rfl)⟩
set_option maxRecDepth 100000 in
theorem pm_mk_185 : pm_Mk (yX11_means, cX11_means, 2, some (.int), 1, 11, false) := ⟨pm_inG pm_mc_185 rfl, pm_inG pm_in_11 rfl, by decide +kernel, rfl, by decide +kernel, ⟨pm_inG pm_mi_185 rfl, pm_inG pm_me_185 rfl⟩, by decide, Or.inr (Or.inl rfl)⟩
set_option maxRecDepth 100000 in
theorem pm_mk_186 : pm_Mk (yX11_meansOf, cX11_meansOf, 5, some (.int), 2, 11, false) := ⟨pm_inG pm_mc_186 rfl, pm_inG pm_in_11 rfl, by decide +kernel, rfl, by decide +kernel, ⟨pm_inG pm_mi_186 rfl, pm_inG pm_me_186 rfl⟩, by decide, Or.inr (Or.inl rfl)⟩
set_option maxRecDepth 100000 in
theorem pm_mk_187 : pm_Mk (yX11_misplaced, cX11_misplaced, 1, none, 0, 11, false) := ⟨pm_inG pm_mc_187 rfl, pm_inG pm_in_11 rfl, by decide +kernel, rfl, by decide +kernel, ⟨pm_inG pm_mi_187 rfl, pm_inG pm_me_187 rfl⟩, by decide, Or.inl rfl⟩
set_option maxRecDepth 100000 in
theorem pm_mk_188 : pm_Mk (yX11_must, cX11_must, 2, none, 1, 11, false) := ⟨pm_inG pm_mc_188 rfl, pm_inG pm_in_11 rfl, by decide +kernel, rfl, by decide +kernel, ⟨pm_inG pm_mi_188 rfl, pm_inG pm_me_188 rfl⟩, by decide, Or.inl rfl⟩
set_option maxRecDepth 100000 in
theorem pm_mk_189 : pm_Mk (yX11_next, cX11_next, 3, some (.int), 0, 11, false) := ⟨pm_inG pm_mc_189 rfl, pm_inG pm_in_11 rfl, by decide +kernel, rfl, by decide +kernel, ⟨pm_inG pm_mi_189 rfl, pm_inG pm_me_189 rfl⟩, by decide, Or.inr (Or.inl rfl)⟩
set_option maxRecDepth 100000 in
theorem pm_mk_190 : pm_Mk (yX11_numeral, cX11_numeral, 4, some (.int), 2, 11, false) := ⟨pm_inG pm_mc_190 rfl, pm_inG pm_in_11 rfl, by decide +kernel, rfl, by decide +kernel, ⟨pm_inG pm_mi_190 rfl, pm_inG pm_me_190 rfl⟩, by decide, Or.inr (Or.inl rfl)⟩
set_option maxRecDepth 100000 in
theorem pm_mk_191 : pm_Mk (yX11_orderTurn, cX11_orderTurn, 6, some (.int), 2, 11, true) := ⟨pm_inG pm_mc_191 rfl, pm_inG pm_in_11 rfl, by decide +kernel, rfl, by decide +kernel, pm_inG pm_ms_191 rfl, by decide, Or.inr (Or.inl rfl)⟩
set_option maxRecDepth 100000 in
theorem pm_mk_192 : pm_Mk (yX11_orders, cX11_orders, 4, some (.int), 1, 11, false) := ⟨pm_inG pm_mc_192 rfl, pm_inG pm_in_11 rfl, by decide +kernel, rfl, by decide +kernel, ⟨pm_inG pm_mi_192 rfl, pm_inG pm_me_192 rfl⟩, by decide, Or.inr (Or.inl rfl)⟩
set_option maxRecDepth 100000 in
theorem pm_mk_193 : pm_Mk (yX11_packed, cX11_packed, 3, some (.int), 0, 11, false) := ⟨pm_inG pm_mc_193 rfl, pm_inG pm_in_11 rfl, by decide +kernel, rfl, by decide +kernel, ⟨pm_inG pm_mi_193 rfl, pm_inG pm_me_193 rfl⟩, by decide, Or.inr (Or.inl rfl)⟩
set_option maxRecDepth 100000 in
theorem pm_mk_194 : pm_Mk (yX11_pairOf, cX11_pairOf, 4, some (.int), 3, 11, false) := ⟨pm_inG pm_mc_194 rfl, pm_inG pm_in_11 rfl, by decide +kernel, rfl, by decide +kernel, ⟨pm_inG pm_mi_194 rfl, pm_inG pm_me_194 rfl⟩, by decide, Or.inr (Or.inl rfl)⟩
set_option maxRecDepth 100000 in
theorem pm_mk_195 : pm_Mk (yX11_plays, cX11_plays, 6, some (.int), 1, 11, false) := ⟨pm_inG pm_mc_195 rfl, pm_inG pm_in_11 rfl, by decide +kernel, rfl, by decide +kernel, ⟨pm_inG pm_mi_195 rfl, pm_inG pm_me_195 rfl⟩, by decide, Or.inr (Or.inl rfl)⟩
set_option maxRecDepth 100000 in
theorem pm_mk_196 : pm_Mk (yX11_port, cX11_port, 2, some (.int), 0, 11, false) := ⟨pm_inG pm_mc_196 rfl, pm_inG pm_in_11 rfl, by decide +kernel, rfl, by decide +kernel, ⟨pm_inG pm_mi_196 rfl, pm_inG pm_me_196 rfl⟩, by decide, Or.inr (Or.inl rfl)⟩
set_option maxRecDepth 100000 in
theorem pm_mk_197 : pm_Mk (yX11_readAlt, cX11_readAlt, 2, none, 0, 11, false) := ⟨pm_inG pm_mc_197 rfl, pm_inG pm_in_11 rfl, by decide +kernel, rfl, by decide +kernel, ⟨pm_inG pm_mi_197 rfl, pm_inG pm_me_197 rfl⟩, by decide, Or.inl rfl⟩
set_option maxRecDepth 100000 in
theorem pm_mk_198 : pm_Mk (yX11_readLine, cX11_readLine, 3, none, 0, 11, false) := ⟨pm_inG pm_mc_198 rfl, pm_inG pm_in_11 rfl, by decide +kernel, rfl, by decide +kernel, ⟨pm_inG pm_mi_198 rfl, pm_inG pm_me_198 rfl⟩, by decide, Or.inl rfl⟩
set_option maxRecDepth 100000 in
theorem pm_mk_199 : pm_Mk (yX11_readPair, cX11_readPair, 6, none, 0, 11, false) := ⟨pm_inG pm_mc_199 rfl, pm_inG pm_in_11 rfl, by decide +kernel, rfl, by decide +kernel, ⟨pm_inG pm_mi_199 rfl, pm_inG pm_me_199 rfl⟩, by decide, Or.inl rfl⟩
set_option maxRecDepth 100000 in
theorem pm_mk_200 : pm_Mk (yX11_readRule, cX11_readRule, 2, none, 0, 11, false) := ⟨pm_inG pm_mc_200 rfl, pm_inG pm_in_11 rfl, by decide +kernel, rfl, by decide +kernel, ⟨pm_inG pm_mi_200 rfl, pm_inG pm_me_200 rfl⟩, by decide, Or.inl rfl⟩
set_option maxRecDepth 100000 in
theorem pm_mk_201 : pm_Mk (yX11_readTurns, cX11_readTurns, 2, none, 0, 11, false) := ⟨pm_inG pm_mc_201 rfl, pm_inG pm_in_11 rfl, by decide +kernel, rfl, by decide +kernel, ⟨pm_inG pm_mi_201 rfl, pm_inG pm_me_201 rfl⟩, by decide, Or.inl rfl⟩
set_option maxRecDepth 100000 in
theorem pm_mk_202 : pm_Mk (yX11_readWord, cX11_readWord, 3, none, 0, 11, false) := ⟨pm_inG pm_mc_202 rfl, pm_inG pm_in_11 rfl, by decide +kernel, rfl, by decide +kernel, ⟨pm_inG pm_mi_202 rfl, pm_inG pm_me_202 rfl⟩, by decide, Or.inl rfl⟩
set_option maxRecDepth 100000 in
theorem pm_mk_203 : pm_Mk (yX11_readings, cX11_readings, 1, some (.int), 0, 11, false) := ⟨pm_inG pm_mc_203 rfl, pm_inG pm_in_11 rfl, by decide +kernel, rfl, by decide +kernel, ⟨pm_inG pm_mi_203 rfl, pm_inG pm_me_203 rfl⟩, by decide, Or.inr (Or.inl rfl)⟩
set_option maxRecDepth 100000 in
theorem pm_mk_204 : pm_Mk (yX11_readingsOf, cX11_readingsOf, 6, some (.long), 1, 11, false) := ⟨pm_inG pm_mc_204 rfl, pm_inG pm_in_11 rfl, by decide +kernel, rfl, by decide +kernel, ⟨pm_inG pm_mi_204 rfl, pm_inG pm_me_204 rfl⟩, by decide, Or.inr (Or.inr (Or.inr (Or.inl rfl)))⟩
set_option maxRecDepth 100000 in
theorem pm_mk_205 : pm_Mk (yX11_redo, cX11_redo, 1, some (.boolean), 0, 11, false) := ⟨pm_inG pm_mc_205 rfl, pm_inG pm_in_11 rfl, by decide +kernel, rfl, by decide +kernel, ⟨pm_inG pm_mi_205 rfl, pm_inG pm_me_205 rfl⟩, by decide, Or.inr (Or.inr (Or.inl rfl))⟩
set_option maxRecDepth 100000 in
theorem pm_mk_206 : pm_Mk (yX11_ruleOf, cX11_ruleOf, 4, some (.int), 1, 11, false) := ⟨pm_inG pm_mc_206 rfl, pm_inG pm_in_11 rfl, by decide +kernel, rfl, by decide +kernel, ⟨pm_inG pm_mi_206 rfl, pm_inG pm_me_206 rfl⟩, by decide, Or.inr (Or.inl rfl)⟩
set_option maxRecDepth 100000 in
theorem pm_mk_207 : pm_Mk (yX11_seen, cX11_seen, 4, some (.int), 3, 11, false) := ⟨pm_inG pm_mc_207 rfl, pm_inG pm_in_11 rfl, by decide +kernel, rfl, by decide +kernel, ⟨pm_inG pm_mi_207 rfl, pm_inG pm_me_207 rfl⟩, by decide, Or.inr (Or.inl rfl)⟩
set_option maxRecDepth 100000 in
theorem pm_mk_208 : pm_Mk (yX11_sell, cX11_sell, 4, some (.int), 2, 11, false) := ⟨pm_inG pm_mc_208 rfl, pm_inG pm_in_11 rfl, by decide +kernel, rfl, by decide +kernel, ⟨pm_inG pm_mi_208 rfl, pm_inG pm_me_208 rfl⟩, by decide, Or.inr (Or.inl rfl)⟩
set_option maxRecDepth 100000 in
theorem pm_mk_209 : pm_Mk (yX11_settle, cX11_settle, 5, none, 0, 11, false) := ⟨pm_inG pm_mc_209 rfl, pm_inG pm_in_11 rfl, by decide +kernel, rfl, by decide +kernel, ⟨pm_inG pm_mi_209 rfl, pm_inG pm_me_209 rfl⟩, by decide, Or.inl rfl⟩
set_option maxRecDepth 100000 in
theorem pm_mk_210 : pm_Mk (yX11_share, cX11_share, 7, some (.int), 2, 11, false) := ⟨pm_inG pm_mc_210 rfl, pm_inG pm_in_11 rfl, by decide +kernel, rfl, by decide +kernel, ⟨pm_inG pm_mi_210 rfl, pm_inG pm_me_210 rfl⟩, by decide, Or.inr (Or.inl rfl)⟩
set_option maxRecDepth 100000 in
theorem pm_mk_211 : pm_Mk (yX11_shortest, cX11_shortest, 2, some (.int), 1, 11, false) := ⟨pm_inG pm_mc_211 rfl, pm_inG pm_in_11 rfl, by decide +kernel, rfl, by decide +kernel, ⟨pm_inG pm_mi_211 rfl, pm_inG pm_me_211 rfl⟩, by decide, Or.inr (Or.inl rfl)⟩
set_option maxRecDepth 100000 in
theorem pm_mk_212 : pm_Mk (yX11_sign, cX11_sign, 2, some (.int), 1, 11, false) := ⟨pm_inG pm_mc_212 rfl, pm_inG pm_in_11 rfl, by decide +kernel, rfl, by decide +kernel, ⟨pm_inG pm_mi_212 rfl, pm_inG pm_me_212 rfl⟩, by decide, Or.inr (Or.inl rfl)⟩
set_option maxRecDepth 100000 in
theorem pm_mk_213 : pm_Mk (yX11_struck, cX11_struck, 6, some (.int), 1, 11, false) := ⟨pm_inG pm_mc_213 rfl, pm_inG pm_in_11 rfl, by decide +kernel, rfl, by decide +kernel, ⟨pm_inG pm_mi_213 rfl, pm_inG pm_me_213 rfl⟩, by decide, Or.inr (Or.inl rfl)⟩
set_option maxRecDepth 100000 in
theorem pm_mk_214 : pm_Mk (yX11_sumOf, cX11_sumOf, 5, some (.int), 1, 11, false) := ⟨pm_inG pm_mc_214 rfl, pm_inG pm_in_11 rfl, by decide +kernel, rfl, by decide +kernel, ⟨pm_inG pm_mi_214 rfl, pm_inG pm_me_214 rfl⟩, by decide, Or.inr (Or.inl rfl)⟩
set_option maxRecDepth 100000 in
theorem pm_mk_215 : pm_Mk (yX11_swap, cX11_swap, 7, some (.int), 0, 11, false) := ⟨pm_inG pm_mc_215 rfl, pm_inG pm_in_11 rfl, by decide +kernel, rfl, by decide +kernel, ⟨pm_inG pm_mi_215 rfl, pm_inG pm_me_215 rfl⟩, by decide, Or.inr (Or.inl rfl)⟩
set_option maxRecDepth 100000 in
theorem pm_mk_216 : pm_Mk (yX11_takeCharter, cX11_takeCharter, 2, none, 0, 11, false) := ⟨pm_inG pm_mc_216 rfl, pm_inG pm_in_11 rfl, by decide +kernel, rfl, by decide +kernel, ⟨pm_inG pm_mi_216 rfl, pm_inG pm_me_216 rfl⟩, by decide, Or.inl rfl⟩
set_option maxRecDepth 100000 in
theorem pm_mk_217 : pm_Mk (yX11_toldTurn, cX11_toldTurn, 2, some (.int), 1, 11, false) := ⟨pm_inG pm_mc_217 rfl, pm_inG pm_in_11 rfl, by decide +kernel, rfl, by decide +kernel, ⟨pm_inG pm_mi_217 rfl, pm_inG pm_me_217 rfl⟩, by decide, Or.inr (Or.inl rfl)⟩
set_option maxRecDepth 100000 in
theorem pm_mk_218 : pm_Mk (yX11_tryRow, cX11_tryRow, 2, none, 0, 11, false) := ⟨pm_inG pm_mc_218 rfl, pm_inG pm_in_11 rfl, by decide +kernel, rfl, by decide +kernel, ⟨pm_inG pm_mi_218 rfl, pm_inG pm_me_218 rfl⟩, by decide, Or.inl rfl⟩
set_option maxRecDepth 100000 in
theorem pm_mk_219 : pm_Mk (yX11_tryWithout, cX11_tryWithout, 4, none, 1, 11, false) := ⟨pm_inG pm_mc_219 rfl, pm_inG pm_in_11 rfl, by decide +kernel, rfl, by decide +kernel, ⟨pm_inG pm_mi_219 rfl, pm_inG pm_me_219 rfl⟩, by decide, Or.inl rfl⟩
set_option maxRecDepth 100000 in
theorem pm_mk_220 : pm_Mk (yX11_turn, cX11_turn, 2, some (.int), 1, 11, false) := ⟨pm_inG pm_mc_220 rfl, pm_inG pm_in_11 rfl, by decide +kernel, rfl, by decide +kernel, ⟨pm_inG pm_mi_220 rfl, pm_inG pm_me_220 rfl⟩, by decide, Or.inr (Or.inl rfl)⟩
set_option maxRecDepth 100000 in
theorem pm_mk_221 : pm_Mk (yX11_turnsByOrder, cX11_turnsByOrder, 3, none, 1, 11, false) := ⟨pm_inG pm_mc_221 rfl, pm_inG pm_in_11 rfl, by decide +kernel, rfl, by decide +kernel, ⟨pm_inG pm_mi_221 rfl, pm_inG pm_me_221 rfl⟩, by decide, Or.inl rfl⟩
set_option maxRecDepth 100000 in
theorem pm_mk_222 : pm_Mk (yX11_turnsNow, cX11_turnsNow, 2, none, 0, 11, false) := ⟨pm_inG pm_mc_222 rfl, pm_inG pm_in_11 rfl, by decide +kernel, rfl, by decide +kernel, ⟨pm_inG pm_mi_222 rfl, pm_inG pm_me_222 rfl⟩, by decide, Or.inl rfl⟩
set_option maxRecDepth 100000 in
theorem pm_mk_223 : pm_Mk (yX11_undo, cX11_undo, 1, some (.boolean), 0, 11, false) := ⟨pm_inG pm_mc_223 rfl, pm_inG pm_in_11 rfl, by decide +kernel, rfl, by decide +kernel, ⟨pm_inG pm_mi_223 rfl, pm_inG pm_me_223 rfl⟩, by decide, Or.inr (Or.inr (Or.inl rfl))⟩
set_option maxRecDepth 100000 in
theorem pm_mk_224 : pm_Mk (yX11_unpack, cX11_unpack, 3, none, 1, 11, false) := ⟨pm_inG pm_mc_224 rfl, pm_inG pm_in_11 rfl, by decide +kernel, rfl, by decide +kernel, ⟨pm_inG pm_mi_224 rfl, pm_inG pm_me_224 rfl⟩, by decide, Or.inl rfl⟩
set_option maxRecDepth 100000 in
theorem pm_mk_225 : pm_Mk (yX11_untell, cX11_untell, 2, some (.boolean), 1, 11, false) := ⟨pm_inG pm_mc_225 rfl, pm_inG pm_in_11 rfl, by decide +kernel, rfl, by decide +kernel, ⟨pm_inG pm_mi_225 rfl, pm_inG pm_me_225 rfl⟩, by decide, Or.inr (Or.inr (Or.inl rfl))⟩
set_option maxRecDepth 100000 in
theorem pm_mk_226 : pm_Mk (yX11_used, cX11_used, 5, some (.int), 0, 11, false) := ⟨pm_inG pm_mc_226 rfl, pm_inG pm_in_11 rfl, by decide +kernel, rfl, by decide +kernel, ⟨pm_inG pm_mi_226 rfl, pm_inG pm_me_226 rfl⟩, by decide, Or.inr (Or.inl rfl)⟩
set_option maxRecDepth 100000 in
theorem pm_mk_227 : pm_Mk (yX11_waysBy, cX11_waysBy, 7, some (.long), 3, 11, false) := ⟨pm_inG pm_mc_227 rfl, pm_inG pm_in_11 rfl, by decide +kernel, rfl, by decide +kernel, ⟨pm_inG pm_mi_227 rfl, pm_inG pm_me_227 rfl⟩, by decide, Or.inr (Or.inr (Or.inr (Or.inl rfl)))⟩
set_option maxRecDepth 100000 in
theorem pm_mk_228 : pm_Mk (yX11_wipe, cX11_wipe, 2, some (.int), 0, 11, false) := ⟨pm_inG pm_mc_228 rfl, pm_inG pm_in_11 rfl, by decide +kernel, rfl, by decide +kernel, ⟨pm_inG pm_mi_228 rfl, pm_inG pm_me_228 rfl⟩, by decide, Or.inr (Or.inl rfl)⟩
set_option maxRecDepth 100000 in
theorem pm_mk_229 : pm_Mk (yX11_word, cX11_word, 2, some (.int), 1, 11, false) := ⟨pm_inG pm_mc_229 rfl, pm_inG pm_in_11 rfl, by decide +kernel, rfl, by decide +kernel, ⟨pm_inG pm_mi_229 rfl, pm_inG pm_me_229 rfl⟩, by decide, Or.inr (Or.inl rfl)⟩
set_option maxRecDepth 100000 in
theorem pm_mk_230 : pm_Mk (yX11_wordIn, cX11_wordIn, 3, some (.int), 2, 11, false) := ⟨pm_inG pm_mc_230 rfl, pm_inG pm_in_11 rfl, by decide +kernel, rfl, by decide +kernel, ⟨pm_inG pm_mi_230 rfl, pm_inG pm_me_230 rfl⟩, by decide, Or.inr (Or.inl rfl)⟩
set_option maxRecDepth 100000 in
theorem pm_mk_231 : pm_Mk (yX11_wordOf, cX11_wordOf, 4, some (.int), 1, 11, false) := ⟨pm_inG pm_mc_231 rfl, pm_inG pm_in_11 rfl, by decide +kernel, rfl, by decide +kernel, ⟨pm_inG pm_mi_231 rfl, pm_inG pm_me_231 rfl⟩, by decide, Or.inr (Or.inl rfl)⟩
set_option maxRecDepth 100000 in
theorem pm_mk_232 : pm_Mk (yX11_worth, cX11_worth, 3, some (.int), 2, 11, false) := ⟨pm_inG pm_mc_232 rfl, pm_inG pm_in_11 rfl, by decide +kernel, rfl, by decide +kernel, ⟨pm_inG pm_mi_232 rfl, pm_inG pm_me_232 rfl⟩, by decide, Or.inr (Or.inl rfl)⟩
set_option maxRecDepth 100000 in
theorem pm_mk_233 : pm_Mk (yX11_write, cX11_write, 2, some (.int), 1, 11, false) := ⟨pm_inG pm_mc_233 rfl, pm_inG pm_in_11 rfl, by decide +kernel, rfl, by decide +kernel, ⟨pm_inG pm_mi_233 rfl, pm_inG pm_me_233 rfl⟩, by decide, Or.inr (Or.inl rfl)⟩
set_option maxRecDepth 100000 in
theorem pm_mk_234 : pm_Mk (yX11_written, cX11_written, 3, some (.int), 1, 11, false) := ⟨pm_inG pm_mc_234 rfl, pm_inG pm_in_11 rfl, by decide +kernel, rfl, by decide +kernel, ⟨pm_inG pm_mi_234 rfl, pm_inG pm_me_234 rfl⟩, by decide, Or.inr (Or.inl rfl)⟩
set_option maxRecDepth 100000 in
theorem pm_mk_235 : pm_Mk (yJ7_fill_53178, cJ7_fill_53178, 4, none, 2, 13, true) := ⟨pm_inG pm_mc_235 rfl, pm_inG pm_in_13 rfl, by decide +kernel, rfl, by decide +kernel, pm_inG pm_ms_235 rfl, by decide, Or.inl rfl⟩
theorem pm_mk : ∀ (k : Nat) (me : pm_Me), k < 236 → pm_M[k]? = some me → pm_Mk me := fun k => match k with
  | 0 => fun _ _ h => by cases h; exact pm_mk_0
  | 1 => fun _ _ h => by cases h; exact pm_mk_1
  | 2 => fun _ _ h => by cases h; exact pm_mk_2
  | 3 => fun _ _ h => by cases h; exact pm_mk_3
  | 4 => fun _ _ h => by cases h; exact pm_mk_4
  | 5 => fun _ _ h => by cases h; exact pm_mk_5
  | 6 => fun _ _ h => by cases h; exact pm_mk_6
  | 7 => fun _ _ h => by cases h; exact pm_mk_7
  | 8 => fun _ _ h => by cases h; exact pm_mk_8
  | 9 => fun _ _ h => by cases h; exact pm_mk_9
  | 10 => fun _ _ h => by cases h; exact pm_mk_10
  | 11 => fun _ _ h => by cases h; exact pm_mk_11
  | 12 => fun _ _ h => by cases h; exact pm_mk_12
  | 13 => fun _ _ h => by cases h; exact pm_mk_13
  | 14 => fun _ _ h => by cases h; exact pm_mk_14
  | 15 => fun _ _ h => by cases h; exact pm_mk_15
  | 16 => fun _ _ h => by cases h; exact pm_mk_16
  | 17 => fun _ _ h => by cases h; exact pm_mk_17
  | 18 => fun _ _ h => by cases h; exact pm_mk_18
  | 19 => fun _ _ h => by cases h; exact pm_mk_19
  | 20 => fun _ _ h => by cases h; exact pm_mk_20
  | 21 => fun _ _ h => by cases h; exact pm_mk_21
  | 22 => fun _ _ h => by cases h; exact pm_mk_22
  | 23 => fun _ _ h => by cases h; exact pm_mk_23
  | 24 => fun _ _ h => by cases h; exact pm_mk_24
  | 25 => fun _ _ h => by cases h; exact pm_mk_25
  | 26 => fun _ _ h => by cases h; exact pm_mk_26
  | 27 => fun _ _ h => by cases h; exact pm_mk_27
  | 28 => fun _ _ h => by cases h; exact pm_mk_28
  | 29 => fun _ _ h => by cases h; exact pm_mk_29
  | 30 => fun _ _ h => by cases h; exact pm_mk_30
  | 31 => fun _ _ h => by cases h; exact pm_mk_31
  | 32 => fun _ _ h => by cases h; exact pm_mk_32
  | 33 => fun _ _ h => by cases h; exact pm_mk_33
  | 34 => fun _ _ h => by cases h; exact pm_mk_34
  | 35 => fun _ _ h => by cases h; exact pm_mk_35
  | 36 => fun _ _ h => by cases h; exact pm_mk_36
  | 37 => fun _ _ h => by cases h; exact pm_mk_37
  | 38 => fun _ _ h => by cases h; exact pm_mk_38
  | 39 => fun _ _ h => by cases h; exact pm_mk_39
  | 40 => fun _ _ h => by cases h; exact pm_mk_40
  | 41 => fun _ _ h => by cases h; exact pm_mk_41
  | 42 => fun _ _ h => by cases h; exact pm_mk_42
  | 43 => fun _ _ h => by cases h; exact pm_mk_43
  | 44 => fun _ _ h => by cases h; exact pm_mk_44
  | 45 => fun _ _ h => by cases h; exact pm_mk_45
  | 46 => fun _ _ h => by cases h; exact pm_mk_46
  | 47 => fun _ _ h => by cases h; exact pm_mk_47
  | 48 => fun _ _ h => by cases h; exact pm_mk_48
  | 49 => fun _ _ h => by cases h; exact pm_mk_49
  | 50 => fun _ _ h => by cases h; exact pm_mk_50
  | 51 => fun _ _ h => by cases h; exact pm_mk_51
  | 52 => fun _ _ h => by cases h; exact pm_mk_52
  | 53 => fun _ _ h => by cases h; exact pm_mk_53
  | 54 => fun _ _ h => by cases h; exact pm_mk_54
  | 55 => fun _ _ h => by cases h; exact pm_mk_55
  | 56 => fun _ _ h => by cases h; exact pm_mk_56
  | 57 => fun _ _ h => by cases h; exact pm_mk_57
  | 58 => fun _ _ h => by cases h; exact pm_mk_58
  | 59 => fun _ _ h => by cases h; exact pm_mk_59
  | 60 => fun _ _ h => by cases h; exact pm_mk_60
  | 61 => fun _ _ h => by cases h; exact pm_mk_61
  | 62 => fun _ _ h => by cases h; exact pm_mk_62
  | 63 => fun _ _ h => by cases h; exact pm_mk_63
  | 64 => fun _ _ h => by cases h; exact pm_mk_64
  | 65 => fun _ _ h => by cases h; exact pm_mk_65
  | 66 => fun _ _ h => by cases h; exact pm_mk_66
  | 67 => fun _ _ h => by cases h; exact pm_mk_67
  | 68 => fun _ _ h => by cases h; exact pm_mk_68
  | 69 => fun _ _ h => by cases h; exact pm_mk_69
  | 70 => fun _ _ h => by cases h; exact pm_mk_70
  | 71 => fun _ _ h => by cases h; exact pm_mk_71
  | 72 => fun _ _ h => by cases h; exact pm_mk_72
  | 73 => fun _ _ h => by cases h; exact pm_mk_73
  | 74 => fun _ _ h => by cases h; exact pm_mk_74
  | 75 => fun _ _ h => by cases h; exact pm_mk_75
  | 76 => fun _ _ h => by cases h; exact pm_mk_76
  | 77 => fun _ _ h => by cases h; exact pm_mk_77
  | 78 => fun _ _ h => by cases h; exact pm_mk_78
  | 79 => fun _ _ h => by cases h; exact pm_mk_79
  | 80 => fun _ _ h => by cases h; exact pm_mk_80
  | 81 => fun _ _ h => by cases h; exact pm_mk_81
  | 82 => fun _ _ h => by cases h; exact pm_mk_82
  | 83 => fun _ _ h => by cases h; exact pm_mk_83
  | 84 => fun _ _ h => by cases h; exact pm_mk_84
  | 85 => fun _ _ h => by cases h; exact pm_mk_85
  | 86 => fun _ _ h => by cases h; exact pm_mk_86
  | 87 => fun _ _ h => by cases h; exact pm_mk_87
  | 88 => fun _ _ h => by cases h; exact pm_mk_88
  | 89 => fun _ _ h => by cases h; exact pm_mk_89
  | 90 => fun _ _ h => by cases h; exact pm_mk_90
  | 91 => fun _ _ h => by cases h; exact pm_mk_91
  | 92 => fun _ _ h => by cases h; exact pm_mk_92
  | 93 => fun _ _ h => by cases h; exact pm_mk_93
  | 94 => fun _ _ h => by cases h; exact pm_mk_94
  | 95 => fun _ _ h => by cases h; exact pm_mk_95
  | 96 => fun _ _ h => by cases h; exact pm_mk_96
  | 97 => fun _ _ h => by cases h; exact pm_mk_97
  | 98 => fun _ _ h => by cases h; exact pm_mk_98
  | 99 => fun _ _ h => by cases h; exact pm_mk_99
  | 100 => fun _ _ h => by cases h; exact pm_mk_100
  | 101 => fun _ _ h => by cases h; exact pm_mk_101
  | 102 => fun _ _ h => by cases h; exact pm_mk_102
  | 103 => fun _ _ h => by cases h; exact pm_mk_103
  | 104 => fun _ _ h => by cases h; exact pm_mk_104
  | 105 => fun _ _ h => by cases h; exact pm_mk_105
  | 106 => fun _ _ h => by cases h; exact pm_mk_106
  | 107 => fun _ _ h => by cases h; exact pm_mk_107
  | 108 => fun _ _ h => by cases h; exact pm_mk_108
  | 109 => fun _ _ h => by cases h; exact pm_mk_109
  | 110 => fun _ _ h => by cases h; exact pm_mk_110
  | 111 => fun _ _ h => by cases h; exact pm_mk_111
  | 112 => fun _ _ h => by cases h; exact pm_mk_112
  | 113 => fun _ _ h => by cases h; exact pm_mk_113
  | 114 => fun _ _ h => by cases h; exact pm_mk_114
  | 115 => fun _ _ h => by cases h; exact pm_mk_115
  | 116 => fun _ _ h => by cases h; exact pm_mk_116
  | 117 => fun _ _ h => by cases h; exact pm_mk_117
  | 118 => fun _ _ h => by cases h; exact pm_mk_118
  | 119 => fun _ _ h => by cases h; exact pm_mk_119
  | 120 => fun _ _ h => by cases h; exact pm_mk_120
  | 121 => fun _ _ h => by cases h; exact pm_mk_121
  | 122 => fun _ _ h => by cases h; exact pm_mk_122
  | 123 => fun _ _ h => by cases h; exact pm_mk_123
  | 124 => fun _ _ h => by cases h; exact pm_mk_124
  | 125 => fun _ _ h => by cases h; exact pm_mk_125
  | 126 => fun _ _ h => by cases h; exact pm_mk_126
  | 127 => fun _ _ h => by cases h; exact pm_mk_127
  | 128 => fun _ _ h => by cases h; exact pm_mk_128
  | 129 => fun _ _ h => by cases h; exact pm_mk_129
  | 130 => fun _ _ h => by cases h; exact pm_mk_130
  | 131 => fun _ _ h => by cases h; exact pm_mk_131
  | 132 => fun _ _ h => by cases h; exact pm_mk_132
  | 133 => fun _ _ h => by cases h; exact pm_mk_133
  | 134 => fun _ _ h => by cases h; exact pm_mk_134
  | 135 => fun _ _ h => by cases h; exact pm_mk_135
  | 136 => fun _ _ h => by cases h; exact pm_mk_136
  | 137 => fun _ _ h => by cases h; exact pm_mk_137
  | 138 => fun _ _ h => by cases h; exact pm_mk_138
  | 139 => fun _ _ h => by cases h; exact pm_mk_139
  | 140 => fun _ _ h => by cases h; exact pm_mk_140
  | 141 => fun _ _ h => by cases h; exact pm_mk_141
  | 142 => fun _ _ h => by cases h; exact pm_mk_142
  | 143 => fun _ _ h => by cases h; exact pm_mk_143
  | 144 => fun _ _ h => by cases h; exact pm_mk_144
  | 145 => fun _ _ h => by cases h; exact pm_mk_145
  | 146 => fun _ _ h => by cases h; exact pm_mk_146
  | 147 => fun _ _ h => by cases h; exact pm_mk_147
  | 148 => fun _ _ h => by cases h; exact pm_mk_148
  | 149 => fun _ _ h => by cases h; exact pm_mk_149
  | 150 => fun _ _ h => by cases h; exact pm_mk_150
  | 151 => fun _ _ h => by cases h; exact pm_mk_151
  | 152 => fun _ _ h => by cases h; exact pm_mk_152
  | 153 => fun _ _ h => by cases h; exact pm_mk_153
  | 154 => fun _ _ h => by cases h; exact pm_mk_154
  | 155 => fun _ _ h => by cases h; exact pm_mk_155
  | 156 => fun _ _ h => by cases h; exact pm_mk_156
  | 157 => fun _ _ h => by cases h; exact pm_mk_157
  | 158 => fun _ _ h => by cases h; exact pm_mk_158
  | 159 => fun _ _ h => by cases h; exact pm_mk_159
  | 160 => fun _ _ h => by cases h; exact pm_mk_160
  | 161 => fun _ _ h => by cases h; exact pm_mk_161
  | 162 => fun _ _ h => by cases h; exact pm_mk_162
  | 163 => fun _ _ h => by cases h; exact pm_mk_163
  | 164 => fun _ _ h => by cases h; exact pm_mk_164
  | 165 => fun _ _ h => by cases h; exact pm_mk_165
  | 166 => fun _ _ h => by cases h; exact pm_mk_166
  | 167 => fun _ _ h => by cases h; exact pm_mk_167
  | 168 => fun _ _ h => by cases h; exact pm_mk_168
  | 169 => fun _ _ h => by cases h; exact pm_mk_169
  | 170 => fun _ _ h => by cases h; exact pm_mk_170
  | 171 => fun _ _ h => by cases h; exact pm_mk_171
  | 172 => fun _ _ h => by cases h; exact pm_mk_172
  | 173 => fun _ _ h => by cases h; exact pm_mk_173
  | 174 => fun _ _ h => by cases h; exact pm_mk_174
  | 175 => fun _ _ h => by cases h; exact pm_mk_175
  | 176 => fun _ _ h => by cases h; exact pm_mk_176
  | 177 => fun _ _ h => by cases h; exact pm_mk_177
  | 178 => fun _ _ h => by cases h; exact pm_mk_178
  | 179 => fun _ _ h => by cases h; exact pm_mk_179
  | 180 => fun _ _ h => by cases h; exact pm_mk_180
  | 181 => fun _ _ h => by cases h; exact pm_mk_181
  | 182 => fun _ _ h => by cases h; exact pm_mk_182
  | 183 => fun _ _ h => by cases h; exact pm_mk_183
  | 184 => fun _ _ h => by cases h; exact pm_mk_184
  | 185 => fun _ _ h => by cases h; exact pm_mk_185
  | 186 => fun _ _ h => by cases h; exact pm_mk_186
  | 187 => fun _ _ h => by cases h; exact pm_mk_187
  | 188 => fun _ _ h => by cases h; exact pm_mk_188
  | 189 => fun _ _ h => by cases h; exact pm_mk_189
  | 190 => fun _ _ h => by cases h; exact pm_mk_190
  | 191 => fun _ _ h => by cases h; exact pm_mk_191
  | 192 => fun _ _ h => by cases h; exact pm_mk_192
  | 193 => fun _ _ h => by cases h; exact pm_mk_193
  | 194 => fun _ _ h => by cases h; exact pm_mk_194
  | 195 => fun _ _ h => by cases h; exact pm_mk_195
  | 196 => fun _ _ h => by cases h; exact pm_mk_196
  | 197 => fun _ _ h => by cases h; exact pm_mk_197
  | 198 => fun _ _ h => by cases h; exact pm_mk_198
  | 199 => fun _ _ h => by cases h; exact pm_mk_199
  | 200 => fun _ _ h => by cases h; exact pm_mk_200
  | 201 => fun _ _ h => by cases h; exact pm_mk_201
  | 202 => fun _ _ h => by cases h; exact pm_mk_202
  | 203 => fun _ _ h => by cases h; exact pm_mk_203
  | 204 => fun _ _ h => by cases h; exact pm_mk_204
  | 205 => fun _ _ h => by cases h; exact pm_mk_205
  | 206 => fun _ _ h => by cases h; exact pm_mk_206
  | 207 => fun _ _ h => by cases h; exact pm_mk_207
  | 208 => fun _ _ h => by cases h; exact pm_mk_208
  | 209 => fun _ _ h => by cases h; exact pm_mk_209
  | 210 => fun _ _ h => by cases h; exact pm_mk_210
  | 211 => fun _ _ h => by cases h; exact pm_mk_211
  | 212 => fun _ _ h => by cases h; exact pm_mk_212
  | 213 => fun _ _ h => by cases h; exact pm_mk_213
  | 214 => fun _ _ h => by cases h; exact pm_mk_214
  | 215 => fun _ _ h => by cases h; exact pm_mk_215
  | 216 => fun _ _ h => by cases h; exact pm_mk_216
  | 217 => fun _ _ h => by cases h; exact pm_mk_217
  | 218 => fun _ _ h => by cases h; exact pm_mk_218
  | 219 => fun _ _ h => by cases h; exact pm_mk_219
  | 220 => fun _ _ h => by cases h; exact pm_mk_220
  | 221 => fun _ _ h => by cases h; exact pm_mk_221
  | 222 => fun _ _ h => by cases h; exact pm_mk_222
  | 223 => fun _ _ h => by cases h; exact pm_mk_223
  | 224 => fun _ _ h => by cases h; exact pm_mk_224
  | 225 => fun _ _ h => by cases h; exact pm_mk_225
  | 226 => fun _ _ h => by cases h; exact pm_mk_226
  | 227 => fun _ _ h => by cases h; exact pm_mk_227
  | 228 => fun _ _ h => by cases h; exact pm_mk_228
  | 229 => fun _ _ h => by cases h; exact pm_mk_229
  | 230 => fun _ _ h => by cases h; exact pm_mk_230
  | 231 => fun _ _ h => by cases h; exact pm_mk_231
  | 232 => fun _ _ h => by cases h; exact pm_mk_232
  | 233 => fun _ _ h => by cases h; exact pm_mk_233
  | 234 => fun _ _ h => by cases h; exact pm_mk_234
  | 235 => fun _ _ h => by cases h; exact pm_mk_235
  | k + 236 => fun _ h _ => absurd h (by omega)
