/-! by program: the table; that all of it is right; the begin of each method -/
noncomputable def MT_0 : List mE := [E_X6_init, E_X9_init, E_X2_init, E_X8_init, E_X1_init, E_X4_init, E_X3_init, E_X5_init, E_X7_init, E_X0_init, E_X10_init, E_X11_init, E_X12_at, E_X12_init, E_X6_addBytes, E_X11_feed, E_X12_feed, E_X11_end, E_X12_end, E_X11_needIndex, E_X11_needField, E_X11_needWithin, E_X2_isCell, E_X2_get, E_X2_isSold, E_X2_set, E_X11_field, E_L_field, E_X12_in, E_X12_noField, E_X12_throwsIf, E_X12_of, E_X12_field, E_X12_thrown, E_X4_setRain, E_X11_rain, E_L_rain, E_X12_rain, E_X4_toldRain, E_X4_rainOf, E_X11_fell, E_L_fell, E_X12_rainTold, E_X12_rainOf, E_X12_fell, E_X4_tell, E_X11_price, E_L_price, E_X12_season, E_X12_price, E_X4_priceAt, E_X11_known, E_L_known, E_X12_knownOf, E_X12_known, E_X6_useTape, E_X6_isLetter, E_J0_coder_7d493, E_J0_length_8abf5, E_J0_isLatin1_aae02]
noncomputable def MT_1 : List mE := [E_J0_checkIndex_df160, E_J1_charAt_3b067, E_J0_charAt_5068e, E_X6_wordFrom, E_X6_isDigit, E_X6_next, E_X6_write, E_X6_takeVerb, E_X6_takeNumber, E_X6_isWord, E_X6_takeWord, E_X6_takeCrop, E_X6_takeOneOf, E_X6_isSign, E_X6_takeSign, E_X6_emit, E_X6_takeSum, E_X6_takeAtom, E_X6_takeAll, E_X6_takeCondition, E_X6_takeIf, E_X6_takeRestOfLease, E_X6_takeRestOfAct, E_X6_takeLines, E_X6_read, E_X11_needText, E_X9_inForce, E_X9_textAt, E_X8_get, E_X8_lastOf, E_X9_lastLine, E_X0_lastLine, E_X9_numberIn, E_X0_yearsLet, E_X2_isBetween, E_X2_isWithin, E_X0_isFree, E_X3_note, E_X0_noteWrong, E_X1_isCell, E_X1_set, E_X1_open, E_X1_get, E_X11_capped, E_X1_grow, E_X0_openOn, E_X0_openLease, E_X8_init_, E_X6_newText, E_X1_setLease, E_X11_let, E_L_let, E_X12_uses, E_X12_isAt, E_X12_blanks, E_X12_word, E_X12_textAt, E_X12_lineAt, E_X12_isWord, E_X12_wordOf]
noncomputable def MT_2 : List mE := [E_X12_sortOf, E_X12_number, E_X12_tells, E_X12_needs, E_X12_readCrop, E_X12_readThing, E_X12_passes, E_X12_sign, E_X12_adds, E_X12_fact, E_X12_readPart, E_X12_readSum, E_X12_readAtom, E_X12_readAllOf, E_X12_readCond, E_X12_readIf, E_X12_readRest, E_X12_readLine, E_X12_readAll, E_X12_reads, E_X12_orders, E_X12_linesOf, E_X12_isStruck, E_X12_isLine, E_X12_lastLine, E_X12_numberOf, E_X12_isIn, E_X12_areFree, E_X12_holdingAt, E_X12_begins, E_X12_kept, E_X12_sets, E_X12_year, E_X12_copies, E_X12_errs, E_X12_let, E_X0_openKept, E_X11_keep, E_L_keep, E_X12_keep, E_X0_kindAt, E_X1_isHand, E_X11_needKind, E_X11_sow, E_L_sow, E_X12_its, E_X12_kindOf, E_X12_sow, E_X11_needHolding, E_X11_notice, E_L_notice, E_X12_noHolding, E_X12_fieldsOf, E_X12_notice, E_X1_isLet, E_X0_close, E_X11_give, E_L_give, E_X12_isLet, E_X12_leaves]
noncomputable def MT_3 : List mE := [E_X12_give, E_X4_learnPrices, E_X0_learnPrices, E_X1_leaseOf, E_X0_priceOf, E_X2_growthOf, E_X10_isBarred, E_X10_chosenCrop, E_X10_spring, E_X2_harvest, E_X3_addHarvest, E_X3_addIncome, E_X10_sellHarvest, E_X7_add, E_X10_summer, E_X1_isOver, E_X0_learnFacts, E_X0_learnFactsOfTenant, E_X8_step, E_X8_holds, E_X8_sumHolding, E_X0_rentOf, E_X10_harmOfGame, E_X10_hundredthsPut, E_X10_receive, E_X10_takeRent, E_X10_autumn, E_X2_beside, E_X10_isBesideWood, E_X10_breedGame, E_X10_growOlder, E_X3_addCapital, E_X0_takeIn, E_X10_sink, E_X10_dig, E_X10_digMines, E_X3_payLoans, E_X0_learnFactsOfEstate, E_X9_lastStrike, E_X9_sumHolding, E_X0_chargesNow, E_X3_payCharges, E_X10_isAtItsEnd, E_X0_learnFactsOfField, E_X0_leftOn, E_X0_owedTo, E_X10_goOut, E_X10_endLeases, E_X10_pass, E_X11_seasons, E_L_seasons, E_X12_isBarred, E_X12_priceOf, E_X12_yieldOf, E_X12_spring, E_X12_income, E_X12_writesRow, E_X12_summer, E_X12_looks, E_X12_holds]
noncomputable def MT_4 : List mE := [E_X12_rentOf, E_X12_rentLess, E_X12_paysRent, E_X12_autumn, E_X12_beside, E_X12_isNearWood, E_X12_grows, E_X12_partOf, E_X12_capital, E_X12_comes, E_X12_digs, E_X12_paysLoan, E_X12_charges, E_X12_owedTo, E_X12_goesOut, E_X12_winter, E_X12_seasons, E_X11_needKnown, E_X2_timberOf, E_X2_worthOf, E_X11_look, E_L_look, E_X12_worthOf, E_X12_look, E_X11_led, E_L_led, E_X12_led, E_X11_owed, E_L_owed, E_X12_owed, E_X11_rent, E_L_rent, E_X12_rent, E_X1_rankOf, E_X1_ofRank, E_X11_arrears, E_X12_arrears, E_X11_needRoom, E_X9_add, E_X11_words, E_L_words, E_X12_words, E_X11_fault, E_X12_fault, E_X8_firstHolding, E_X9_firstHolding, E_X0_lineThatLets, E_X0_mostBorrowed, E_X0_partOf, E_X11_may, E_L_may, E_X12_mostOf, E_X12_firstLine, E_X12_may, E_X0_firstCharge, E_X11_why, E_L_why, E_X12_why, E_X11_cut, E_L_cut]
noncomputable def MT_5 : List mE := [E_X12_cut, E_X3_owedInAll, E_X3_lend, E_X11_loan, E_L_loan, E_X12_owedOnLoans, E_X12_loan, E_X11_owing, E_L_owing, E_X12_owing, E_X0_payWork, E_X11_work, E_L_work, E_X12_work, E_X11_sell, E_L_sell, E_X12_sell, E_X3_passOn, E_X11_heir, E_X12_heir, E_X3_wrongNote, E_X11_wrong, E_L_wrong, E_X12_wrong, E_X5_addJob, E_X11_job, E_L_job, E_X12_job, E_X5_addTrouble, E_X11_trouble, E_L_trouble, E_X12_trouble, E_X5_jobsIn, E_X5_endOf, E_X5_leastEnd, E_X11_worth, E_L_worth, E_X12_noPlan, E_X12_endsWith, E_X12_worthOfSet, E_X12_worth, E_J6_bitCount_0f7a4, E_X5_bestSet, E_X11_best, E_L_best, E_X12_best, E_X0_isIn, E_X0_worthTogether, E_X0_partedPairs, E_X0_bestSale, E_X11_toSell, E_L_toSell, E_X12_isOf, E_X12_parted, E_X12_toSell, E_X11_row, E_L_row, E_X12_noRow, E_X12_row, E_X11_tear]
noncomputable def MT_6 : List mE := [E_L_tear, E_X12_tear, E_X7_firstFalse, E_X11_check, E_X12_check, E_X9_copyFrom, E_X2_copyFrom, E_X1_copyFrom, E_X4_copyFrom, E_X3_copyFrom, E_X5_copyFrom, E_X7_copyFrom, E_X0_copyFrom, E_X11_image, E_X12_image, E_X11_back, E_X12_back, E_X1_goingOn, E_X1_sumOf, E_X9_linesOf, E_X9_linesInForce, E_X2_soldFields, E_X3_told, E_X11_count, E_X12_sumOf, E_X12_linesInForce, E_X12_count]
noncomputable def MT : List mE := MT_0 ++ (MT_1 ++ (MT_2 ++ (MT_3 ++ (MT_4 ++ (MT_5 ++ (MT_6))))))
theorem mtl_0 : MT_0.length = 60 := rfl
theorem mtl_1 : MT_1.length = 60 := rfl
theorem mtl_2 : MT_2.length = 60 := rfl
theorem mtl_3 : MT_3.length = 60 := rfl
theorem mtl_4 : MT_4.length = 60 := rfl
theorem mtl_5 : MT_5.length = 60 := rfl
theorem mtl_6 : MT_6.length = 27 := rfl
theorem mtm_0 : MYT_0 = MT_0.map (fun E => (E.1, E.2.2.1)) := rfl
theorem mtm_1 : MYT_1 = MT_1.map (fun E => (E.1, E.2.2.1)) := rfl
theorem mtm_2 : MYT_2 = MT_2.map (fun E => (E.1, E.2.2.1)) := rfl
theorem mtm_3 : MYT_3 = MT_3.map (fun E => (E.1, E.2.2.1)) := rfl
theorem mtm_4 : MYT_4 = MT_4.map (fun E => (E.1, E.2.2.1)) := rfl
theorem mtm_5 : MYT_5 = MT_5.map (fun E => (E.1, E.2.2.1)) := rfl
theorem mtm_6 : MYT_6 = MT_6.map (fun E => (E.1, E.2.2.1)) := rfl
theorem mt_map : MYT = MT.map (fun E => (E.1, E.2.2.1)) := by simp only [MT, MYT, List.map_append, mtm_0, mtm_1, mtm_2, mtm_3, mtm_4, mtm_5, mtm_6]
set_option maxRecDepth 100000 in
theorem mtv_0 : ∀ E ∈ MT_0, VE MYT dflT E ∧ E.2.2.1 < 2 := (List.forall_mem_cons.mpr ⟨⟨v_X6_init, Nat.lt_of_le_of_lt (Nat.le_of_eq (show E_X6_init.2.2.1 = 0 from rfl)) (by decide)⟩, (List.forall_mem_cons.mpr ⟨⟨v_X9_init, Nat.lt_of_le_of_lt (Nat.le_of_eq (show E_X9_init.2.2.1 = 0 from rfl)) (by decide)⟩, (List.forall_mem_cons.mpr ⟨⟨v_X2_init, Nat.lt_of_le_of_lt (Nat.le_of_eq (show E_X2_init.2.2.1 = 0 from rfl)) (by decide)⟩, (List.forall_mem_cons.mpr ⟨⟨v_X8_init, Nat.lt_of_le_of_lt (Nat.le_of_eq (show E_X8_init.2.2.1 = 0 from rfl)) (by decide)⟩, (List.forall_mem_cons.mpr ⟨⟨v_X1_init, Nat.lt_of_le_of_lt (Nat.le_of_eq (show E_X1_init.2.2.1 = 0 from rfl)) (by decide)⟩, (List.forall_mem_cons.mpr ⟨⟨v_X4_init, Nat.lt_of_le_of_lt (Nat.le_of_eq (show E_X4_init.2.2.1 = 0 from rfl)) (by decide)⟩, (List.forall_mem_cons.mpr ⟨⟨v_X3_init, Nat.lt_of_le_of_lt (Nat.le_of_eq (show E_X3_init.2.2.1 = 0 from rfl)) (by decide)⟩, (List.forall_mem_cons.mpr ⟨⟨v_X5_init, Nat.lt_of_le_of_lt (Nat.le_of_eq (show E_X5_init.2.2.1 = 0 from rfl)) (by decide)⟩, (List.forall_mem_cons.mpr ⟨⟨v_X7_init, Nat.lt_of_le_of_lt (Nat.le_of_eq (show E_X7_init.2.2.1 = 0 from rfl)) (by decide)⟩, (List.forall_mem_cons.mpr ⟨⟨v_X0_init, Nat.lt_of_le_of_lt (Nat.le_of_eq (show E_X0_init.2.2.1 = 0 from rfl)) (by decide)⟩, (List.forall_mem_cons.mpr ⟨⟨v_X10_init, Nat.lt_of_le_of_lt (Nat.le_of_eq (show E_X10_init.2.2.1 = 0 from rfl)) (by decide)⟩, (List.forall_mem_cons.mpr ⟨⟨v_X11_init, Nat.lt_of_le_of_lt (Nat.le_of_eq (show E_X11_init.2.2.1 = 0 from rfl)) (by decide)⟩, (List.forall_mem_cons.mpr ⟨⟨v_X12_at, Nat.lt_of_le_of_lt (Nat.le_of_eq (show E_X12_at.2.2.1 = 0 from rfl)) (by decide)⟩, (List.forall_mem_cons.mpr ⟨⟨v_X12_init, Nat.lt_of_le_of_lt (Nat.le_of_eq (show E_X12_init.2.2.1 = 0 from rfl)) (by decide)⟩, (List.forall_mem_cons.mpr ⟨⟨v_X6_addBytes, Nat.lt_of_le_of_lt (Nat.le_of_eq (show E_X6_addBytes.2.2.1 = 0 from rfl)) (by decide)⟩, (List.forall_mem_cons.mpr ⟨⟨v_X11_feed, Nat.lt_of_le_of_lt (Nat.le_of_eq (show E_X11_feed.2.2.1 = 0 from rfl)) (by decide)⟩, (List.forall_mem_cons.mpr ⟨⟨v_X12_feed, Nat.lt_of_le_of_lt (Nat.le_of_eq (show E_X12_feed.2.2.1 = 0 from rfl)) (by decide)⟩, (List.forall_mem_cons.mpr ⟨⟨v_X11_end, Nat.lt_of_le_of_lt (Nat.le_of_eq (show E_X11_end.2.2.1 = 0 from rfl)) (by decide)⟩, (List.forall_mem_cons.mpr ⟨⟨v_X12_end, Nat.lt_of_le_of_lt (Nat.le_of_eq (show E_X12_end.2.2.1 = 0 from rfl)) (by decide)⟩, (List.forall_mem_cons.mpr ⟨⟨v_X11_needIndex, Nat.lt_of_le_of_lt (Nat.le_of_eq (show E_X11_needIndex.2.2.1 = 0 from rfl)) (by decide)⟩, (List.forall_mem_cons.mpr ⟨⟨v_X11_needField, Nat.lt_of_le_of_lt (Nat.le_of_eq (show E_X11_needField.2.2.1 = 0 from rfl)) (by decide)⟩, (List.forall_mem_cons.mpr ⟨⟨v_X11_needWithin, Nat.lt_of_le_of_lt (Nat.le_of_eq (show E_X11_needWithin.2.2.1 = 0 from rfl)) (by decide)⟩, (List.forall_mem_cons.mpr ⟨⟨v_X2_isCell, Nat.lt_of_le_of_lt (Nat.le_of_eq (show E_X2_isCell.2.2.1 = 0 from rfl)) (by decide)⟩, (List.forall_mem_cons.mpr ⟨⟨v_X2_get, Nat.lt_of_le_of_lt (Nat.le_of_eq (show E_X2_get.2.2.1 = 0 from rfl)) (by decide)⟩, (List.forall_mem_cons.mpr ⟨⟨v_X2_isSold, Nat.lt_of_le_of_lt (Nat.le_of_eq (show E_X2_isSold.2.2.1 = 0 from rfl)) (by decide)⟩, (List.forall_mem_cons.mpr ⟨⟨v_X2_set, Nat.lt_of_le_of_lt (Nat.le_of_eq (show E_X2_set.2.2.1 = 0 from rfl)) (by decide)⟩, (List.forall_mem_cons.mpr ⟨⟨v_X11_field, Nat.lt_of_le_of_lt (Nat.le_of_eq (show E_X11_field.2.2.1 = 0 from rfl)) (by decide)⟩, (List.forall_mem_cons.mpr ⟨⟨v_L_field, Nat.lt_of_le_of_lt (Nat.le_of_eq (show E_L_field.2.2.1 = 1 from rfl)) (by decide)⟩, (List.forall_mem_cons.mpr ⟨⟨v_X12_in, Nat.lt_of_le_of_lt (Nat.le_of_eq (show E_X12_in.2.2.1 = 0 from rfl)) (by decide)⟩, (List.forall_mem_cons.mpr ⟨⟨v_X12_noField, Nat.lt_of_le_of_lt (Nat.le_of_eq (show E_X12_noField.2.2.1 = 0 from rfl)) (by decide)⟩, (List.forall_mem_cons.mpr ⟨⟨v_X12_throwsIf, Nat.lt_of_le_of_lt (Nat.le_of_eq (show E_X12_throwsIf.2.2.1 = 0 from rfl)) (by decide)⟩, (List.forall_mem_cons.mpr ⟨⟨v_X12_of, Nat.lt_of_le_of_lt (Nat.le_of_eq (show E_X12_of.2.2.1 = 0 from rfl)) (by decide)⟩, (List.forall_mem_cons.mpr ⟨⟨v_X12_field, Nat.lt_of_le_of_lt (Nat.le_of_eq (show E_X12_field.2.2.1 = 0 from rfl)) (by decide)⟩, (List.forall_mem_cons.mpr ⟨⟨v_X12_thrown, Nat.lt_of_le_of_lt (Nat.le_of_eq (show E_X12_thrown.2.2.1 = 0 from rfl)) (by decide)⟩, (List.forall_mem_cons.mpr ⟨⟨v_X4_setRain, Nat.lt_of_le_of_lt (Nat.le_of_eq (show E_X4_setRain.2.2.1 = 0 from rfl)) (by decide)⟩, (List.forall_mem_cons.mpr ⟨⟨v_X11_rain, Nat.lt_of_le_of_lt (Nat.le_of_eq (show E_X11_rain.2.2.1 = 0 from rfl)) (by decide)⟩, (List.forall_mem_cons.mpr ⟨⟨v_L_rain, Nat.lt_of_le_of_lt (Nat.le_of_eq (show E_L_rain.2.2.1 = 1 from rfl)) (by decide)⟩, (List.forall_mem_cons.mpr ⟨⟨v_X12_rain, Nat.lt_of_le_of_lt (Nat.le_of_eq (show E_X12_rain.2.2.1 = 0 from rfl)) (by decide)⟩, (List.forall_mem_cons.mpr ⟨⟨v_X4_toldRain, Nat.lt_of_le_of_lt (Nat.le_of_eq (show E_X4_toldRain.2.2.1 = 0 from rfl)) (by decide)⟩, (List.forall_mem_cons.mpr ⟨⟨v_X4_rainOf, Nat.lt_of_le_of_lt (Nat.le_of_eq (show E_X4_rainOf.2.2.1 = 0 from rfl)) (by decide)⟩, (List.forall_mem_cons.mpr ⟨⟨v_X11_fell, Nat.lt_of_le_of_lt (Nat.le_of_eq (show E_X11_fell.2.2.1 = 0 from rfl)) (by decide)⟩, (List.forall_mem_cons.mpr ⟨⟨v_L_fell, Nat.lt_of_le_of_lt (Nat.le_of_eq (show E_L_fell.2.2.1 = 1 from rfl)) (by decide)⟩, (List.forall_mem_cons.mpr ⟨⟨v_X12_rainTold, Nat.lt_of_le_of_lt (Nat.le_of_eq (show E_X12_rainTold.2.2.1 = 0 from rfl)) (by decide)⟩, (List.forall_mem_cons.mpr ⟨⟨v_X12_rainOf, Nat.lt_of_le_of_lt (Nat.le_of_eq (show E_X12_rainOf.2.2.1 = 0 from rfl)) (by decide)⟩, (List.forall_mem_cons.mpr ⟨⟨v_X12_fell, Nat.lt_of_le_of_lt (Nat.le_of_eq (show E_X12_fell.2.2.1 = 0 from rfl)) (by decide)⟩, (List.forall_mem_cons.mpr ⟨⟨v_X4_tell, Nat.lt_of_le_of_lt (Nat.le_of_eq (show E_X4_tell.2.2.1 = 0 from rfl)) (by decide)⟩, (List.forall_mem_cons.mpr ⟨⟨v_X11_price, Nat.lt_of_le_of_lt (Nat.le_of_eq (show E_X11_price.2.2.1 = 0 from rfl)) (by decide)⟩, (List.forall_mem_cons.mpr ⟨⟨v_L_price, Nat.lt_of_le_of_lt (Nat.le_of_eq (show E_L_price.2.2.1 = 1 from rfl)) (by decide)⟩, (List.forall_mem_cons.mpr ⟨⟨v_X12_season, Nat.lt_of_le_of_lt (Nat.le_of_eq (show E_X12_season.2.2.1 = 0 from rfl)) (by decide)⟩, (List.forall_mem_cons.mpr ⟨⟨v_X12_price, Nat.lt_of_le_of_lt (Nat.le_of_eq (show E_X12_price.2.2.1 = 0 from rfl)) (by decide)⟩, (List.forall_mem_cons.mpr ⟨⟨v_X4_priceAt, Nat.lt_of_le_of_lt (Nat.le_of_eq (show E_X4_priceAt.2.2.1 = 0 from rfl)) (by decide)⟩, (List.forall_mem_cons.mpr ⟨⟨v_X11_known, Nat.lt_of_le_of_lt (Nat.le_of_eq (show E_X11_known.2.2.1 = 0 from rfl)) (by decide)⟩, (List.forall_mem_cons.mpr ⟨⟨v_L_known, Nat.lt_of_le_of_lt (Nat.le_of_eq (show E_L_known.2.2.1 = 1 from rfl)) (by decide)⟩, (List.forall_mem_cons.mpr ⟨⟨v_X12_knownOf, Nat.lt_of_le_of_lt (Nat.le_of_eq (show E_X12_knownOf.2.2.1 = 0 from rfl)) (by decide)⟩, (List.forall_mem_cons.mpr ⟨⟨v_X12_known, Nat.lt_of_le_of_lt (Nat.le_of_eq (show E_X12_known.2.2.1 = 0 from rfl)) (by decide)⟩, (List.forall_mem_cons.mpr ⟨⟨v_X6_useTape, Nat.lt_of_le_of_lt (Nat.le_of_eq (show E_X6_useTape.2.2.1 = 0 from rfl)) (by decide)⟩, (List.forall_mem_cons.mpr ⟨⟨v_X6_isLetter, Nat.lt_of_le_of_lt (Nat.le_of_eq (show E_X6_isLetter.2.2.1 = 0 from rfl)) (by decide)⟩, (List.forall_mem_cons.mpr ⟨⟨v_J0_coder_7d493, Nat.lt_of_le_of_lt (Nat.le_of_eq (show E_J0_coder_7d493.2.2.1 = 0 from rfl)) (by decide)⟩, (List.forall_mem_cons.mpr ⟨⟨v_J0_length_8abf5, Nat.lt_of_le_of_lt (Nat.le_of_eq (show E_J0_length_8abf5.2.2.1 = 0 from rfl)) (by decide)⟩, (List.forall_mem_cons.mpr ⟨⟨v_J0_isLatin1_aae02, Nat.lt_of_le_of_lt (Nat.le_of_eq (show E_J0_isLatin1_aae02.2.2.1 = 0 from rfl)) (by decide)⟩, (by intro E h; cases h)⟩)⟩)⟩)⟩)⟩)⟩)⟩)⟩)⟩)⟩)⟩)⟩)⟩)⟩)⟩)⟩)⟩)⟩)⟩)⟩)⟩)⟩)⟩)⟩)⟩)⟩)⟩)⟩)⟩)⟩)⟩)⟩)⟩)⟩)⟩)⟩)⟩)⟩)⟩)⟩)⟩)⟩)⟩)⟩)⟩)⟩)⟩)⟩)⟩)⟩)⟩)⟩)⟩)⟩)⟩)⟩)⟩)⟩)⟩)⟩)
set_option maxRecDepth 100000 in
theorem mtv_1 : ∀ E ∈ MT_1, VE MYT dflT E ∧ E.2.2.1 < 2 := (List.forall_mem_cons.mpr ⟨⟨v_J0_checkIndex_df160, Nat.lt_of_le_of_lt (Nat.le_of_eq (show E_J0_checkIndex_df160.2.2.1 = 0 from rfl)) (by decide)⟩, (List.forall_mem_cons.mpr ⟨⟨v_J1_charAt_3b067, Nat.lt_of_le_of_lt (Nat.le_of_eq (show E_J1_charAt_3b067.2.2.1 = 0 from rfl)) (by decide)⟩, (List.forall_mem_cons.mpr ⟨⟨v_J0_charAt_5068e, Nat.lt_of_le_of_lt (Nat.le_of_eq (show E_J0_charAt_5068e.2.2.1 = 0 from rfl)) (by decide)⟩, (List.forall_mem_cons.mpr ⟨⟨v_X6_wordFrom, Nat.lt_of_le_of_lt (Nat.le_of_eq (show E_X6_wordFrom.2.2.1 = 0 from rfl)) (by decide)⟩, (List.forall_mem_cons.mpr ⟨⟨v_X6_isDigit, Nat.lt_of_le_of_lt (Nat.le_of_eq (show E_X6_isDigit.2.2.1 = 0 from rfl)) (by decide)⟩, (List.forall_mem_cons.mpr ⟨⟨v_X6_next, Nat.lt_of_le_of_lt (Nat.le_of_eq (show E_X6_next.2.2.1 = 0 from rfl)) (by decide)⟩, (List.forall_mem_cons.mpr ⟨⟨v_X6_write, Nat.lt_of_le_of_lt (Nat.le_of_eq (show E_X6_write.2.2.1 = 0 from rfl)) (by decide)⟩, (List.forall_mem_cons.mpr ⟨⟨v_X6_takeVerb, Nat.lt_of_le_of_lt (Nat.le_of_eq (show E_X6_takeVerb.2.2.1 = 0 from rfl)) (by decide)⟩, (List.forall_mem_cons.mpr ⟨⟨v_X6_takeNumber, Nat.lt_of_le_of_lt (Nat.le_of_eq (show E_X6_takeNumber.2.2.1 = 0 from rfl)) (by decide)⟩, (List.forall_mem_cons.mpr ⟨⟨v_X6_isWord, Nat.lt_of_le_of_lt (Nat.le_of_eq (show E_X6_isWord.2.2.1 = 0 from rfl)) (by decide)⟩, (List.forall_mem_cons.mpr ⟨⟨v_X6_takeWord, Nat.lt_of_le_of_lt (Nat.le_of_eq (show E_X6_takeWord.2.2.1 = 0 from rfl)) (by decide)⟩, (List.forall_mem_cons.mpr ⟨⟨v_X6_takeCrop, Nat.lt_of_le_of_lt (Nat.le_of_eq (show E_X6_takeCrop.2.2.1 = 0 from rfl)) (by decide)⟩, (List.forall_mem_cons.mpr ⟨⟨v_X6_takeOneOf, Nat.lt_of_le_of_lt (Nat.le_of_eq (show E_X6_takeOneOf.2.2.1 = 0 from rfl)) (by decide)⟩, (List.forall_mem_cons.mpr ⟨⟨v_X6_isSign, Nat.lt_of_le_of_lt (Nat.le_of_eq (show E_X6_isSign.2.2.1 = 0 from rfl)) (by decide)⟩, (List.forall_mem_cons.mpr ⟨⟨v_X6_takeSign, Nat.lt_of_le_of_lt (Nat.le_of_eq (show E_X6_takeSign.2.2.1 = 0 from rfl)) (by decide)⟩, (List.forall_mem_cons.mpr ⟨⟨v_X6_emit, Nat.lt_of_le_of_lt (Nat.le_of_eq (show E_X6_emit.2.2.1 = 0 from rfl)) (by decide)⟩, (List.forall_mem_cons.mpr ⟨⟨v_X6_takeSum, Nat.lt_of_le_of_lt (Nat.le_of_eq (show E_X6_takeSum.2.2.1 = 0 from rfl)) (by decide)⟩, (List.forall_mem_cons.mpr ⟨⟨v_X6_takeAtom, Nat.lt_of_le_of_lt (Nat.le_of_eq (show E_X6_takeAtom.2.2.1 = 0 from rfl)) (by decide)⟩, (List.forall_mem_cons.mpr ⟨⟨v_X6_takeAll, Nat.lt_of_le_of_lt (Nat.le_of_eq (show E_X6_takeAll.2.2.1 = 0 from rfl)) (by decide)⟩, (List.forall_mem_cons.mpr ⟨⟨v_X6_takeCondition, Nat.lt_of_le_of_lt (Nat.le_of_eq (show E_X6_takeCondition.2.2.1 = 0 from rfl)) (by decide)⟩, (List.forall_mem_cons.mpr ⟨⟨v_X6_takeIf, Nat.lt_of_le_of_lt (Nat.le_of_eq (show E_X6_takeIf.2.2.1 = 0 from rfl)) (by decide)⟩, (List.forall_mem_cons.mpr ⟨⟨v_X6_takeRestOfLease, Nat.lt_of_le_of_lt (Nat.le_of_eq (show E_X6_takeRestOfLease.2.2.1 = 0 from rfl)) (by decide)⟩, (List.forall_mem_cons.mpr ⟨⟨v_X6_takeRestOfAct, Nat.lt_of_le_of_lt (Nat.le_of_eq (show E_X6_takeRestOfAct.2.2.1 = 0 from rfl)) (by decide)⟩, (List.forall_mem_cons.mpr ⟨⟨v_X6_takeLines, Nat.lt_of_le_of_lt (Nat.le_of_eq (show E_X6_takeLines.2.2.1 = 0 from rfl)) (by decide)⟩, (List.forall_mem_cons.mpr ⟨⟨v_X6_read, Nat.lt_of_le_of_lt (Nat.le_of_eq (show E_X6_read.2.2.1 = 0 from rfl)) (by decide)⟩, (List.forall_mem_cons.mpr ⟨⟨v_X11_needText, Nat.lt_of_le_of_lt (Nat.le_of_eq (show E_X11_needText.2.2.1 = 0 from rfl)) (by decide)⟩, (List.forall_mem_cons.mpr ⟨⟨v_X9_inForce, Nat.lt_of_le_of_lt (Nat.le_of_eq (show E_X9_inForce.2.2.1 = 0 from rfl)) (by decide)⟩, (List.forall_mem_cons.mpr ⟨⟨v_X9_textAt, Nat.lt_of_le_of_lt (Nat.le_of_eq (show E_X9_textAt.2.2.1 = 0 from rfl)) (by decide)⟩, (List.forall_mem_cons.mpr ⟨⟨v_X8_get, Nat.lt_of_le_of_lt (Nat.le_of_eq (show E_X8_get.2.2.1 = 0 from rfl)) (by decide)⟩, (List.forall_mem_cons.mpr ⟨⟨v_X8_lastOf, Nat.lt_of_le_of_lt (Nat.le_of_eq (show E_X8_lastOf.2.2.1 = 0 from rfl)) (by decide)⟩, (List.forall_mem_cons.mpr ⟨⟨v_X9_lastLine, Nat.lt_of_le_of_lt (Nat.le_of_eq (show E_X9_lastLine.2.2.1 = 0 from rfl)) (by decide)⟩, (List.forall_mem_cons.mpr ⟨⟨v_X0_lastLine, Nat.lt_of_le_of_lt (Nat.le_of_eq (show E_X0_lastLine.2.2.1 = 0 from rfl)) (by decide)⟩, (List.forall_mem_cons.mpr ⟨⟨v_X9_numberIn, Nat.lt_of_le_of_lt (Nat.le_of_eq (show E_X9_numberIn.2.2.1 = 0 from rfl)) (by decide)⟩, (List.forall_mem_cons.mpr ⟨⟨v_X0_yearsLet, Nat.lt_of_le_of_lt (Nat.le_of_eq (show E_X0_yearsLet.2.2.1 = 0 from rfl)) (by decide)⟩, (List.forall_mem_cons.mpr ⟨⟨v_X2_isBetween, Nat.lt_of_le_of_lt (Nat.le_of_eq (show E_X2_isBetween.2.2.1 = 0 from rfl)) (by decide)⟩, (List.forall_mem_cons.mpr ⟨⟨v_X2_isWithin, Nat.lt_of_le_of_lt (Nat.le_of_eq (show E_X2_isWithin.2.2.1 = 0 from rfl)) (by decide)⟩, (List.forall_mem_cons.mpr ⟨⟨v_X0_isFree, Nat.lt_of_le_of_lt (Nat.le_of_eq (show E_X0_isFree.2.2.1 = 0 from rfl)) (by decide)⟩, (List.forall_mem_cons.mpr ⟨⟨v_X3_note, Nat.lt_of_le_of_lt (Nat.le_of_eq (show E_X3_note.2.2.1 = 0 from rfl)) (by decide)⟩, (List.forall_mem_cons.mpr ⟨⟨v_X0_noteWrong, Nat.lt_of_le_of_lt (Nat.le_of_eq (show E_X0_noteWrong.2.2.1 = 0 from rfl)) (by decide)⟩, (List.forall_mem_cons.mpr ⟨⟨v_X1_isCell, Nat.lt_of_le_of_lt (Nat.le_of_eq (show E_X1_isCell.2.2.1 = 0 from rfl)) (by decide)⟩, (List.forall_mem_cons.mpr ⟨⟨v_X1_set, Nat.lt_of_le_of_lt (Nat.le_of_eq (show E_X1_set.2.2.1 = 0 from rfl)) (by decide)⟩, (List.forall_mem_cons.mpr ⟨⟨v_X1_open, Nat.lt_of_le_of_lt (Nat.le_of_eq (show E_X1_open.2.2.1 = 0 from rfl)) (by decide)⟩, (List.forall_mem_cons.mpr ⟨⟨v_X1_get, Nat.lt_of_le_of_lt (Nat.le_of_eq (show E_X1_get.2.2.1 = 0 from rfl)) (by decide)⟩, (List.forall_mem_cons.mpr ⟨⟨v_X11_capped, Nat.lt_of_le_of_lt (Nat.le_of_eq (show E_X11_capped.2.2.1 = 0 from rfl)) (by decide)⟩, (List.forall_mem_cons.mpr ⟨⟨v_X1_grow, Nat.lt_of_le_of_lt (Nat.le_of_eq (show E_X1_grow.2.2.1 = 0 from rfl)) (by decide)⟩, (List.forall_mem_cons.mpr ⟨⟨v_X0_openOn, Nat.lt_of_le_of_lt (Nat.le_of_eq (show E_X0_openOn.2.2.1 = 0 from rfl)) (by decide)⟩, (List.forall_mem_cons.mpr ⟨⟨v_X0_openLease, Nat.lt_of_le_of_lt (Nat.le_of_eq (show E_X0_openLease.2.2.1 = 0 from rfl)) (by decide)⟩, (List.forall_mem_cons.mpr ⟨⟨v_X8_init_, Nat.lt_of_le_of_lt (Nat.le_of_eq (show E_X8_init_.2.2.1 = 0 from rfl)) (by decide)⟩, (List.forall_mem_cons.mpr ⟨⟨v_X6_newText, Nat.lt_of_le_of_lt (Nat.le_of_eq (show E_X6_newText.2.2.1 = 0 from rfl)) (by decide)⟩, (List.forall_mem_cons.mpr ⟨⟨v_X1_setLease, Nat.lt_of_le_of_lt (Nat.le_of_eq (show E_X1_setLease.2.2.1 = 0 from rfl)) (by decide)⟩, (List.forall_mem_cons.mpr ⟨⟨v_X11_let, Nat.lt_of_le_of_lt (Nat.le_of_eq (show E_X11_let.2.2.1 = 0 from rfl)) (by decide)⟩, (List.forall_mem_cons.mpr ⟨⟨v_L_let, Nat.lt_of_le_of_lt (Nat.le_of_eq (show E_L_let.2.2.1 = 1 from rfl)) (by decide)⟩, (List.forall_mem_cons.mpr ⟨⟨v_X12_uses, Nat.lt_of_le_of_lt (Nat.le_of_eq (show E_X12_uses.2.2.1 = 0 from rfl)) (by decide)⟩, (List.forall_mem_cons.mpr ⟨⟨v_X12_isAt, Nat.lt_of_le_of_lt (Nat.le_of_eq (show E_X12_isAt.2.2.1 = 0 from rfl)) (by decide)⟩, (List.forall_mem_cons.mpr ⟨⟨v_X12_blanks, Nat.lt_of_le_of_lt (Nat.le_of_eq (show E_X12_blanks.2.2.1 = 0 from rfl)) (by decide)⟩, (List.forall_mem_cons.mpr ⟨⟨v_X12_word, Nat.lt_of_le_of_lt (Nat.le_of_eq (show E_X12_word.2.2.1 = 0 from rfl)) (by decide)⟩, (List.forall_mem_cons.mpr ⟨⟨v_X12_textAt, Nat.lt_of_le_of_lt (Nat.le_of_eq (show E_X12_textAt.2.2.1 = 0 from rfl)) (by decide)⟩, (List.forall_mem_cons.mpr ⟨⟨v_X12_lineAt, Nat.lt_of_le_of_lt (Nat.le_of_eq (show E_X12_lineAt.2.2.1 = 0 from rfl)) (by decide)⟩, (List.forall_mem_cons.mpr ⟨⟨v_X12_isWord, Nat.lt_of_le_of_lt (Nat.le_of_eq (show E_X12_isWord.2.2.1 = 0 from rfl)) (by decide)⟩, (List.forall_mem_cons.mpr ⟨⟨v_X12_wordOf, Nat.lt_of_le_of_lt (Nat.le_of_eq (show E_X12_wordOf.2.2.1 = 0 from rfl)) (by decide)⟩, (by intro E h; cases h)⟩)⟩)⟩)⟩)⟩)⟩)⟩)⟩)⟩)⟩)⟩)⟩)⟩)⟩)⟩)⟩)⟩)⟩)⟩)⟩)⟩)⟩)⟩)⟩)⟩)⟩)⟩)⟩)⟩)⟩)⟩)⟩)⟩)⟩)⟩)⟩)⟩)⟩)⟩)⟩)⟩)⟩)⟩)⟩)⟩)⟩)⟩)⟩)⟩)⟩)⟩)⟩)⟩)⟩)⟩)⟩)⟩)⟩)⟩)⟩)
set_option maxRecDepth 100000 in
theorem mtv_2 : ∀ E ∈ MT_2, VE MYT dflT E ∧ E.2.2.1 < 2 := (List.forall_mem_cons.mpr ⟨⟨v_X12_sortOf, Nat.lt_of_le_of_lt (Nat.le_of_eq (show E_X12_sortOf.2.2.1 = 0 from rfl)) (by decide)⟩, (List.forall_mem_cons.mpr ⟨⟨v_X12_number, Nat.lt_of_le_of_lt (Nat.le_of_eq (show E_X12_number.2.2.1 = 0 from rfl)) (by decide)⟩, (List.forall_mem_cons.mpr ⟨⟨v_X12_tells, Nat.lt_of_le_of_lt (Nat.le_of_eq (show E_X12_tells.2.2.1 = 0 from rfl)) (by decide)⟩, (List.forall_mem_cons.mpr ⟨⟨v_X12_needs, Nat.lt_of_le_of_lt (Nat.le_of_eq (show E_X12_needs.2.2.1 = 0 from rfl)) (by decide)⟩, (List.forall_mem_cons.mpr ⟨⟨v_X12_readCrop, Nat.lt_of_le_of_lt (Nat.le_of_eq (show E_X12_readCrop.2.2.1 = 0 from rfl)) (by decide)⟩, (List.forall_mem_cons.mpr ⟨⟨v_X12_readThing, Nat.lt_of_le_of_lt (Nat.le_of_eq (show E_X12_readThing.2.2.1 = 0 from rfl)) (by decide)⟩, (List.forall_mem_cons.mpr ⟨⟨v_X12_passes, Nat.lt_of_le_of_lt (Nat.le_of_eq (show E_X12_passes.2.2.1 = 0 from rfl)) (by decide)⟩, (List.forall_mem_cons.mpr ⟨⟨v_X12_sign, Nat.lt_of_le_of_lt (Nat.le_of_eq (show E_X12_sign.2.2.1 = 0 from rfl)) (by decide)⟩, (List.forall_mem_cons.mpr ⟨⟨v_X12_adds, Nat.lt_of_le_of_lt (Nat.le_of_eq (show E_X12_adds.2.2.1 = 0 from rfl)) (by decide)⟩, (List.forall_mem_cons.mpr ⟨⟨v_X12_fact, Nat.lt_of_le_of_lt (Nat.le_of_eq (show E_X12_fact.2.2.1 = 0 from rfl)) (by decide)⟩, (List.forall_mem_cons.mpr ⟨⟨v_X12_readPart, Nat.lt_of_le_of_lt (Nat.le_of_eq (show E_X12_readPart.2.2.1 = 0 from rfl)) (by decide)⟩, (List.forall_mem_cons.mpr ⟨⟨v_X12_readSum, Nat.lt_of_le_of_lt (Nat.le_of_eq (show E_X12_readSum.2.2.1 = 0 from rfl)) (by decide)⟩, (List.forall_mem_cons.mpr ⟨⟨v_X12_readAtom, Nat.lt_of_le_of_lt (Nat.le_of_eq (show E_X12_readAtom.2.2.1 = 0 from rfl)) (by decide)⟩, (List.forall_mem_cons.mpr ⟨⟨v_X12_readAllOf, Nat.lt_of_le_of_lt (Nat.le_of_eq (show E_X12_readAllOf.2.2.1 = 0 from rfl)) (by decide)⟩, (List.forall_mem_cons.mpr ⟨⟨v_X12_readCond, Nat.lt_of_le_of_lt (Nat.le_of_eq (show E_X12_readCond.2.2.1 = 0 from rfl)) (by decide)⟩, (List.forall_mem_cons.mpr ⟨⟨v_X12_readIf, Nat.lt_of_le_of_lt (Nat.le_of_eq (show E_X12_readIf.2.2.1 = 0 from rfl)) (by decide)⟩, (List.forall_mem_cons.mpr ⟨⟨v_X12_readRest, Nat.lt_of_le_of_lt (Nat.le_of_eq (show E_X12_readRest.2.2.1 = 0 from rfl)) (by decide)⟩, (List.forall_mem_cons.mpr ⟨⟨v_X12_readLine, Nat.lt_of_le_of_lt (Nat.le_of_eq (show E_X12_readLine.2.2.1 = 0 from rfl)) (by decide)⟩, (List.forall_mem_cons.mpr ⟨⟨v_X12_readAll, Nat.lt_of_le_of_lt (Nat.le_of_eq (show E_X12_readAll.2.2.1 = 0 from rfl)) (by decide)⟩, (List.forall_mem_cons.mpr ⟨⟨v_X12_reads, Nat.lt_of_le_of_lt (Nat.le_of_eq (show E_X12_reads.2.2.1 = 0 from rfl)) (by decide)⟩, (List.forall_mem_cons.mpr ⟨⟨v_X12_orders, Nat.lt_of_le_of_lt (Nat.le_of_eq (show E_X12_orders.2.2.1 = 0 from rfl)) (by decide)⟩, (List.forall_mem_cons.mpr ⟨⟨v_X12_linesOf, Nat.lt_of_le_of_lt (Nat.le_of_eq (show E_X12_linesOf.2.2.1 = 0 from rfl)) (by decide)⟩, (List.forall_mem_cons.mpr ⟨⟨v_X12_isStruck, Nat.lt_of_le_of_lt (Nat.le_of_eq (show E_X12_isStruck.2.2.1 = 0 from rfl)) (by decide)⟩, (List.forall_mem_cons.mpr ⟨⟨v_X12_isLine, Nat.lt_of_le_of_lt (Nat.le_of_eq (show E_X12_isLine.2.2.1 = 0 from rfl)) (by decide)⟩, (List.forall_mem_cons.mpr ⟨⟨v_X12_lastLine, Nat.lt_of_le_of_lt (Nat.le_of_eq (show E_X12_lastLine.2.2.1 = 0 from rfl)) (by decide)⟩, (List.forall_mem_cons.mpr ⟨⟨v_X12_numberOf, Nat.lt_of_le_of_lt (Nat.le_of_eq (show E_X12_numberOf.2.2.1 = 0 from rfl)) (by decide)⟩, (List.forall_mem_cons.mpr ⟨⟨v_X12_isIn, Nat.lt_of_le_of_lt (Nat.le_of_eq (show E_X12_isIn.2.2.1 = 0 from rfl)) (by decide)⟩, (List.forall_mem_cons.mpr ⟨⟨v_X12_areFree, Nat.lt_of_le_of_lt (Nat.le_of_eq (show E_X12_areFree.2.2.1 = 0 from rfl)) (by decide)⟩, (List.forall_mem_cons.mpr ⟨⟨v_X12_holdingAt, Nat.lt_of_le_of_lt (Nat.le_of_eq (show E_X12_holdingAt.2.2.1 = 0 from rfl)) (by decide)⟩, (List.forall_mem_cons.mpr ⟨⟨v_X12_begins, Nat.lt_of_le_of_lt (Nat.le_of_eq (show E_X12_begins.2.2.1 = 0 from rfl)) (by decide)⟩, (List.forall_mem_cons.mpr ⟨⟨v_X12_kept, Nat.lt_of_le_of_lt (Nat.le_of_eq (show E_X12_kept.2.2.1 = 0 from rfl)) (by decide)⟩, (List.forall_mem_cons.mpr ⟨⟨v_X12_sets, Nat.lt_of_le_of_lt (Nat.le_of_eq (show E_X12_sets.2.2.1 = 0 from rfl)) (by decide)⟩, (List.forall_mem_cons.mpr ⟨⟨v_X12_year, Nat.lt_of_le_of_lt (Nat.le_of_eq (show E_X12_year.2.2.1 = 0 from rfl)) (by decide)⟩, (List.forall_mem_cons.mpr ⟨⟨v_X12_copies, Nat.lt_of_le_of_lt (Nat.le_of_eq (show E_X12_copies.2.2.1 = 0 from rfl)) (by decide)⟩, (List.forall_mem_cons.mpr ⟨⟨v_X12_errs, Nat.lt_of_le_of_lt (Nat.le_of_eq (show E_X12_errs.2.2.1 = 0 from rfl)) (by decide)⟩, (List.forall_mem_cons.mpr ⟨⟨v_X12_let, Nat.lt_of_le_of_lt (Nat.le_of_eq (show E_X12_let.2.2.1 = 0 from rfl)) (by decide)⟩, (List.forall_mem_cons.mpr ⟨⟨v_X0_openKept, Nat.lt_of_le_of_lt (Nat.le_of_eq (show E_X0_openKept.2.2.1 = 0 from rfl)) (by decide)⟩, (List.forall_mem_cons.mpr ⟨⟨v_X11_keep, Nat.lt_of_le_of_lt (Nat.le_of_eq (show E_X11_keep.2.2.1 = 0 from rfl)) (by decide)⟩, (List.forall_mem_cons.mpr ⟨⟨v_L_keep, Nat.lt_of_le_of_lt (Nat.le_of_eq (show E_L_keep.2.2.1 = 1 from rfl)) (by decide)⟩, (List.forall_mem_cons.mpr ⟨⟨v_X12_keep, Nat.lt_of_le_of_lt (Nat.le_of_eq (show E_X12_keep.2.2.1 = 0 from rfl)) (by decide)⟩, (List.forall_mem_cons.mpr ⟨⟨v_X0_kindAt, Nat.lt_of_le_of_lt (Nat.le_of_eq (show E_X0_kindAt.2.2.1 = 0 from rfl)) (by decide)⟩, (List.forall_mem_cons.mpr ⟨⟨v_X1_isHand, Nat.lt_of_le_of_lt (Nat.le_of_eq (show E_X1_isHand.2.2.1 = 0 from rfl)) (by decide)⟩, (List.forall_mem_cons.mpr ⟨⟨v_X11_needKind, Nat.lt_of_le_of_lt (Nat.le_of_eq (show E_X11_needKind.2.2.1 = 0 from rfl)) (by decide)⟩, (List.forall_mem_cons.mpr ⟨⟨v_X11_sow, Nat.lt_of_le_of_lt (Nat.le_of_eq (show E_X11_sow.2.2.1 = 0 from rfl)) (by decide)⟩, (List.forall_mem_cons.mpr ⟨⟨v_L_sow, Nat.lt_of_le_of_lt (Nat.le_of_eq (show E_L_sow.2.2.1 = 1 from rfl)) (by decide)⟩, (List.forall_mem_cons.mpr ⟨⟨v_X12_its, Nat.lt_of_le_of_lt (Nat.le_of_eq (show E_X12_its.2.2.1 = 0 from rfl)) (by decide)⟩, (List.forall_mem_cons.mpr ⟨⟨v_X12_kindOf, Nat.lt_of_le_of_lt (Nat.le_of_eq (show E_X12_kindOf.2.2.1 = 0 from rfl)) (by decide)⟩, (List.forall_mem_cons.mpr ⟨⟨v_X12_sow, Nat.lt_of_le_of_lt (Nat.le_of_eq (show E_X12_sow.2.2.1 = 0 from rfl)) (by decide)⟩, (List.forall_mem_cons.mpr ⟨⟨v_X11_needHolding, Nat.lt_of_le_of_lt (Nat.le_of_eq (show E_X11_needHolding.2.2.1 = 0 from rfl)) (by decide)⟩, (List.forall_mem_cons.mpr ⟨⟨v_X11_notice, Nat.lt_of_le_of_lt (Nat.le_of_eq (show E_X11_notice.2.2.1 = 0 from rfl)) (by decide)⟩, (List.forall_mem_cons.mpr ⟨⟨v_L_notice, Nat.lt_of_le_of_lt (Nat.le_of_eq (show E_L_notice.2.2.1 = 1 from rfl)) (by decide)⟩, (List.forall_mem_cons.mpr ⟨⟨v_X12_noHolding, Nat.lt_of_le_of_lt (Nat.le_of_eq (show E_X12_noHolding.2.2.1 = 0 from rfl)) (by decide)⟩, (List.forall_mem_cons.mpr ⟨⟨v_X12_fieldsOf, Nat.lt_of_le_of_lt (Nat.le_of_eq (show E_X12_fieldsOf.2.2.1 = 0 from rfl)) (by decide)⟩, (List.forall_mem_cons.mpr ⟨⟨v_X12_notice, Nat.lt_of_le_of_lt (Nat.le_of_eq (show E_X12_notice.2.2.1 = 0 from rfl)) (by decide)⟩, (List.forall_mem_cons.mpr ⟨⟨v_X1_isLet, Nat.lt_of_le_of_lt (Nat.le_of_eq (show E_X1_isLet.2.2.1 = 0 from rfl)) (by decide)⟩, (List.forall_mem_cons.mpr ⟨⟨v_X0_close, Nat.lt_of_le_of_lt (Nat.le_of_eq (show E_X0_close.2.2.1 = 0 from rfl)) (by decide)⟩, (List.forall_mem_cons.mpr ⟨⟨v_X11_give, Nat.lt_of_le_of_lt (Nat.le_of_eq (show E_X11_give.2.2.1 = 0 from rfl)) (by decide)⟩, (List.forall_mem_cons.mpr ⟨⟨v_L_give, Nat.lt_of_le_of_lt (Nat.le_of_eq (show E_L_give.2.2.1 = 1 from rfl)) (by decide)⟩, (List.forall_mem_cons.mpr ⟨⟨v_X12_isLet, Nat.lt_of_le_of_lt (Nat.le_of_eq (show E_X12_isLet.2.2.1 = 0 from rfl)) (by decide)⟩, (List.forall_mem_cons.mpr ⟨⟨v_X12_leaves, Nat.lt_of_le_of_lt (Nat.le_of_eq (show E_X12_leaves.2.2.1 = 0 from rfl)) (by decide)⟩, (by intro E h; cases h)⟩)⟩)⟩)⟩)⟩)⟩)⟩)⟩)⟩)⟩)⟩)⟩)⟩)⟩)⟩)⟩)⟩)⟩)⟩)⟩)⟩)⟩)⟩)⟩)⟩)⟩)⟩)⟩)⟩)⟩)⟩)⟩)⟩)⟩)⟩)⟩)⟩)⟩)⟩)⟩)⟩)⟩)⟩)⟩)⟩)⟩)⟩)⟩)⟩)⟩)⟩)⟩)⟩)⟩)⟩)⟩)⟩)⟩)⟩)⟩)
set_option maxRecDepth 100000 in
theorem mtv_3 : ∀ E ∈ MT_3, VE MYT dflT E ∧ E.2.2.1 < 2 := (List.forall_mem_cons.mpr ⟨⟨v_X12_give, Nat.lt_of_le_of_lt (Nat.le_of_eq (show E_X12_give.2.2.1 = 0 from rfl)) (by decide)⟩, (List.forall_mem_cons.mpr ⟨⟨v_X4_learnPrices, Nat.lt_of_le_of_lt (Nat.le_of_eq (show E_X4_learnPrices.2.2.1 = 0 from rfl)) (by decide)⟩, (List.forall_mem_cons.mpr ⟨⟨v_X0_learnPrices, Nat.lt_of_le_of_lt (Nat.le_of_eq (show E_X0_learnPrices.2.2.1 = 0 from rfl)) (by decide)⟩, (List.forall_mem_cons.mpr ⟨⟨v_X1_leaseOf, Nat.lt_of_le_of_lt (Nat.le_of_eq (show E_X1_leaseOf.2.2.1 = 0 from rfl)) (by decide)⟩, (List.forall_mem_cons.mpr ⟨⟨v_X0_priceOf, Nat.lt_of_le_of_lt (Nat.le_of_eq (show E_X0_priceOf.2.2.1 = 0 from rfl)) (by decide)⟩, (List.forall_mem_cons.mpr ⟨⟨v_X2_growthOf, Nat.lt_of_le_of_lt (Nat.le_of_eq (show E_X2_growthOf.2.2.1 = 0 from rfl)) (by decide)⟩, (List.forall_mem_cons.mpr ⟨⟨v_X10_isBarred, Nat.lt_of_le_of_lt (Nat.le_of_eq (show E_X10_isBarred.2.2.1 = 0 from rfl)) (by decide)⟩, (List.forall_mem_cons.mpr ⟨⟨v_X10_chosenCrop, Nat.lt_of_le_of_lt (Nat.le_of_eq (show E_X10_chosenCrop.2.2.1 = 0 from rfl)) (by decide)⟩, (List.forall_mem_cons.mpr ⟨⟨v_X10_spring, Nat.lt_of_le_of_lt (Nat.le_of_eq (show E_X10_spring.2.2.1 = 0 from rfl)) (by decide)⟩, (List.forall_mem_cons.mpr ⟨⟨v_X2_harvest, Nat.lt_of_le_of_lt (Nat.le_of_eq (show E_X2_harvest.2.2.1 = 0 from rfl)) (by decide)⟩, (List.forall_mem_cons.mpr ⟨⟨v_X3_addHarvest, Nat.lt_of_le_of_lt (Nat.le_of_eq (show E_X3_addHarvest.2.2.1 = 0 from rfl)) (by decide)⟩, (List.forall_mem_cons.mpr ⟨⟨v_X3_addIncome, Nat.lt_of_le_of_lt (Nat.le_of_eq (show E_X3_addIncome.2.2.1 = 0 from rfl)) (by decide)⟩, (List.forall_mem_cons.mpr ⟨⟨v_X10_sellHarvest, Nat.lt_of_le_of_lt (Nat.le_of_eq (show E_X10_sellHarvest.2.2.1 = 0 from rfl)) (by decide)⟩, (List.forall_mem_cons.mpr ⟨⟨v_X7_add, Nat.lt_of_le_of_lt (Nat.le_of_eq (show E_X7_add.2.2.1 = 0 from rfl)) (by decide)⟩, (List.forall_mem_cons.mpr ⟨⟨v_X10_summer, Nat.lt_of_le_of_lt (Nat.le_of_eq (show E_X10_summer.2.2.1 = 0 from rfl)) (by decide)⟩, (List.forall_mem_cons.mpr ⟨⟨v_X1_isOver, Nat.lt_of_le_of_lt (Nat.le_of_eq (show E_X1_isOver.2.2.1 = 0 from rfl)) (by decide)⟩, (List.forall_mem_cons.mpr ⟨⟨v_X0_learnFacts, Nat.lt_of_le_of_lt (Nat.le_of_eq (show E_X0_learnFacts.2.2.1 = 0 from rfl)) (by decide)⟩, (List.forall_mem_cons.mpr ⟨⟨v_X0_learnFactsOfTenant, Nat.lt_of_le_of_lt (Nat.le_of_eq (show E_X0_learnFactsOfTenant.2.2.1 = 0 from rfl)) (by decide)⟩, (List.forall_mem_cons.mpr ⟨⟨v_X8_step, Nat.lt_of_le_of_lt (Nat.le_of_eq (show E_X8_step.2.2.1 = 0 from rfl)) (by decide)⟩, (List.forall_mem_cons.mpr ⟨⟨v_X8_holds, Nat.lt_of_le_of_lt (Nat.le_of_eq (show E_X8_holds.2.2.1 = 0 from rfl)) (by decide)⟩, (List.forall_mem_cons.mpr ⟨⟨v_X8_sumHolding, Nat.lt_of_le_of_lt (Nat.le_of_eq (show E_X8_sumHolding.2.2.1 = 0 from rfl)) (by decide)⟩, (List.forall_mem_cons.mpr ⟨⟨v_X0_rentOf, Nat.lt_of_le_of_lt (Nat.le_of_eq (show E_X0_rentOf.2.2.1 = 0 from rfl)) (by decide)⟩, (List.forall_mem_cons.mpr ⟨⟨v_X10_harmOfGame, Nat.lt_of_le_of_lt (Nat.le_of_eq (show E_X10_harmOfGame.2.2.1 = 0 from rfl)) (by decide)⟩, (List.forall_mem_cons.mpr ⟨⟨v_X10_hundredthsPut, Nat.lt_of_le_of_lt (Nat.le_of_eq (show E_X10_hundredthsPut.2.2.1 = 0 from rfl)) (by decide)⟩, (List.forall_mem_cons.mpr ⟨⟨v_X10_receive, Nat.lt_of_le_of_lt (Nat.le_of_eq (show E_X10_receive.2.2.1 = 0 from rfl)) (by decide)⟩, (List.forall_mem_cons.mpr ⟨⟨v_X10_takeRent, Nat.lt_of_le_of_lt (Nat.le_of_eq (show E_X10_takeRent.2.2.1 = 0 from rfl)) (by decide)⟩, (List.forall_mem_cons.mpr ⟨⟨v_X10_autumn, Nat.lt_of_le_of_lt (Nat.le_of_eq (show E_X10_autumn.2.2.1 = 0 from rfl)) (by decide)⟩, (List.forall_mem_cons.mpr ⟨⟨v_X2_beside, Nat.lt_of_le_of_lt (Nat.le_of_eq (show E_X2_beside.2.2.1 = 0 from rfl)) (by decide)⟩, (List.forall_mem_cons.mpr ⟨⟨v_X10_isBesideWood, Nat.lt_of_le_of_lt (Nat.le_of_eq (show E_X10_isBesideWood.2.2.1 = 0 from rfl)) (by decide)⟩, (List.forall_mem_cons.mpr ⟨⟨v_X10_breedGame, Nat.lt_of_le_of_lt (Nat.le_of_eq (show E_X10_breedGame.2.2.1 = 0 from rfl)) (by decide)⟩, (List.forall_mem_cons.mpr ⟨⟨v_X10_growOlder, Nat.lt_of_le_of_lt (Nat.le_of_eq (show E_X10_growOlder.2.2.1 = 0 from rfl)) (by decide)⟩, (List.forall_mem_cons.mpr ⟨⟨v_X3_addCapital, Nat.lt_of_le_of_lt (Nat.le_of_eq (show E_X3_addCapital.2.2.1 = 0 from rfl)) (by decide)⟩, (List.forall_mem_cons.mpr ⟨⟨v_X0_takeIn, Nat.lt_of_le_of_lt (Nat.le_of_eq (show E_X0_takeIn.2.2.1 = 0 from rfl)) (by decide)⟩, (List.forall_mem_cons.mpr ⟨⟨v_X10_sink, Nat.lt_of_le_of_lt (Nat.le_of_eq (show E_X10_sink.2.2.1 = 0 from rfl)) (by decide)⟩, (List.forall_mem_cons.mpr ⟨⟨v_X10_dig, Nat.lt_of_le_of_lt (Nat.le_of_eq (show E_X10_dig.2.2.1 = 0 from rfl)) (by decide)⟩, (List.forall_mem_cons.mpr ⟨⟨v_X10_digMines, Nat.lt_of_le_of_lt (Nat.le_of_eq (show E_X10_digMines.2.2.1 = 0 from rfl)) (by decide)⟩, (List.forall_mem_cons.mpr ⟨⟨v_X3_payLoans, Nat.lt_of_le_of_lt (Nat.le_of_eq (show E_X3_payLoans.2.2.1 = 0 from rfl)) (by decide)⟩, (List.forall_mem_cons.mpr ⟨⟨v_X0_learnFactsOfEstate, Nat.lt_of_le_of_lt (Nat.le_of_eq (show E_X0_learnFactsOfEstate.2.2.1 = 0 from rfl)) (by decide)⟩, (List.forall_mem_cons.mpr ⟨⟨v_X9_lastStrike, Nat.lt_of_le_of_lt (Nat.le_of_eq (show E_X9_lastStrike.2.2.1 = 0 from rfl)) (by decide)⟩, (List.forall_mem_cons.mpr ⟨⟨v_X9_sumHolding, Nat.lt_of_le_of_lt (Nat.le_of_eq (show E_X9_sumHolding.2.2.1 = 0 from rfl)) (by decide)⟩, (List.forall_mem_cons.mpr ⟨⟨v_X0_chargesNow, Nat.lt_of_le_of_lt (Nat.le_of_eq (show E_X0_chargesNow.2.2.1 = 0 from rfl)) (by decide)⟩, (List.forall_mem_cons.mpr ⟨⟨v_X3_payCharges, Nat.lt_of_le_of_lt (Nat.le_of_eq (show E_X3_payCharges.2.2.1 = 0 from rfl)) (by decide)⟩, (List.forall_mem_cons.mpr ⟨⟨v_X10_isAtItsEnd, Nat.lt_of_le_of_lt (Nat.le_of_eq (show E_X10_isAtItsEnd.2.2.1 = 0 from rfl)) (by decide)⟩, (List.forall_mem_cons.mpr ⟨⟨v_X0_learnFactsOfField, Nat.lt_of_le_of_lt (Nat.le_of_eq (show E_X0_learnFactsOfField.2.2.1 = 0 from rfl)) (by decide)⟩, (List.forall_mem_cons.mpr ⟨⟨v_X0_leftOn, Nat.lt_of_le_of_lt (Nat.le_of_eq (show E_X0_leftOn.2.2.1 = 0 from rfl)) (by decide)⟩, (List.forall_mem_cons.mpr ⟨⟨v_X0_owedTo, Nat.lt_of_le_of_lt (Nat.le_of_eq (show E_X0_owedTo.2.2.1 = 0 from rfl)) (by decide)⟩, (List.forall_mem_cons.mpr ⟨⟨v_X10_goOut, Nat.lt_of_le_of_lt (Nat.le_of_eq (show E_X10_goOut.2.2.1 = 0 from rfl)) (by decide)⟩, (List.forall_mem_cons.mpr ⟨⟨v_X10_endLeases, Nat.lt_of_le_of_lt (Nat.le_of_eq (show E_X10_endLeases.2.2.1 = 0 from rfl)) (by decide)⟩, (List.forall_mem_cons.mpr ⟨⟨v_X10_pass, Nat.lt_of_le_of_lt (Nat.le_of_eq (show E_X10_pass.2.2.1 = 0 from rfl)) (by decide)⟩, (List.forall_mem_cons.mpr ⟨⟨v_X11_seasons, Nat.lt_of_le_of_lt (Nat.le_of_eq (show E_X11_seasons.2.2.1 = 0 from rfl)) (by decide)⟩, (List.forall_mem_cons.mpr ⟨⟨v_L_seasons, Nat.lt_of_le_of_lt (Nat.le_of_eq (show E_L_seasons.2.2.1 = 1 from rfl)) (by decide)⟩, (List.forall_mem_cons.mpr ⟨⟨v_X12_isBarred, Nat.lt_of_le_of_lt (Nat.le_of_eq (show E_X12_isBarred.2.2.1 = 0 from rfl)) (by decide)⟩, (List.forall_mem_cons.mpr ⟨⟨v_X12_priceOf, Nat.lt_of_le_of_lt (Nat.le_of_eq (show E_X12_priceOf.2.2.1 = 0 from rfl)) (by decide)⟩, (List.forall_mem_cons.mpr ⟨⟨v_X12_yieldOf, Nat.lt_of_le_of_lt (Nat.le_of_eq (show E_X12_yieldOf.2.2.1 = 0 from rfl)) (by decide)⟩, (List.forall_mem_cons.mpr ⟨⟨v_X12_spring, Nat.lt_of_le_of_lt (Nat.le_of_eq (show E_X12_spring.2.2.1 = 0 from rfl)) (by decide)⟩, (List.forall_mem_cons.mpr ⟨⟨v_X12_income, Nat.lt_of_le_of_lt (Nat.le_of_eq (show E_X12_income.2.2.1 = 0 from rfl)) (by decide)⟩, (List.forall_mem_cons.mpr ⟨⟨v_X12_writesRow, Nat.lt_of_le_of_lt (Nat.le_of_eq (show E_X12_writesRow.2.2.1 = 0 from rfl)) (by decide)⟩, (List.forall_mem_cons.mpr ⟨⟨v_X12_summer, Nat.lt_of_le_of_lt (Nat.le_of_eq (show E_X12_summer.2.2.1 = 0 from rfl)) (by decide)⟩, (List.forall_mem_cons.mpr ⟨⟨v_X12_looks, Nat.lt_of_le_of_lt (Nat.le_of_eq (show E_X12_looks.2.2.1 = 0 from rfl)) (by decide)⟩, (List.forall_mem_cons.mpr ⟨⟨v_X12_holds, Nat.lt_of_le_of_lt (Nat.le_of_eq (show E_X12_holds.2.2.1 = 0 from rfl)) (by decide)⟩, (by intro E h; cases h)⟩)⟩)⟩)⟩)⟩)⟩)⟩)⟩)⟩)⟩)⟩)⟩)⟩)⟩)⟩)⟩)⟩)⟩)⟩)⟩)⟩)⟩)⟩)⟩)⟩)⟩)⟩)⟩)⟩)⟩)⟩)⟩)⟩)⟩)⟩)⟩)⟩)⟩)⟩)⟩)⟩)⟩)⟩)⟩)⟩)⟩)⟩)⟩)⟩)⟩)⟩)⟩)⟩)⟩)⟩)⟩)⟩)⟩)⟩)⟩)
set_option maxRecDepth 100000 in
theorem mtv_4 : ∀ E ∈ MT_4, VE MYT dflT E ∧ E.2.2.1 < 2 := (List.forall_mem_cons.mpr ⟨⟨v_X12_rentOf, Nat.lt_of_le_of_lt (Nat.le_of_eq (show E_X12_rentOf.2.2.1 = 0 from rfl)) (by decide)⟩, (List.forall_mem_cons.mpr ⟨⟨v_X12_rentLess, Nat.lt_of_le_of_lt (Nat.le_of_eq (show E_X12_rentLess.2.2.1 = 0 from rfl)) (by decide)⟩, (List.forall_mem_cons.mpr ⟨⟨v_X12_paysRent, Nat.lt_of_le_of_lt (Nat.le_of_eq (show E_X12_paysRent.2.2.1 = 0 from rfl)) (by decide)⟩, (List.forall_mem_cons.mpr ⟨⟨v_X12_autumn, Nat.lt_of_le_of_lt (Nat.le_of_eq (show E_X12_autumn.2.2.1 = 0 from rfl)) (by decide)⟩, (List.forall_mem_cons.mpr ⟨⟨v_X12_beside, Nat.lt_of_le_of_lt (Nat.le_of_eq (show E_X12_beside.2.2.1 = 0 from rfl)) (by decide)⟩, (List.forall_mem_cons.mpr ⟨⟨v_X12_isNearWood, Nat.lt_of_le_of_lt (Nat.le_of_eq (show E_X12_isNearWood.2.2.1 = 0 from rfl)) (by decide)⟩, (List.forall_mem_cons.mpr ⟨⟨v_X12_grows, Nat.lt_of_le_of_lt (Nat.le_of_eq (show E_X12_grows.2.2.1 = 0 from rfl)) (by decide)⟩, (List.forall_mem_cons.mpr ⟨⟨v_X12_partOf, Nat.lt_of_le_of_lt (Nat.le_of_eq (show E_X12_partOf.2.2.1 = 0 from rfl)) (by decide)⟩, (List.forall_mem_cons.mpr ⟨⟨v_X12_capital, Nat.lt_of_le_of_lt (Nat.le_of_eq (show E_X12_capital.2.2.1 = 0 from rfl)) (by decide)⟩, (List.forall_mem_cons.mpr ⟨⟨v_X12_comes, Nat.lt_of_le_of_lt (Nat.le_of_eq (show E_X12_comes.2.2.1 = 0 from rfl)) (by decide)⟩, (List.forall_mem_cons.mpr ⟨⟨v_X12_digs, Nat.lt_of_le_of_lt (Nat.le_of_eq (show E_X12_digs.2.2.1 = 0 from rfl)) (by decide)⟩, (List.forall_mem_cons.mpr ⟨⟨v_X12_paysLoan, Nat.lt_of_le_of_lt (Nat.le_of_eq (show E_X12_paysLoan.2.2.1 = 0 from rfl)) (by decide)⟩, (List.forall_mem_cons.mpr ⟨⟨v_X12_charges, Nat.lt_of_le_of_lt (Nat.le_of_eq (show E_X12_charges.2.2.1 = 0 from rfl)) (by decide)⟩, (List.forall_mem_cons.mpr ⟨⟨v_X12_owedTo, Nat.lt_of_le_of_lt (Nat.le_of_eq (show E_X12_owedTo.2.2.1 = 0 from rfl)) (by decide)⟩, (List.forall_mem_cons.mpr ⟨⟨v_X12_goesOut, Nat.lt_of_le_of_lt (Nat.le_of_eq (show E_X12_goesOut.2.2.1 = 0 from rfl)) (by decide)⟩, (List.forall_mem_cons.mpr ⟨⟨v_X12_winter, Nat.lt_of_le_of_lt (Nat.le_of_eq (show E_X12_winter.2.2.1 = 0 from rfl)) (by decide)⟩, (List.forall_mem_cons.mpr ⟨⟨v_X12_seasons, Nat.lt_of_le_of_lt (Nat.le_of_eq (show E_X12_seasons.2.2.1 = 0 from rfl)) (by decide)⟩, (List.forall_mem_cons.mpr ⟨⟨v_X11_needKnown, Nat.lt_of_le_of_lt (Nat.le_of_eq (show E_X11_needKnown.2.2.1 = 0 from rfl)) (by decide)⟩, (List.forall_mem_cons.mpr ⟨⟨v_X2_timberOf, Nat.lt_of_le_of_lt (Nat.le_of_eq (show E_X2_timberOf.2.2.1 = 0 from rfl)) (by decide)⟩, (List.forall_mem_cons.mpr ⟨⟨v_X2_worthOf, Nat.lt_of_le_of_lt (Nat.le_of_eq (show E_X2_worthOf.2.2.1 = 0 from rfl)) (by decide)⟩, (List.forall_mem_cons.mpr ⟨⟨v_X11_look, Nat.lt_of_le_of_lt (Nat.le_of_eq (show E_X11_look.2.2.1 = 0 from rfl)) (by decide)⟩, (List.forall_mem_cons.mpr ⟨⟨v_L_look, Nat.lt_of_le_of_lt (Nat.le_of_eq (show E_L_look.2.2.1 = 1 from rfl)) (by decide)⟩, (List.forall_mem_cons.mpr ⟨⟨v_X12_worthOf, Nat.lt_of_le_of_lt (Nat.le_of_eq (show E_X12_worthOf.2.2.1 = 0 from rfl)) (by decide)⟩, (List.forall_mem_cons.mpr ⟨⟨v_X12_look, Nat.lt_of_le_of_lt (Nat.le_of_eq (show E_X12_look.2.2.1 = 0 from rfl)) (by decide)⟩, (List.forall_mem_cons.mpr ⟨⟨v_X11_led, Nat.lt_of_le_of_lt (Nat.le_of_eq (show E_X11_led.2.2.1 = 0 from rfl)) (by decide)⟩, (List.forall_mem_cons.mpr ⟨⟨v_L_led, Nat.lt_of_le_of_lt (Nat.le_of_eq (show E_L_led.2.2.1 = 1 from rfl)) (by decide)⟩, (List.forall_mem_cons.mpr ⟨⟨v_X12_led, Nat.lt_of_le_of_lt (Nat.le_of_eq (show E_X12_led.2.2.1 = 0 from rfl)) (by decide)⟩, (List.forall_mem_cons.mpr ⟨⟨v_X11_owed, Nat.lt_of_le_of_lt (Nat.le_of_eq (show E_X11_owed.2.2.1 = 0 from rfl)) (by decide)⟩, (List.forall_mem_cons.mpr ⟨⟨v_L_owed, Nat.lt_of_le_of_lt (Nat.le_of_eq (show E_L_owed.2.2.1 = 1 from rfl)) (by decide)⟩, (List.forall_mem_cons.mpr ⟨⟨v_X12_owed, Nat.lt_of_le_of_lt (Nat.le_of_eq (show E_X12_owed.2.2.1 = 0 from rfl)) (by decide)⟩, (List.forall_mem_cons.mpr ⟨⟨v_X11_rent, Nat.lt_of_le_of_lt (Nat.le_of_eq (show E_X11_rent.2.2.1 = 0 from rfl)) (by decide)⟩, (List.forall_mem_cons.mpr ⟨⟨v_L_rent, Nat.lt_of_le_of_lt (Nat.le_of_eq (show E_L_rent.2.2.1 = 1 from rfl)) (by decide)⟩, (List.forall_mem_cons.mpr ⟨⟨v_X12_rent, Nat.lt_of_le_of_lt (Nat.le_of_eq (show E_X12_rent.2.2.1 = 0 from rfl)) (by decide)⟩, (List.forall_mem_cons.mpr ⟨⟨v_X1_rankOf, Nat.lt_of_le_of_lt (Nat.le_of_eq (show E_X1_rankOf.2.2.1 = 0 from rfl)) (by decide)⟩, (List.forall_mem_cons.mpr ⟨⟨v_X1_ofRank, Nat.lt_of_le_of_lt (Nat.le_of_eq (show E_X1_ofRank.2.2.1 = 0 from rfl)) (by decide)⟩, (List.forall_mem_cons.mpr ⟨⟨v_X11_arrears, Nat.lt_of_le_of_lt (Nat.le_of_eq (show E_X11_arrears.2.2.1 = 0 from rfl)) (by decide)⟩, (List.forall_mem_cons.mpr ⟨⟨v_X12_arrears, Nat.lt_of_le_of_lt (Nat.le_of_eq (show E_X12_arrears.2.2.1 = 0 from rfl)) (by decide)⟩, (List.forall_mem_cons.mpr ⟨⟨v_X11_needRoom, Nat.lt_of_le_of_lt (Nat.le_of_eq (show E_X11_needRoom.2.2.1 = 0 from rfl)) (by decide)⟩, (List.forall_mem_cons.mpr ⟨⟨v_X9_add, Nat.lt_of_le_of_lt (Nat.le_of_eq (show E_X9_add.2.2.1 = 0 from rfl)) (by decide)⟩, (List.forall_mem_cons.mpr ⟨⟨v_X11_words, Nat.lt_of_le_of_lt (Nat.le_of_eq (show E_X11_words.2.2.1 = 0 from rfl)) (by decide)⟩, (List.forall_mem_cons.mpr ⟨⟨v_L_words, Nat.lt_of_le_of_lt (Nat.le_of_eq (show E_L_words.2.2.1 = 1 from rfl)) (by decide)⟩, (List.forall_mem_cons.mpr ⟨⟨v_X12_words, Nat.lt_of_le_of_lt (Nat.le_of_eq (show E_X12_words.2.2.1 = 0 from rfl)) (by decide)⟩, (List.forall_mem_cons.mpr ⟨⟨v_X11_fault, Nat.lt_of_le_of_lt (Nat.le_of_eq (show E_X11_fault.2.2.1 = 0 from rfl)) (by decide)⟩, (List.forall_mem_cons.mpr ⟨⟨v_X12_fault, Nat.lt_of_le_of_lt (Nat.le_of_eq (show E_X12_fault.2.2.1 = 0 from rfl)) (by decide)⟩, (List.forall_mem_cons.mpr ⟨⟨v_X8_firstHolding, Nat.lt_of_le_of_lt (Nat.le_of_eq (show E_X8_firstHolding.2.2.1 = 0 from rfl)) (by decide)⟩, (List.forall_mem_cons.mpr ⟨⟨v_X9_firstHolding, Nat.lt_of_le_of_lt (Nat.le_of_eq (show E_X9_firstHolding.2.2.1 = 0 from rfl)) (by decide)⟩, (List.forall_mem_cons.mpr ⟨⟨v_X0_lineThatLets, Nat.lt_of_le_of_lt (Nat.le_of_eq (show E_X0_lineThatLets.2.2.1 = 0 from rfl)) (by decide)⟩, (List.forall_mem_cons.mpr ⟨⟨v_X0_mostBorrowed, Nat.lt_of_le_of_lt (Nat.le_of_eq (show E_X0_mostBorrowed.2.2.1 = 0 from rfl)) (by decide)⟩, (List.forall_mem_cons.mpr ⟨⟨v_X0_partOf, Nat.lt_of_le_of_lt (Nat.le_of_eq (show E_X0_partOf.2.2.1 = 0 from rfl)) (by decide)⟩, (List.forall_mem_cons.mpr ⟨⟨v_X11_may, Nat.lt_of_le_of_lt (Nat.le_of_eq (show E_X11_may.2.2.1 = 0 from rfl)) (by decide)⟩, (List.forall_mem_cons.mpr ⟨⟨v_L_may, Nat.lt_of_le_of_lt (Nat.le_of_eq (show E_L_may.2.2.1 = 1 from rfl)) (by decide)⟩, (List.forall_mem_cons.mpr ⟨⟨v_X12_mostOf, Nat.lt_of_le_of_lt (Nat.le_of_eq (show E_X12_mostOf.2.2.1 = 0 from rfl)) (by decide)⟩, (List.forall_mem_cons.mpr ⟨⟨v_X12_firstLine, Nat.lt_of_le_of_lt (Nat.le_of_eq (show E_X12_firstLine.2.2.1 = 0 from rfl)) (by decide)⟩, (List.forall_mem_cons.mpr ⟨⟨v_X12_may, Nat.lt_of_le_of_lt (Nat.le_of_eq (show E_X12_may.2.2.1 = 0 from rfl)) (by decide)⟩, (List.forall_mem_cons.mpr ⟨⟨v_X0_firstCharge, Nat.lt_of_le_of_lt (Nat.le_of_eq (show E_X0_firstCharge.2.2.1 = 0 from rfl)) (by decide)⟩, (List.forall_mem_cons.mpr ⟨⟨v_X11_why, Nat.lt_of_le_of_lt (Nat.le_of_eq (show E_X11_why.2.2.1 = 0 from rfl)) (by decide)⟩, (List.forall_mem_cons.mpr ⟨⟨v_L_why, Nat.lt_of_le_of_lt (Nat.le_of_eq (show E_L_why.2.2.1 = 1 from rfl)) (by decide)⟩, (List.forall_mem_cons.mpr ⟨⟨v_X12_why, Nat.lt_of_le_of_lt (Nat.le_of_eq (show E_X12_why.2.2.1 = 0 from rfl)) (by decide)⟩, (List.forall_mem_cons.mpr ⟨⟨v_X11_cut, Nat.lt_of_le_of_lt (Nat.le_of_eq (show E_X11_cut.2.2.1 = 0 from rfl)) (by decide)⟩, (List.forall_mem_cons.mpr ⟨⟨v_L_cut, Nat.lt_of_le_of_lt (Nat.le_of_eq (show E_L_cut.2.2.1 = 1 from rfl)) (by decide)⟩, (by intro E h; cases h)⟩)⟩)⟩)⟩)⟩)⟩)⟩)⟩)⟩)⟩)⟩)⟩)⟩)⟩)⟩)⟩)⟩)⟩)⟩)⟩)⟩)⟩)⟩)⟩)⟩)⟩)⟩)⟩)⟩)⟩)⟩)⟩)⟩)⟩)⟩)⟩)⟩)⟩)⟩)⟩)⟩)⟩)⟩)⟩)⟩)⟩)⟩)⟩)⟩)⟩)⟩)⟩)⟩)⟩)⟩)⟩)⟩)⟩)⟩)⟩)
set_option maxRecDepth 100000 in
theorem mtv_5 : ∀ E ∈ MT_5, VE MYT dflT E ∧ E.2.2.1 < 2 := (List.forall_mem_cons.mpr ⟨⟨v_X12_cut, Nat.lt_of_le_of_lt (Nat.le_of_eq (show E_X12_cut.2.2.1 = 0 from rfl)) (by decide)⟩, (List.forall_mem_cons.mpr ⟨⟨v_X3_owedInAll, Nat.lt_of_le_of_lt (Nat.le_of_eq (show E_X3_owedInAll.2.2.1 = 0 from rfl)) (by decide)⟩, (List.forall_mem_cons.mpr ⟨⟨v_X3_lend, Nat.lt_of_le_of_lt (Nat.le_of_eq (show E_X3_lend.2.2.1 = 0 from rfl)) (by decide)⟩, (List.forall_mem_cons.mpr ⟨⟨v_X11_loan, Nat.lt_of_le_of_lt (Nat.le_of_eq (show E_X11_loan.2.2.1 = 0 from rfl)) (by decide)⟩, (List.forall_mem_cons.mpr ⟨⟨v_L_loan, Nat.lt_of_le_of_lt (Nat.le_of_eq (show E_L_loan.2.2.1 = 1 from rfl)) (by decide)⟩, (List.forall_mem_cons.mpr ⟨⟨v_X12_owedOnLoans, Nat.lt_of_le_of_lt (Nat.le_of_eq (show E_X12_owedOnLoans.2.2.1 = 0 from rfl)) (by decide)⟩, (List.forall_mem_cons.mpr ⟨⟨v_X12_loan, Nat.lt_of_le_of_lt (Nat.le_of_eq (show E_X12_loan.2.2.1 = 0 from rfl)) (by decide)⟩, (List.forall_mem_cons.mpr ⟨⟨v_X11_owing, Nat.lt_of_le_of_lt (Nat.le_of_eq (show E_X11_owing.2.2.1 = 0 from rfl)) (by decide)⟩, (List.forall_mem_cons.mpr ⟨⟨v_L_owing, Nat.lt_of_le_of_lt (Nat.le_of_eq (show E_L_owing.2.2.1 = 1 from rfl)) (by decide)⟩, (List.forall_mem_cons.mpr ⟨⟨v_X12_owing, Nat.lt_of_le_of_lt (Nat.le_of_eq (show E_X12_owing.2.2.1 = 0 from rfl)) (by decide)⟩, (List.forall_mem_cons.mpr ⟨⟨v_X0_payWork, Nat.lt_of_le_of_lt (Nat.le_of_eq (show E_X0_payWork.2.2.1 = 0 from rfl)) (by decide)⟩, (List.forall_mem_cons.mpr ⟨⟨v_X11_work, Nat.lt_of_le_of_lt (Nat.le_of_eq (show E_X11_work.2.2.1 = 0 from rfl)) (by decide)⟩, (List.forall_mem_cons.mpr ⟨⟨v_L_work, Nat.lt_of_le_of_lt (Nat.le_of_eq (show E_L_work.2.2.1 = 1 from rfl)) (by decide)⟩, (List.forall_mem_cons.mpr ⟨⟨v_X12_work, Nat.lt_of_le_of_lt (Nat.le_of_eq (show E_X12_work.2.2.1 = 0 from rfl)) (by decide)⟩, (List.forall_mem_cons.mpr ⟨⟨v_X11_sell, Nat.lt_of_le_of_lt (Nat.le_of_eq (show E_X11_sell.2.2.1 = 0 from rfl)) (by decide)⟩, (List.forall_mem_cons.mpr ⟨⟨v_L_sell, Nat.lt_of_le_of_lt (Nat.le_of_eq (show E_L_sell.2.2.1 = 1 from rfl)) (by decide)⟩, (List.forall_mem_cons.mpr ⟨⟨v_X12_sell, Nat.lt_of_le_of_lt (Nat.le_of_eq (show E_X12_sell.2.2.1 = 0 from rfl)) (by decide)⟩, (List.forall_mem_cons.mpr ⟨⟨v_X3_passOn, Nat.lt_of_le_of_lt (Nat.le_of_eq (show E_X3_passOn.2.2.1 = 0 from rfl)) (by decide)⟩, (List.forall_mem_cons.mpr ⟨⟨v_X11_heir, Nat.lt_of_le_of_lt (Nat.le_of_eq (show E_X11_heir.2.2.1 = 0 from rfl)) (by decide)⟩, (List.forall_mem_cons.mpr ⟨⟨v_X12_heir, Nat.lt_of_le_of_lt (Nat.le_of_eq (show E_X12_heir.2.2.1 = 0 from rfl)) (by decide)⟩, (List.forall_mem_cons.mpr ⟨⟨v_X3_wrongNote, Nat.lt_of_le_of_lt (Nat.le_of_eq (show E_X3_wrongNote.2.2.1 = 0 from rfl)) (by decide)⟩, (List.forall_mem_cons.mpr ⟨⟨v_X11_wrong, Nat.lt_of_le_of_lt (Nat.le_of_eq (show E_X11_wrong.2.2.1 = 0 from rfl)) (by decide)⟩, (List.forall_mem_cons.mpr ⟨⟨v_L_wrong, Nat.lt_of_le_of_lt (Nat.le_of_eq (show E_L_wrong.2.2.1 = 1 from rfl)) (by decide)⟩, (List.forall_mem_cons.mpr ⟨⟨v_X12_wrong, Nat.lt_of_le_of_lt (Nat.le_of_eq (show E_X12_wrong.2.2.1 = 0 from rfl)) (by decide)⟩, (List.forall_mem_cons.mpr ⟨⟨v_X5_addJob, Nat.lt_of_le_of_lt (Nat.le_of_eq (show E_X5_addJob.2.2.1 = 0 from rfl)) (by decide)⟩, (List.forall_mem_cons.mpr ⟨⟨v_X11_job, Nat.lt_of_le_of_lt (Nat.le_of_eq (show E_X11_job.2.2.1 = 0 from rfl)) (by decide)⟩, (List.forall_mem_cons.mpr ⟨⟨v_L_job, Nat.lt_of_le_of_lt (Nat.le_of_eq (show E_L_job.2.2.1 = 1 from rfl)) (by decide)⟩, (List.forall_mem_cons.mpr ⟨⟨v_X12_job, Nat.lt_of_le_of_lt (Nat.le_of_eq (show E_X12_job.2.2.1 = 0 from rfl)) (by decide)⟩, (List.forall_mem_cons.mpr ⟨⟨v_X5_addTrouble, Nat.lt_of_le_of_lt (Nat.le_of_eq (show E_X5_addTrouble.2.2.1 = 0 from rfl)) (by decide)⟩, (List.forall_mem_cons.mpr ⟨⟨v_X11_trouble, Nat.lt_of_le_of_lt (Nat.le_of_eq (show E_X11_trouble.2.2.1 = 0 from rfl)) (by decide)⟩, (List.forall_mem_cons.mpr ⟨⟨v_L_trouble, Nat.lt_of_le_of_lt (Nat.le_of_eq (show E_L_trouble.2.2.1 = 1 from rfl)) (by decide)⟩, (List.forall_mem_cons.mpr ⟨⟨v_X12_trouble, Nat.lt_of_le_of_lt (Nat.le_of_eq (show E_X12_trouble.2.2.1 = 0 from rfl)) (by decide)⟩, (List.forall_mem_cons.mpr ⟨⟨v_X5_jobsIn, Nat.lt_of_le_of_lt (Nat.le_of_eq (show E_X5_jobsIn.2.2.1 = 0 from rfl)) (by decide)⟩, (List.forall_mem_cons.mpr ⟨⟨v_X5_endOf, Nat.lt_of_le_of_lt (Nat.le_of_eq (show E_X5_endOf.2.2.1 = 0 from rfl)) (by decide)⟩, (List.forall_mem_cons.mpr ⟨⟨v_X5_leastEnd, Nat.lt_of_le_of_lt (Nat.le_of_eq (show E_X5_leastEnd.2.2.1 = 0 from rfl)) (by decide)⟩, (List.forall_mem_cons.mpr ⟨⟨v_X11_worth, Nat.lt_of_le_of_lt (Nat.le_of_eq (show E_X11_worth.2.2.1 = 0 from rfl)) (by decide)⟩, (List.forall_mem_cons.mpr ⟨⟨v_L_worth, Nat.lt_of_le_of_lt (Nat.le_of_eq (show E_L_worth.2.2.1 = 1 from rfl)) (by decide)⟩, (List.forall_mem_cons.mpr ⟨⟨v_X12_noPlan, Nat.lt_of_le_of_lt (Nat.le_of_eq (show E_X12_noPlan.2.2.1 = 0 from rfl)) (by decide)⟩, (List.forall_mem_cons.mpr ⟨⟨v_X12_endsWith, Nat.lt_of_le_of_lt (Nat.le_of_eq (show E_X12_endsWith.2.2.1 = 0 from rfl)) (by decide)⟩, (List.forall_mem_cons.mpr ⟨⟨v_X12_worthOfSet, Nat.lt_of_le_of_lt (Nat.le_of_eq (show E_X12_worthOfSet.2.2.1 = 0 from rfl)) (by decide)⟩, (List.forall_mem_cons.mpr ⟨⟨v_X12_worth, Nat.lt_of_le_of_lt (Nat.le_of_eq (show E_X12_worth.2.2.1 = 0 from rfl)) (by decide)⟩, (List.forall_mem_cons.mpr ⟨⟨v_J6_bitCount_0f7a4, Nat.lt_of_le_of_lt (Nat.le_of_eq (show E_J6_bitCount_0f7a4.2.2.1 = 0 from rfl)) (by decide)⟩, (List.forall_mem_cons.mpr ⟨⟨v_X5_bestSet, Nat.lt_of_le_of_lt (Nat.le_of_eq (show E_X5_bestSet.2.2.1 = 0 from rfl)) (by decide)⟩, (List.forall_mem_cons.mpr ⟨⟨v_X11_best, Nat.lt_of_le_of_lt (Nat.le_of_eq (show E_X11_best.2.2.1 = 0 from rfl)) (by decide)⟩, (List.forall_mem_cons.mpr ⟨⟨v_L_best, Nat.lt_of_le_of_lt (Nat.le_of_eq (show E_L_best.2.2.1 = 1 from rfl)) (by decide)⟩, (List.forall_mem_cons.mpr ⟨⟨v_X12_best, Nat.lt_of_le_of_lt (Nat.le_of_eq (show E_X12_best.2.2.1 = 0 from rfl)) (by decide)⟩, (List.forall_mem_cons.mpr ⟨⟨v_X0_isIn, Nat.lt_of_le_of_lt (Nat.le_of_eq (show E_X0_isIn.2.2.1 = 0 from rfl)) (by decide)⟩, (List.forall_mem_cons.mpr ⟨⟨v_X0_worthTogether, Nat.lt_of_le_of_lt (Nat.le_of_eq (show E_X0_worthTogether.2.2.1 = 0 from rfl)) (by decide)⟩, (List.forall_mem_cons.mpr ⟨⟨v_X0_partedPairs, Nat.lt_of_le_of_lt (Nat.le_of_eq (show E_X0_partedPairs.2.2.1 = 0 from rfl)) (by decide)⟩, (List.forall_mem_cons.mpr ⟨⟨v_X0_bestSale, Nat.lt_of_le_of_lt (Nat.le_of_eq (show E_X0_bestSale.2.2.1 = 0 from rfl)) (by decide)⟩, (List.forall_mem_cons.mpr ⟨⟨v_X11_toSell, Nat.lt_of_le_of_lt (Nat.le_of_eq (show E_X11_toSell.2.2.1 = 0 from rfl)) (by decide)⟩, (List.forall_mem_cons.mpr ⟨⟨v_L_toSell, Nat.lt_of_le_of_lt (Nat.le_of_eq (show E_L_toSell.2.2.1 = 1 from rfl)) (by decide)⟩, (List.forall_mem_cons.mpr ⟨⟨v_X12_isOf, Nat.lt_of_le_of_lt (Nat.le_of_eq (show E_X12_isOf.2.2.1 = 0 from rfl)) (by decide)⟩, (List.forall_mem_cons.mpr ⟨⟨v_X12_parted, Nat.lt_of_le_of_lt (Nat.le_of_eq (show E_X12_parted.2.2.1 = 0 from rfl)) (by decide)⟩, (List.forall_mem_cons.mpr ⟨⟨v_X12_toSell, Nat.lt_of_le_of_lt (Nat.le_of_eq (show E_X12_toSell.2.2.1 = 0 from rfl)) (by decide)⟩, (List.forall_mem_cons.mpr ⟨⟨v_X11_row, Nat.lt_of_le_of_lt (Nat.le_of_eq (show E_X11_row.2.2.1 = 0 from rfl)) (by decide)⟩, (List.forall_mem_cons.mpr ⟨⟨v_L_row, Nat.lt_of_le_of_lt (Nat.le_of_eq (show E_L_row.2.2.1 = 1 from rfl)) (by decide)⟩, (List.forall_mem_cons.mpr ⟨⟨v_X12_noRow, Nat.lt_of_le_of_lt (Nat.le_of_eq (show E_X12_noRow.2.2.1 = 0 from rfl)) (by decide)⟩, (List.forall_mem_cons.mpr ⟨⟨v_X12_row, Nat.lt_of_le_of_lt (Nat.le_of_eq (show E_X12_row.2.2.1 = 0 from rfl)) (by decide)⟩, (List.forall_mem_cons.mpr ⟨⟨v_X11_tear, Nat.lt_of_le_of_lt (Nat.le_of_eq (show E_X11_tear.2.2.1 = 0 from rfl)) (by decide)⟩, (by intro E h; cases h)⟩)⟩)⟩)⟩)⟩)⟩)⟩)⟩)⟩)⟩)⟩)⟩)⟩)⟩)⟩)⟩)⟩)⟩)⟩)⟩)⟩)⟩)⟩)⟩)⟩)⟩)⟩)⟩)⟩)⟩)⟩)⟩)⟩)⟩)⟩)⟩)⟩)⟩)⟩)⟩)⟩)⟩)⟩)⟩)⟩)⟩)⟩)⟩)⟩)⟩)⟩)⟩)⟩)⟩)⟩)⟩)⟩)⟩)⟩)⟩)
set_option maxRecDepth 100000 in
theorem mtv_6 : ∀ E ∈ MT_6, VE MYT dflT E ∧ E.2.2.1 < 2 := (List.forall_mem_cons.mpr ⟨⟨v_L_tear, Nat.lt_of_le_of_lt (Nat.le_of_eq (show E_L_tear.2.2.1 = 1 from rfl)) (by decide)⟩, (List.forall_mem_cons.mpr ⟨⟨v_X12_tear, Nat.lt_of_le_of_lt (Nat.le_of_eq (show E_X12_tear.2.2.1 = 0 from rfl)) (by decide)⟩, (List.forall_mem_cons.mpr ⟨⟨v_X7_firstFalse, Nat.lt_of_le_of_lt (Nat.le_of_eq (show E_X7_firstFalse.2.2.1 = 0 from rfl)) (by decide)⟩, (List.forall_mem_cons.mpr ⟨⟨v_X11_check, Nat.lt_of_le_of_lt (Nat.le_of_eq (show E_X11_check.2.2.1 = 0 from rfl)) (by decide)⟩, (List.forall_mem_cons.mpr ⟨⟨v_X12_check, Nat.lt_of_le_of_lt (Nat.le_of_eq (show E_X12_check.2.2.1 = 0 from rfl)) (by decide)⟩, (List.forall_mem_cons.mpr ⟨⟨v_X9_copyFrom, Nat.lt_of_le_of_lt (Nat.le_of_eq (show E_X9_copyFrom.2.2.1 = 0 from rfl)) (by decide)⟩, (List.forall_mem_cons.mpr ⟨⟨v_X2_copyFrom, Nat.lt_of_le_of_lt (Nat.le_of_eq (show E_X2_copyFrom.2.2.1 = 0 from rfl)) (by decide)⟩, (List.forall_mem_cons.mpr ⟨⟨v_X1_copyFrom, Nat.lt_of_le_of_lt (Nat.le_of_eq (show E_X1_copyFrom.2.2.1 = 0 from rfl)) (by decide)⟩, (List.forall_mem_cons.mpr ⟨⟨v_X4_copyFrom, Nat.lt_of_le_of_lt (Nat.le_of_eq (show E_X4_copyFrom.2.2.1 = 0 from rfl)) (by decide)⟩, (List.forall_mem_cons.mpr ⟨⟨v_X3_copyFrom, Nat.lt_of_le_of_lt (Nat.le_of_eq (show E_X3_copyFrom.2.2.1 = 0 from rfl)) (by decide)⟩, (List.forall_mem_cons.mpr ⟨⟨v_X5_copyFrom, Nat.lt_of_le_of_lt (Nat.le_of_eq (show E_X5_copyFrom.2.2.1 = 0 from rfl)) (by decide)⟩, (List.forall_mem_cons.mpr ⟨⟨v_X7_copyFrom, Nat.lt_of_le_of_lt (Nat.le_of_eq (show E_X7_copyFrom.2.2.1 = 0 from rfl)) (by decide)⟩, (List.forall_mem_cons.mpr ⟨⟨v_X0_copyFrom, Nat.lt_of_le_of_lt (Nat.le_of_eq (show E_X0_copyFrom.2.2.1 = 0 from rfl)) (by decide)⟩, (List.forall_mem_cons.mpr ⟨⟨v_X11_image, Nat.lt_of_le_of_lt (Nat.le_of_eq (show E_X11_image.2.2.1 = 0 from rfl)) (by decide)⟩, (List.forall_mem_cons.mpr ⟨⟨v_X12_image, Nat.lt_of_le_of_lt (Nat.le_of_eq (show E_X12_image.2.2.1 = 0 from rfl)) (by decide)⟩, (List.forall_mem_cons.mpr ⟨⟨v_X11_back, Nat.lt_of_le_of_lt (Nat.le_of_eq (show E_X11_back.2.2.1 = 0 from rfl)) (by decide)⟩, (List.forall_mem_cons.mpr ⟨⟨v_X12_back, Nat.lt_of_le_of_lt (Nat.le_of_eq (show E_X12_back.2.2.1 = 0 from rfl)) (by decide)⟩, (List.forall_mem_cons.mpr ⟨⟨v_X1_goingOn, Nat.lt_of_le_of_lt (Nat.le_of_eq (show E_X1_goingOn.2.2.1 = 0 from rfl)) (by decide)⟩, (List.forall_mem_cons.mpr ⟨⟨v_X1_sumOf, Nat.lt_of_le_of_lt (Nat.le_of_eq (show E_X1_sumOf.2.2.1 = 0 from rfl)) (by decide)⟩, (List.forall_mem_cons.mpr ⟨⟨v_X9_linesOf, Nat.lt_of_le_of_lt (Nat.le_of_eq (show E_X9_linesOf.2.2.1 = 0 from rfl)) (by decide)⟩, (List.forall_mem_cons.mpr ⟨⟨v_X9_linesInForce, Nat.lt_of_le_of_lt (Nat.le_of_eq (show E_X9_linesInForce.2.2.1 = 0 from rfl)) (by decide)⟩, (List.forall_mem_cons.mpr ⟨⟨v_X2_soldFields, Nat.lt_of_le_of_lt (Nat.le_of_eq (show E_X2_soldFields.2.2.1 = 0 from rfl)) (by decide)⟩, (List.forall_mem_cons.mpr ⟨⟨v_X3_told, Nat.lt_of_le_of_lt (Nat.le_of_eq (show E_X3_told.2.2.1 = 0 from rfl)) (by decide)⟩, (List.forall_mem_cons.mpr ⟨⟨v_X11_count, Nat.lt_of_le_of_lt (Nat.le_of_eq (show E_X11_count.2.2.1 = 0 from rfl)) (by decide)⟩, (List.forall_mem_cons.mpr ⟨⟨v_X12_sumOf, Nat.lt_of_le_of_lt (Nat.le_of_eq (show E_X12_sumOf.2.2.1 = 0 from rfl)) (by decide)⟩, (List.forall_mem_cons.mpr ⟨⟨v_X12_linesInForce, Nat.lt_of_le_of_lt (Nat.le_of_eq (show E_X12_linesInForce.2.2.1 = 0 from rfl)) (by decide)⟩, (List.forall_mem_cons.mpr ⟨⟨v_X12_count, Nat.lt_of_le_of_lt (Nat.le_of_eq (show E_X12_count.2.2.1 = 0 from rfl)) (by decide)⟩, (by intro E h; cases h)⟩)⟩)⟩)⟩)⟩)⟩)⟩)⟩)⟩)⟩)⟩)⟩)⟩)⟩)⟩)⟩)⟩)⟩)⟩)⟩)⟩)⟩)⟩)⟩)⟩)⟩)⟩)
theorem mt_ok : ∀ E ∈ MT, VE MYT dflT E ∧ E.2.2.1 < 2 := (List.forall_mem_append.mpr ⟨mtv_0, (List.forall_mem_append.mpr ⟨mtv_1, (List.forall_mem_append.mpr ⟨mtv_2, (List.forall_mem_append.mpr ⟨mtv_3, (List.forall_mem_append.mpr ⟨mtv_4, (List.forall_mem_append.mpr ⟨mtv_5, mtv_6⟩)⟩)⟩)⟩)⟩)⟩)
theorem mtc_0 {i : Nat} {x : mE} (h : MT_0[i]? = some x) : MT[0 + i]? = some x := by rw [show 0 + i = i by omega]; exact (apl h)
theorem mtc_1 {i : Nat} {x : mE} (h : MT_1[i]? = some x) : MT[60 + i]? = some x := by rw [show 60 + i = 60 + (i) by omega]; exact (apr mtl_0 (apl h))
theorem mtc_2 {i : Nat} {x : mE} (h : MT_2[i]? = some x) : MT[120 + i]? = some x := by rw [show 120 + i = 60 + (60 + (i)) by omega]; exact (apr mtl_0 (apr mtl_1 (apl h)))
theorem mtc_3 {i : Nat} {x : mE} (h : MT_3[i]? = some x) : MT[180 + i]? = some x := by rw [show 180 + i = 60 + (60 + (60 + (i))) by omega]; exact (apr mtl_0 (apr mtl_1 (apr mtl_2 (apl h))))
theorem mtc_4 {i : Nat} {x : mE} (h : MT_4[i]? = some x) : MT[240 + i]? = some x := by rw [show 240 + i = 60 + (60 + (60 + (60 + (i)))) by omega]; exact (apr mtl_0 (apr mtl_1 (apr mtl_2 (apr mtl_3 (apl h)))))
theorem mtc_5 {i : Nat} {x : mE} (h : MT_5[i]? = some x) : MT[300 + i]? = some x := by rw [show 300 + i = 60 + (60 + (60 + (60 + (60 + (i))))) by omega]; exact (apr mtl_0 (apr mtl_1 (apr mtl_2 (apr mtl_3 (apr mtl_4 (apl h))))))
theorem mtc_6 {i : Nat} {x : mE} (h : MT_6[i]? = some x) : MT[360 + i]? = some x := by rw [show 360 + i = 60 + (60 + (60 + (60 + (60 + (60 + (i)))))) by omega]; exact (apr mtl_0 (apr mtl_1 (apr mtl_2 (apr mtl_3 (apr mtl_4 (apr mtl_5 h))))))
theorem mt_0 : MT[0]? = some E_X6_init := mtc_0 (i := 0) rfl
theorem mt_1 : MT[1]? = some E_X9_init := mtc_0 (i := 1) rfl
theorem mt_2 : MT[2]? = some E_X2_init := mtc_0 (i := 2) rfl
theorem mt_3 : MT[3]? = some E_X8_init := mtc_0 (i := 3) rfl
theorem mt_4 : MT[4]? = some E_X1_init := mtc_0 (i := 4) rfl
theorem mt_5 : MT[5]? = some E_X4_init := mtc_0 (i := 5) rfl
theorem mt_6 : MT[6]? = some E_X3_init := mtc_0 (i := 6) rfl
theorem mt_7 : MT[7]? = some E_X5_init := mtc_0 (i := 7) rfl
theorem mt_8 : MT[8]? = some E_X7_init := mtc_0 (i := 8) rfl
theorem mt_9 : MT[9]? = some E_X0_init := mtc_0 (i := 9) rfl
theorem mt_10 : MT[10]? = some E_X10_init := mtc_0 (i := 10) rfl
theorem mt_11 : MT[11]? = some E_X11_init := mtc_0 (i := 11) rfl
theorem mt_12 : MT[12]? = some E_X12_at := mtc_0 (i := 12) rfl
theorem mt_13 : MT[13]? = some E_X12_init := mtc_0 (i := 13) rfl
theorem mt_14 : MT[14]? = some E_X6_addBytes := mtc_0 (i := 14) rfl
theorem mt_15 : MT[15]? = some E_X11_feed := mtc_0 (i := 15) rfl
theorem mt_16 : MT[16]? = some E_X12_feed := mtc_0 (i := 16) rfl
theorem mt_17 : MT[17]? = some E_X11_end := mtc_0 (i := 17) rfl
theorem mt_18 : MT[18]? = some E_X12_end := mtc_0 (i := 18) rfl
theorem mt_19 : MT[19]? = some E_X11_needIndex := mtc_0 (i := 19) rfl
theorem mt_20 : MT[20]? = some E_X11_needField := mtc_0 (i := 20) rfl
theorem mt_21 : MT[21]? = some E_X11_needWithin := mtc_0 (i := 21) rfl
theorem mt_22 : MT[22]? = some E_X2_isCell := mtc_0 (i := 22) rfl
theorem mt_23 : MT[23]? = some E_X2_get := mtc_0 (i := 23) rfl
theorem mt_24 : MT[24]? = some E_X2_isSold := mtc_0 (i := 24) rfl
theorem mt_25 : MT[25]? = some E_X2_set := mtc_0 (i := 25) rfl
theorem mt_26 : MT[26]? = some E_X11_field := mtc_0 (i := 26) rfl
theorem mt_27 : MT[27]? = some E_L_field := mtc_0 (i := 27) rfl
theorem mt_28 : MT[28]? = some E_X12_in := mtc_0 (i := 28) rfl
theorem mt_29 : MT[29]? = some E_X12_noField := mtc_0 (i := 29) rfl
theorem mt_30 : MT[30]? = some E_X12_throwsIf := mtc_0 (i := 30) rfl
theorem mt_31 : MT[31]? = some E_X12_of := mtc_0 (i := 31) rfl
theorem mt_32 : MT[32]? = some E_X12_field := mtc_0 (i := 32) rfl
theorem mt_33 : MT[33]? = some E_X12_thrown := mtc_0 (i := 33) rfl
theorem mt_34 : MT[34]? = some E_X4_setRain := mtc_0 (i := 34) rfl
theorem mt_35 : MT[35]? = some E_X11_rain := mtc_0 (i := 35) rfl
theorem mt_36 : MT[36]? = some E_L_rain := mtc_0 (i := 36) rfl
theorem mt_37 : MT[37]? = some E_X12_rain := mtc_0 (i := 37) rfl
theorem mt_38 : MT[38]? = some E_X4_toldRain := mtc_0 (i := 38) rfl
theorem mt_39 : MT[39]? = some E_X4_rainOf := mtc_0 (i := 39) rfl
theorem mt_40 : MT[40]? = some E_X11_fell := mtc_0 (i := 40) rfl
theorem mt_41 : MT[41]? = some E_L_fell := mtc_0 (i := 41) rfl
theorem mt_42 : MT[42]? = some E_X12_rainTold := mtc_0 (i := 42) rfl
theorem mt_43 : MT[43]? = some E_X12_rainOf := mtc_0 (i := 43) rfl
theorem mt_44 : MT[44]? = some E_X12_fell := mtc_0 (i := 44) rfl
theorem mt_45 : MT[45]? = some E_X4_tell := mtc_0 (i := 45) rfl
theorem mt_46 : MT[46]? = some E_X11_price := mtc_0 (i := 46) rfl
theorem mt_47 : MT[47]? = some E_L_price := mtc_0 (i := 47) rfl
theorem mt_48 : MT[48]? = some E_X12_season := mtc_0 (i := 48) rfl
theorem mt_49 : MT[49]? = some E_X12_price := mtc_0 (i := 49) rfl
theorem mt_50 : MT[50]? = some E_X4_priceAt := mtc_0 (i := 50) rfl
theorem mt_51 : MT[51]? = some E_X11_known := mtc_0 (i := 51) rfl
theorem mt_52 : MT[52]? = some E_L_known := mtc_0 (i := 52) rfl
theorem mt_53 : MT[53]? = some E_X12_knownOf := mtc_0 (i := 53) rfl
theorem mt_54 : MT[54]? = some E_X12_known := mtc_0 (i := 54) rfl
theorem mt_55 : MT[55]? = some E_X6_useTape := mtc_0 (i := 55) rfl
theorem mt_56 : MT[56]? = some E_X6_isLetter := mtc_0 (i := 56) rfl
theorem mt_57 : MT[57]? = some E_J0_coder_7d493 := mtc_0 (i := 57) rfl
theorem mt_58 : MT[58]? = some E_J0_length_8abf5 := mtc_0 (i := 58) rfl
theorem mt_59 : MT[59]? = some E_J0_isLatin1_aae02 := mtc_0 (i := 59) rfl
theorem mt_60 : MT[60]? = some E_J0_checkIndex_df160 := mtc_1 (i := 0) rfl
theorem mt_61 : MT[61]? = some E_J1_charAt_3b067 := mtc_1 (i := 1) rfl
theorem mt_62 : MT[62]? = some E_J0_charAt_5068e := mtc_1 (i := 2) rfl
theorem mt_63 : MT[63]? = some E_X6_wordFrom := mtc_1 (i := 3) rfl
theorem mt_64 : MT[64]? = some E_X6_isDigit := mtc_1 (i := 4) rfl
theorem mt_65 : MT[65]? = some E_X6_next := mtc_1 (i := 5) rfl
theorem mt_66 : MT[66]? = some E_X6_write := mtc_1 (i := 6) rfl
theorem mt_67 : MT[67]? = some E_X6_takeVerb := mtc_1 (i := 7) rfl
theorem mt_68 : MT[68]? = some E_X6_takeNumber := mtc_1 (i := 8) rfl
theorem mt_69 : MT[69]? = some E_X6_isWord := mtc_1 (i := 9) rfl
theorem mt_70 : MT[70]? = some E_X6_takeWord := mtc_1 (i := 10) rfl
theorem mt_71 : MT[71]? = some E_X6_takeCrop := mtc_1 (i := 11) rfl
theorem mt_72 : MT[72]? = some E_X6_takeOneOf := mtc_1 (i := 12) rfl
theorem mt_73 : MT[73]? = some E_X6_isSign := mtc_1 (i := 13) rfl
theorem mt_74 : MT[74]? = some E_X6_takeSign := mtc_1 (i := 14) rfl
theorem mt_75 : MT[75]? = some E_X6_emit := mtc_1 (i := 15) rfl
theorem mt_76 : MT[76]? = some E_X6_takeSum := mtc_1 (i := 16) rfl
theorem mt_77 : MT[77]? = some E_X6_takeAtom := mtc_1 (i := 17) rfl
theorem mt_78 : MT[78]? = some E_X6_takeAll := mtc_1 (i := 18) rfl
theorem mt_79 : MT[79]? = some E_X6_takeCondition := mtc_1 (i := 19) rfl
theorem mt_80 : MT[80]? = some E_X6_takeIf := mtc_1 (i := 20) rfl
theorem mt_81 : MT[81]? = some E_X6_takeRestOfLease := mtc_1 (i := 21) rfl
theorem mt_82 : MT[82]? = some E_X6_takeRestOfAct := mtc_1 (i := 22) rfl
theorem mt_83 : MT[83]? = some E_X6_takeLines := mtc_1 (i := 23) rfl
theorem mt_84 : MT[84]? = some E_X6_read := mtc_1 (i := 24) rfl
theorem mt_85 : MT[85]? = some E_X11_needText := mtc_1 (i := 25) rfl
theorem mt_86 : MT[86]? = some E_X9_inForce := mtc_1 (i := 26) rfl
theorem mt_87 : MT[87]? = some E_X9_textAt := mtc_1 (i := 27) rfl
theorem mt_88 : MT[88]? = some E_X8_get := mtc_1 (i := 28) rfl
theorem mt_89 : MT[89]? = some E_X8_lastOf := mtc_1 (i := 29) rfl
theorem mt_90 : MT[90]? = some E_X9_lastLine := mtc_1 (i := 30) rfl
theorem mt_91 : MT[91]? = some E_X0_lastLine := mtc_1 (i := 31) rfl
theorem mt_92 : MT[92]? = some E_X9_numberIn := mtc_1 (i := 32) rfl
theorem mt_93 : MT[93]? = some E_X0_yearsLet := mtc_1 (i := 33) rfl
theorem mt_94 : MT[94]? = some E_X2_isBetween := mtc_1 (i := 34) rfl
theorem mt_95 : MT[95]? = some E_X2_isWithin := mtc_1 (i := 35) rfl
theorem mt_96 : MT[96]? = some E_X0_isFree := mtc_1 (i := 36) rfl
theorem mt_97 : MT[97]? = some E_X3_note := mtc_1 (i := 37) rfl
theorem mt_98 : MT[98]? = some E_X0_noteWrong := mtc_1 (i := 38) rfl
theorem mt_99 : MT[99]? = some E_X1_isCell := mtc_1 (i := 39) rfl
theorem mt_100 : MT[100]? = some E_X1_set := mtc_1 (i := 40) rfl
theorem mt_101 : MT[101]? = some E_X1_open := mtc_1 (i := 41) rfl
theorem mt_102 : MT[102]? = some E_X1_get := mtc_1 (i := 42) rfl
theorem mt_103 : MT[103]? = some E_X11_capped := mtc_1 (i := 43) rfl
theorem mt_104 : MT[104]? = some E_X1_grow := mtc_1 (i := 44) rfl
theorem mt_105 : MT[105]? = some E_X0_openOn := mtc_1 (i := 45) rfl
theorem mt_106 : MT[106]? = some E_X0_openLease := mtc_1 (i := 46) rfl
theorem mt_107 : MT[107]? = some E_X8_init_ := mtc_1 (i := 47) rfl
theorem mt_108 : MT[108]? = some E_X6_newText := mtc_1 (i := 48) rfl
theorem mt_109 : MT[109]? = some E_X1_setLease := mtc_1 (i := 49) rfl
theorem mt_110 : MT[110]? = some E_X11_let := mtc_1 (i := 50) rfl
theorem mt_111 : MT[111]? = some E_L_let := mtc_1 (i := 51) rfl
theorem mt_112 : MT[112]? = some E_X12_uses := mtc_1 (i := 52) rfl
theorem mt_113 : MT[113]? = some E_X12_isAt := mtc_1 (i := 53) rfl
theorem mt_114 : MT[114]? = some E_X12_blanks := mtc_1 (i := 54) rfl
theorem mt_115 : MT[115]? = some E_X12_word := mtc_1 (i := 55) rfl
theorem mt_116 : MT[116]? = some E_X12_textAt := mtc_1 (i := 56) rfl
theorem mt_117 : MT[117]? = some E_X12_lineAt := mtc_1 (i := 57) rfl
theorem mt_118 : MT[118]? = some E_X12_isWord := mtc_1 (i := 58) rfl
theorem mt_119 : MT[119]? = some E_X12_wordOf := mtc_1 (i := 59) rfl
theorem mt_120 : MT[120]? = some E_X12_sortOf := mtc_2 (i := 0) rfl
theorem mt_121 : MT[121]? = some E_X12_number := mtc_2 (i := 1) rfl
theorem mt_122 : MT[122]? = some E_X12_tells := mtc_2 (i := 2) rfl
theorem mt_123 : MT[123]? = some E_X12_needs := mtc_2 (i := 3) rfl
theorem mt_124 : MT[124]? = some E_X12_readCrop := mtc_2 (i := 4) rfl
theorem mt_125 : MT[125]? = some E_X12_readThing := mtc_2 (i := 5) rfl
theorem mt_126 : MT[126]? = some E_X12_passes := mtc_2 (i := 6) rfl
theorem mt_127 : MT[127]? = some E_X12_sign := mtc_2 (i := 7) rfl
theorem mt_128 : MT[128]? = some E_X12_adds := mtc_2 (i := 8) rfl
theorem mt_129 : MT[129]? = some E_X12_fact := mtc_2 (i := 9) rfl
theorem mt_130 : MT[130]? = some E_X12_readPart := mtc_2 (i := 10) rfl
theorem mt_131 : MT[131]? = some E_X12_readSum := mtc_2 (i := 11) rfl
theorem mt_132 : MT[132]? = some E_X12_readAtom := mtc_2 (i := 12) rfl
theorem mt_133 : MT[133]? = some E_X12_readAllOf := mtc_2 (i := 13) rfl
theorem mt_134 : MT[134]? = some E_X12_readCond := mtc_2 (i := 14) rfl
theorem mt_135 : MT[135]? = some E_X12_readIf := mtc_2 (i := 15) rfl
theorem mt_136 : MT[136]? = some E_X12_readRest := mtc_2 (i := 16) rfl
theorem mt_137 : MT[137]? = some E_X12_readLine := mtc_2 (i := 17) rfl
theorem mt_138 : MT[138]? = some E_X12_readAll := mtc_2 (i := 18) rfl
theorem mt_139 : MT[139]? = some E_X12_reads := mtc_2 (i := 19) rfl
theorem mt_140 : MT[140]? = some E_X12_orders := mtc_2 (i := 20) rfl
theorem mt_141 : MT[141]? = some E_X12_linesOf := mtc_2 (i := 21) rfl
theorem mt_142 : MT[142]? = some E_X12_isStruck := mtc_2 (i := 22) rfl
theorem mt_143 : MT[143]? = some E_X12_isLine := mtc_2 (i := 23) rfl
theorem mt_144 : MT[144]? = some E_X12_lastLine := mtc_2 (i := 24) rfl
theorem mt_145 : MT[145]? = some E_X12_numberOf := mtc_2 (i := 25) rfl
theorem mt_146 : MT[146]? = some E_X12_isIn := mtc_2 (i := 26) rfl
theorem mt_147 : MT[147]? = some E_X12_areFree := mtc_2 (i := 27) rfl
theorem mt_148 : MT[148]? = some E_X12_holdingAt := mtc_2 (i := 28) rfl
theorem mt_149 : MT[149]? = some E_X12_begins := mtc_2 (i := 29) rfl
theorem mt_150 : MT[150]? = some E_X12_kept := mtc_2 (i := 30) rfl
theorem mt_151 : MT[151]? = some E_X12_sets := mtc_2 (i := 31) rfl
theorem mt_152 : MT[152]? = some E_X12_year := mtc_2 (i := 32) rfl
theorem mt_153 : MT[153]? = some E_X12_copies := mtc_2 (i := 33) rfl
theorem mt_154 : MT[154]? = some E_X12_errs := mtc_2 (i := 34) rfl
theorem mt_155 : MT[155]? = some E_X12_let := mtc_2 (i := 35) rfl
theorem mt_156 : MT[156]? = some E_X0_openKept := mtc_2 (i := 36) rfl
theorem mt_157 : MT[157]? = some E_X11_keep := mtc_2 (i := 37) rfl
theorem mt_158 : MT[158]? = some E_L_keep := mtc_2 (i := 38) rfl
theorem mt_159 : MT[159]? = some E_X12_keep := mtc_2 (i := 39) rfl
theorem mt_160 : MT[160]? = some E_X0_kindAt := mtc_2 (i := 40) rfl
theorem mt_161 : MT[161]? = some E_X1_isHand := mtc_2 (i := 41) rfl
theorem mt_162 : MT[162]? = some E_X11_needKind := mtc_2 (i := 42) rfl
theorem mt_163 : MT[163]? = some E_X11_sow := mtc_2 (i := 43) rfl
theorem mt_164 : MT[164]? = some E_L_sow := mtc_2 (i := 44) rfl
theorem mt_165 : MT[165]? = some E_X12_its := mtc_2 (i := 45) rfl
theorem mt_166 : MT[166]? = some E_X12_kindOf := mtc_2 (i := 46) rfl
theorem mt_167 : MT[167]? = some E_X12_sow := mtc_2 (i := 47) rfl
theorem mt_168 : MT[168]? = some E_X11_needHolding := mtc_2 (i := 48) rfl
theorem mt_169 : MT[169]? = some E_X11_notice := mtc_2 (i := 49) rfl
theorem mt_170 : MT[170]? = some E_L_notice := mtc_2 (i := 50) rfl
theorem mt_171 : MT[171]? = some E_X12_noHolding := mtc_2 (i := 51) rfl
theorem mt_172 : MT[172]? = some E_X12_fieldsOf := mtc_2 (i := 52) rfl
theorem mt_173 : MT[173]? = some E_X12_notice := mtc_2 (i := 53) rfl
theorem mt_174 : MT[174]? = some E_X1_isLet := mtc_2 (i := 54) rfl
theorem mt_175 : MT[175]? = some E_X0_close := mtc_2 (i := 55) rfl
theorem mt_176 : MT[176]? = some E_X11_give := mtc_2 (i := 56) rfl
theorem mt_177 : MT[177]? = some E_L_give := mtc_2 (i := 57) rfl
theorem mt_178 : MT[178]? = some E_X12_isLet := mtc_2 (i := 58) rfl
theorem mt_179 : MT[179]? = some E_X12_leaves := mtc_2 (i := 59) rfl
theorem mt_180 : MT[180]? = some E_X12_give := mtc_3 (i := 0) rfl
theorem mt_181 : MT[181]? = some E_X4_learnPrices := mtc_3 (i := 1) rfl
theorem mt_182 : MT[182]? = some E_X0_learnPrices := mtc_3 (i := 2) rfl
theorem mt_183 : MT[183]? = some E_X1_leaseOf := mtc_3 (i := 3) rfl
theorem mt_184 : MT[184]? = some E_X0_priceOf := mtc_3 (i := 4) rfl
theorem mt_185 : MT[185]? = some E_X2_growthOf := mtc_3 (i := 5) rfl
theorem mt_186 : MT[186]? = some E_X10_isBarred := mtc_3 (i := 6) rfl
theorem mt_187 : MT[187]? = some E_X10_chosenCrop := mtc_3 (i := 7) rfl
theorem mt_188 : MT[188]? = some E_X10_spring := mtc_3 (i := 8) rfl
theorem mt_189 : MT[189]? = some E_X2_harvest := mtc_3 (i := 9) rfl
theorem mt_190 : MT[190]? = some E_X3_addHarvest := mtc_3 (i := 10) rfl
theorem mt_191 : MT[191]? = some E_X3_addIncome := mtc_3 (i := 11) rfl
theorem mt_192 : MT[192]? = some E_X10_sellHarvest := mtc_3 (i := 12) rfl
theorem mt_193 : MT[193]? = some E_X7_add := mtc_3 (i := 13) rfl
theorem mt_194 : MT[194]? = some E_X10_summer := mtc_3 (i := 14) rfl
theorem mt_195 : MT[195]? = some E_X1_isOver := mtc_3 (i := 15) rfl
theorem mt_196 : MT[196]? = some E_X0_learnFacts := mtc_3 (i := 16) rfl
theorem mt_197 : MT[197]? = some E_X0_learnFactsOfTenant := mtc_3 (i := 17) rfl
theorem mt_198 : MT[198]? = some E_X8_step := mtc_3 (i := 18) rfl
theorem mt_199 : MT[199]? = some E_X8_holds := mtc_3 (i := 19) rfl
theorem mt_200 : MT[200]? = some E_X8_sumHolding := mtc_3 (i := 20) rfl
theorem mt_201 : MT[201]? = some E_X0_rentOf := mtc_3 (i := 21) rfl
theorem mt_202 : MT[202]? = some E_X10_harmOfGame := mtc_3 (i := 22) rfl
theorem mt_203 : MT[203]? = some E_X10_hundredthsPut := mtc_3 (i := 23) rfl
theorem mt_204 : MT[204]? = some E_X10_receive := mtc_3 (i := 24) rfl
theorem mt_205 : MT[205]? = some E_X10_takeRent := mtc_3 (i := 25) rfl
theorem mt_206 : MT[206]? = some E_X10_autumn := mtc_3 (i := 26) rfl
theorem mt_207 : MT[207]? = some E_X2_beside := mtc_3 (i := 27) rfl
theorem mt_208 : MT[208]? = some E_X10_isBesideWood := mtc_3 (i := 28) rfl
theorem mt_209 : MT[209]? = some E_X10_breedGame := mtc_3 (i := 29) rfl
theorem mt_210 : MT[210]? = some E_X10_growOlder := mtc_3 (i := 30) rfl
theorem mt_211 : MT[211]? = some E_X3_addCapital := mtc_3 (i := 31) rfl
theorem mt_212 : MT[212]? = some E_X0_takeIn := mtc_3 (i := 32) rfl
theorem mt_213 : MT[213]? = some E_X10_sink := mtc_3 (i := 33) rfl
theorem mt_214 : MT[214]? = some E_X10_dig := mtc_3 (i := 34) rfl
theorem mt_215 : MT[215]? = some E_X10_digMines := mtc_3 (i := 35) rfl
theorem mt_216 : MT[216]? = some E_X3_payLoans := mtc_3 (i := 36) rfl
theorem mt_217 : MT[217]? = some E_X0_learnFactsOfEstate := mtc_3 (i := 37) rfl
theorem mt_218 : MT[218]? = some E_X9_lastStrike := mtc_3 (i := 38) rfl
theorem mt_219 : MT[219]? = some E_X9_sumHolding := mtc_3 (i := 39) rfl
theorem mt_220 : MT[220]? = some E_X0_chargesNow := mtc_3 (i := 40) rfl
theorem mt_221 : MT[221]? = some E_X3_payCharges := mtc_3 (i := 41) rfl
theorem mt_222 : MT[222]? = some E_X10_isAtItsEnd := mtc_3 (i := 42) rfl
theorem mt_223 : MT[223]? = some E_X0_learnFactsOfField := mtc_3 (i := 43) rfl
theorem mt_224 : MT[224]? = some E_X0_leftOn := mtc_3 (i := 44) rfl
theorem mt_225 : MT[225]? = some E_X0_owedTo := mtc_3 (i := 45) rfl
theorem mt_226 : MT[226]? = some E_X10_goOut := mtc_3 (i := 46) rfl
theorem mt_227 : MT[227]? = some E_X10_endLeases := mtc_3 (i := 47) rfl
theorem mt_228 : MT[228]? = some E_X10_pass := mtc_3 (i := 48) rfl
theorem mt_229 : MT[229]? = some E_X11_seasons := mtc_3 (i := 49) rfl
theorem mt_230 : MT[230]? = some E_L_seasons := mtc_3 (i := 50) rfl
theorem mt_231 : MT[231]? = some E_X12_isBarred := mtc_3 (i := 51) rfl
theorem mt_232 : MT[232]? = some E_X12_priceOf := mtc_3 (i := 52) rfl
theorem mt_233 : MT[233]? = some E_X12_yieldOf := mtc_3 (i := 53) rfl
theorem mt_234 : MT[234]? = some E_X12_spring := mtc_3 (i := 54) rfl
theorem mt_235 : MT[235]? = some E_X12_income := mtc_3 (i := 55) rfl
theorem mt_236 : MT[236]? = some E_X12_writesRow := mtc_3 (i := 56) rfl
theorem mt_237 : MT[237]? = some E_X12_summer := mtc_3 (i := 57) rfl
theorem mt_238 : MT[238]? = some E_X12_looks := mtc_3 (i := 58) rfl
theorem mt_239 : MT[239]? = some E_X12_holds := mtc_3 (i := 59) rfl
theorem mt_240 : MT[240]? = some E_X12_rentOf := mtc_4 (i := 0) rfl
theorem mt_241 : MT[241]? = some E_X12_rentLess := mtc_4 (i := 1) rfl
theorem mt_242 : MT[242]? = some E_X12_paysRent := mtc_4 (i := 2) rfl
theorem mt_243 : MT[243]? = some E_X12_autumn := mtc_4 (i := 3) rfl
theorem mt_244 : MT[244]? = some E_X12_beside := mtc_4 (i := 4) rfl
theorem mt_245 : MT[245]? = some E_X12_isNearWood := mtc_4 (i := 5) rfl
theorem mt_246 : MT[246]? = some E_X12_grows := mtc_4 (i := 6) rfl
theorem mt_247 : MT[247]? = some E_X12_partOf := mtc_4 (i := 7) rfl
theorem mt_248 : MT[248]? = some E_X12_capital := mtc_4 (i := 8) rfl
theorem mt_249 : MT[249]? = some E_X12_comes := mtc_4 (i := 9) rfl
theorem mt_250 : MT[250]? = some E_X12_digs := mtc_4 (i := 10) rfl
theorem mt_251 : MT[251]? = some E_X12_paysLoan := mtc_4 (i := 11) rfl
theorem mt_252 : MT[252]? = some E_X12_charges := mtc_4 (i := 12) rfl
theorem mt_253 : MT[253]? = some E_X12_owedTo := mtc_4 (i := 13) rfl
theorem mt_254 : MT[254]? = some E_X12_goesOut := mtc_4 (i := 14) rfl
theorem mt_255 : MT[255]? = some E_X12_winter := mtc_4 (i := 15) rfl
theorem mt_256 : MT[256]? = some E_X12_seasons := mtc_4 (i := 16) rfl
theorem mt_257 : MT[257]? = some E_X11_needKnown := mtc_4 (i := 17) rfl
theorem mt_258 : MT[258]? = some E_X2_timberOf := mtc_4 (i := 18) rfl
theorem mt_259 : MT[259]? = some E_X2_worthOf := mtc_4 (i := 19) rfl
theorem mt_260 : MT[260]? = some E_X11_look := mtc_4 (i := 20) rfl
theorem mt_261 : MT[261]? = some E_L_look := mtc_4 (i := 21) rfl
theorem mt_262 : MT[262]? = some E_X12_worthOf := mtc_4 (i := 22) rfl
theorem mt_263 : MT[263]? = some E_X12_look := mtc_4 (i := 23) rfl
theorem mt_264 : MT[264]? = some E_X11_led := mtc_4 (i := 24) rfl
theorem mt_265 : MT[265]? = some E_L_led := mtc_4 (i := 25) rfl
theorem mt_266 : MT[266]? = some E_X12_led := mtc_4 (i := 26) rfl
theorem mt_267 : MT[267]? = some E_X11_owed := mtc_4 (i := 27) rfl
theorem mt_268 : MT[268]? = some E_L_owed := mtc_4 (i := 28) rfl
theorem mt_269 : MT[269]? = some E_X12_owed := mtc_4 (i := 29) rfl
theorem mt_270 : MT[270]? = some E_X11_rent := mtc_4 (i := 30) rfl
theorem mt_271 : MT[271]? = some E_L_rent := mtc_4 (i := 31) rfl
theorem mt_272 : MT[272]? = some E_X12_rent := mtc_4 (i := 32) rfl
theorem mt_273 : MT[273]? = some E_X1_rankOf := mtc_4 (i := 33) rfl
theorem mt_274 : MT[274]? = some E_X1_ofRank := mtc_4 (i := 34) rfl
theorem mt_275 : MT[275]? = some E_X11_arrears := mtc_4 (i := 35) rfl
theorem mt_276 : MT[276]? = some E_X12_arrears := mtc_4 (i := 36) rfl
theorem mt_277 : MT[277]? = some E_X11_needRoom := mtc_4 (i := 37) rfl
theorem mt_278 : MT[278]? = some E_X9_add := mtc_4 (i := 38) rfl
theorem mt_279 : MT[279]? = some E_X11_words := mtc_4 (i := 39) rfl
theorem mt_280 : MT[280]? = some E_L_words := mtc_4 (i := 40) rfl
theorem mt_281 : MT[281]? = some E_X12_words := mtc_4 (i := 41) rfl
theorem mt_282 : MT[282]? = some E_X11_fault := mtc_4 (i := 42) rfl
theorem mt_283 : MT[283]? = some E_X12_fault := mtc_4 (i := 43) rfl
theorem mt_284 : MT[284]? = some E_X8_firstHolding := mtc_4 (i := 44) rfl
theorem mt_285 : MT[285]? = some E_X9_firstHolding := mtc_4 (i := 45) rfl
theorem mt_286 : MT[286]? = some E_X0_lineThatLets := mtc_4 (i := 46) rfl
theorem mt_287 : MT[287]? = some E_X0_mostBorrowed := mtc_4 (i := 47) rfl
theorem mt_288 : MT[288]? = some E_X0_partOf := mtc_4 (i := 48) rfl
theorem mt_289 : MT[289]? = some E_X11_may := mtc_4 (i := 49) rfl
theorem mt_290 : MT[290]? = some E_L_may := mtc_4 (i := 50) rfl
theorem mt_291 : MT[291]? = some E_X12_mostOf := mtc_4 (i := 51) rfl
theorem mt_292 : MT[292]? = some E_X12_firstLine := mtc_4 (i := 52) rfl
theorem mt_293 : MT[293]? = some E_X12_may := mtc_4 (i := 53) rfl
theorem mt_294 : MT[294]? = some E_X0_firstCharge := mtc_4 (i := 54) rfl
theorem mt_295 : MT[295]? = some E_X11_why := mtc_4 (i := 55) rfl
theorem mt_296 : MT[296]? = some E_L_why := mtc_4 (i := 56) rfl
theorem mt_297 : MT[297]? = some E_X12_why := mtc_4 (i := 57) rfl
theorem mt_298 : MT[298]? = some E_X11_cut := mtc_4 (i := 58) rfl
theorem mt_299 : MT[299]? = some E_L_cut := mtc_4 (i := 59) rfl
theorem mt_300 : MT[300]? = some E_X12_cut := mtc_5 (i := 0) rfl
theorem mt_301 : MT[301]? = some E_X3_owedInAll := mtc_5 (i := 1) rfl
theorem mt_302 : MT[302]? = some E_X3_lend := mtc_5 (i := 2) rfl
theorem mt_303 : MT[303]? = some E_X11_loan := mtc_5 (i := 3) rfl
theorem mt_304 : MT[304]? = some E_L_loan := mtc_5 (i := 4) rfl
theorem mt_305 : MT[305]? = some E_X12_owedOnLoans := mtc_5 (i := 5) rfl
theorem mt_306 : MT[306]? = some E_X12_loan := mtc_5 (i := 6) rfl
theorem mt_307 : MT[307]? = some E_X11_owing := mtc_5 (i := 7) rfl
theorem mt_308 : MT[308]? = some E_L_owing := mtc_5 (i := 8) rfl
theorem mt_309 : MT[309]? = some E_X12_owing := mtc_5 (i := 9) rfl
theorem mt_310 : MT[310]? = some E_X0_payWork := mtc_5 (i := 10) rfl
theorem mt_311 : MT[311]? = some E_X11_work := mtc_5 (i := 11) rfl
theorem mt_312 : MT[312]? = some E_L_work := mtc_5 (i := 12) rfl
theorem mt_313 : MT[313]? = some E_X12_work := mtc_5 (i := 13) rfl
theorem mt_314 : MT[314]? = some E_X11_sell := mtc_5 (i := 14) rfl
theorem mt_315 : MT[315]? = some E_L_sell := mtc_5 (i := 15) rfl
theorem mt_316 : MT[316]? = some E_X12_sell := mtc_5 (i := 16) rfl
theorem mt_317 : MT[317]? = some E_X3_passOn := mtc_5 (i := 17) rfl
theorem mt_318 : MT[318]? = some E_X11_heir := mtc_5 (i := 18) rfl
theorem mt_319 : MT[319]? = some E_X12_heir := mtc_5 (i := 19) rfl
theorem mt_320 : MT[320]? = some E_X3_wrongNote := mtc_5 (i := 20) rfl
theorem mt_321 : MT[321]? = some E_X11_wrong := mtc_5 (i := 21) rfl
theorem mt_322 : MT[322]? = some E_L_wrong := mtc_5 (i := 22) rfl
theorem mt_323 : MT[323]? = some E_X12_wrong := mtc_5 (i := 23) rfl
theorem mt_324 : MT[324]? = some E_X5_addJob := mtc_5 (i := 24) rfl
theorem mt_325 : MT[325]? = some E_X11_job := mtc_5 (i := 25) rfl
theorem mt_326 : MT[326]? = some E_L_job := mtc_5 (i := 26) rfl
theorem mt_327 : MT[327]? = some E_X12_job := mtc_5 (i := 27) rfl
theorem mt_328 : MT[328]? = some E_X5_addTrouble := mtc_5 (i := 28) rfl
theorem mt_329 : MT[329]? = some E_X11_trouble := mtc_5 (i := 29) rfl
theorem mt_330 : MT[330]? = some E_L_trouble := mtc_5 (i := 30) rfl
theorem mt_331 : MT[331]? = some E_X12_trouble := mtc_5 (i := 31) rfl
theorem mt_332 : MT[332]? = some E_X5_jobsIn := mtc_5 (i := 32) rfl
theorem mt_333 : MT[333]? = some E_X5_endOf := mtc_5 (i := 33) rfl
theorem mt_334 : MT[334]? = some E_X5_leastEnd := mtc_5 (i := 34) rfl
theorem mt_335 : MT[335]? = some E_X11_worth := mtc_5 (i := 35) rfl
theorem mt_336 : MT[336]? = some E_L_worth := mtc_5 (i := 36) rfl
theorem mt_337 : MT[337]? = some E_X12_noPlan := mtc_5 (i := 37) rfl
theorem mt_338 : MT[338]? = some E_X12_endsWith := mtc_5 (i := 38) rfl
theorem mt_339 : MT[339]? = some E_X12_worthOfSet := mtc_5 (i := 39) rfl
theorem mt_340 : MT[340]? = some E_X12_worth := mtc_5 (i := 40) rfl
theorem mt_341 : MT[341]? = some E_J6_bitCount_0f7a4 := mtc_5 (i := 41) rfl
theorem mt_342 : MT[342]? = some E_X5_bestSet := mtc_5 (i := 42) rfl
theorem mt_343 : MT[343]? = some E_X11_best := mtc_5 (i := 43) rfl
theorem mt_344 : MT[344]? = some E_L_best := mtc_5 (i := 44) rfl
theorem mt_345 : MT[345]? = some E_X12_best := mtc_5 (i := 45) rfl
theorem mt_346 : MT[346]? = some E_X0_isIn := mtc_5 (i := 46) rfl
theorem mt_347 : MT[347]? = some E_X0_worthTogether := mtc_5 (i := 47) rfl
theorem mt_348 : MT[348]? = some E_X0_partedPairs := mtc_5 (i := 48) rfl
theorem mt_349 : MT[349]? = some E_X0_bestSale := mtc_5 (i := 49) rfl
theorem mt_350 : MT[350]? = some E_X11_toSell := mtc_5 (i := 50) rfl
theorem mt_351 : MT[351]? = some E_L_toSell := mtc_5 (i := 51) rfl
theorem mt_352 : MT[352]? = some E_X12_isOf := mtc_5 (i := 52) rfl
theorem mt_353 : MT[353]? = some E_X12_parted := mtc_5 (i := 53) rfl
theorem mt_354 : MT[354]? = some E_X12_toSell := mtc_5 (i := 54) rfl
theorem mt_355 : MT[355]? = some E_X11_row := mtc_5 (i := 55) rfl
theorem mt_356 : MT[356]? = some E_L_row := mtc_5 (i := 56) rfl
theorem mt_357 : MT[357]? = some E_X12_noRow := mtc_5 (i := 57) rfl
theorem mt_358 : MT[358]? = some E_X12_row := mtc_5 (i := 58) rfl
theorem mt_359 : MT[359]? = some E_X11_tear := mtc_5 (i := 59) rfl
theorem mt_360 : MT[360]? = some E_L_tear := mtc_6 (i := 0) rfl
theorem mt_361 : MT[361]? = some E_X12_tear := mtc_6 (i := 1) rfl
theorem mt_362 : MT[362]? = some E_X7_firstFalse := mtc_6 (i := 2) rfl
theorem mt_363 : MT[363]? = some E_X11_check := mtc_6 (i := 3) rfl
theorem mt_364 : MT[364]? = some E_X12_check := mtc_6 (i := 4) rfl
theorem mt_365 : MT[365]? = some E_X9_copyFrom := mtc_6 (i := 5) rfl
theorem mt_366 : MT[366]? = some E_X2_copyFrom := mtc_6 (i := 6) rfl
theorem mt_367 : MT[367]? = some E_X1_copyFrom := mtc_6 (i := 7) rfl
theorem mt_368 : MT[368]? = some E_X4_copyFrom := mtc_6 (i := 8) rfl
theorem mt_369 : MT[369]? = some E_X3_copyFrom := mtc_6 (i := 9) rfl
theorem mt_370 : MT[370]? = some E_X5_copyFrom := mtc_6 (i := 10) rfl
theorem mt_371 : MT[371]? = some E_X7_copyFrom := mtc_6 (i := 11) rfl
theorem mt_372 : MT[372]? = some E_X0_copyFrom := mtc_6 (i := 12) rfl
theorem mt_373 : MT[373]? = some E_X11_image := mtc_6 (i := 13) rfl
theorem mt_374 : MT[374]? = some E_X12_image := mtc_6 (i := 14) rfl
theorem mt_375 : MT[375]? = some E_X11_back := mtc_6 (i := 15) rfl
theorem mt_376 : MT[376]? = some E_X12_back := mtc_6 (i := 16) rfl
theorem mt_377 : MT[377]? = some E_X1_goingOn := mtc_6 (i := 17) rfl
theorem mt_378 : MT[378]? = some E_X1_sumOf := mtc_6 (i := 18) rfl
theorem mt_379 : MT[379]? = some E_X9_linesOf := mtc_6 (i := 19) rfl
theorem mt_380 : MT[380]? = some E_X9_linesInForce := mtc_6 (i := 20) rfl
theorem mt_381 : MT[381]? = some E_X2_soldFields := mtc_6 (i := 21) rfl
theorem mt_382 : MT[382]? = some E_X3_told := mtc_6 (i := 22) rfl
theorem mt_383 : MT[383]? = some E_X11_count := mtc_6 (i := 23) rfl
theorem mt_384 : MT[384]? = some E_X12_sumOf := mtc_6 (i := 24) rfl
theorem mt_385 : MT[385]? = some E_X12_linesInForce := mtc_6 (i := 25) rfl
theorem mt_386 : MT[386]? = some E_X12_count := mtc_6 (i := 26) rfl
noncomputable def ex (S : sT) (d : Nat) : cT := exec S MT dflT d
theorem onR_0 (r : rO) : onlyR 0 r = r := rfl
theorem bif_1 (a b : rO) : (bif true then a else b) = a := rfl
theorem FUL_0 : FUL 0 = 100000 := rfl
theorem ex_df (S : sT) (d : Nat) : exec S MT dflT d = ex S d := rfl
theorem ex_go (S : sT) (d k : Nat) {E : mE} {Y : mY} (h1 : MT[k]? = some E) (hY : E.1 = Y) (hm : E.2.2.1 = 0) (av : List Value) (lc : pL) (hl : lent av ++ List.replicate (mYl Y - (lent av).length) none = lc) (hb : Nat.ble (lent av).length (mYl Y) = true) (h : pH) : ex S (d + 1) k av h = bd S (ex S d) dflT E 100000 0 lc [] h := by
  subst hY hl
  show (match MT[k]? with | none => none | some E => _) = _
  rw [h1]
  show (bif Nat.ble (lent av).length (mYl E.1) then onlyR E.2.2.1 (bd S (exec S MT dflT d) dflT E (FUL E.2.2.1) 0 (lent av ++ List.replicate (mYl E.1 - (lent av).length) none) [] h) else none) = _
  rw [hb, hm, bif_1, onR_0, FUL_0, ex_df]
theorem ex_goH (S : sT) (d k : Nat) {E : mE} {Y : mY} (h1 : MT[k]? = some E) (hY : E.1 = Y) (hm : E.2.2.1 = 1) (av : List Value) (lc : pL) (hl : lent av ++ List.replicate (mYl Y - (lent av).length) none = lc) (hb : Nat.ble (lent av).length (mYl Y) = true) (h : pH) : ex S (d + 1) k av h = onlyR 1 (bd S (ex S d) dflT E 10 0 lc [] h) := by
  subst hY hl
  show (match MT[k]? with | none => none | some E => _) = _
  rw [h1]
  show (bif Nat.ble (lent av).length (mYl E.1) then onlyR E.2.2.1 (bd S (exec S MT dflT d) dflT E (FUL E.2.2.1) 0 (lent av ++ List.replicate (mYl E.1 - (lent av).length) none) [] h) else none) = _
  rw [hb, hm]
  rfl
theorem e1_0 : E_X6_init.1 = mX6_init := rfl
theorem e1_1 : E_X9_init.1 = mX9_init := rfl
theorem e1_2 : E_X2_init.1 = mX2_init := rfl
theorem e1_3 : E_X8_init.1 = mX8_init := rfl
theorem e1_4 : E_X1_init.1 = mX1_init := rfl
theorem e1_5 : E_X4_init.1 = mX4_init := rfl
theorem e1_6 : E_X3_init.1 = mX3_init := rfl
theorem e1_7 : E_X5_init.1 = mX5_init := rfl
theorem e1_8 : E_X7_init.1 = mX7_init := rfl
theorem e1_9 : E_X0_init.1 = mX0_init := rfl
theorem e1_10 : E_X10_init.1 = mX10_init := rfl
theorem e1_11 : E_X11_init.1 = mX11_init := rfl
theorem e1_12 : E_X12_at.1 = mX12_at := rfl
theorem e1_13 : E_X12_init.1 = mX12_init := rfl
theorem e1_14 : E_X6_addBytes.1 = mX6_addBytes := rfl
theorem e1_15 : E_X11_feed.1 = mX11_feed := rfl
theorem e1_16 : E_X12_feed.1 = mX12_feed := rfl
theorem e1_17 : E_X11_end.1 = mX11_end := rfl
theorem e1_18 : E_X12_end.1 = mX12_end := rfl
theorem e1_19 : E_X11_needIndex.1 = mX11_needIndex := rfl
theorem e1_20 : E_X11_needField.1 = mX11_needField := rfl
theorem e1_21 : E_X11_needWithin.1 = mX11_needWithin := rfl
theorem e1_22 : E_X2_isCell.1 = mX2_isCell := rfl
theorem e1_23 : E_X2_get.1 = mX2_get := rfl
theorem e1_24 : E_X2_isSold.1 = mX2_isSold := rfl
theorem e1_25 : E_X2_set.1 = mX2_set := rfl
theorem e1_26 : E_X11_field.1 = mX11_field := rfl
theorem e1_27 : E_L_field.1 = mL_field := rfl
theorem e1_28 : E_X12_in.1 = mX12_in := rfl
theorem e1_29 : E_X12_noField.1 = mX12_noField := rfl
theorem e1_30 : E_X12_throwsIf.1 = mX12_throwsIf := rfl
theorem e1_31 : E_X12_of.1 = mX12_of := rfl
theorem e1_32 : E_X12_field.1 = mX12_field := rfl
theorem e1_33 : E_X12_thrown.1 = mX12_thrown := rfl
theorem e1_34 : E_X4_setRain.1 = mX4_setRain := rfl
theorem e1_35 : E_X11_rain.1 = mX11_rain := rfl
theorem e1_36 : E_L_rain.1 = mL_rain := rfl
theorem e1_37 : E_X12_rain.1 = mX12_rain := rfl
theorem e1_38 : E_X4_toldRain.1 = mX4_toldRain := rfl
theorem e1_39 : E_X4_rainOf.1 = mX4_rainOf := rfl
theorem e1_40 : E_X11_fell.1 = mX11_fell := rfl
theorem e1_41 : E_L_fell.1 = mL_fell := rfl
theorem e1_42 : E_X12_rainTold.1 = mX12_rainTold := rfl
theorem e1_43 : E_X12_rainOf.1 = mX12_rainOf := rfl
theorem e1_44 : E_X12_fell.1 = mX12_fell := rfl
theorem e1_45 : E_X4_tell.1 = mX4_tell := rfl
theorem e1_46 : E_X11_price.1 = mX11_price := rfl
theorem e1_47 : E_L_price.1 = mL_price := rfl
theorem e1_48 : E_X12_season.1 = mX12_season := rfl
theorem e1_49 : E_X12_price.1 = mX12_price := rfl
theorem e1_50 : E_X4_priceAt.1 = mX4_priceAt := rfl
theorem e1_51 : E_X11_known.1 = mX11_known := rfl
theorem e1_52 : E_L_known.1 = mL_known := rfl
theorem e1_53 : E_X12_knownOf.1 = mX12_knownOf := rfl
theorem e1_54 : E_X12_known.1 = mX12_known := rfl
theorem e1_55 : E_X6_useTape.1 = mX6_useTape := rfl
theorem e1_56 : E_X6_isLetter.1 = mX6_isLetter := rfl
theorem e1_57 : E_J0_coder_7d493.1 = mJ0_coder_7d493 := rfl
theorem e1_58 : E_J0_length_8abf5.1 = mJ0_length_8abf5 := rfl
theorem e1_59 : E_J0_isLatin1_aae02.1 = mJ0_isLatin1_aae02 := rfl
theorem e1_60 : E_J0_checkIndex_df160.1 = mJ0_checkIndex_df160 := rfl
theorem e1_61 : E_J1_charAt_3b067.1 = mJ1_charAt_3b067 := rfl
theorem e1_62 : E_J0_charAt_5068e.1 = mJ0_charAt_5068e := rfl
theorem e1_63 : E_X6_wordFrom.1 = mX6_wordFrom := rfl
theorem e1_64 : E_X6_isDigit.1 = mX6_isDigit := rfl
theorem e1_65 : E_X6_next.1 = mX6_next := rfl
theorem e1_66 : E_X6_write.1 = mX6_write := rfl
theorem e1_67 : E_X6_takeVerb.1 = mX6_takeVerb := rfl
theorem e1_68 : E_X6_takeNumber.1 = mX6_takeNumber := rfl
theorem e1_69 : E_X6_isWord.1 = mX6_isWord := rfl
theorem e1_70 : E_X6_takeWord.1 = mX6_takeWord := rfl
theorem e1_71 : E_X6_takeCrop.1 = mX6_takeCrop := rfl
theorem e1_72 : E_X6_takeOneOf.1 = mX6_takeOneOf := rfl
theorem e1_73 : E_X6_isSign.1 = mX6_isSign := rfl
theorem e1_74 : E_X6_takeSign.1 = mX6_takeSign := rfl
theorem e1_75 : E_X6_emit.1 = mX6_emit := rfl
theorem e1_76 : E_X6_takeSum.1 = mX6_takeSum := rfl
theorem e1_77 : E_X6_takeAtom.1 = mX6_takeAtom := rfl
theorem e1_78 : E_X6_takeAll.1 = mX6_takeAll := rfl
theorem e1_79 : E_X6_takeCondition.1 = mX6_takeCondition := rfl
theorem e1_80 : E_X6_takeIf.1 = mX6_takeIf := rfl
theorem e1_81 : E_X6_takeRestOfLease.1 = mX6_takeRestOfLease := rfl
theorem e1_82 : E_X6_takeRestOfAct.1 = mX6_takeRestOfAct := rfl
theorem e1_83 : E_X6_takeLines.1 = mX6_takeLines := rfl
theorem e1_84 : E_X6_read.1 = mX6_read := rfl
theorem e1_85 : E_X11_needText.1 = mX11_needText := rfl
theorem e1_86 : E_X9_inForce.1 = mX9_inForce := rfl
theorem e1_87 : E_X9_textAt.1 = mX9_textAt := rfl
theorem e1_88 : E_X8_get.1 = mX8_get := rfl
theorem e1_89 : E_X8_lastOf.1 = mX8_lastOf := rfl
theorem e1_90 : E_X9_lastLine.1 = mX9_lastLine := rfl
theorem e1_91 : E_X0_lastLine.1 = mX0_lastLine := rfl
theorem e1_92 : E_X9_numberIn.1 = mX9_numberIn := rfl
theorem e1_93 : E_X0_yearsLet.1 = mX0_yearsLet := rfl
theorem e1_94 : E_X2_isBetween.1 = mX2_isBetween := rfl
theorem e1_95 : E_X2_isWithin.1 = mX2_isWithin := rfl
theorem e1_96 : E_X0_isFree.1 = mX0_isFree := rfl
theorem e1_97 : E_X3_note.1 = mX3_note := rfl
theorem e1_98 : E_X0_noteWrong.1 = mX0_noteWrong := rfl
theorem e1_99 : E_X1_isCell.1 = mX1_isCell := rfl
theorem e1_100 : E_X1_set.1 = mX1_set := rfl
theorem e1_101 : E_X1_open.1 = mX1_open := rfl
theorem e1_102 : E_X1_get.1 = mX1_get := rfl
theorem e1_103 : E_X11_capped.1 = mX11_capped := rfl
theorem e1_104 : E_X1_grow.1 = mX1_grow := rfl
theorem e1_105 : E_X0_openOn.1 = mX0_openOn := rfl
theorem e1_106 : E_X0_openLease.1 = mX0_openLease := rfl
theorem e1_107 : E_X8_init_.1 = mX8_init_ := rfl
theorem e1_108 : E_X6_newText.1 = mX6_newText := rfl
theorem e1_109 : E_X1_setLease.1 = mX1_setLease := rfl
theorem e1_110 : E_X11_let.1 = mX11_let := rfl
theorem e1_111 : E_L_let.1 = mL_let := rfl
theorem e1_112 : E_X12_uses.1 = mX12_uses := rfl
theorem e1_113 : E_X12_isAt.1 = mX12_isAt := rfl
theorem e1_114 : E_X12_blanks.1 = mX12_blanks := rfl
theorem e1_115 : E_X12_word.1 = mX12_word := rfl
theorem e1_116 : E_X12_textAt.1 = mX12_textAt := rfl
theorem e1_117 : E_X12_lineAt.1 = mX12_lineAt := rfl
theorem e1_118 : E_X12_isWord.1 = mX12_isWord := rfl
theorem e1_119 : E_X12_wordOf.1 = mX12_wordOf := rfl
theorem e1_120 : E_X12_sortOf.1 = mX12_sortOf := rfl
theorem e1_121 : E_X12_number.1 = mX12_number := rfl
theorem e1_122 : E_X12_tells.1 = mX12_tells := rfl
theorem e1_123 : E_X12_needs.1 = mX12_needs := rfl
theorem e1_124 : E_X12_readCrop.1 = mX12_readCrop := rfl
theorem e1_125 : E_X12_readThing.1 = mX12_readThing := rfl
theorem e1_126 : E_X12_passes.1 = mX12_passes := rfl
theorem e1_127 : E_X12_sign.1 = mX12_sign := rfl
theorem e1_128 : E_X12_adds.1 = mX12_adds := rfl
theorem e1_129 : E_X12_fact.1 = mX12_fact := rfl
theorem e1_130 : E_X12_readPart.1 = mX12_readPart := rfl
theorem e1_131 : E_X12_readSum.1 = mX12_readSum := rfl
theorem e1_132 : E_X12_readAtom.1 = mX12_readAtom := rfl
theorem e1_133 : E_X12_readAllOf.1 = mX12_readAllOf := rfl
theorem e1_134 : E_X12_readCond.1 = mX12_readCond := rfl
theorem e1_135 : E_X12_readIf.1 = mX12_readIf := rfl
theorem e1_136 : E_X12_readRest.1 = mX12_readRest := rfl
theorem e1_137 : E_X12_readLine.1 = mX12_readLine := rfl
theorem e1_138 : E_X12_readAll.1 = mX12_readAll := rfl
theorem e1_139 : E_X12_reads.1 = mX12_reads := rfl
theorem e1_140 : E_X12_orders.1 = mX12_orders := rfl
theorem e1_141 : E_X12_linesOf.1 = mX12_linesOf := rfl
theorem e1_142 : E_X12_isStruck.1 = mX12_isStruck := rfl
theorem e1_143 : E_X12_isLine.1 = mX12_isLine := rfl
theorem e1_144 : E_X12_lastLine.1 = mX12_lastLine := rfl
theorem e1_145 : E_X12_numberOf.1 = mX12_numberOf := rfl
theorem e1_146 : E_X12_isIn.1 = mX12_isIn := rfl
theorem e1_147 : E_X12_areFree.1 = mX12_areFree := rfl
theorem e1_148 : E_X12_holdingAt.1 = mX12_holdingAt := rfl
theorem e1_149 : E_X12_begins.1 = mX12_begins := rfl
theorem e1_150 : E_X12_kept.1 = mX12_kept := rfl
theorem e1_151 : E_X12_sets.1 = mX12_sets := rfl
theorem e1_152 : E_X12_year.1 = mX12_year := rfl
theorem e1_153 : E_X12_copies.1 = mX12_copies := rfl
theorem e1_154 : E_X12_errs.1 = mX12_errs := rfl
theorem e1_155 : E_X12_let.1 = mX12_let := rfl
theorem e1_156 : E_X0_openKept.1 = mX0_openKept := rfl
theorem e1_157 : E_X11_keep.1 = mX11_keep := rfl
theorem e1_158 : E_L_keep.1 = mL_keep := rfl
theorem e1_159 : E_X12_keep.1 = mX12_keep := rfl
theorem e1_160 : E_X0_kindAt.1 = mX0_kindAt := rfl
theorem e1_161 : E_X1_isHand.1 = mX1_isHand := rfl
theorem e1_162 : E_X11_needKind.1 = mX11_needKind := rfl
theorem e1_163 : E_X11_sow.1 = mX11_sow := rfl
theorem e1_164 : E_L_sow.1 = mL_sow := rfl
theorem e1_165 : E_X12_its.1 = mX12_its := rfl
theorem e1_166 : E_X12_kindOf.1 = mX12_kindOf := rfl
theorem e1_167 : E_X12_sow.1 = mX12_sow := rfl
theorem e1_168 : E_X11_needHolding.1 = mX11_needHolding := rfl
theorem e1_169 : E_X11_notice.1 = mX11_notice := rfl
theorem e1_170 : E_L_notice.1 = mL_notice := rfl
theorem e1_171 : E_X12_noHolding.1 = mX12_noHolding := rfl
theorem e1_172 : E_X12_fieldsOf.1 = mX12_fieldsOf := rfl
theorem e1_173 : E_X12_notice.1 = mX12_notice := rfl
theorem e1_174 : E_X1_isLet.1 = mX1_isLet := rfl
theorem e1_175 : E_X0_close.1 = mX0_close := rfl
theorem e1_176 : E_X11_give.1 = mX11_give := rfl
theorem e1_177 : E_L_give.1 = mL_give := rfl
theorem e1_178 : E_X12_isLet.1 = mX12_isLet := rfl
theorem e1_179 : E_X12_leaves.1 = mX12_leaves := rfl
theorem e1_180 : E_X12_give.1 = mX12_give := rfl
theorem e1_181 : E_X4_learnPrices.1 = mX4_learnPrices := rfl
theorem e1_182 : E_X0_learnPrices.1 = mX0_learnPrices := rfl
theorem e1_183 : E_X1_leaseOf.1 = mX1_leaseOf := rfl
theorem e1_184 : E_X0_priceOf.1 = mX0_priceOf := rfl
theorem e1_185 : E_X2_growthOf.1 = mX2_growthOf := rfl
theorem e1_186 : E_X10_isBarred.1 = mX10_isBarred := rfl
theorem e1_187 : E_X10_chosenCrop.1 = mX10_chosenCrop := rfl
theorem e1_188 : E_X10_spring.1 = mX10_spring := rfl
theorem e1_189 : E_X2_harvest.1 = mX2_harvest := rfl
theorem e1_190 : E_X3_addHarvest.1 = mX3_addHarvest := rfl
theorem e1_191 : E_X3_addIncome.1 = mX3_addIncome := rfl
theorem e1_192 : E_X10_sellHarvest.1 = mX10_sellHarvest := rfl
theorem e1_193 : E_X7_add.1 = mX7_add := rfl
theorem e1_194 : E_X10_summer.1 = mX10_summer := rfl
theorem e1_195 : E_X1_isOver.1 = mX1_isOver := rfl
theorem e1_196 : E_X0_learnFacts.1 = mX0_learnFacts := rfl
theorem e1_197 : E_X0_learnFactsOfTenant.1 = mX0_learnFactsOfTenant := rfl
theorem e1_198 : E_X8_step.1 = mX8_step := rfl
theorem e1_199 : E_X8_holds.1 = mX8_holds := rfl
theorem e1_200 : E_X8_sumHolding.1 = mX8_sumHolding := rfl
theorem e1_201 : E_X0_rentOf.1 = mX0_rentOf := rfl
theorem e1_202 : E_X10_harmOfGame.1 = mX10_harmOfGame := rfl
theorem e1_203 : E_X10_hundredthsPut.1 = mX10_hundredthsPut := rfl
theorem e1_204 : E_X10_receive.1 = mX10_receive := rfl
theorem e1_205 : E_X10_takeRent.1 = mX10_takeRent := rfl
theorem e1_206 : E_X10_autumn.1 = mX10_autumn := rfl
theorem e1_207 : E_X2_beside.1 = mX2_beside := rfl
theorem e1_208 : E_X10_isBesideWood.1 = mX10_isBesideWood := rfl
theorem e1_209 : E_X10_breedGame.1 = mX10_breedGame := rfl
theorem e1_210 : E_X10_growOlder.1 = mX10_growOlder := rfl
theorem e1_211 : E_X3_addCapital.1 = mX3_addCapital := rfl
theorem e1_212 : E_X0_takeIn.1 = mX0_takeIn := rfl
theorem e1_213 : E_X10_sink.1 = mX10_sink := rfl
theorem e1_214 : E_X10_dig.1 = mX10_dig := rfl
theorem e1_215 : E_X10_digMines.1 = mX10_digMines := rfl
theorem e1_216 : E_X3_payLoans.1 = mX3_payLoans := rfl
theorem e1_217 : E_X0_learnFactsOfEstate.1 = mX0_learnFactsOfEstate := rfl
theorem e1_218 : E_X9_lastStrike.1 = mX9_lastStrike := rfl
theorem e1_219 : E_X9_sumHolding.1 = mX9_sumHolding := rfl
theorem e1_220 : E_X0_chargesNow.1 = mX0_chargesNow := rfl
theorem e1_221 : E_X3_payCharges.1 = mX3_payCharges := rfl
theorem e1_222 : E_X10_isAtItsEnd.1 = mX10_isAtItsEnd := rfl
theorem e1_223 : E_X0_learnFactsOfField.1 = mX0_learnFactsOfField := rfl
theorem e1_224 : E_X0_leftOn.1 = mX0_leftOn := rfl
theorem e1_225 : E_X0_owedTo.1 = mX0_owedTo := rfl
theorem e1_226 : E_X10_goOut.1 = mX10_goOut := rfl
theorem e1_227 : E_X10_endLeases.1 = mX10_endLeases := rfl
theorem e1_228 : E_X10_pass.1 = mX10_pass := rfl
theorem e1_229 : E_X11_seasons.1 = mX11_seasons := rfl
theorem e1_230 : E_L_seasons.1 = mL_seasons := rfl
theorem e1_231 : E_X12_isBarred.1 = mX12_isBarred := rfl
theorem e1_232 : E_X12_priceOf.1 = mX12_priceOf := rfl
theorem e1_233 : E_X12_yieldOf.1 = mX12_yieldOf := rfl
theorem e1_234 : E_X12_spring.1 = mX12_spring := rfl
theorem e1_235 : E_X12_income.1 = mX12_income := rfl
theorem e1_236 : E_X12_writesRow.1 = mX12_writesRow := rfl
theorem e1_237 : E_X12_summer.1 = mX12_summer := rfl
theorem e1_238 : E_X12_looks.1 = mX12_looks := rfl
theorem e1_239 : E_X12_holds.1 = mX12_holds := rfl
theorem e1_240 : E_X12_rentOf.1 = mX12_rentOf := rfl
theorem e1_241 : E_X12_rentLess.1 = mX12_rentLess := rfl
theorem e1_242 : E_X12_paysRent.1 = mX12_paysRent := rfl
theorem e1_243 : E_X12_autumn.1 = mX12_autumn := rfl
theorem e1_244 : E_X12_beside.1 = mX12_beside := rfl
theorem e1_245 : E_X12_isNearWood.1 = mX12_isNearWood := rfl
theorem e1_246 : E_X12_grows.1 = mX12_grows := rfl
theorem e1_247 : E_X12_partOf.1 = mX12_partOf := rfl
theorem e1_248 : E_X12_capital.1 = mX12_capital := rfl
theorem e1_249 : E_X12_comes.1 = mX12_comes := rfl
theorem e1_250 : E_X12_digs.1 = mX12_digs := rfl
theorem e1_251 : E_X12_paysLoan.1 = mX12_paysLoan := rfl
theorem e1_252 : E_X12_charges.1 = mX12_charges := rfl
theorem e1_253 : E_X12_owedTo.1 = mX12_owedTo := rfl
theorem e1_254 : E_X12_goesOut.1 = mX12_goesOut := rfl
theorem e1_255 : E_X12_winter.1 = mX12_winter := rfl
theorem e1_256 : E_X12_seasons.1 = mX12_seasons := rfl
theorem e1_257 : E_X11_needKnown.1 = mX11_needKnown := rfl
theorem e1_258 : E_X2_timberOf.1 = mX2_timberOf := rfl
theorem e1_259 : E_X2_worthOf.1 = mX2_worthOf := rfl
theorem e1_260 : E_X11_look.1 = mX11_look := rfl
theorem e1_261 : E_L_look.1 = mL_look := rfl
theorem e1_262 : E_X12_worthOf.1 = mX12_worthOf := rfl
theorem e1_263 : E_X12_look.1 = mX12_look := rfl
theorem e1_264 : E_X11_led.1 = mX11_led := rfl
theorem e1_265 : E_L_led.1 = mL_led := rfl
theorem e1_266 : E_X12_led.1 = mX12_led := rfl
theorem e1_267 : E_X11_owed.1 = mX11_owed := rfl
theorem e1_268 : E_L_owed.1 = mL_owed := rfl
theorem e1_269 : E_X12_owed.1 = mX12_owed := rfl
theorem e1_270 : E_X11_rent.1 = mX11_rent := rfl
theorem e1_271 : E_L_rent.1 = mL_rent := rfl
theorem e1_272 : E_X12_rent.1 = mX12_rent := rfl
theorem e1_273 : E_X1_rankOf.1 = mX1_rankOf := rfl
theorem e1_274 : E_X1_ofRank.1 = mX1_ofRank := rfl
theorem e1_275 : E_X11_arrears.1 = mX11_arrears := rfl
theorem e1_276 : E_X12_arrears.1 = mX12_arrears := rfl
theorem e1_277 : E_X11_needRoom.1 = mX11_needRoom := rfl
theorem e1_278 : E_X9_add.1 = mX9_add := rfl
theorem e1_279 : E_X11_words.1 = mX11_words := rfl
theorem e1_280 : E_L_words.1 = mL_words := rfl
theorem e1_281 : E_X12_words.1 = mX12_words := rfl
theorem e1_282 : E_X11_fault.1 = mX11_fault := rfl
theorem e1_283 : E_X12_fault.1 = mX12_fault := rfl
theorem e1_284 : E_X8_firstHolding.1 = mX8_firstHolding := rfl
theorem e1_285 : E_X9_firstHolding.1 = mX9_firstHolding := rfl
theorem e1_286 : E_X0_lineThatLets.1 = mX0_lineThatLets := rfl
theorem e1_287 : E_X0_mostBorrowed.1 = mX0_mostBorrowed := rfl
theorem e1_288 : E_X0_partOf.1 = mX0_partOf := rfl
theorem e1_289 : E_X11_may.1 = mX11_may := rfl
theorem e1_290 : E_L_may.1 = mL_may := rfl
theorem e1_291 : E_X12_mostOf.1 = mX12_mostOf := rfl
theorem e1_292 : E_X12_firstLine.1 = mX12_firstLine := rfl
theorem e1_293 : E_X12_may.1 = mX12_may := rfl
theorem e1_294 : E_X0_firstCharge.1 = mX0_firstCharge := rfl
theorem e1_295 : E_X11_why.1 = mX11_why := rfl
theorem e1_296 : E_L_why.1 = mL_why := rfl
theorem e1_297 : E_X12_why.1 = mX12_why := rfl
theorem e1_298 : E_X11_cut.1 = mX11_cut := rfl
theorem e1_299 : E_L_cut.1 = mL_cut := rfl
theorem e1_300 : E_X12_cut.1 = mX12_cut := rfl
theorem e1_301 : E_X3_owedInAll.1 = mX3_owedInAll := rfl
theorem e1_302 : E_X3_lend.1 = mX3_lend := rfl
theorem e1_303 : E_X11_loan.1 = mX11_loan := rfl
theorem e1_304 : E_L_loan.1 = mL_loan := rfl
theorem e1_305 : E_X12_owedOnLoans.1 = mX12_owedOnLoans := rfl
theorem e1_306 : E_X12_loan.1 = mX12_loan := rfl
theorem e1_307 : E_X11_owing.1 = mX11_owing := rfl
theorem e1_308 : E_L_owing.1 = mL_owing := rfl
theorem e1_309 : E_X12_owing.1 = mX12_owing := rfl
theorem e1_310 : E_X0_payWork.1 = mX0_payWork := rfl
theorem e1_311 : E_X11_work.1 = mX11_work := rfl
theorem e1_312 : E_L_work.1 = mL_work := rfl
theorem e1_313 : E_X12_work.1 = mX12_work := rfl
theorem e1_314 : E_X11_sell.1 = mX11_sell := rfl
theorem e1_315 : E_L_sell.1 = mL_sell := rfl
theorem e1_316 : E_X12_sell.1 = mX12_sell := rfl
theorem e1_317 : E_X3_passOn.1 = mX3_passOn := rfl
theorem e1_318 : E_X11_heir.1 = mX11_heir := rfl
theorem e1_319 : E_X12_heir.1 = mX12_heir := rfl
theorem e1_320 : E_X3_wrongNote.1 = mX3_wrongNote := rfl
theorem e1_321 : E_X11_wrong.1 = mX11_wrong := rfl
theorem e1_322 : E_L_wrong.1 = mL_wrong := rfl
theorem e1_323 : E_X12_wrong.1 = mX12_wrong := rfl
theorem e1_324 : E_X5_addJob.1 = mX5_addJob := rfl
theorem e1_325 : E_X11_job.1 = mX11_job := rfl
theorem e1_326 : E_L_job.1 = mL_job := rfl
theorem e1_327 : E_X12_job.1 = mX12_job := rfl
theorem e1_328 : E_X5_addTrouble.1 = mX5_addTrouble := rfl
theorem e1_329 : E_X11_trouble.1 = mX11_trouble := rfl
theorem e1_330 : E_L_trouble.1 = mL_trouble := rfl
theorem e1_331 : E_X12_trouble.1 = mX12_trouble := rfl
theorem e1_332 : E_X5_jobsIn.1 = mX5_jobsIn := rfl
theorem e1_333 : E_X5_endOf.1 = mX5_endOf := rfl
theorem e1_334 : E_X5_leastEnd.1 = mX5_leastEnd := rfl
theorem e1_335 : E_X11_worth.1 = mX11_worth := rfl
theorem e1_336 : E_L_worth.1 = mL_worth := rfl
theorem e1_337 : E_X12_noPlan.1 = mX12_noPlan := rfl
theorem e1_338 : E_X12_endsWith.1 = mX12_endsWith := rfl
theorem e1_339 : E_X12_worthOfSet.1 = mX12_worthOfSet := rfl
theorem e1_340 : E_X12_worth.1 = mX12_worth := rfl
theorem e1_341 : E_J6_bitCount_0f7a4.1 = mJ6_bitCount_0f7a4 := rfl
theorem e1_342 : E_X5_bestSet.1 = mX5_bestSet := rfl
theorem e1_343 : E_X11_best.1 = mX11_best := rfl
theorem e1_344 : E_L_best.1 = mL_best := rfl
theorem e1_345 : E_X12_best.1 = mX12_best := rfl
theorem e1_346 : E_X0_isIn.1 = mX0_isIn := rfl
theorem e1_347 : E_X0_worthTogether.1 = mX0_worthTogether := rfl
theorem e1_348 : E_X0_partedPairs.1 = mX0_partedPairs := rfl
theorem e1_349 : E_X0_bestSale.1 = mX0_bestSale := rfl
theorem e1_350 : E_X11_toSell.1 = mX11_toSell := rfl
theorem e1_351 : E_L_toSell.1 = mL_toSell := rfl
theorem e1_352 : E_X12_isOf.1 = mX12_isOf := rfl
theorem e1_353 : E_X12_parted.1 = mX12_parted := rfl
theorem e1_354 : E_X12_toSell.1 = mX12_toSell := rfl
theorem e1_355 : E_X11_row.1 = mX11_row := rfl
theorem e1_356 : E_L_row.1 = mL_row := rfl
theorem e1_357 : E_X12_noRow.1 = mX12_noRow := rfl
theorem e1_358 : E_X12_row.1 = mX12_row := rfl
theorem e1_359 : E_X11_tear.1 = mX11_tear := rfl
theorem e1_360 : E_L_tear.1 = mL_tear := rfl
theorem e1_361 : E_X12_tear.1 = mX12_tear := rfl
theorem e1_362 : E_X7_firstFalse.1 = mX7_firstFalse := rfl
theorem e1_363 : E_X11_check.1 = mX11_check := rfl
theorem e1_364 : E_X12_check.1 = mX12_check := rfl
theorem e1_365 : E_X9_copyFrom.1 = mX9_copyFrom := rfl
theorem e1_366 : E_X2_copyFrom.1 = mX2_copyFrom := rfl
theorem e1_367 : E_X1_copyFrom.1 = mX1_copyFrom := rfl
theorem e1_368 : E_X4_copyFrom.1 = mX4_copyFrom := rfl
theorem e1_369 : E_X3_copyFrom.1 = mX3_copyFrom := rfl
theorem e1_370 : E_X5_copyFrom.1 = mX5_copyFrom := rfl
theorem e1_371 : E_X7_copyFrom.1 = mX7_copyFrom := rfl
theorem e1_372 : E_X0_copyFrom.1 = mX0_copyFrom := rfl
theorem e1_373 : E_X11_image.1 = mX11_image := rfl
theorem e1_374 : E_X12_image.1 = mX12_image := rfl
theorem e1_375 : E_X11_back.1 = mX11_back := rfl
theorem e1_376 : E_X12_back.1 = mX12_back := rfl
theorem e1_377 : E_X1_goingOn.1 = mX1_goingOn := rfl
theorem e1_378 : E_X1_sumOf.1 = mX1_sumOf := rfl
theorem e1_379 : E_X9_linesOf.1 = mX9_linesOf := rfl
theorem e1_380 : E_X9_linesInForce.1 = mX9_linesInForce := rfl
theorem e1_381 : E_X2_soldFields.1 = mX2_soldFields := rfl
theorem e1_382 : E_X3_told.1 = mX3_told := rfl
theorem e1_383 : E_X11_count.1 = mX11_count := rfl
theorem e1_384 : E_X12_sumOf.1 = mX12_sumOf := rfl
theorem e1_385 : E_X12_linesInForce.1 = mX12_linesInForce := rfl
theorem e1_386 : E_X12_count.1 = mX12_count := rfl
theorem e2_0 : E_X6_init.2.2.1 = 0 := rfl
theorem e2_1 : E_X9_init.2.2.1 = 0 := rfl
theorem e2_2 : E_X2_init.2.2.1 = 0 := rfl
theorem e2_3 : E_X8_init.2.2.1 = 0 := rfl
theorem e2_4 : E_X1_init.2.2.1 = 0 := rfl
theorem e2_5 : E_X4_init.2.2.1 = 0 := rfl
theorem e2_6 : E_X3_init.2.2.1 = 0 := rfl
theorem e2_7 : E_X5_init.2.2.1 = 0 := rfl
theorem e2_8 : E_X7_init.2.2.1 = 0 := rfl
theorem e2_9 : E_X0_init.2.2.1 = 0 := rfl
theorem e2_10 : E_X10_init.2.2.1 = 0 := rfl
theorem e2_11 : E_X11_init.2.2.1 = 0 := rfl
theorem e2_12 : E_X12_at.2.2.1 = 0 := rfl
theorem e2_13 : E_X12_init.2.2.1 = 0 := rfl
theorem e2_14 : E_X6_addBytes.2.2.1 = 0 := rfl
theorem e2_15 : E_X11_feed.2.2.1 = 0 := rfl
theorem e2_16 : E_X12_feed.2.2.1 = 0 := rfl
theorem e2_17 : E_X11_end.2.2.1 = 0 := rfl
theorem e2_18 : E_X12_end.2.2.1 = 0 := rfl
theorem e2_19 : E_X11_needIndex.2.2.1 = 0 := rfl
theorem e2_20 : E_X11_needField.2.2.1 = 0 := rfl
theorem e2_21 : E_X11_needWithin.2.2.1 = 0 := rfl
theorem e2_22 : E_X2_isCell.2.2.1 = 0 := rfl
theorem e2_23 : E_X2_get.2.2.1 = 0 := rfl
theorem e2_24 : E_X2_isSold.2.2.1 = 0 := rfl
theorem e2_25 : E_X2_set.2.2.1 = 0 := rfl
theorem e2_26 : E_X11_field.2.2.1 = 0 := rfl
theorem e2_27 : E_L_field.2.2.1 = 1 := rfl
theorem e2_28 : E_X12_in.2.2.1 = 0 := rfl
theorem e2_29 : E_X12_noField.2.2.1 = 0 := rfl
theorem e2_30 : E_X12_throwsIf.2.2.1 = 0 := rfl
theorem e2_31 : E_X12_of.2.2.1 = 0 := rfl
theorem e2_32 : E_X12_field.2.2.1 = 0 := rfl
theorem e2_33 : E_X12_thrown.2.2.1 = 0 := rfl
theorem e2_34 : E_X4_setRain.2.2.1 = 0 := rfl
theorem e2_35 : E_X11_rain.2.2.1 = 0 := rfl
theorem e2_36 : E_L_rain.2.2.1 = 1 := rfl
theorem e2_37 : E_X12_rain.2.2.1 = 0 := rfl
theorem e2_38 : E_X4_toldRain.2.2.1 = 0 := rfl
theorem e2_39 : E_X4_rainOf.2.2.1 = 0 := rfl
theorem e2_40 : E_X11_fell.2.2.1 = 0 := rfl
theorem e2_41 : E_L_fell.2.2.1 = 1 := rfl
theorem e2_42 : E_X12_rainTold.2.2.1 = 0 := rfl
theorem e2_43 : E_X12_rainOf.2.2.1 = 0 := rfl
theorem e2_44 : E_X12_fell.2.2.1 = 0 := rfl
theorem e2_45 : E_X4_tell.2.2.1 = 0 := rfl
theorem e2_46 : E_X11_price.2.2.1 = 0 := rfl
theorem e2_47 : E_L_price.2.2.1 = 1 := rfl
theorem e2_48 : E_X12_season.2.2.1 = 0 := rfl
theorem e2_49 : E_X12_price.2.2.1 = 0 := rfl
theorem e2_50 : E_X4_priceAt.2.2.1 = 0 := rfl
theorem e2_51 : E_X11_known.2.2.1 = 0 := rfl
theorem e2_52 : E_L_known.2.2.1 = 1 := rfl
theorem e2_53 : E_X12_knownOf.2.2.1 = 0 := rfl
theorem e2_54 : E_X12_known.2.2.1 = 0 := rfl
theorem e2_55 : E_X6_useTape.2.2.1 = 0 := rfl
theorem e2_56 : E_X6_isLetter.2.2.1 = 0 := rfl
theorem e2_57 : E_J0_coder_7d493.2.2.1 = 0 := rfl
theorem e2_58 : E_J0_length_8abf5.2.2.1 = 0 := rfl
theorem e2_59 : E_J0_isLatin1_aae02.2.2.1 = 0 := rfl
theorem e2_60 : E_J0_checkIndex_df160.2.2.1 = 0 := rfl
theorem e2_61 : E_J1_charAt_3b067.2.2.1 = 0 := rfl
theorem e2_62 : E_J0_charAt_5068e.2.2.1 = 0 := rfl
theorem e2_63 : E_X6_wordFrom.2.2.1 = 0 := rfl
theorem e2_64 : E_X6_isDigit.2.2.1 = 0 := rfl
theorem e2_65 : E_X6_next.2.2.1 = 0 := rfl
theorem e2_66 : E_X6_write.2.2.1 = 0 := rfl
theorem e2_67 : E_X6_takeVerb.2.2.1 = 0 := rfl
theorem e2_68 : E_X6_takeNumber.2.2.1 = 0 := rfl
theorem e2_69 : E_X6_isWord.2.2.1 = 0 := rfl
theorem e2_70 : E_X6_takeWord.2.2.1 = 0 := rfl
theorem e2_71 : E_X6_takeCrop.2.2.1 = 0 := rfl
theorem e2_72 : E_X6_takeOneOf.2.2.1 = 0 := rfl
theorem e2_73 : E_X6_isSign.2.2.1 = 0 := rfl
theorem e2_74 : E_X6_takeSign.2.2.1 = 0 := rfl
theorem e2_75 : E_X6_emit.2.2.1 = 0 := rfl
theorem e2_76 : E_X6_takeSum.2.2.1 = 0 := rfl
theorem e2_77 : E_X6_takeAtom.2.2.1 = 0 := rfl
theorem e2_78 : E_X6_takeAll.2.2.1 = 0 := rfl
theorem e2_79 : E_X6_takeCondition.2.2.1 = 0 := rfl
theorem e2_80 : E_X6_takeIf.2.2.1 = 0 := rfl
theorem e2_81 : E_X6_takeRestOfLease.2.2.1 = 0 := rfl
theorem e2_82 : E_X6_takeRestOfAct.2.2.1 = 0 := rfl
theorem e2_83 : E_X6_takeLines.2.2.1 = 0 := rfl
theorem e2_84 : E_X6_read.2.2.1 = 0 := rfl
theorem e2_85 : E_X11_needText.2.2.1 = 0 := rfl
theorem e2_86 : E_X9_inForce.2.2.1 = 0 := rfl
theorem e2_87 : E_X9_textAt.2.2.1 = 0 := rfl
theorem e2_88 : E_X8_get.2.2.1 = 0 := rfl
theorem e2_89 : E_X8_lastOf.2.2.1 = 0 := rfl
theorem e2_90 : E_X9_lastLine.2.2.1 = 0 := rfl
theorem e2_91 : E_X0_lastLine.2.2.1 = 0 := rfl
theorem e2_92 : E_X9_numberIn.2.2.1 = 0 := rfl
theorem e2_93 : E_X0_yearsLet.2.2.1 = 0 := rfl
theorem e2_94 : E_X2_isBetween.2.2.1 = 0 := rfl
theorem e2_95 : E_X2_isWithin.2.2.1 = 0 := rfl
theorem e2_96 : E_X0_isFree.2.2.1 = 0 := rfl
theorem e2_97 : E_X3_note.2.2.1 = 0 := rfl
theorem e2_98 : E_X0_noteWrong.2.2.1 = 0 := rfl
theorem e2_99 : E_X1_isCell.2.2.1 = 0 := rfl
theorem e2_100 : E_X1_set.2.2.1 = 0 := rfl
theorem e2_101 : E_X1_open.2.2.1 = 0 := rfl
theorem e2_102 : E_X1_get.2.2.1 = 0 := rfl
theorem e2_103 : E_X11_capped.2.2.1 = 0 := rfl
theorem e2_104 : E_X1_grow.2.2.1 = 0 := rfl
theorem e2_105 : E_X0_openOn.2.2.1 = 0 := rfl
theorem e2_106 : E_X0_openLease.2.2.1 = 0 := rfl
theorem e2_107 : E_X8_init_.2.2.1 = 0 := rfl
theorem e2_108 : E_X6_newText.2.2.1 = 0 := rfl
theorem e2_109 : E_X1_setLease.2.2.1 = 0 := rfl
theorem e2_110 : E_X11_let.2.2.1 = 0 := rfl
theorem e2_111 : E_L_let.2.2.1 = 1 := rfl
theorem e2_112 : E_X12_uses.2.2.1 = 0 := rfl
theorem e2_113 : E_X12_isAt.2.2.1 = 0 := rfl
theorem e2_114 : E_X12_blanks.2.2.1 = 0 := rfl
theorem e2_115 : E_X12_word.2.2.1 = 0 := rfl
theorem e2_116 : E_X12_textAt.2.2.1 = 0 := rfl
theorem e2_117 : E_X12_lineAt.2.2.1 = 0 := rfl
theorem e2_118 : E_X12_isWord.2.2.1 = 0 := rfl
theorem e2_119 : E_X12_wordOf.2.2.1 = 0 := rfl
theorem e2_120 : E_X12_sortOf.2.2.1 = 0 := rfl
theorem e2_121 : E_X12_number.2.2.1 = 0 := rfl
theorem e2_122 : E_X12_tells.2.2.1 = 0 := rfl
theorem e2_123 : E_X12_needs.2.2.1 = 0 := rfl
theorem e2_124 : E_X12_readCrop.2.2.1 = 0 := rfl
theorem e2_125 : E_X12_readThing.2.2.1 = 0 := rfl
theorem e2_126 : E_X12_passes.2.2.1 = 0 := rfl
theorem e2_127 : E_X12_sign.2.2.1 = 0 := rfl
theorem e2_128 : E_X12_adds.2.2.1 = 0 := rfl
theorem e2_129 : E_X12_fact.2.2.1 = 0 := rfl
theorem e2_130 : E_X12_readPart.2.2.1 = 0 := rfl
theorem e2_131 : E_X12_readSum.2.2.1 = 0 := rfl
theorem e2_132 : E_X12_readAtom.2.2.1 = 0 := rfl
theorem e2_133 : E_X12_readAllOf.2.2.1 = 0 := rfl
theorem e2_134 : E_X12_readCond.2.2.1 = 0 := rfl
theorem e2_135 : E_X12_readIf.2.2.1 = 0 := rfl
theorem e2_136 : E_X12_readRest.2.2.1 = 0 := rfl
theorem e2_137 : E_X12_readLine.2.2.1 = 0 := rfl
theorem e2_138 : E_X12_readAll.2.2.1 = 0 := rfl
theorem e2_139 : E_X12_reads.2.2.1 = 0 := rfl
theorem e2_140 : E_X12_orders.2.2.1 = 0 := rfl
theorem e2_141 : E_X12_linesOf.2.2.1 = 0 := rfl
theorem e2_142 : E_X12_isStruck.2.2.1 = 0 := rfl
theorem e2_143 : E_X12_isLine.2.2.1 = 0 := rfl
theorem e2_144 : E_X12_lastLine.2.2.1 = 0 := rfl
theorem e2_145 : E_X12_numberOf.2.2.1 = 0 := rfl
theorem e2_146 : E_X12_isIn.2.2.1 = 0 := rfl
theorem e2_147 : E_X12_areFree.2.2.1 = 0 := rfl
theorem e2_148 : E_X12_holdingAt.2.2.1 = 0 := rfl
theorem e2_149 : E_X12_begins.2.2.1 = 0 := rfl
theorem e2_150 : E_X12_kept.2.2.1 = 0 := rfl
theorem e2_151 : E_X12_sets.2.2.1 = 0 := rfl
theorem e2_152 : E_X12_year.2.2.1 = 0 := rfl
theorem e2_153 : E_X12_copies.2.2.1 = 0 := rfl
theorem e2_154 : E_X12_errs.2.2.1 = 0 := rfl
theorem e2_155 : E_X12_let.2.2.1 = 0 := rfl
theorem e2_156 : E_X0_openKept.2.2.1 = 0 := rfl
theorem e2_157 : E_X11_keep.2.2.1 = 0 := rfl
theorem e2_158 : E_L_keep.2.2.1 = 1 := rfl
theorem e2_159 : E_X12_keep.2.2.1 = 0 := rfl
theorem e2_160 : E_X0_kindAt.2.2.1 = 0 := rfl
theorem e2_161 : E_X1_isHand.2.2.1 = 0 := rfl
theorem e2_162 : E_X11_needKind.2.2.1 = 0 := rfl
theorem e2_163 : E_X11_sow.2.2.1 = 0 := rfl
theorem e2_164 : E_L_sow.2.2.1 = 1 := rfl
theorem e2_165 : E_X12_its.2.2.1 = 0 := rfl
theorem e2_166 : E_X12_kindOf.2.2.1 = 0 := rfl
theorem e2_167 : E_X12_sow.2.2.1 = 0 := rfl
theorem e2_168 : E_X11_needHolding.2.2.1 = 0 := rfl
theorem e2_169 : E_X11_notice.2.2.1 = 0 := rfl
theorem e2_170 : E_L_notice.2.2.1 = 1 := rfl
theorem e2_171 : E_X12_noHolding.2.2.1 = 0 := rfl
theorem e2_172 : E_X12_fieldsOf.2.2.1 = 0 := rfl
theorem e2_173 : E_X12_notice.2.2.1 = 0 := rfl
theorem e2_174 : E_X1_isLet.2.2.1 = 0 := rfl
theorem e2_175 : E_X0_close.2.2.1 = 0 := rfl
theorem e2_176 : E_X11_give.2.2.1 = 0 := rfl
theorem e2_177 : E_L_give.2.2.1 = 1 := rfl
theorem e2_178 : E_X12_isLet.2.2.1 = 0 := rfl
theorem e2_179 : E_X12_leaves.2.2.1 = 0 := rfl
theorem e2_180 : E_X12_give.2.2.1 = 0 := rfl
theorem e2_181 : E_X4_learnPrices.2.2.1 = 0 := rfl
theorem e2_182 : E_X0_learnPrices.2.2.1 = 0 := rfl
theorem e2_183 : E_X1_leaseOf.2.2.1 = 0 := rfl
theorem e2_184 : E_X0_priceOf.2.2.1 = 0 := rfl
theorem e2_185 : E_X2_growthOf.2.2.1 = 0 := rfl
theorem e2_186 : E_X10_isBarred.2.2.1 = 0 := rfl
theorem e2_187 : E_X10_chosenCrop.2.2.1 = 0 := rfl
theorem e2_188 : E_X10_spring.2.2.1 = 0 := rfl
theorem e2_189 : E_X2_harvest.2.2.1 = 0 := rfl
theorem e2_190 : E_X3_addHarvest.2.2.1 = 0 := rfl
theorem e2_191 : E_X3_addIncome.2.2.1 = 0 := rfl
theorem e2_192 : E_X10_sellHarvest.2.2.1 = 0 := rfl
theorem e2_193 : E_X7_add.2.2.1 = 0 := rfl
theorem e2_194 : E_X10_summer.2.2.1 = 0 := rfl
theorem e2_195 : E_X1_isOver.2.2.1 = 0 := rfl
theorem e2_196 : E_X0_learnFacts.2.2.1 = 0 := rfl
theorem e2_197 : E_X0_learnFactsOfTenant.2.2.1 = 0 := rfl
theorem e2_198 : E_X8_step.2.2.1 = 0 := rfl
theorem e2_199 : E_X8_holds.2.2.1 = 0 := rfl
theorem e2_200 : E_X8_sumHolding.2.2.1 = 0 := rfl
theorem e2_201 : E_X0_rentOf.2.2.1 = 0 := rfl
theorem e2_202 : E_X10_harmOfGame.2.2.1 = 0 := rfl
theorem e2_203 : E_X10_hundredthsPut.2.2.1 = 0 := rfl
theorem e2_204 : E_X10_receive.2.2.1 = 0 := rfl
theorem e2_205 : E_X10_takeRent.2.2.1 = 0 := rfl
theorem e2_206 : E_X10_autumn.2.2.1 = 0 := rfl
theorem e2_207 : E_X2_beside.2.2.1 = 0 := rfl
theorem e2_208 : E_X10_isBesideWood.2.2.1 = 0 := rfl
theorem e2_209 : E_X10_breedGame.2.2.1 = 0 := rfl
theorem e2_210 : E_X10_growOlder.2.2.1 = 0 := rfl
theorem e2_211 : E_X3_addCapital.2.2.1 = 0 := rfl
theorem e2_212 : E_X0_takeIn.2.2.1 = 0 := rfl
theorem e2_213 : E_X10_sink.2.2.1 = 0 := rfl
theorem e2_214 : E_X10_dig.2.2.1 = 0 := rfl
theorem e2_215 : E_X10_digMines.2.2.1 = 0 := rfl
theorem e2_216 : E_X3_payLoans.2.2.1 = 0 := rfl
theorem e2_217 : E_X0_learnFactsOfEstate.2.2.1 = 0 := rfl
theorem e2_218 : E_X9_lastStrike.2.2.1 = 0 := rfl
theorem e2_219 : E_X9_sumHolding.2.2.1 = 0 := rfl
theorem e2_220 : E_X0_chargesNow.2.2.1 = 0 := rfl
theorem e2_221 : E_X3_payCharges.2.2.1 = 0 := rfl
theorem e2_222 : E_X10_isAtItsEnd.2.2.1 = 0 := rfl
theorem e2_223 : E_X0_learnFactsOfField.2.2.1 = 0 := rfl
theorem e2_224 : E_X0_leftOn.2.2.1 = 0 := rfl
theorem e2_225 : E_X0_owedTo.2.2.1 = 0 := rfl
theorem e2_226 : E_X10_goOut.2.2.1 = 0 := rfl
theorem e2_227 : E_X10_endLeases.2.2.1 = 0 := rfl
theorem e2_228 : E_X10_pass.2.2.1 = 0 := rfl
theorem e2_229 : E_X11_seasons.2.2.1 = 0 := rfl
theorem e2_230 : E_L_seasons.2.2.1 = 1 := rfl
theorem e2_231 : E_X12_isBarred.2.2.1 = 0 := rfl
theorem e2_232 : E_X12_priceOf.2.2.1 = 0 := rfl
theorem e2_233 : E_X12_yieldOf.2.2.1 = 0 := rfl
theorem e2_234 : E_X12_spring.2.2.1 = 0 := rfl
theorem e2_235 : E_X12_income.2.2.1 = 0 := rfl
theorem e2_236 : E_X12_writesRow.2.2.1 = 0 := rfl
theorem e2_237 : E_X12_summer.2.2.1 = 0 := rfl
theorem e2_238 : E_X12_looks.2.2.1 = 0 := rfl
theorem e2_239 : E_X12_holds.2.2.1 = 0 := rfl
theorem e2_240 : E_X12_rentOf.2.2.1 = 0 := rfl
theorem e2_241 : E_X12_rentLess.2.2.1 = 0 := rfl
theorem e2_242 : E_X12_paysRent.2.2.1 = 0 := rfl
theorem e2_243 : E_X12_autumn.2.2.1 = 0 := rfl
theorem e2_244 : E_X12_beside.2.2.1 = 0 := rfl
theorem e2_245 : E_X12_isNearWood.2.2.1 = 0 := rfl
theorem e2_246 : E_X12_grows.2.2.1 = 0 := rfl
theorem e2_247 : E_X12_partOf.2.2.1 = 0 := rfl
theorem e2_248 : E_X12_capital.2.2.1 = 0 := rfl
theorem e2_249 : E_X12_comes.2.2.1 = 0 := rfl
theorem e2_250 : E_X12_digs.2.2.1 = 0 := rfl
theorem e2_251 : E_X12_paysLoan.2.2.1 = 0 := rfl
theorem e2_252 : E_X12_charges.2.2.1 = 0 := rfl
theorem e2_253 : E_X12_owedTo.2.2.1 = 0 := rfl
theorem e2_254 : E_X12_goesOut.2.2.1 = 0 := rfl
theorem e2_255 : E_X12_winter.2.2.1 = 0 := rfl
theorem e2_256 : E_X12_seasons.2.2.1 = 0 := rfl
theorem e2_257 : E_X11_needKnown.2.2.1 = 0 := rfl
theorem e2_258 : E_X2_timberOf.2.2.1 = 0 := rfl
theorem e2_259 : E_X2_worthOf.2.2.1 = 0 := rfl
theorem e2_260 : E_X11_look.2.2.1 = 0 := rfl
theorem e2_261 : E_L_look.2.2.1 = 1 := rfl
theorem e2_262 : E_X12_worthOf.2.2.1 = 0 := rfl
theorem e2_263 : E_X12_look.2.2.1 = 0 := rfl
theorem e2_264 : E_X11_led.2.2.1 = 0 := rfl
theorem e2_265 : E_L_led.2.2.1 = 1 := rfl
theorem e2_266 : E_X12_led.2.2.1 = 0 := rfl
theorem e2_267 : E_X11_owed.2.2.1 = 0 := rfl
theorem e2_268 : E_L_owed.2.2.1 = 1 := rfl
theorem e2_269 : E_X12_owed.2.2.1 = 0 := rfl
theorem e2_270 : E_X11_rent.2.2.1 = 0 := rfl
theorem e2_271 : E_L_rent.2.2.1 = 1 := rfl
theorem e2_272 : E_X12_rent.2.2.1 = 0 := rfl
theorem e2_273 : E_X1_rankOf.2.2.1 = 0 := rfl
theorem e2_274 : E_X1_ofRank.2.2.1 = 0 := rfl
theorem e2_275 : E_X11_arrears.2.2.1 = 0 := rfl
theorem e2_276 : E_X12_arrears.2.2.1 = 0 := rfl
theorem e2_277 : E_X11_needRoom.2.2.1 = 0 := rfl
theorem e2_278 : E_X9_add.2.2.1 = 0 := rfl
theorem e2_279 : E_X11_words.2.2.1 = 0 := rfl
theorem e2_280 : E_L_words.2.2.1 = 1 := rfl
theorem e2_281 : E_X12_words.2.2.1 = 0 := rfl
theorem e2_282 : E_X11_fault.2.2.1 = 0 := rfl
theorem e2_283 : E_X12_fault.2.2.1 = 0 := rfl
theorem e2_284 : E_X8_firstHolding.2.2.1 = 0 := rfl
theorem e2_285 : E_X9_firstHolding.2.2.1 = 0 := rfl
theorem e2_286 : E_X0_lineThatLets.2.2.1 = 0 := rfl
theorem e2_287 : E_X0_mostBorrowed.2.2.1 = 0 := rfl
theorem e2_288 : E_X0_partOf.2.2.1 = 0 := rfl
theorem e2_289 : E_X11_may.2.2.1 = 0 := rfl
theorem e2_290 : E_L_may.2.2.1 = 1 := rfl
theorem e2_291 : E_X12_mostOf.2.2.1 = 0 := rfl
theorem e2_292 : E_X12_firstLine.2.2.1 = 0 := rfl
theorem e2_293 : E_X12_may.2.2.1 = 0 := rfl
theorem e2_294 : E_X0_firstCharge.2.2.1 = 0 := rfl
theorem e2_295 : E_X11_why.2.2.1 = 0 := rfl
theorem e2_296 : E_L_why.2.2.1 = 1 := rfl
theorem e2_297 : E_X12_why.2.2.1 = 0 := rfl
theorem e2_298 : E_X11_cut.2.2.1 = 0 := rfl
theorem e2_299 : E_L_cut.2.2.1 = 1 := rfl
theorem e2_300 : E_X12_cut.2.2.1 = 0 := rfl
theorem e2_301 : E_X3_owedInAll.2.2.1 = 0 := rfl
theorem e2_302 : E_X3_lend.2.2.1 = 0 := rfl
theorem e2_303 : E_X11_loan.2.2.1 = 0 := rfl
theorem e2_304 : E_L_loan.2.2.1 = 1 := rfl
theorem e2_305 : E_X12_owedOnLoans.2.2.1 = 0 := rfl
theorem e2_306 : E_X12_loan.2.2.1 = 0 := rfl
theorem e2_307 : E_X11_owing.2.2.1 = 0 := rfl
theorem e2_308 : E_L_owing.2.2.1 = 1 := rfl
theorem e2_309 : E_X12_owing.2.2.1 = 0 := rfl
theorem e2_310 : E_X0_payWork.2.2.1 = 0 := rfl
theorem e2_311 : E_X11_work.2.2.1 = 0 := rfl
theorem e2_312 : E_L_work.2.2.1 = 1 := rfl
theorem e2_313 : E_X12_work.2.2.1 = 0 := rfl
theorem e2_314 : E_X11_sell.2.2.1 = 0 := rfl
theorem e2_315 : E_L_sell.2.2.1 = 1 := rfl
theorem e2_316 : E_X12_sell.2.2.1 = 0 := rfl
theorem e2_317 : E_X3_passOn.2.2.1 = 0 := rfl
theorem e2_318 : E_X11_heir.2.2.1 = 0 := rfl
theorem e2_319 : E_X12_heir.2.2.1 = 0 := rfl
theorem e2_320 : E_X3_wrongNote.2.2.1 = 0 := rfl
theorem e2_321 : E_X11_wrong.2.2.1 = 0 := rfl
theorem e2_322 : E_L_wrong.2.2.1 = 1 := rfl
theorem e2_323 : E_X12_wrong.2.2.1 = 0 := rfl
theorem e2_324 : E_X5_addJob.2.2.1 = 0 := rfl
theorem e2_325 : E_X11_job.2.2.1 = 0 := rfl
theorem e2_326 : E_L_job.2.2.1 = 1 := rfl
theorem e2_327 : E_X12_job.2.2.1 = 0 := rfl
theorem e2_328 : E_X5_addTrouble.2.2.1 = 0 := rfl
theorem e2_329 : E_X11_trouble.2.2.1 = 0 := rfl
theorem e2_330 : E_L_trouble.2.2.1 = 1 := rfl
theorem e2_331 : E_X12_trouble.2.2.1 = 0 := rfl
theorem e2_332 : E_X5_jobsIn.2.2.1 = 0 := rfl
theorem e2_333 : E_X5_endOf.2.2.1 = 0 := rfl
theorem e2_334 : E_X5_leastEnd.2.2.1 = 0 := rfl
theorem e2_335 : E_X11_worth.2.2.1 = 0 := rfl
theorem e2_336 : E_L_worth.2.2.1 = 1 := rfl
theorem e2_337 : E_X12_noPlan.2.2.1 = 0 := rfl
theorem e2_338 : E_X12_endsWith.2.2.1 = 0 := rfl
theorem e2_339 : E_X12_worthOfSet.2.2.1 = 0 := rfl
theorem e2_340 : E_X12_worth.2.2.1 = 0 := rfl
theorem e2_341 : E_J6_bitCount_0f7a4.2.2.1 = 0 := rfl
theorem e2_342 : E_X5_bestSet.2.2.1 = 0 := rfl
theorem e2_343 : E_X11_best.2.2.1 = 0 := rfl
theorem e2_344 : E_L_best.2.2.1 = 1 := rfl
theorem e2_345 : E_X12_best.2.2.1 = 0 := rfl
theorem e2_346 : E_X0_isIn.2.2.1 = 0 := rfl
theorem e2_347 : E_X0_worthTogether.2.2.1 = 0 := rfl
theorem e2_348 : E_X0_partedPairs.2.2.1 = 0 := rfl
theorem e2_349 : E_X0_bestSale.2.2.1 = 0 := rfl
theorem e2_350 : E_X11_toSell.2.2.1 = 0 := rfl
theorem e2_351 : E_L_toSell.2.2.1 = 1 := rfl
theorem e2_352 : E_X12_isOf.2.2.1 = 0 := rfl
theorem e2_353 : E_X12_parted.2.2.1 = 0 := rfl
theorem e2_354 : E_X12_toSell.2.2.1 = 0 := rfl
theorem e2_355 : E_X11_row.2.2.1 = 0 := rfl
theorem e2_356 : E_L_row.2.2.1 = 1 := rfl
theorem e2_357 : E_X12_noRow.2.2.1 = 0 := rfl
theorem e2_358 : E_X12_row.2.2.1 = 0 := rfl
theorem e2_359 : E_X11_tear.2.2.1 = 0 := rfl
theorem e2_360 : E_L_tear.2.2.1 = 1 := rfl
theorem e2_361 : E_X12_tear.2.2.1 = 0 := rfl
theorem e2_362 : E_X7_firstFalse.2.2.1 = 0 := rfl
theorem e2_363 : E_X11_check.2.2.1 = 0 := rfl
theorem e2_364 : E_X12_check.2.2.1 = 0 := rfl
theorem e2_365 : E_X9_copyFrom.2.2.1 = 0 := rfl
theorem e2_366 : E_X2_copyFrom.2.2.1 = 0 := rfl
theorem e2_367 : E_X1_copyFrom.2.2.1 = 0 := rfl
theorem e2_368 : E_X4_copyFrom.2.2.1 = 0 := rfl
theorem e2_369 : E_X3_copyFrom.2.2.1 = 0 := rfl
theorem e2_370 : E_X5_copyFrom.2.2.1 = 0 := rfl
theorem e2_371 : E_X7_copyFrom.2.2.1 = 0 := rfl
theorem e2_372 : E_X0_copyFrom.2.2.1 = 0 := rfl
theorem e2_373 : E_X11_image.2.2.1 = 0 := rfl
theorem e2_374 : E_X12_image.2.2.1 = 0 := rfl
theorem e2_375 : E_X11_back.2.2.1 = 0 := rfl
theorem e2_376 : E_X12_back.2.2.1 = 0 := rfl
theorem e2_377 : E_X1_goingOn.2.2.1 = 0 := rfl
theorem e2_378 : E_X1_sumOf.2.2.1 = 0 := rfl
theorem e2_379 : E_X9_linesOf.2.2.1 = 0 := rfl
theorem e2_380 : E_X9_linesInForce.2.2.1 = 0 := rfl
theorem e2_381 : E_X2_soldFields.2.2.1 = 0 := rfl
theorem e2_382 : E_X3_told.2.2.1 = 0 := rfl
theorem e2_383 : E_X11_count.2.2.1 = 0 := rfl
theorem e2_384 : E_X12_sumOf.2.2.1 = 0 := rfl
theorem e2_385 : E_X12_linesInForce.2.2.1 = 0 := rfl
theorem e2_386 : E_X12_count.2.2.1 = 0 := rfl
theorem x_X6_init (S : sT) (d : Nat) (a0 : Nat) (h : pH) : ex S (d + 1) 0 [.ref a0] h = bd S (ex S d) dflT E_X6_init 100000 0 [some (.ref a0)] [] h := ex_go S d 0 mt_0 e1_0 e2_0 _ _ rfl rfl h
theorem x_X9_init (S : sT) (d : Nat) (a0 : Nat) (h : pH) : ex S (d + 1) 1 [.ref a0] h = bd S (ex S d) dflT E_X9_init 100000 0 [some (.ref a0)] [] h := ex_go S d 1 mt_1 e1_1 e2_1 _ _ rfl rfl h
theorem x_X2_init (S : sT) (d : Nat) (a0 : Nat) (h : pH) : ex S (d + 1) 2 [.ref a0] h = bd S (ex S d) dflT E_X2_init 100000 0 [some (.ref a0), none] [] h := ex_go S d 2 mt_2 e1_2 e2_2 _ _ rfl rfl h
theorem x_X8_init (S : sT) (d : Nat) (a0 : Nat) (h : pH) : ex S (d + 1) 3 [.ref a0] h = bd S (ex S d) dflT E_X8_init 100000 0 [some (.ref a0)] [] h := ex_go S d 3 mt_3 e1_3 e2_3 _ _ rfl rfl h
theorem x_X1_init (S : sT) (d : Nat) (a0 : Nat) (h : pH) : ex S (d + 1) 4 [.ref a0] h = bd S (ex S d) dflT E_X1_init 100000 0 [some (.ref a0)] [] h := ex_go S d 4 mt_4 e1_4 e2_4 _ _ rfl rfl h
theorem x_X4_init (S : sT) (d : Nat) (a0 : Nat) (h : pH) : ex S (d + 1) 5 [.ref a0] h = bd S (ex S d) dflT E_X4_init 100000 0 [some (.ref a0)] [] h := ex_go S d 5 mt_5 e1_5 e2_5 _ _ rfl rfl h
theorem x_X3_init (S : sT) (d : Nat) (a0 : Nat) (h : pH) : ex S (d + 1) 6 [.ref a0] h = bd S (ex S d) dflT E_X3_init 100000 0 [some (.ref a0)] [] h := ex_go S d 6 mt_6 e1_6 e2_6 _ _ rfl rfl h
theorem x_X5_init (S : sT) (d : Nat) (a0 : Nat) (h : pH) : ex S (d + 1) 7 [.ref a0] h = bd S (ex S d) dflT E_X5_init 100000 0 [some (.ref a0)] [] h := ex_go S d 7 mt_7 e1_7 e2_7 _ _ rfl rfl h
theorem x_X7_init (S : sT) (d : Nat) (a0 : Nat) (h : pH) : ex S (d + 1) 8 [.ref a0] h = bd S (ex S d) dflT E_X7_init 100000 0 [some (.ref a0)] [] h := ex_go S d 8 mt_8 e1_8 e2_8 _ _ rfl rfl h
theorem x_X0_init (S : sT) (d : Nat) (a0 : Nat) (h : pH) : ex S (d + 1) 9 [.ref a0] h = bd S (ex S d) dflT E_X0_init 100000 0 [some (.ref a0)] [] h := ex_go S d 9 mt_9 e1_9 e2_9 _ _ rfl rfl h
theorem x_X10_init (S : sT) (d : Nat) (a0 : Nat) (a1 : Nat) (h : pH) : ex S (d + 1) 10 [.ref a0, .ref a1] h = bd S (ex S d) dflT E_X10_init 100000 0 [some (.ref a0), some (.ref a1)] [] h := ex_go S d 10 mt_10 e1_10 e2_10 _ _ rfl rfl h
theorem x_X11_init (S : sT) (d : Nat) (a0 : Nat) (h : pH) : ex S (d + 1) 11 [.ref a0] h = bd S (ex S d) dflT E_X11_init 100000 0 [some (.ref a0)] [] h := ex_go S d 11 mt_11 e1_11 e2_11 _ _ rfl rfl h
theorem x_X12_at (S : sT) (d : Nat) (x0 : Int32) (x1 : Int32) (h : pH) : ex S (d + 1) 12 [.int x0, .int x1] h = bd S (ex S d) dflT E_X12_at 100000 0 [some (.int x0), some (.int x1)] [] h := ex_go S d 12 mt_12 e1_12 e2_12 _ _ rfl rfl h
theorem x_X12_init (S : sT) (d : Nat) (a0 : Nat) (h : pH) : ex S (d + 1) 13 [.ref a0] h = bd S (ex S d) dflT E_X12_init 100000 0 [some (.ref a0), none] [] h := ex_go S d 13 mt_13 e1_13 e2_13 _ _ rfl rfl h
theorem x_X6_addBytes (S : sT) (d : Nat) (a0 : Nat) (x1 : Int32) (h : pH) : ex S (d + 1) 14 [.ref a0, .int x1] h = bd S (ex S d) dflT E_X6_addBytes 100000 0 [some (.ref a0), some (.int x1), none] [] h := ex_go S d 14 mt_14 e1_14 e2_14 _ _ rfl rfl h
theorem x_X11_feed (S : sT) (d : Nat) (a0 : Nat) (x1 : Int32) (x2 : Int32) (x3 : Int32) (x4 : Int32) (x5 : Int32) (h : pH) : ex S (d + 1) 15 [.ref a0, .int x1, .int x2, .int x3, .int x4, .int x5] h = bd S (ex S d) dflT E_X11_feed 100000 0 [some (.ref a0), some (.int x1), some (.int x2), some (.int x3), some (.int x4), some (.int x5)] [] h := ex_go S d 15 mt_15 e1_15 e2_15 _ _ rfl rfl h
theorem x_X12_feed (S : sT) (d : Nat) (a0 : Nat) (x1 : Int32) (x2 : Int32) (x3 : Int32) (x4 : Int32) (x5 : Int32) (h : pH) : ex S (d + 1) 16 [.ref a0, .int x1, .int x2, .int x3, .int x4, .int x5] h = bd S (ex S d) dflT E_X12_feed 100000 0 [some (.ref a0), some (.int x1), some (.int x2), some (.int x3), some (.int x4), some (.int x5), none] [] h := ex_go S d 16 mt_16 e1_16 e2_16 _ _ rfl rfl h
theorem x_X11_end (S : sT) (d : Nat) (a0 : Nat) (x1 : Int32) (h : pH) : ex S (d + 1) 17 [.ref a0, .int x1] h = bd S (ex S d) dflT E_X11_end 100000 0 [some (.ref a0), some (.int x1)] [] h := ex_go S d 17 mt_17 e1_17 e2_17 _ _ rfl rfl h
theorem x_X12_end (S : sT) (d : Nat) (a0 : Nat) (x1 : Int32) (h : pH) : ex S (d + 1) 18 [.ref a0, .int x1] h = bd S (ex S d) dflT E_X12_end 100000 0 [some (.ref a0), some (.int x1)] [] h := ex_go S d 18 mt_18 e1_18 e2_18 _ _ rfl rfl h
theorem x_X11_needIndex (S : sT) (d : Nat) (x0 : Int32) (x1 : Int32) (h : pH) : ex S (d + 1) 19 [.int x0, .int x1] h = bd S (ex S d) dflT E_X11_needIndex 100000 0 [some (.int x0), some (.int x1)] [] h := ex_go S d 19 mt_19 e1_19 e2_19 _ _ rfl rfl h
theorem x_X11_needField (S : sT) (d : Nat) (x0 : Int32) (h : pH) : ex S (d + 1) 20 [.int x0] h = bd S (ex S d) dflT E_X11_needField 100000 0 [some (.int x0)] [] h := ex_go S d 20 mt_20 e1_20 e2_20 _ _ rfl rfl h
theorem x_X11_needWithin (S : sT) (d : Nat) (x0 : Int32) (x1 : Int32) (x2 : Int32) (h : pH) : ex S (d + 1) 21 [.int x0, .int x1, .int x2] h = bd S (ex S d) dflT E_X11_needWithin 100000 0 [some (.int x0), some (.int x1), some (.int x2)] [] h := ex_go S d 21 mt_21 e1_21 e2_21 _ _ rfl rfl h
theorem x_X2_isCell (S : sT) (d : Nat) (x0 : Int32) (x1 : Int32) (h : pH) : ex S (d + 1) 22 [.int x0, .int x1] h = bd S (ex S d) dflT E_X2_isCell 100000 0 [some (.int x0), some (.int x1)] [] h := ex_go S d 22 mt_22 e1_22 e2_22 _ _ rfl rfl h
theorem x_X2_get (S : sT) (d : Nat) (a0 : Nat) (x1 : Int32) (x2 : Int32) (h : pH) : ex S (d + 1) 23 [.ref a0, .int x1, .int x2] h = bd S (ex S d) dflT E_X2_get 100000 0 [some (.ref a0), some (.int x1), some (.int x2)] [] h := ex_go S d 23 mt_23 e1_23 e2_23 _ _ rfl rfl h
theorem x_X2_isSold (S : sT) (d : Nat) (a0 : Nat) (x1 : Int32) (h : pH) : ex S (d + 1) 24 [.ref a0, .int x1] h = bd S (ex S d) dflT E_X2_isSold 100000 0 [some (.ref a0), some (.int x1)] [] h := ex_go S d 24 mt_24 e1_24 e2_24 _ _ rfl rfl h
theorem x_X2_set (S : sT) (d : Nat) (a0 : Nat) (x1 : Int32) (x2 : Int32) (x3 : Int32) (h : pH) : ex S (d + 1) 25 [.ref a0, .int x1, .int x2, .int x3] h = bd S (ex S d) dflT E_X2_set 100000 0 [some (.ref a0), some (.int x1), some (.int x2), some (.int x3)] [] h := ex_go S d 25 mt_25 e1_25 e2_25 _ _ rfl rfl h
theorem x_X11_field (S : sT) (d : Nat) (a0 : Nat) (x1 : Int32) (x2 : Int32) (x3 : Int32) (x4 : Int32) (x5 : Int32) (x6 : Int32) (h : pH) : ex S (d + 1) 26 [.ref a0, .int x1, .int x2, .int x3, .int x4, .int x5, .int x6] h = bd S (ex S d) dflT E_X11_field 100000 0 [some (.ref a0), some (.int x1), some (.int x2), some (.int x3), some (.int x4), some (.int x5), some (.int x6)] [] h := ex_go S d 26 mt_26 e1_26 e2_26 _ _ rfl rfl h
theorem x_L_field (S : sT) (d : Nat) (a0 : Nat) (x1 : Int32) (x2 : Int32) (x3 : Int32) (x4 : Int32) (x5 : Int32) (x6 : Int32) (a7 : Nat) (h : pH) : ex S (d + 1) 27 [.ref a0, .int x1, .int x2, .int x3, .int x4, .int x5, .int x6, .ref a7] h = onlyR 1 (bd S (ex S d) dflT E_L_field 10 0 [some (.ref a0), some (.int x1), some (.int x2), some (.int x3), some (.int x4), some (.int x5), some (.int x6), some (.ref a7), none] [] h) := ex_goH S d 27 mt_27 e1_27 e2_27 _ _ rfl rfl h
theorem x_X12_in (S : sT) (d : Nat) (x0 : Int32) (x1 : Int32) (x2 : Int32) (h : pH) : ex S (d + 1) 28 [.int x0, .int x1, .int x2] h = bd S (ex S d) dflT E_X12_in 100000 0 [some (.int x0), some (.int x1), some (.int x2)] [] h := ex_go S d 28 mt_28 e1_28 e2_28 _ _ rfl rfl h
theorem x_X12_noField (S : sT) (d : Nat) (x0 : Int32) (h : pH) : ex S (d + 1) 29 [.int x0] h = bd S (ex S d) dflT E_X12_noField 100000 0 [some (.int x0)] [] h := ex_go S d 29 mt_29 e1_29 e2_29 _ _ rfl rfl h
theorem x_X12_throwsIf (S : sT) (d : Nat) (a0 : Nat) (x1 : Int32) (x2 : Int32) (h : pH) : ex S (d + 1) 30 [.ref a0, .int x1, .int x2] h = bd S (ex S d) dflT E_X12_throwsIf 100000 0 [some (.ref a0), some (.int x1), some (.int x2)] [] h := ex_go S d 30 mt_30 e1_30 e2_30 _ _ rfl rfl h
theorem x_X12_of (S : sT) (d : Nat) (a0 : Nat) (x1 : Int32) (x2 : Int32) (h : pH) : ex S (d + 1) 31 [.ref a0, .int x1, .int x2] h = bd S (ex S d) dflT E_X12_of 100000 0 [some (.ref a0), some (.int x1), some (.int x2)] [] h := ex_go S d 31 mt_31 e1_31 e2_31 _ _ rfl rfl h
theorem x_X12_field (S : sT) (d : Nat) (a0 : Nat) (x1 : Int32) (x2 : Int32) (x3 : Int32) (x4 : Int32) (x5 : Int32) (x6 : Int32) (h : pH) : ex S (d + 1) 32 [.ref a0, .int x1, .int x2, .int x3, .int x4, .int x5, .int x6] h = bd S (ex S d) dflT E_X12_field 100000 0 [some (.ref a0), some (.int x1), some (.int x2), some (.int x3), some (.int x4), some (.int x5), some (.int x6)] [] h := ex_go S d 32 mt_32 e1_32 e2_32 _ _ rfl rfl h
theorem x_X12_thrown (S : sT) (d : Nat) (a0 : Nat) (h : pH) : ex S (d + 1) 33 [.ref a0] h = bd S (ex S d) dflT E_X12_thrown 100000 0 [some (.ref a0)] [] h := ex_go S d 33 mt_33 e1_33 e2_33 _ _ rfl rfl h
theorem x_X4_setRain (S : sT) (d : Nat) (a0 : Nat) (x1 : Int32) (x2 : Int32) (h : pH) : ex S (d + 1) 34 [.ref a0, .int x1, .int x2] h = bd S (ex S d) dflT E_X4_setRain 100000 0 [some (.ref a0), some (.int x1), some (.int x2)] [] h := ex_go S d 34 mt_34 e1_34 e2_34 _ _ rfl rfl h
theorem x_X11_rain (S : sT) (d : Nat) (a0 : Nat) (x1 : Int32) (x2 : Int32) (x3 : Int32) (h : pH) : ex S (d + 1) 35 [.ref a0, .int x1, .int x2, .int x3] h = bd S (ex S d) dflT E_X11_rain 100000 0 [some (.ref a0), some (.int x1), some (.int x2), some (.int x3)] [] h := ex_go S d 35 mt_35 e1_35 e2_35 _ _ rfl rfl h
theorem x_L_rain (S : sT) (d : Nat) (a0 : Nat) (x1 : Int32) (x2 : Int32) (x3 : Int32) (h : pH) : ex S (d + 1) 36 [.ref a0, .int x1, .int x2, .int x3] h = onlyR 1 (bd S (ex S d) dflT E_L_rain 10 0 [some (.ref a0), some (.int x1), some (.int x2), some (.int x3), none] [] h) := ex_goH S d 36 mt_36 e1_36 e2_36 _ _ rfl rfl h
theorem x_X12_rain (S : sT) (d : Nat) (a0 : Nat) (x1 : Int32) (x2 : Int32) (x3 : Int32) (h : pH) : ex S (d + 1) 37 [.ref a0, .int x1, .int x2, .int x3] h = bd S (ex S d) dflT E_X12_rain 100000 0 [some (.ref a0), some (.int x1), some (.int x2), some (.int x3)] [] h := ex_go S d 37 mt_37 e1_37 e2_37 _ _ rfl rfl h
theorem x_X4_toldRain (S : sT) (d : Nat) (a0 : Nat) (x1 : Int32) (h : pH) : ex S (d + 1) 38 [.ref a0, .int x1] h = bd S (ex S d) dflT E_X4_toldRain 100000 0 [some (.ref a0), some (.int x1)] [] h := ex_go S d 38 mt_38 e1_38 e2_38 _ _ rfl rfl h
theorem x_X4_rainOf (S : sT) (d : Nat) (a0 : Nat) (x1 : Int32) (h : pH) : ex S (d + 1) 39 [.ref a0, .int x1] h = bd S (ex S d) dflT E_X4_rainOf 100000 0 [some (.ref a0), some (.int x1)] [] h := ex_go S d 39 mt_39 e1_39 e2_39 _ _ rfl rfl h
theorem x_X11_fell (S : sT) (d : Nat) (a0 : Nat) (x1 : Int32) (h : pH) : ex S (d + 1) 40 [.ref a0, .int x1] h = bd S (ex S d) dflT E_X11_fell 100000 0 [some (.ref a0), some (.int x1)] [] h := ex_go S d 40 mt_40 e1_40 e2_40 _ _ rfl rfl h
theorem x_L_fell (S : sT) (d : Nat) (a0 : Nat) (x1 : Int32) (a2 : Nat) (h : pH) : ex S (d + 1) 41 [.ref a0, .int x1, .ref a2] h = onlyR 1 (bd S (ex S d) dflT E_L_fell 10 0 [some (.ref a0), some (.int x1), some (.ref a2), none] [] h) := ex_goH S d 41 mt_41 e1_41 e2_41 _ _ rfl rfl h
theorem x_X12_rainTold (S : sT) (d : Nat) (a0 : Nat) (x1 : Int32) (h : pH) : ex S (d + 1) 42 [.ref a0, .int x1] h = bd S (ex S d) dflT E_X12_rainTold 100000 0 [some (.ref a0), some (.int x1)] [] h := ex_go S d 42 mt_42 e1_42 e2_42 _ _ rfl rfl h
theorem x_X12_rainOf (S : sT) (d : Nat) (a0 : Nat) (x1 : Int32) (h : pH) : ex S (d + 1) 43 [.ref a0, .int x1] h = bd S (ex S d) dflT E_X12_rainOf 100000 0 [some (.ref a0), some (.int x1)] [] h := ex_go S d 43 mt_43 e1_43 e2_43 _ _ rfl rfl h
theorem x_X12_fell (S : sT) (d : Nat) (a0 : Nat) (x1 : Int32) (h : pH) : ex S (d + 1) 44 [.ref a0, .int x1] h = bd S (ex S d) dflT E_X12_fell 100000 0 [some (.ref a0), some (.int x1)] [] h := ex_go S d 44 mt_44 e1_44 e2_44 _ _ rfl rfl h
theorem x_X4_tell (S : sT) (d : Nat) (a0 : Nat) (x1 : Int32) (x2 : Int32) (x3 : Int32) (x4 : Int32) (h : pH) : ex S (d + 1) 45 [.ref a0, .int x1, .int x2, .int x3, .int x4] h = bd S (ex S d) dflT E_X4_tell 100000 0 [some (.ref a0), some (.int x1), some (.int x2), some (.int x3), some (.int x4)] [] h := ex_go S d 45 mt_45 e1_45 e2_45 _ _ rfl rfl h
theorem x_X11_price (S : sT) (d : Nat) (a0 : Nat) (x1 : Int32) (x2 : Int32) (x3 : Int32) (h : pH) : ex S (d + 1) 46 [.ref a0, .int x1, .int x2, .int x3] h = bd S (ex S d) dflT E_X11_price 100000 0 [some (.ref a0), some (.int x1), some (.int x2), some (.int x3)] [] h := ex_go S d 46 mt_46 e1_46 e2_46 _ _ rfl rfl h
theorem x_L_price (S : sT) (d : Nat) (a0 : Nat) (x1 : Int32) (x2 : Int32) (x3 : Int32) (a4 : Nat) (h : pH) : ex S (d + 1) 47 [.ref a0, .int x1, .int x2, .int x3, .ref a4] h = onlyR 1 (bd S (ex S d) dflT E_L_price 10 0 [some (.ref a0), some (.int x1), some (.int x2), some (.int x3), some (.ref a4), none] [] h) := ex_goH S d 47 mt_47 e1_47 e2_47 _ _ rfl rfl h
theorem x_X12_season (S : sT) (d : Nat) (a0 : Nat) (h : pH) : ex S (d + 1) 48 [.ref a0] h = bd S (ex S d) dflT E_X12_season 100000 0 [some (.ref a0)] [] h := ex_go S d 48 mt_48 e1_48 e2_48 _ _ rfl rfl h
theorem x_X12_price (S : sT) (d : Nat) (a0 : Nat) (x1 : Int32) (x2 : Int32) (x3 : Int32) (h : pH) : ex S (d + 1) 49 [.ref a0, .int x1, .int x2, .int x3] h = bd S (ex S d) dflT E_X12_price 100000 0 [some (.ref a0), some (.int x1), some (.int x2), some (.int x3), none] [] h := ex_go S d 49 mt_49 e1_49 e2_49 _ _ rfl rfl h
theorem x_X4_priceAt (S : sT) (d : Nat) (a0 : Nat) (x1 : Int32) (x2 : Int32) (x3 : Int32) (h : pH) : ex S (d + 1) 50 [.ref a0, .int x1, .int x2, .int x3] h = bd S (ex S d) dflT E_X4_priceAt 100000 0 [some (.ref a0), some (.int x1), some (.int x2), some (.int x3), none] [] h := ex_go S d 50 mt_50 e1_50 e2_50 _ _ rfl rfl h
theorem x_X11_known (S : sT) (d : Nat) (a0 : Nat) (x1 : Int32) (x2 : Int32) (x3 : Int32) (h : pH) : ex S (d + 1) 51 [.ref a0, .int x1, .int x2, .int x3] h = bd S (ex S d) dflT E_X11_known 100000 0 [some (.ref a0), some (.int x1), some (.int x2), some (.int x3)] [] h := ex_go S d 51 mt_51 e1_51 e2_51 _ _ rfl rfl h
theorem x_L_known (S : sT) (d : Nat) (a0 : Nat) (x1 : Int32) (x2 : Int32) (x3 : Int32) (a4 : Nat) (h : pH) : ex S (d + 1) 52 [.ref a0, .int x1, .int x2, .int x3, .ref a4] h = onlyR 1 (bd S (ex S d) dflT E_L_known 10 0 [some (.ref a0), some (.int x1), some (.int x2), some (.int x3), some (.ref a4), none] [] h) := ex_goH S d 52 mt_52 e1_52 e2_52 _ _ rfl rfl h
theorem x_X12_knownOf (S : sT) (d : Nat) (a0 : Nat) (x1 : Int32) (x2 : Int32) (x3 : Int32) (h : pH) : ex S (d + 1) 53 [.ref a0, .int x1, .int x2, .int x3] h = bd S (ex S d) dflT E_X12_knownOf 100000 0 [some (.ref a0), some (.int x1), some (.int x2), some (.int x3), none, none] [] h := ex_go S d 53 mt_53 e1_53 e2_53 _ _ rfl rfl h
theorem x_X12_known (S : sT) (d : Nat) (a0 : Nat) (x1 : Int32) (x2 : Int32) (x3 : Int32) (h : pH) : ex S (d + 1) 54 [.ref a0, .int x1, .int x2, .int x3] h = bd S (ex S d) dflT E_X12_known 100000 0 [some (.ref a0), some (.int x1), some (.int x2), some (.int x3)] [] h := ex_go S d 54 mt_54 e1_54 e2_54 _ _ rfl rfl h
theorem x_X6_useTape (S : sT) (d : Nat) (a0 : Nat) (h : pH) : ex S (d + 1) 55 [.ref a0] h = bd S (ex S d) dflT E_X6_useTape 100000 0 [some (.ref a0)] [] h := ex_go S d 55 mt_55 e1_55 e2_55 _ _ rfl rfl h
theorem x_X6_isLetter (S : sT) (d : Nat) (x0 : Int32) (h : pH) : ex S (d + 1) 56 [.int x0] h = bd S (ex S d) dflT E_X6_isLetter 100000 0 [some (.int x0)] [] h := ex_go S d 56 mt_56 e1_56 e2_56 _ _ rfl rfl h
theorem x_J0_coder_7d493 (S : sT) (d : Nat) (q0 : Nat) (h : pH) : ex S (d + 1) 57 [.retAddr q0] h = bd S (ex S d) dflT E_J0_coder_7d493 100000 0 [some (.retAddr q0)] [] h := ex_go S d 57 mt_57 e1_57 e2_57 _ _ rfl rfl h
theorem x_J0_length_8abf5 (S : sT) (d : Nat) (q0 : Nat) (h : pH) : ex S (d + 1) 58 [.retAddr q0] h = bd S (ex S d) dflT E_J0_length_8abf5 100000 0 [some (.retAddr q0)] [] h := ex_go S d 58 mt_58 e1_58 e2_58 _ _ rfl rfl h
theorem x_J0_isLatin1_aae02 (S : sT) (d : Nat) (q0 : Nat) (h : pH) : ex S (d + 1) 59 [.retAddr q0] h = bd S (ex S d) dflT E_J0_isLatin1_aae02 100000 0 [some (.retAddr q0)] [] h := ex_go S d 59 mt_59 e1_59 e2_59 _ _ rfl rfl h
theorem x_J0_checkIndex_df160 (S : sT) (d : Nat) (x0 : Int32) (x1 : Int32) (h : pH) : ex S (d + 1) 60 [.int x0, .int x1] h = bd S (ex S d) dflT E_J0_checkIndex_df160 100000 0 [some (.int x0), some (.int x1)] [] h := ex_go S d 60 mt_60 e1_60 e2_60 _ _ rfl rfl h
theorem x_J1_charAt_3b067 (S : sT) (d : Nat) (q0 : Nat) (x1 : Int32) (h : pH) : ex S (d + 1) 61 [.retAddr q0, .int x1] h = bd S (ex S d) dflT E_J1_charAt_3b067 100000 0 [some (.retAddr q0), some (.int x1)] [] h := ex_go S d 61 mt_61 e1_61 e2_61 _ _ rfl rfl h
theorem x_J0_charAt_5068e (S : sT) (d : Nat) (q0 : Nat) (x1 : Int32) (h : pH) : ex S (d + 1) 62 [.retAddr q0, .int x1] h = bd S (ex S d) dflT E_J0_charAt_5068e 100000 0 [some (.retAddr q0), some (.int x1)] [] h := ex_go S d 62 mt_62 e1_62 e2_62 _ _ rfl rfl h
theorem x_X6_wordFrom (S : sT) (d : Nat) (a0 : Nat) (x1 : Int32) (h : pH) : ex S (d + 1) 63 [.ref a0, .int x1] h = bd S (ex S d) dflT E_X6_wordFrom 100000 0 [some (.ref a0), some (.int x1), none, none, none, none, none] [] h := ex_go S d 63 mt_63 e1_63 e2_63 _ _ rfl rfl h
theorem x_X6_isDigit (S : sT) (d : Nat) (x0 : Int32) (h : pH) : ex S (d + 1) 64 [.int x0] h = bd S (ex S d) dflT E_X6_isDigit 100000 0 [some (.int x0)] [] h := ex_go S d 64 mt_64 e1_64 e2_64 _ _ rfl rfl h
theorem x_X6_next (S : sT) (d : Nat) (a0 : Nat) (h : pH) : ex S (d + 1) 65 [.ref a0] h = bd S (ex S d) dflT E_X6_next 100000 0 [some (.ref a0)] [] h := ex_go S d 65 mt_65 e1_65 e2_65 _ _ rfl rfl h
theorem x_X6_write (S : sT) (d : Nat) (a0 : Nat) (x1 : Int32) (x2 : Int32) (h : pH) : ex S (d + 1) 66 [.ref a0, .int x1, .int x2] h = bd S (ex S d) dflT E_X6_write 100000 0 [some (.ref a0), some (.int x1), some (.int x2)] [] h := ex_go S d 66 mt_66 e1_66 e2_66 _ _ rfl rfl h
theorem x_X6_takeVerb (S : sT) (d : Nat) (a0 : Nat) (x1 : Int32) (h : pH) : ex S (d + 1) 67 [.ref a0, .int x1] h = bd S (ex S d) dflT E_X6_takeVerb 100000 0 [some (.ref a0), some (.int x1), none, none] [] h := ex_go S d 67 mt_67 e1_67 e2_67 _ _ rfl rfl h
theorem x_X6_takeNumber (S : sT) (d : Nat) (a0 : Nat) (x1 : Int32) (h : pH) : ex S (d + 1) 68 [.ref a0, .int x1] h = bd S (ex S d) dflT E_X6_takeNumber 100000 0 [some (.ref a0), some (.int x1)] [] h := ex_go S d 68 mt_68 e1_68 e2_68 _ _ rfl rfl h
theorem x_X6_isWord (S : sT) (d : Nat) (a0 : Nat) (x1 : Int32) (h : pH) : ex S (d + 1) 69 [.ref a0, .int x1] h = bd S (ex S d) dflT E_X6_isWord 100000 0 [some (.ref a0), some (.int x1)] [] h := ex_go S d 69 mt_69 e1_69 e2_69 _ _ rfl rfl h
theorem x_X6_takeWord (S : sT) (d : Nat) (a0 : Nat) (x1 : Int32) (h : pH) : ex S (d + 1) 70 [.ref a0, .int x1] h = bd S (ex S d) dflT E_X6_takeWord 100000 0 [some (.ref a0), some (.int x1)] [] h := ex_go S d 70 mt_70 e1_70 e2_70 _ _ rfl rfl h
theorem x_X6_takeCrop (S : sT) (d : Nat) (a0 : Nat) (x1 : Int32) (h : pH) : ex S (d + 1) 71 [.ref a0, .int x1] h = bd S (ex S d) dflT E_X6_takeCrop 100000 0 [some (.ref a0), some (.int x1), none] [] h := ex_go S d 71 mt_71 e1_71 e2_71 _ _ rfl rfl h
theorem x_X6_takeOneOf (S : sT) (d : Nat) (a0 : Nat) (x1 : Int32) (x2 : Int32) (h : pH) : ex S (d + 1) 72 [.ref a0, .int x1, .int x2] h = bd S (ex S d) dflT E_X6_takeOneOf 100000 0 [some (.ref a0), some (.int x1), some (.int x2)] [] h := ex_go S d 72 mt_72 e1_72 e2_72 _ _ rfl rfl h
theorem x_X6_isSign (S : sT) (d : Nat) (a0 : Nat) (x1 : Int32) (h : pH) : ex S (d + 1) 73 [.ref a0, .int x1] h = bd S (ex S d) dflT E_X6_isSign 100000 0 [some (.ref a0), some (.int x1)] [] h := ex_go S d 73 mt_73 e1_73 e2_73 _ _ rfl rfl h
theorem x_X6_takeSign (S : sT) (d : Nat) (a0 : Nat) (x1 : Int32) (h : pH) : ex S (d + 1) 74 [.ref a0, .int x1] h = bd S (ex S d) dflT E_X6_takeSign 100000 0 [some (.ref a0), some (.int x1)] [] h := ex_go S d 74 mt_74 e1_74 e2_74 _ _ rfl rfl h
theorem x_X6_emit (S : sT) (d : Nat) (a0 : Nat) (x1 : Int32) (h : pH) : ex S (d + 1) 75 [.ref a0, .int x1] h = bd S (ex S d) dflT E_X6_emit 100000 0 [some (.ref a0), some (.int x1)] [] h := ex_go S d 75 mt_75 e1_75 e2_75 _ _ rfl rfl h
theorem x_X6_takeSum (S : sT) (d : Nat) (a0 : Nat) (h : pH) : ex S (d + 1) 76 [.ref a0] h = bd S (ex S d) dflT E_X6_takeSum 100000 0 [some (.ref a0), none, none, none] [] h := ex_go S d 76 mt_76 e1_76 e2_76 _ _ rfl rfl h
theorem x_X6_takeAtom (S : sT) (d : Nat) (a0 : Nat) (x1 : Int32) (h : pH) : ex S (d + 1) 77 [.ref a0, .int x1] h = bd S (ex S d) dflT E_X6_takeAtom 100000 0 [some (.ref a0), some (.int x1), none, none, none] [] h := ex_go S d 77 mt_77 e1_77 e2_77 _ _ rfl rfl h
theorem x_X6_takeAll (S : sT) (d : Nat) (a0 : Nat) (x1 : Int32) (h : pH) : ex S (d + 1) 78 [.ref a0, .int x1] h = bd S (ex S d) dflT E_X6_takeAll 100000 0 [some (.ref a0), some (.int x1), none] [] h := ex_go S d 78 mt_78 e1_78 e2_78 _ _ rfl rfl h
theorem x_X6_takeCondition (S : sT) (d : Nat) (a0 : Nat) (x1 : Int32) (h : pH) : ex S (d + 1) 79 [.ref a0, .int x1] h = bd S (ex S d) dflT E_X6_takeCondition 100000 0 [some (.ref a0), some (.int x1), none] [] h := ex_go S d 79 mt_79 e1_79 e2_79 _ _ rfl rfl h
theorem x_X6_takeIf (S : sT) (d : Nat) (a0 : Nat) (h : pH) : ex S (d + 1) 80 [.ref a0] h = bd S (ex S d) dflT E_X6_takeIf 100000 0 [some (.ref a0)] [] h := ex_go S d 80 mt_80 e1_80 e2_80 _ _ rfl rfl h
theorem x_X6_takeRestOfLease (S : sT) (d : Nat) (a0 : Nat) (h : pH) : ex S (d + 1) 81 [.ref a0] h = bd S (ex S d) dflT E_X6_takeRestOfLease 100000 0 [some (.ref a0)] [] h := ex_go S d 81 mt_81 e1_81 e2_81 _ _ rfl rfl h
theorem x_X6_takeRestOfAct (S : sT) (d : Nat) (a0 : Nat) (h : pH) : ex S (d + 1) 82 [.ref a0] h = bd S (ex S d) dflT E_X6_takeRestOfAct 100000 0 [some (.ref a0)] [] h := ex_go S d 82 mt_82 e1_82 e2_82 _ _ rfl rfl h
theorem x_X6_takeLines (S : sT) (d : Nat) (a0 : Nat) (x1 : Int32) (h : pH) : ex S (d + 1) 83 [.ref a0, .int x1] h = bd S (ex S d) dflT E_X6_takeLines 100000 0 [some (.ref a0), some (.int x1), none] [] h := ex_go S d 83 mt_83 e1_83 e2_83 _ _ rfl rfl h
theorem x_X6_read (S : sT) (d : Nat) (a0 : Nat) (x1 : Int32) (h : pH) : ex S (d + 1) 84 [.ref a0, .int x1] h = bd S (ex S d) dflT E_X6_read 100000 0 [some (.ref a0), some (.int x1), none] [] h := ex_go S d 84 mt_84 e1_84 e2_84 _ _ rfl rfl h
theorem x_X11_needText (S : sT) (d : Nat) (x0 : Int32) (h : pH) : ex S (d + 1) 85 [.int x0] h = bd S (ex S d) dflT E_X11_needText 100000 0 [some (.int x0)] [] h := ex_go S d 85 mt_85 e1_85 e2_85 _ _ rfl rfl h
theorem x_X9_inForce (S : sT) (d : Nat) (a0 : Nat) (x1 : Int32) (h : pH) : ex S (d + 1) 86 [.ref a0, .int x1] h = bd S (ex S d) dflT E_X9_inForce 100000 0 [some (.ref a0), some (.int x1), none, none] [] h := ex_go S d 86 mt_86 e1_86 e2_86 _ _ rfl rfl h
theorem x_X9_textAt (S : sT) (d : Nat) (a0 : Nat) (x1 : Int32) (h : pH) : ex S (d + 1) 87 [.ref a0, .int x1] h = bd S (ex S d) dflT E_X9_textAt 100000 0 [some (.ref a0), some (.int x1)] [] h := ex_go S d 87 mt_87 e1_87 e2_87 _ _ rfl rfl h
theorem x_X8_get (S : sT) (d : Nat) (a0 : Nat) (x1 : Int32) (x2 : Int32) (h : pH) : ex S (d + 1) 88 [.ref a0, .int x1, .int x2] h = bd S (ex S d) dflT E_X8_get 100000 0 [some (.ref a0), some (.int x1), some (.int x2)] [] h := ex_go S d 88 mt_88 e1_88 e2_88 _ _ rfl rfl h
theorem x_X8_lastOf (S : sT) (d : Nat) (a0 : Nat) (x1 : Int32) (x2 : Int32) (h : pH) : ex S (d + 1) 89 [.ref a0, .int x1, .int x2] h = bd S (ex S d) dflT E_X8_lastOf 100000 0 [some (.ref a0), some (.int x1), some (.int x2), none] [] h := ex_go S d 89 mt_89 e1_89 e2_89 _ _ rfl rfl h
theorem x_X9_lastLine (S : sT) (d : Nat) (a0 : Nat) (x1 : Int32) (x2 : Int32) (x3 : Int32) (h : pH) : ex S (d + 1) 90 [.ref a0, .int x1, .int x2, .int x3] h = bd S (ex S d) dflT E_X9_lastLine 100000 0 [some (.ref a0), some (.int x1), some (.int x2), some (.int x3), none, none, none] [] h := ex_go S d 90 mt_90 e1_90 e2_90 _ _ rfl rfl h
theorem x_X0_lastLine (S : sT) (d : Nat) (a0 : Nat) (x1 : Int32) (x2 : Int32) (h : pH) : ex S (d + 1) 91 [.ref a0, .int x1, .int x2] h = bd S (ex S d) dflT E_X0_lastLine 100000 0 [some (.ref a0), some (.int x1), some (.int x2)] [] h := ex_go S d 91 mt_91 e1_91 e2_91 _ _ rfl rfl h
theorem x_X9_numberIn (S : sT) (d : Nat) (a0 : Nat) (x1 : Int32) (h : pH) : ex S (d + 1) 92 [.ref a0, .int x1] h = bd S (ex S d) dflT E_X9_numberIn 100000 0 [some (.ref a0), some (.int x1), none] [] h := ex_go S d 92 mt_92 e1_92 e2_92 _ _ rfl rfl h
theorem x_X0_yearsLet (S : sT) (d : Nat) (a0 : Nat) (h : pH) : ex S (d + 1) 93 [.ref a0] h = bd S (ex S d) dflT E_X0_yearsLet 100000 0 [some (.ref a0)] [] h := ex_go S d 93 mt_93 e1_93 e2_93 _ _ rfl rfl h
theorem x_X2_isBetween (S : sT) (d : Nat) (x0 : Int32) (x1 : Int32) (x2 : Int32) (h : pH) : ex S (d + 1) 94 [.int x0, .int x1, .int x2] h = bd S (ex S d) dflT E_X2_isBetween 100000 0 [some (.int x0), some (.int x1), some (.int x2)] [] h := ex_go S d 94 mt_94 e1_94 e2_94 _ _ rfl rfl h
theorem x_X2_isWithin (S : sT) (d : Nat) (x0 : Int32) (x1 : Int32) (x2 : Int32) (h : pH) : ex S (d + 1) 95 [.int x0, .int x1, .int x2] h = bd S (ex S d) dflT E_X2_isWithin 100000 0 [some (.int x0), some (.int x1), some (.int x2)] [] h := ex_go S d 95 mt_95 e1_95 e2_95 _ _ rfl rfl h
theorem x_X0_isFree (S : sT) (d : Nat) (a0 : Nat) (x1 : Int32) (x2 : Int32) (h : pH) : ex S (d + 1) 96 [.ref a0, .int x1, .int x2] h = bd S (ex S d) dflT E_X0_isFree 100000 0 [some (.ref a0), some (.int x1), some (.int x2), none, none] [] h := ex_go S d 96 mt_96 e1_96 e2_96 _ _ rfl rfl h
theorem x_X3_note (S : sT) (d : Nat) (a0 : Nat) (x1 : Int32) (x2 : Int32) (x3 : Int32) (h : pH) : ex S (d + 1) 97 [.ref a0, .int x1, .int x2, .int x3] h = bd S (ex S d) dflT E_X3_note 100000 0 [some (.ref a0), some (.int x1), some (.int x2), some (.int x3)] [] h := ex_go S d 97 mt_97 e1_97 e2_97 _ _ rfl rfl h
theorem x_X0_noteWrong (S : sT) (d : Nat) (a0 : Nat) (x1 : Int32) (x2 : Int32) (h : pH) : ex S (d + 1) 98 [.ref a0, .int x1, .int x2] h = bd S (ex S d) dflT E_X0_noteWrong 100000 0 [some (.ref a0), some (.int x1), some (.int x2)] [] h := ex_go S d 98 mt_98 e1_98 e2_98 _ _ rfl rfl h
theorem x_X1_isCell (S : sT) (d : Nat) (x0 : Int32) (x1 : Int32) (h : pH) : ex S (d + 1) 99 [.int x0, .int x1] h = bd S (ex S d) dflT E_X1_isCell 100000 0 [some (.int x0), some (.int x1)] [] h := ex_go S d 99 mt_99 e1_99 e2_99 _ _ rfl rfl h
theorem x_X1_set (S : sT) (d : Nat) (a0 : Nat) (x1 : Int32) (x2 : Int32) (x3 : Int32) (h : pH) : ex S (d + 1) 100 [.ref a0, .int x1, .int x2, .int x3] h = bd S (ex S d) dflT E_X1_set 100000 0 [some (.ref a0), some (.int x1), some (.int x2), some (.int x3)] [] h := ex_go S d 100 mt_100 e1_100 e2_100 _ _ rfl rfl h
theorem x_X1_open (S : sT) (d : Nat) (a0 : Nat) (x1 : Int32) (h : pH) : ex S (d + 1) 101 [.ref a0, .int x1] h = bd S (ex S d) dflT E_X1_open 100000 0 [some (.ref a0), some (.int x1), none] [] h := ex_go S d 101 mt_101 e1_101 e2_101 _ _ rfl rfl h
theorem x_X1_get (S : sT) (d : Nat) (a0 : Nat) (x1 : Int32) (x2 : Int32) (h : pH) : ex S (d + 1) 102 [.ref a0, .int x1, .int x2] h = bd S (ex S d) dflT E_X1_get 100000 0 [some (.ref a0), some (.int x1), some (.int x2)] [] h := ex_go S d 102 mt_102 e1_102 e2_102 _ _ rfl rfl h
theorem x_X11_capped (S : sT) (d : Nat) (j0 : Int64) (h : pH) : ex S (d + 1) 103 [.long j0] h = bd S (ex S d) dflT E_X11_capped 100000 0 [some (.long j0), none] [] h := ex_go S d 103 mt_103 e1_103 e2_103 _ _ rfl rfl h
theorem x_X1_grow (S : sT) (d : Nat) (a0 : Nat) (x1 : Int32) (x2 : Int32) (j3 : Int64) (h : pH) : ex S (d + 1) 104 [.ref a0, .int x1, .int x2, .long j3] h = bd S (ex S d) dflT E_X1_grow 100000 0 [some (.ref a0), some (.int x1), some (.int x2), some (.long j3), none] [] h := ex_go S d 104 mt_104 e1_104 e2_104 _ _ rfl rfl h
theorem x_X0_openOn (S : sT) (d : Nat) (a0 : Nat) (x1 : Int32) (x2 : Int32) (x3 : Int32) (h : pH) : ex S (d + 1) 105 [.ref a0, .int x1, .int x2, .int x3] h = bd S (ex S d) dflT E_X0_openOn 100000 0 [some (.ref a0), some (.int x1), some (.int x2), some (.int x3), none, none] [] h := ex_go S d 105 mt_105 e1_105 e2_105 _ _ rfl rfl h
theorem x_X0_openLease (S : sT) (d : Nat) (a0 : Nat) (x1 : Int32) (x2 : Int32) (x3 : Int32) (x4 : Int32) (h : pH) : ex S (d + 1) 106 [.ref a0, .int x1, .int x2, .int x3, .int x4] h = bd S (ex S d) dflT E_X0_openLease 100000 0 [some (.ref a0), some (.int x1), some (.int x2), some (.int x3), some (.int x4), none] [] h := ex_go S d 106 mt_106 e1_106 e2_106 _ _ rfl rfl h
theorem x_X8_init_ (S : sT) (d : Nat) (a0 : Nat) (x1 : Int32) (a2 : Nat) (h : pH) : ex S (d + 1) 107 [.ref a0, .int x1, .ref a2] h = bd S (ex S d) dflT E_X8_init_ 100000 0 [some (.ref a0), some (.int x1), some (.ref a2)] [] h := ex_go S d 107 mt_107 e1_107 e2_107 _ _ rfl rfl h
theorem x_X6_newText (S : sT) (d : Nat) (a0 : Nat) (h : pH) : ex S (d + 1) 108 [.ref a0] h = bd S (ex S d) dflT E_X6_newText 100000 0 [some (.ref a0), none, none] [] h := ex_go S d 108 mt_108 e1_108 e2_108 _ _ rfl rfl h
theorem x_X1_setLease (S : sT) (d : Nat) (a0 : Nat) (x1 : Int32) (a2 : Nat) (h : pH) : ex S (d + 1) 109 [.ref a0, .int x1, .ref a2] h = bd S (ex S d) dflT E_X1_setLease 100000 0 [some (.ref a0), some (.int x1), some (.ref a2)] [] h := ex_go S d 109 mt_109 e1_109 e2_109 _ _ rfl rfl h
theorem x_X11_let (S : sT) (d : Nat) (a0 : Nat) (x1 : Int32) (x2 : Int32) (x3 : Int32) (x4 : Int32) (x5 : Int32) (h : pH) : ex S (d + 1) 110 [.ref a0, .int x1, .int x2, .int x3, .int x4, .int x5] h = bd S (ex S d) dflT E_X11_let 100000 0 [some (.ref a0), some (.int x1), some (.int x2), some (.int x3), some (.int x4), some (.int x5), none, none] [] h := ex_go S d 110 mt_110 e1_110 e2_110 _ _ rfl rfl h
theorem x_L_let (S : sT) (d : Nat) (a0 : Nat) (x1 : Int32) (x2 : Int32) (x3 : Int32) (x4 : Int32) (x5 : Int32) (a6 : Nat) (h : pH) : ex S (d + 1) 111 [.ref a0, .int x1, .int x2, .int x3, .int x4, .int x5, .ref a6] h = onlyR 1 (bd S (ex S d) dflT E_L_let 10 0 [some (.ref a0), some (.int x1), some (.int x2), some (.int x3), some (.int x4), some (.int x5), some (.ref a6), none] [] h) := ex_goH S d 111 mt_111 e1_111 e2_111 _ _ rfl rfl h
theorem x_X12_uses (S : sT) (d : Nat) (a0 : Nat) (h : pH) : ex S (d + 1) 112 [.ref a0] h = bd S (ex S d) dflT E_X12_uses 100000 0 [some (.ref a0)] [] h := ex_go S d 112 mt_112 e1_112 e2_112 _ _ rfl rfl h
theorem x_X12_isAt (S : sT) (d : Nat) (a0 : Nat) (x1 : Int32) (x2 : Int32) (h : pH) : ex S (d + 1) 113 [.ref a0, .int x1, .int x2] h = bd S (ex S d) dflT E_X12_isAt 100000 0 [some (.ref a0), some (.int x1), some (.int x2)] [] h := ex_go S d 113 mt_113 e1_113 e2_113 _ _ rfl rfl h
theorem x_X12_blanks (S : sT) (d : Nat) (a0 : Nat) (h : pH) : ex S (d + 1) 114 [.ref a0] h = bd S (ex S d) dflT E_X12_blanks 100000 0 [some (.ref a0)] [] h := ex_go S d 114 mt_114 e1_114 e2_114 _ _ rfl rfl h
theorem x_X12_word (S : sT) (d : Nat) (a0 : Nat) (h : pH) : ex S (d + 1) 115 [.ref a0] h = bd S (ex S d) dflT E_X12_word 100000 0 [some (.ref a0)] [] h := ex_go S d 115 mt_115 e1_115 e2_115 _ _ rfl rfl h
theorem x_X12_textAt (S : sT) (d : Nat) (x0 : Int32) (h : pH) : ex S (d + 1) 116 [.int x0] h = bd S (ex S d) dflT E_X12_textAt 100000 0 [some (.int x0)] [] h := ex_go S d 116 mt_116 e1_116 e2_116 _ _ rfl rfl h
theorem x_X12_lineAt (S : sT) (d : Nat) (x0 : Int32) (x1 : Int32) (h : pH) : ex S (d + 1) 117 [.int x0, .int x1] h = bd S (ex S d) dflT E_X12_lineAt 100000 0 [some (.int x0), some (.int x1)] [] h := ex_go S d 117 mt_117 e1_117 e2_117 _ _ rfl rfl h
theorem x_X12_isWord (S : sT) (d : Nat) (a0 : Nat) (q1 : Nat) (h : pH) : ex S (d + 1) 118 [.ref a0, .retAddr q1] h = bd S (ex S d) dflT E_X12_isWord 100000 0 [some (.ref a0), some (.retAddr q1), none, none] [] h := ex_go S d 118 mt_118 e1_118 e2_118 _ _ rfl rfl h
theorem x_X12_wordOf (S : sT) (d : Nat) (a0 : Nat) (h : pH) : ex S (d + 1) 119 [.ref a0] h = bd S (ex S d) dflT E_X12_wordOf 100000 0 [some (.ref a0)] [] h := ex_go S d 119 mt_119 e1_119 e2_119 _ _ rfl rfl h
theorem x_X12_sortOf (S : sT) (d : Nat) (a0 : Nat) (x1 : Int32) (h : pH) : ex S (d + 1) 120 [.ref a0, .int x1] h = bd S (ex S d) dflT E_X12_sortOf 100000 0 [some (.ref a0), some (.int x1), none] [] h := ex_go S d 120 mt_120 e1_120 e2_120 _ _ rfl rfl h
theorem x_X12_number (S : sT) (d : Nat) (a0 : Nat) (x1 : Int32) (h : pH) : ex S (d + 1) 121 [.ref a0, .int x1] h = bd S (ex S d) dflT E_X12_number 100000 0 [some (.ref a0), some (.int x1), none] [] h := ex_go S d 121 mt_121 e1_121 e2_121 _ _ rfl rfl h
theorem x_X12_tells (S : sT) (d : Nat) (a0 : Nat) (x1 : Int32) (x2 : Int32) (h : pH) : ex S (d + 1) 122 [.ref a0, .int x1, .int x2] h = bd S (ex S d) dflT E_X12_tells 100000 0 [some (.ref a0), some (.int x1), some (.int x2)] [] h := ex_go S d 122 mt_122 e1_122 e2_122 _ _ rfl rfl h
theorem x_X12_needs (S : sT) (d : Nat) (a0 : Nat) (q1 : Nat) (h : pH) : ex S (d + 1) 123 [.ref a0, .retAddr q1] h = bd S (ex S d) dflT E_X12_needs 100000 0 [some (.ref a0), some (.retAddr q1)] [] h := ex_go S d 123 mt_123 e1_123 e2_123 _ _ rfl rfl h
theorem x_X12_readCrop (S : sT) (d : Nat) (a0 : Nat) (h : pH) : ex S (d + 1) 124 [.ref a0] h = bd S (ex S d) dflT E_X12_readCrop 100000 0 [some (.ref a0)] [] h := ex_go S d 124 mt_124 e1_124 e2_124 _ _ rfl rfl h
theorem x_X12_readThing (S : sT) (d : Nat) (a0 : Nat) (x1 : Int32) (h : pH) : ex S (d + 1) 125 [.ref a0, .int x1] h = bd S (ex S d) dflT E_X12_readThing 100000 0 [some (.ref a0), some (.int x1), none] [] h := ex_go S d 125 mt_125 e1_125 e2_125 _ _ rfl rfl h
theorem x_X12_passes (S : sT) (d : Nat) (a0 : Nat) (q1 : Nat) (h : pH) : ex S (d + 1) 126 [.ref a0, .retAddr q1] h = bd S (ex S d) dflT E_X12_passes 100000 0 [some (.ref a0), some (.retAddr q1)] [] h := ex_go S d 126 mt_126 e1_126 e2_126 _ _ rfl rfl h
theorem x_X12_sign (S : sT) (d : Nat) (a0 : Nat) (x1 : Int32) (h : pH) : ex S (d + 1) 127 [.ref a0, .int x1] h = bd S (ex S d) dflT E_X12_sign 100000 0 [some (.ref a0), some (.int x1)] [] h := ex_go S d 127 mt_127 e1_127 e2_127 _ _ rfl rfl h
theorem x_X12_adds (S : sT) (d : Nat) (a0 : Nat) (x1 : Int32) (x2 : Int32) (h : pH) : ex S (d + 1) 128 [.ref a0, .int x1, .int x2] h = bd S (ex S d) dflT E_X12_adds 100000 0 [some (.ref a0), some (.int x1), some (.int x2), none] [] h := ex_go S d 128 mt_128 e1_128 e2_128 _ _ rfl rfl h
theorem x_X12_fact (S : sT) (d : Nat) (x0 : Int32) (h : pH) : ex S (d + 1) 129 [.int x0] h = bd S (ex S d) dflT E_X12_fact 100000 0 [some (.int x0)] [] h := ex_go S d 129 mt_129 e1_129 e2_129 _ _ rfl rfl h
theorem x_X12_readPart (S : sT) (d : Nat) (a0 : Nat) (h : pH) : ex S (d + 1) 130 [.ref a0] h = bd S (ex S d) dflT E_X12_readPart 100000 0 [some (.ref a0), none] [] h := ex_go S d 130 mt_130 e1_130 e2_130 _ _ rfl rfl h
theorem x_X12_readSum (S : sT) (d : Nat) (a0 : Nat) (h : pH) : ex S (d + 1) 131 [.ref a0] h = bd S (ex S d) dflT E_X12_readSum 100000 0 [some (.ref a0)] [] h := ex_go S d 131 mt_131 e1_131 e2_131 _ _ rfl rfl h
theorem x_X12_readAtom (S : sT) (d : Nat) (a0 : Nat) (h : pH) : ex S (d + 1) 132 [.ref a0] h = bd S (ex S d) dflT E_X12_readAtom 100000 0 [some (.ref a0), none] [] h := ex_go S d 132 mt_132 e1_132 e2_132 _ _ rfl rfl h
theorem x_X12_readAllOf (S : sT) (d : Nat) (a0 : Nat) (h : pH) : ex S (d + 1) 133 [.ref a0] h = bd S (ex S d) dflT E_X12_readAllOf 100000 0 [some (.ref a0)] [] h := ex_go S d 133 mt_133 e1_133 e2_133 _ _ rfl rfl h
theorem x_X12_readCond (S : sT) (d : Nat) (a0 : Nat) (h : pH) : ex S (d + 1) 134 [.ref a0] h = bd S (ex S d) dflT E_X12_readCond 100000 0 [some (.ref a0)] [] h := ex_go S d 134 mt_134 e1_134 e2_134 _ _ rfl rfl h
theorem x_X12_readIf (S : sT) (d : Nat) (a0 : Nat) (x1 : Int32) (x2 : Int32) (h : pH) : ex S (d + 1) 135 [.ref a0, .int x1, .int x2] h = bd S (ex S d) dflT E_X12_readIf 100000 0 [some (.ref a0), some (.int x1), some (.int x2)] [] h := ex_go S d 135 mt_135 e1_135 e2_135 _ _ rfl rfl h
theorem x_X12_readRest (S : sT) (d : Nat) (a0 : Nat) (x1 : Int32) (x2 : Int32) (h : pH) : ex S (d + 1) 136 [.ref a0, .int x1, .int x2] h = bd S (ex S d) dflT E_X12_readRest 100000 0 [some (.ref a0), some (.int x1), some (.int x2)] [] h := ex_go S d 136 mt_136 e1_136 e2_136 _ _ rfl rfl h
theorem x_X12_readLine (S : sT) (d : Nat) (a0 : Nat) (x1 : Int32) (x2 : Int32) (h : pH) : ex S (d + 1) 137 [.ref a0, .int x1, .int x2] h = bd S (ex S d) dflT E_X12_readLine 100000 0 [some (.ref a0), some (.int x1), some (.int x2), none, none] [] h := ex_go S d 137 mt_137 e1_137 e2_137 _ _ rfl rfl h
theorem x_X12_readAll (S : sT) (d : Nat) (a0 : Nat) (x1 : Int32) (h : pH) : ex S (d + 1) 138 [.ref a0, .int x1] h = bd S (ex S d) dflT E_X12_readAll 100000 0 [some (.ref a0), some (.int x1), none] [] h := ex_go S d 138 mt_138 e1_138 e2_138 _ _ rfl rfl h
theorem x_X12_reads (S : sT) (d : Nat) (a0 : Nat) (x1 : Int32) (h : pH) : ex S (d + 1) 139 [.ref a0, .int x1] h = bd S (ex S d) dflT E_X12_reads 100000 0 [some (.ref a0), some (.int x1), none] [] h := ex_go S d 139 mt_139 e1_139 e2_139 _ _ rfl rfl h
theorem x_X12_orders (S : sT) (d : Nat) (a0 : Nat) (h : pH) : ex S (d + 1) 140 [.ref a0] h = bd S (ex S d) dflT E_X12_orders 100000 0 [some (.ref a0), none, none] [] h := ex_go S d 140 mt_140 e1_140 e2_140 _ _ rfl rfl h
theorem x_X12_linesOf (S : sT) (d : Nat) (a0 : Nat) (x1 : Int32) (h : pH) : ex S (d + 1) 141 [.ref a0, .int x1] h = bd S (ex S d) dflT E_X12_linesOf 100000 0 [some (.ref a0), some (.int x1)] [] h := ex_go S d 141 mt_141 e1_141 e2_141 _ _ rfl rfl h
theorem x_X12_isStruck (S : sT) (d : Nat) (a0 : Nat) (x1 : Int32) (x2 : Int32) (h : pH) : ex S (d + 1) 142 [.ref a0, .int x1, .int x2] h = bd S (ex S d) dflT E_X12_isStruck 100000 0 [some (.ref a0), some (.int x1), some (.int x2), none, none, none] [] h := ex_go S d 142 mt_142 e1_142 e2_142 _ _ rfl rfl h
theorem x_X12_isLine (S : sT) (d : Nat) (a0 : Nat) (x1 : Int32) (x2 : Int32) (x3 : Int32) (h : pH) : ex S (d + 1) 143 [.ref a0, .int x1, .int x2, .int x3] h = bd S (ex S d) dflT E_X12_isLine 100000 0 [some (.ref a0), some (.int x1), some (.int x2), some (.int x3)] [] h := ex_go S d 143 mt_143 e1_143 e2_143 _ _ rfl rfl h
theorem x_X12_lastLine (S : sT) (d : Nat) (a0 : Nat) (x1 : Int32) (x2 : Int32) (h : pH) : ex S (d + 1) 144 [.ref a0, .int x1, .int x2] h = bd S (ex S d) dflT E_X12_lastLine 100000 0 [some (.ref a0), some (.int x1), some (.int x2), none, none, none] [] h := ex_go S d 144 mt_144 e1_144 e2_144 _ _ rfl rfl h
theorem x_X12_numberOf (S : sT) (d : Nat) (a0 : Nat) (x1 : Int32) (h : pH) : ex S (d + 1) 145 [.ref a0, .int x1] h = bd S (ex S d) dflT E_X12_numberOf 100000 0 [some (.ref a0), some (.int x1)] [] h := ex_go S d 145 mt_145 e1_145 e2_145 _ _ rfl rfl h
theorem x_X12_isIn (S : sT) (d : Nat) (x0 : Int32) (x1 : Int32) (x2 : Int32) (h : pH) : ex S (d + 1) 146 [.int x0, .int x1, .int x2] h = bd S (ex S d) dflT E_X12_isIn 100000 0 [some (.int x0), some (.int x1), some (.int x2), none, none] [] h := ex_go S d 146 mt_146 e1_146 e2_146 _ _ rfl rfl h
theorem x_X12_areFree (S : sT) (d : Nat) (a0 : Nat) (x1 : Int32) (x2 : Int32) (h : pH) : ex S (d + 1) 147 [.ref a0, .int x1, .int x2] h = bd S (ex S d) dflT E_X12_areFree 100000 0 [some (.ref a0), some (.int x1), some (.int x2), none, none] [] h := ex_go S d 147 mt_147 e1_147 e2_147 _ _ rfl rfl h
theorem x_X12_holdingAt (S : sT) (d : Nat) (x0 : Int32) (x1 : Int32) (h : pH) : ex S (d + 1) 148 [.int x0, .int x1] h = bd S (ex S d) dflT E_X12_holdingAt 100000 0 [some (.int x0), some (.int x1)] [] h := ex_go S d 148 mt_148 e1_148 e2_148 _ _ rfl rfl h
theorem x_X12_begins (S : sT) (d : Nat) (a0 : Nat) (x1 : Int32) (x2 : Int32) (x3 : Int32) (h : pH) : ex S (d + 1) 149 [.ref a0, .int x1, .int x2, .int x3] h = bd S (ex S d) dflT E_X12_begins 100000 0 [some (.ref a0), some (.int x1), some (.int x2), some (.int x3), none, none] [] h := ex_go S d 149 mt_149 e1_149 e2_149 _ _ rfl rfl h
theorem x_X12_kept (S : sT) (d : Nat) (j0 : Int64) (h : pH) : ex S (d + 1) 150 [.long j0] h = bd S (ex S d) dflT E_X12_kept 100000 0 [some (.long j0), none] [] h := ex_go S d 150 mt_150 e1_150 e2_150 _ _ rfl rfl h
theorem x_X12_sets (S : sT) (d : Nat) (a0 : Nat) (x1 : Int32) (x2 : Int32) (j3 : Int64) (h : pH) : ex S (d + 1) 151 [.ref a0, .int x1, .int x2, .long j3] h = bd S (ex S d) dflT E_X12_sets 100000 0 [some (.ref a0), some (.int x1), some (.int x2), some (.long j3), none] [] h := ex_go S d 151 mt_151 e1_151 e2_151 _ _ rfl rfl h
theorem x_X12_year (S : sT) (d : Nat) (a0 : Nat) (h : pH) : ex S (d + 1) 152 [.ref a0] h = bd S (ex S d) dflT E_X12_year 100000 0 [some (.ref a0)] [] h := ex_go S d 152 mt_152 e1_152 e2_152 _ _ rfl rfl h
theorem x_X12_copies (S : sT) (d : Nat) (a0 : Nat) (x1 : Int32) (h : pH) : ex S (d + 1) 153 [.ref a0, .int x1] h = bd S (ex S d) dflT E_X12_copies 100000 0 [some (.ref a0), some (.int x1), none] [] h := ex_go S d 153 mt_153 e1_153 e2_153 _ _ rfl rfl h
theorem x_X12_errs (S : sT) (d : Nat) (a0 : Nat) (x1 : Int32) (x2 : Int32) (h : pH) : ex S (d + 1) 154 [.ref a0, .int x1, .int x2] h = bd S (ex S d) dflT E_X12_errs 100000 0 [some (.ref a0), some (.int x1), some (.int x2), none] [] h := ex_go S d 154 mt_154 e1_154 e2_154 _ _ rfl rfl h
theorem x_X12_let (S : sT) (d : Nat) (a0 : Nat) (x1 : Int32) (x2 : Int32) (x3 : Int32) (x4 : Int32) (x5 : Int32) (h : pH) : ex S (d + 1) 155 [.ref a0, .int x1, .int x2, .int x3, .int x4, .int x5] h = bd S (ex S d) dflT E_X12_let 100000 0 [some (.ref a0), some (.int x1), some (.int x2), some (.int x3), some (.int x4), some (.int x5), none, none, none, none] [] h := ex_go S d 155 mt_155 e1_155 e2_155 _ _ rfl rfl h
theorem x_X0_openKept (S : sT) (d : Nat) (a0 : Nat) (x1 : Int32) (x2 : Int32) (x3 : Int32) (x4 : Int32) (x5 : Int32) (h : pH) : ex S (d + 1) 156 [.ref a0, .int x1, .int x2, .int x3, .int x4, .int x5] h = bd S (ex S d) dflT E_X0_openKept 100000 0 [some (.ref a0), some (.int x1), some (.int x2), some (.int x3), some (.int x4), some (.int x5), none] [] h := ex_go S d 156 mt_156 e1_156 e2_156 _ _ rfl rfl h
theorem x_X11_keep (S : sT) (d : Nat) (a0 : Nat) (x1 : Int32) (x2 : Int32) (x3 : Int32) (x4 : Int32) (x5 : Int32) (h : pH) : ex S (d + 1) 157 [.ref a0, .int x1, .int x2, .int x3, .int x4, .int x5] h = bd S (ex S d) dflT E_X11_keep 100000 0 [some (.ref a0), some (.int x1), some (.int x2), some (.int x3), some (.int x4), some (.int x5)] [] h := ex_go S d 157 mt_157 e1_157 e2_157 _ _ rfl rfl h
theorem x_L_keep (S : sT) (d : Nat) (a0 : Nat) (x1 : Int32) (x2 : Int32) (x3 : Int32) (x4 : Int32) (x5 : Int32) (a6 : Nat) (h : pH) : ex S (d + 1) 158 [.ref a0, .int x1, .int x2, .int x3, .int x4, .int x5, .ref a6] h = onlyR 1 (bd S (ex S d) dflT E_L_keep 10 0 [some (.ref a0), some (.int x1), some (.int x2), some (.int x3), some (.int x4), some (.int x5), some (.ref a6), none] [] h) := ex_goH S d 158 mt_158 e1_158 e2_158 _ _ rfl rfl h
theorem x_X12_keep (S : sT) (d : Nat) (a0 : Nat) (x1 : Int32) (x2 : Int32) (x3 : Int32) (x4 : Int32) (x5 : Int32) (h : pH) : ex S (d + 1) 159 [.ref a0, .int x1, .int x2, .int x3, .int x4, .int x5] h = bd S (ex S d) dflT E_X12_keep 100000 0 [some (.ref a0), some (.int x1), some (.int x2), some (.int x3), some (.int x4), some (.int x5), none, none] [] h := ex_go S d 159 mt_159 e1_159 e2_159 _ _ rfl rfl h
theorem x_X0_kindAt (S : sT) (d : Nat) (a0 : Nat) (x1 : Int32) (h : pH) : ex S (d + 1) 160 [.ref a0, .int x1] h = bd S (ex S d) dflT E_X0_kindAt 100000 0 [some (.ref a0), some (.int x1), none] [] h := ex_go S d 160 mt_160 e1_160 e2_160 _ _ rfl rfl h
theorem x_X1_isHand (S : sT) (d : Nat) (x0 : Int32) (h : pH) : ex S (d + 1) 161 [.int x0] h = bd S (ex S d) dflT E_X1_isHand 100000 0 [some (.int x0)] [] h := ex_go S d 161 mt_161 e1_161 e2_161 _ _ rfl rfl h
theorem x_X11_needKind (S : sT) (d : Nat) (x0 : Int32) (h : pH) : ex S (d + 1) 162 [.int x0] h = bd S (ex S d) dflT E_X11_needKind 100000 0 [some (.int x0)] [] h := ex_go S d 162 mt_162 e1_162 e2_162 _ _ rfl rfl h
theorem x_X11_sow (S : sT) (d : Nat) (a0 : Nat) (x1 : Int32) (x2 : Int32) (h : pH) : ex S (d + 1) 163 [.ref a0, .int x1, .int x2] h = bd S (ex S d) dflT E_X11_sow 100000 0 [some (.ref a0), some (.int x1), some (.int x2), none] [] h := ex_go S d 163 mt_163 e1_163 e2_163 _ _ rfl rfl h
theorem x_L_sow (S : sT) (d : Nat) (a0 : Nat) (x1 : Int32) (x2 : Int32) (a3 : Nat) (h : pH) : ex S (d + 1) 164 [.ref a0, .int x1, .int x2, .ref a3] h = onlyR 1 (bd S (ex S d) dflT E_L_sow 10 0 [some (.ref a0), some (.int x1), some (.int x2), some (.ref a3), none] [] h) := ex_goH S d 164 mt_164 e1_164 e2_164 _ _ rfl rfl h
theorem x_X12_its (S : sT) (d : Nat) (a0 : Nat) (x1 : Int32) (x2 : Int32) (h : pH) : ex S (d + 1) 165 [.ref a0, .int x1, .int x2] h = bd S (ex S d) dflT E_X12_its 100000 0 [some (.ref a0), some (.int x1), some (.int x2)] [] h := ex_go S d 165 mt_165 e1_165 e2_165 _ _ rfl rfl h
theorem x_X12_kindOf (S : sT) (d : Nat) (a0 : Nat) (x1 : Int32) (h : pH) : ex S (d + 1) 166 [.ref a0, .int x1] h = bd S (ex S d) dflT E_X12_kindOf 100000 0 [some (.ref a0), some (.int x1)] [] h := ex_go S d 166 mt_166 e1_166 e2_166 _ _ rfl rfl h
theorem x_X12_sow (S : sT) (d : Nat) (a0 : Nat) (x1 : Int32) (x2 : Int32) (h : pH) : ex S (d + 1) 167 [.ref a0, .int x1, .int x2] h = bd S (ex S d) dflT E_X12_sow 100000 0 [some (.ref a0), some (.int x1), some (.int x2), none] [] h := ex_go S d 167 mt_167 e1_167 e2_167 _ _ rfl rfl h
theorem x_X11_needHolding (S : sT) (d : Nat) (a0 : Nat) (x1 : Int32) (h : pH) : ex S (d + 1) 168 [.ref a0, .int x1] h = bd S (ex S d) dflT E_X11_needHolding 100000 0 [some (.ref a0), some (.int x1)] [] h := ex_go S d 168 mt_168 e1_168 e2_168 _ _ rfl rfl h
theorem x_X11_notice (S : sT) (d : Nat) (a0 : Nat) (x1 : Int32) (h : pH) : ex S (d + 1) 169 [.ref a0, .int x1] h = bd S (ex S d) dflT E_X11_notice 100000 0 [some (.ref a0), some (.int x1), none] [] h := ex_go S d 169 mt_169 e1_169 e2_169 _ _ rfl rfl h
theorem x_L_notice (S : sT) (d : Nat) (a0 : Nat) (x1 : Int32) (a2 : Nat) (h : pH) : ex S (d + 1) 170 [.ref a0, .int x1, .ref a2] h = onlyR 1 (bd S (ex S d) dflT E_L_notice 10 0 [some (.ref a0), some (.int x1), some (.ref a2), none] [] h) := ex_goH S d 170 mt_170 e1_170 e2_170 _ _ rfl rfl h
theorem x_X12_noHolding (S : sT) (d : Nat) (a0 : Nat) (x1 : Int32) (h : pH) : ex S (d + 1) 171 [.ref a0, .int x1] h = bd S (ex S d) dflT E_X12_noHolding 100000 0 [some (.ref a0), some (.int x1)] [] h := ex_go S d 171 mt_171 e1_171 e2_171 _ _ rfl rfl h
theorem x_X12_fieldsOf (S : sT) (d : Nat) (a0 : Nat) (x1 : Int32) (h : pH) : ex S (d + 1) 172 [.ref a0, .int x1] h = bd S (ex S d) dflT E_X12_fieldsOf 100000 0 [some (.ref a0), some (.int x1), none, none] [] h := ex_go S d 172 mt_172 e1_172 e2_172 _ _ rfl rfl h
theorem x_X12_notice (S : sT) (d : Nat) (a0 : Nat) (x1 : Int32) (h : pH) : ex S (d + 1) 173 [.ref a0, .int x1] h = bd S (ex S d) dflT E_X12_notice 100000 0 [some (.ref a0), some (.int x1)] [] h := ex_go S d 173 mt_173 e1_173 e2_173 _ _ rfl rfl h
theorem x_X1_isLet (S : sT) (d : Nat) (a0 : Nat) (x1 : Int32) (h : pH) : ex S (d + 1) 174 [.ref a0, .int x1] h = bd S (ex S d) dflT E_X1_isLet 100000 0 [some (.ref a0), some (.int x1)] [] h := ex_go S d 174 mt_174 e1_174 e2_174 _ _ rfl rfl h
theorem x_X0_close (S : sT) (d : Nat) (a0 : Nat) (x1 : Int32) (h : pH) : ex S (d + 1) 175 [.ref a0, .int x1] h = bd S (ex S d) dflT E_X0_close 100000 0 [some (.ref a0), some (.int x1), none] [] h := ex_go S d 175 mt_175 e1_175 e2_175 _ _ rfl rfl h
theorem x_X11_give (S : sT) (d : Nat) (a0 : Nat) (x1 : Int32) (h : pH) : ex S (d + 1) 176 [.ref a0, .int x1] h = bd S (ex S d) dflT E_X11_give 100000 0 [some (.ref a0), some (.int x1), none] [] h := ex_go S d 176 mt_176 e1_176 e2_176 _ _ rfl rfl h
theorem x_L_give (S : sT) (d : Nat) (a0 : Nat) (x1 : Int32) (a2 : Nat) (h : pH) : ex S (d + 1) 177 [.ref a0, .int x1, .ref a2] h = onlyR 1 (bd S (ex S d) dflT E_L_give 10 0 [some (.ref a0), some (.int x1), some (.ref a2), none] [] h) := ex_goH S d 177 mt_177 e1_177 e2_177 _ _ rfl rfl h
theorem x_X12_isLet (S : sT) (d : Nat) (a0 : Nat) (x1 : Int32) (h : pH) : ex S (d + 1) 178 [.ref a0, .int x1] h = bd S (ex S d) dflT E_X12_isLet 100000 0 [some (.ref a0), some (.int x1)] [] h := ex_go S d 178 mt_178 e1_178 e2_178 _ _ rfl rfl h
theorem x_X12_leaves (S : sT) (d : Nat) (a0 : Nat) (x1 : Int32) (h : pH) : ex S (d + 1) 179 [.ref a0, .int x1] h = bd S (ex S d) dflT E_X12_leaves 100000 0 [some (.ref a0), some (.int x1), none, none] [] h := ex_go S d 179 mt_179 e1_179 e2_179 _ _ rfl rfl h
theorem x_X12_give (S : sT) (d : Nat) (a0 : Nat) (x1 : Int32) (h : pH) : ex S (d + 1) 180 [.ref a0, .int x1] h = bd S (ex S d) dflT E_X12_give 100000 0 [some (.ref a0), some (.int x1)] [] h := ex_go S d 180 mt_180 e1_180 e2_180 _ _ rfl rfl h
theorem x_X4_learnPrices (S : sT) (d : Nat) (a0 : Nat) (x1 : Int32) (a2 : Nat) (h : pH) : ex S (d + 1) 181 [.ref a0, .int x1, .ref a2] h = bd S (ex S d) dflT E_X4_learnPrices 100000 0 [some (.ref a0), some (.int x1), some (.ref a2), none, none] [] h := ex_go S d 181 mt_181 e1_181 e2_181 _ _ rfl rfl h
theorem x_X0_learnPrices (S : sT) (d : Nat) (a0 : Nat) (h : pH) : ex S (d + 1) 182 [.ref a0] h = bd S (ex S d) dflT E_X0_learnPrices 100000 0 [some (.ref a0)] [] h := ex_go S d 182 mt_182 e1_182 e2_182 _ _ rfl rfl h
theorem x_X1_leaseOf (S : sT) (d : Nat) (a0 : Nat) (x1 : Int32) (h : pH) : ex S (d + 1) 183 [.ref a0, .int x1] h = bd S (ex S d) dflT E_X1_leaseOf 100000 0 [some (.ref a0), some (.int x1), none] [] h := ex_go S d 183 mt_183 e1_183 e2_183 _ _ rfl rfl h
theorem x_X0_priceOf (S : sT) (d : Nat) (a0 : Nat) (x1 : Int32) (h : pH) : ex S (d + 1) 184 [.ref a0, .int x1] h = bd S (ex S d) dflT E_X0_priceOf 100000 0 [some (.ref a0), some (.int x1)] [] h := ex_go S d 184 mt_184 e1_184 e2_184 _ _ rfl rfl h
theorem x_X2_growthOf (S : sT) (d : Nat) (a0 : Nat) (x1 : Int32) (x2 : Int32) (x3 : Int32) (h : pH) : ex S (d + 1) 185 [.ref a0, .int x1, .int x2, .int x3] h = bd S (ex S d) dflT E_X2_growthOf 100000 0 [some (.ref a0), some (.int x1), some (.int x2), some (.int x3), none, none, none] [] h := ex_go S d 185 mt_185 e1_185 e2_185 _ _ rfl rfl h
theorem x_X10_isBarred (S : sT) (d : Nat) (a0 : Nat) (x1 : Int32) (x2 : Int32) (h : pH) : ex S (d + 1) 186 [.ref a0, .int x1, .int x2] h = bd S (ex S d) dflT E_X10_isBarred 100000 0 [some (.ref a0), some (.int x1), some (.int x2), none, none] [] h := ex_go S d 186 mt_186 e1_186 e2_186 _ _ rfl rfl h
theorem x_X10_chosenCrop (S : sT) (d : Nat) (a0 : Nat) (a1 : Nat) (x2 : Int32) (h : pH) : ex S (d + 1) 187 [.ref a0, .ref a1, .int x2] h = bd S (ex S d) dflT E_X10_chosenCrop 100000 0 [some (.ref a0), some (.ref a1), some (.int x2), none, none, none, none] [] h := ex_go S d 187 mt_187 e1_187 e2_187 _ _ rfl rfl h
theorem x_X10_spring (S : sT) (d : Nat) (a0 : Nat) (h : pH) : ex S (d + 1) 188 [.ref a0] h = bd S (ex S d) dflT E_X10_spring 100000 0 [some (.ref a0), none, none] [] h := ex_go S d 188 mt_188 e1_188 e2_188 _ _ rfl rfl h
theorem x_X2_harvest (S : sT) (d : Nat) (a0 : Nat) (x1 : Int32) (x2 : Int32) (h : pH) : ex S (d + 1) 189 [.ref a0, .int x1, .int x2] h = bd S (ex S d) dflT E_X2_harvest 100000 0 [some (.ref a0), some (.int x1), some (.int x2), none, none, none] [] h := ex_go S d 189 mt_189 e1_189 e2_189 _ _ rfl rfl h
theorem x_X3_addHarvest (S : sT) (d : Nat) (a0 : Nat) (x1 : Int32) (h : pH) : ex S (d + 1) 190 [.ref a0, .int x1] h = bd S (ex S d) dflT E_X3_addHarvest 100000 0 [some (.ref a0), some (.int x1)] [] h := ex_go S d 190 mt_190 e1_190 e2_190 _ _ rfl rfl h
theorem x_X3_addIncome (S : sT) (d : Nat) (a0 : Nat) (j1 : Int64) (h : pH) : ex S (d + 1) 191 [.ref a0, .long j1] h = bd S (ex S d) dflT E_X3_addIncome 100000 0 [some (.ref a0), some (.long j1), none] [] h := ex_go S d 191 mt_191 e1_191 e2_191 _ _ rfl rfl h
theorem x_X10_sellHarvest (S : sT) (d : Nat) (a0 : Nat) (x1 : Int32) (h : pH) : ex S (d + 1) 192 [.ref a0, .int x1] h = bd S (ex S d) dflT E_X10_sellHarvest 100000 0 [some (.ref a0), some (.int x1), none, none] [] h := ex_go S d 192 mt_192 e1_192 e2_192 _ _ rfl rfl h
theorem x_X7_add (S : sT) (d : Nat) (a0 : Nat) (a1 : Nat) (h : pH) : ex S (d + 1) 193 [.ref a0, .ref a1] h = bd S (ex S d) dflT E_X7_add 100000 0 [some (.ref a0), some (.ref a1), none] [] h := ex_go S d 193 mt_193 e1_193 e2_193 _ _ rfl rfl h
theorem x_X10_summer (S : sT) (d : Nat) (a0 : Nat) (h : pH) : ex S (d + 1) 194 [.ref a0] h = bd S (ex S d) dflT E_X10_summer 100000 0 [some (.ref a0), none, none] [] h := ex_go S d 194 mt_194 e1_194 e2_194 _ _ rfl rfl h
theorem x_X1_isOver (S : sT) (d : Nat) (a0 : Nat) (x1 : Int32) (h : pH) : ex S (d + 1) 195 [.ref a0, .int x1] h = bd S (ex S d) dflT E_X1_isOver 100000 0 [some (.ref a0), some (.int x1)] [] h := ex_go S d 195 mt_195 e1_195 e2_195 _ _ rfl rfl h
theorem x_X0_learnFacts (S : sT) (d : Nat) (a0 : Nat) (x1 : Int32) (x2 : Int32) (h : pH) : ex S (d + 1) 196 [.ref a0, .int x1, .int x2] h = bd S (ex S d) dflT E_X0_learnFacts 100000 0 [some (.ref a0), some (.int x1), some (.int x2), none] [] h := ex_go S d 196 mt_196 e1_196 e2_196 _ _ rfl rfl h
theorem x_X0_learnFactsOfTenant (S : sT) (d : Nat) (a0 : Nat) (x1 : Int32) (h : pH) : ex S (d + 1) 197 [.ref a0, .int x1] h = bd S (ex S d) dflT E_X0_learnFactsOfTenant 100000 0 [some (.ref a0), some (.int x1)] [] h := ex_go S d 197 mt_197 e1_197 e2_197 _ _ rfl rfl h
theorem x_X8_step (S : sT) (d : Nat) (x0 : Int32) (x1 : Int32) (a2 : Nat) (h : pH) : ex S (d + 1) 198 [.int x0, .int x1, .ref a2] h = bd S (ex S d) dflT E_X8_step 100000 0 [some (.int x0), some (.int x1), some (.ref a2), none, none, none, none] [] h := ex_go S d 198 mt_198 e1_198 e2_198 _ _ rfl rfl h
theorem x_X8_holds (S : sT) (d : Nat) (a0 : Nat) (x1 : Int32) (a2 : Nat) (h : pH) : ex S (d + 1) 199 [.ref a0, .int x1, .ref a2] h = bd S (ex S d) dflT E_X8_holds 100000 0 [some (.ref a0), some (.int x1), some (.ref a2), none, none, none] [] h := ex_go S d 199 mt_199 e1_199 e2_199 _ _ rfl rfl h
theorem x_X8_sumHolding (S : sT) (d : Nat) (a0 : Nat) (x1 : Int32) (a2 : Nat) (h : pH) : ex S (d + 1) 200 [.ref a0, .int x1, .ref a2] h = bd S (ex S d) dflT E_X8_sumHolding 100000 0 [some (.ref a0), some (.int x1), some (.ref a2), none, none] [] h := ex_go S d 200 mt_200 e1_200 e2_200 _ _ rfl rfl h
theorem x_X0_rentOf (S : sT) (d : Nat) (a0 : Nat) (x1 : Int32) (h : pH) : ex S (d + 1) 201 [.ref a0, .int x1] h = bd S (ex S d) dflT E_X0_rentOf 100000 0 [some (.ref a0), some (.int x1), none, none, none, none] [] h := ex_go S d 201 mt_201 e1_201 e2_201 _ _ rfl rfl h
theorem x_X10_harmOfGame (S : sT) (d : Nat) (a0 : Nat) (x1 : Int32) (h : pH) : ex S (d + 1) 202 [.ref a0, .int x1] h = bd S (ex S d) dflT E_X10_harmOfGame 100000 0 [some (.ref a0), some (.int x1), none, none, none, none] [] h := ex_go S d 202 mt_202 e1_202 e2_202 _ _ rfl rfl h
theorem x_X10_hundredthsPut (S : sT) (d : Nat) (a0 : Nat) (x1 : Int32) (h : pH) : ex S (d + 1) 203 [.ref a0, .int x1] h = bd S (ex S d) dflT E_X10_hundredthsPut 100000 0 [some (.ref a0), some (.int x1), none, none, none] [] h := ex_go S d 203 mt_203 e1_203 e2_203 _ _ rfl rfl h
theorem x_X10_receive (S : sT) (d : Nat) (a0 : Nat) (x1 : Int32) (x2 : Int32) (h : pH) : ex S (d + 1) 204 [.ref a0, .int x1, .int x2] h = bd S (ex S d) dflT E_X10_receive 100000 0 [some (.ref a0), some (.int x1), some (.int x2)] [] h := ex_go S d 204 mt_204 e1_204 e2_204 _ _ rfl rfl h
theorem x_X10_takeRent (S : sT) (d : Nat) (a0 : Nat) (x1 : Int32) (h : pH) : ex S (d + 1) 205 [.ref a0, .int x1] h = bd S (ex S d) dflT E_X10_takeRent 100000 0 [some (.ref a0), some (.int x1), none, none, none, none, none, none, none, none] [] h := ex_go S d 205 mt_205 e1_205 e2_205 _ _ rfl rfl h
theorem x_X10_autumn (S : sT) (d : Nat) (a0 : Nat) (h : pH) : ex S (d + 1) 206 [.ref a0] h = bd S (ex S d) dflT E_X10_autumn 100000 0 [some (.ref a0), none] [] h := ex_go S d 206 mt_206 e1_206 e2_206 _ _ rfl rfl h
theorem x_X2_beside (S : sT) (d : Nat) (x0 : Int32) (x1 : Int32) (h : pH) : ex S (d + 1) 207 [.int x0, .int x1] h = bd S (ex S d) dflT E_X2_beside 100000 0 [some (.int x0), some (.int x1), none, none] [] h := ex_go S d 207 mt_207 e1_207 e2_207 _ _ rfl rfl h
theorem x_X10_isBesideWood (S : sT) (d : Nat) (a0 : Nat) (x1 : Int32) (h : pH) : ex S (d + 1) 208 [.ref a0, .int x1] h = bd S (ex S d) dflT E_X10_isBesideWood 100000 0 [some (.ref a0), some (.int x1), none, none] [] h := ex_go S d 208 mt_208 e1_208 e2_208 _ _ rfl rfl h
theorem x_X10_breedGame (S : sT) (d : Nat) (a0 : Nat) (h : pH) : ex S (d + 1) 209 [.ref a0] h = bd S (ex S d) dflT E_X10_breedGame 100000 0 [some (.ref a0), none, none] [] h := ex_go S d 209 mt_209 e1_209 e2_209 _ _ rfl rfl h
theorem x_X10_growOlder (S : sT) (d : Nat) (a0 : Nat) (h : pH) : ex S (d + 1) 210 [.ref a0] h = bd S (ex S d) dflT E_X10_growOlder 100000 0 [some (.ref a0), none, none] [] h := ex_go S d 210 mt_210 e1_210 e2_210 _ _ rfl rfl h
theorem x_X3_addCapital (S : sT) (d : Nat) (a0 : Nat) (j1 : Int64) (h : pH) : ex S (d + 1) 211 [.ref a0, .long j1] h = bd S (ex S d) dflT E_X3_addCapital 100000 0 [some (.ref a0), some (.long j1), none] [] h := ex_go S d 211 mt_211 e1_211 e2_211 _ _ rfl rfl h
theorem x_X0_takeIn (S : sT) (d : Nat) (a0 : Nat) (x1 : Int32) (x2 : Int32) (h : pH) : ex S (d + 1) 212 [.ref a0, .int x1, .int x2] h = bd S (ex S d) dflT E_X0_takeIn 100000 0 [some (.ref a0), some (.int x1), some (.int x2), none, none] [] h := ex_go S d 212 mt_212 e1_212 e2_212 _ _ rfl rfl h
theorem x_X10_sink (S : sT) (d : Nat) (a0 : Nat) (x1 : Int32) (x2 : Int32) (h : pH) : ex S (d + 1) 213 [.ref a0, .int x1, .int x2] h = bd S (ex S d) dflT E_X10_sink 100000 0 [some (.ref a0), some (.int x1), some (.int x2), none, none] [] h := ex_go S d 213 mt_213 e1_213 e2_213 _ _ rfl rfl h
theorem x_X10_dig (S : sT) (d : Nat) (a0 : Nat) (x1 : Int32) (h : pH) : ex S (d + 1) 214 [.ref a0, .int x1] h = bd S (ex S d) dflT E_X10_dig 100000 0 [some (.ref a0), some (.int x1), none, none, none, none, none] [] h := ex_go S d 214 mt_214 e1_214 e2_214 _ _ rfl rfl h
theorem x_X10_digMines (S : sT) (d : Nat) (a0 : Nat) (h : pH) : ex S (d + 1) 215 [.ref a0] h = bd S (ex S d) dflT E_X10_digMines 100000 0 [some (.ref a0), none] [] h := ex_go S d 215 mt_215 e1_215 e2_215 _ _ rfl rfl h
theorem x_X3_payLoans (S : sT) (d : Nat) (a0 : Nat) (h : pH) : ex S (d + 1) 216 [.ref a0] h = bd S (ex S d) dflT E_X3_payLoans 100000 0 [some (.ref a0), none, none, none, none] [] h := ex_go S d 216 mt_216 e1_216 e2_216 _ _ rfl rfl h
theorem x_X0_learnFactsOfEstate (S : sT) (d : Nat) (a0 : Nat) (h : pH) : ex S (d + 1) 217 [.ref a0] h = bd S (ex S d) dflT E_X0_learnFactsOfEstate 100000 0 [some (.ref a0)] [] h := ex_go S d 217 mt_217 e1_217 e2_217 _ _ rfl rfl h
theorem x_X9_lastStrike (S : sT) (d : Nat) (a0 : Nat) (x1 : Int32) (x2 : Int32) (h : pH) : ex S (d + 1) 218 [.ref a0, .int x1, .int x2] h = bd S (ex S d) dflT E_X9_lastStrike 100000 0 [some (.ref a0), some (.int x1), some (.int x2), none, none] [] h := ex_go S d 218 mt_218 e1_218 e2_218 _ _ rfl rfl h
theorem x_X9_sumHolding (S : sT) (d : Nat) (a0 : Nat) (x1 : Int32) (x2 : Int32) (a3 : Nat) (h : pH) : ex S (d + 1) 219 [.ref a0, .int x1, .int x2, .ref a3] h = bd S (ex S d) dflT E_X9_sumHolding 100000 0 [some (.ref a0), some (.int x1), some (.int x2), some (.ref a3), none, none, none, none] [] h := ex_go S d 219 mt_219 e1_219 e2_219 _ _ rfl rfl h
theorem x_X0_chargesNow (S : sT) (d : Nat) (a0 : Nat) (h : pH) : ex S (d + 1) 220 [.ref a0] h = bd S (ex S d) dflT E_X0_chargesNow 100000 0 [some (.ref a0)] [] h := ex_go S d 220 mt_220 e1_220 e2_220 _ _ rfl rfl h
theorem x_X3_payCharges (S : sT) (d : Nat) (a0 : Nat) (x1 : Int32) (h : pH) : ex S (d + 1) 221 [.ref a0, .int x1] h = bd S (ex S d) dflT E_X3_payCharges 100000 0 [some (.ref a0), some (.int x1)] [] h := ex_go S d 221 mt_221 e1_221 e2_221 _ _ rfl rfl h
theorem x_X10_isAtItsEnd (S : sT) (d : Nat) (a0 : Nat) (x1 : Int32) (h : pH) : ex S (d + 1) 222 [.ref a0, .int x1] h = bd S (ex S d) dflT E_X10_isAtItsEnd 100000 0 [some (.ref a0), some (.int x1), none] [] h := ex_go S d 222 mt_222 e1_222 e2_222 _ _ rfl rfl h
theorem x_X0_learnFactsOfField (S : sT) (d : Nat) (a0 : Nat) (x1 : Int32) (h : pH) : ex S (d + 1) 223 [.ref a0, .int x1] h = bd S (ex S d) dflT E_X0_learnFactsOfField 100000 0 [some (.ref a0), some (.int x1)] [] h := ex_go S d 223 mt_223 e1_223 e2_223 _ _ rfl rfl h
theorem x_X0_leftOn (S : sT) (d : Nat) (a0 : Nat) (x1 : Int32) (a2 : Nat) (h : pH) : ex S (d + 1) 224 [.ref a0, .int x1, .ref a2] h = bd S (ex S d) dflT E_X0_leftOn 100000 0 [some (.ref a0), some (.int x1), some (.ref a2), none, none, none, none] [] h := ex_go S d 224 mt_224 e1_224 e2_224 _ _ rfl rfl h
theorem x_X0_owedTo (S : sT) (d : Nat) (a0 : Nat) (x1 : Int32) (h : pH) : ex S (d + 1) 225 [.ref a0, .int x1] h = bd S (ex S d) dflT E_X0_owedTo 100000 0 [some (.ref a0), some (.int x1), none, none, none, none] [] h := ex_go S d 225 mt_225 e1_225 e2_225 _ _ rfl rfl h
theorem x_X10_goOut (S : sT) (d : Nat) (a0 : Nat) (x1 : Int32) (h : pH) : ex S (d + 1) 226 [.ref a0, .int x1] h = bd S (ex S d) dflT E_X10_goOut 100000 0 [some (.ref a0), some (.int x1), none, none, none] [] h := ex_go S d 226 mt_226 e1_226 e2_226 _ _ rfl rfl h
theorem x_X10_endLeases (S : sT) (d : Nat) (a0 : Nat) (h : pH) : ex S (d + 1) 227 [.ref a0] h = bd S (ex S d) dflT E_X10_endLeases 100000 0 [some (.ref a0), none] [] h := ex_go S d 227 mt_227 e1_227 e2_227 _ _ rfl rfl h
theorem x_X10_pass (S : sT) (d : Nat) (a0 : Nat) (h : pH) : ex S (d + 1) 228 [.ref a0] h = bd S (ex S d) dflT E_X10_pass 100000 0 [some (.ref a0)] [] h := ex_go S d 228 mt_228 e1_228 e2_228 _ _ rfl rfl h
theorem x_X11_seasons (S : sT) (d : Nat) (a0 : Nat) (x1 : Int32) (h : pH) : ex S (d + 1) 229 [.ref a0, .int x1] h = bd S (ex S d) dflT E_X11_seasons 100000 0 [some (.ref a0), some (.int x1), none] [] h := ex_go S d 229 mt_229 e1_229 e2_229 _ _ rfl rfl h
theorem x_L_seasons (S : sT) (d : Nat) (a0 : Nat) (x1 : Int32) (a2 : Nat) (h : pH) : ex S (d + 1) 230 [.ref a0, .int x1, .ref a2] h = onlyR 1 (bd S (ex S d) dflT E_L_seasons 10 0 [some (.ref a0), some (.int x1), some (.ref a2), none] [] h) := ex_goH S d 230 mt_230 e1_230 e2_230 _ _ rfl rfl h
theorem x_X12_isBarred (S : sT) (d : Nat) (a0 : Nat) (x1 : Int32) (x2 : Int32) (x3 : Int32) (h : pH) : ex S (d + 1) 231 [.ref a0, .int x1, .int x2, .int x3] h = bd S (ex S d) dflT E_X12_isBarred 100000 0 [some (.ref a0), some (.int x1), some (.int x2), some (.int x3), none, none, none] [] h := ex_go S d 231 mt_231 e1_231 e2_231 _ _ rfl rfl h
theorem x_X12_priceOf (S : sT) (d : Nat) (a0 : Nat) (x1 : Int32) (h : pH) : ex S (d + 1) 232 [.ref a0, .int x1] h = bd S (ex S d) dflT E_X12_priceOf 100000 0 [some (.ref a0), some (.int x1)] [] h := ex_go S d 232 mt_232 e1_232 e2_232 _ _ rfl rfl h
theorem x_X12_yieldOf (S : sT) (d : Nat) (a0 : Nat) (x1 : Int32) (x2 : Int32) (x3 : Int32) (h : pH) : ex S (d + 1) 233 [.ref a0, .int x1, .int x2, .int x3] h = bd S (ex S d) dflT E_X12_yieldOf 100000 0 [some (.ref a0), some (.int x1), some (.int x2), some (.int x3), none] [] h := ex_go S d 233 mt_233 e1_233 e2_233 _ _ rfl rfl h
theorem x_X12_spring (S : sT) (d : Nat) (a0 : Nat) (h : pH) : ex S (d + 1) 234 [.ref a0] h = bd S (ex S d) dflT E_X12_spring 100000 0 [some (.ref a0), none, none, none, none, none, none] [] h := ex_go S d 234 mt_234 e1_234 e2_234 _ _ rfl rfl h
theorem x_X12_income (S : sT) (d : Nat) (a0 : Nat) (j1 : Int64) (h : pH) : ex S (d + 1) 235 [.ref a0, .long j1] h = bd S (ex S d) dflT E_X12_income 100000 0 [some (.ref a0), some (.long j1), none] [] h := ex_go S d 235 mt_235 e1_235 e2_235 _ _ rfl rfl h
theorem x_X12_writesRow (S : sT) (d : Nat) (a0 : Nat) (h : pH) : ex S (d + 1) 236 [.ref a0] h = bd S (ex S d) dflT E_X12_writesRow 100000 0 [some (.ref a0), none] [] h := ex_go S d 236 mt_236 e1_236 e2_236 _ _ rfl rfl h
theorem x_X12_summer (S : sT) (d : Nat) (a0 : Nat) (h : pH) : ex S (d + 1) 237 [.ref a0] h = bd S (ex S d) dflT E_X12_summer 100000 0 [some (.ref a0), none, none, none, none, none, none, none, none] [] h := ex_go S d 237 mt_237 e1_237 e2_237 _ _ rfl rfl h
theorem x_X12_looks (S : sT) (d : Nat) (a0 : Nat) (x1 : Int32) (x2 : Int32) (h : pH) : ex S (d + 1) 238 [.ref a0, .int x1, .int x2] h = bd S (ex S d) dflT E_X12_looks 100000 0 [some (.ref a0), some (.int x1), some (.int x2), none] [] h := ex_go S d 238 mt_238 e1_238 e2_238 _ _ rfl rfl h
theorem x_X12_holds (S : sT) (d : Nat) (a0 : Nat) (x1 : Int32) (x2 : Int32) (h : pH) : ex S (d + 1) 239 [.ref a0, .int x1, .int x2] h = bd S (ex S d) dflT E_X12_holds 100000 0 [some (.ref a0), some (.int x1), some (.int x2), none, none, none, none, none, none, none, none] [] h := ex_go S d 239 mt_239 e1_239 e2_239 _ _ rfl rfl h
theorem x_X12_rentOf (S : sT) (d : Nat) (a0 : Nat) (x1 : Int32) (h : pH) : ex S (d + 1) 240 [.ref a0, .int x1] h = bd S (ex S d) dflT E_X12_rentOf 100000 0 [some (.ref a0), some (.int x1), none, none, none, none] [] h := ex_go S d 240 mt_240 e1_240 e2_240 _ _ rfl rfl h
theorem x_X12_rentLess (S : sT) (d : Nat) (a0 : Nat) (x1 : Int32) (h : pH) : ex S (d + 1) 241 [.ref a0, .int x1] h = bd S (ex S d) dflT E_X12_rentLess 100000 0 [some (.ref a0), some (.int x1), none, none, none, none] [] h := ex_go S d 241 mt_241 e1_241 e2_241 _ _ rfl rfl h
theorem x_X12_paysRent (S : sT) (d : Nat) (a0 : Nat) (x1 : Int32) (h : pH) : ex S (d + 1) 242 [.ref a0, .int x1] h = bd S (ex S d) dflT E_X12_paysRent 100000 0 [some (.ref a0), some (.int x1), none, none, none, none, none] [] h := ex_go S d 242 mt_242 e1_242 e2_242 _ _ rfl rfl h
theorem x_X12_autumn (S : sT) (d : Nat) (a0 : Nat) (h : pH) : ex S (d + 1) 243 [.ref a0] h = bd S (ex S d) dflT E_X12_autumn 100000 0 [some (.ref a0), none] [] h := ex_go S d 243 mt_243 e1_243 e2_243 _ _ rfl rfl h
theorem x_X12_beside (S : sT) (d : Nat) (x0 : Int32) (x1 : Int32) (h : pH) : ex S (d + 1) 244 [.int x0, .int x1] h = bd S (ex S d) dflT E_X12_beside 100000 0 [some (.int x0), some (.int x1)] [] h := ex_go S d 244 mt_244 e1_244 e2_244 _ _ rfl rfl h
theorem x_X12_isNearWood (S : sT) (d : Nat) (a0 : Nat) (x1 : Int32) (h : pH) : ex S (d + 1) 245 [.ref a0, .int x1] h = bd S (ex S d) dflT E_X12_isNearWood 100000 0 [some (.ref a0), some (.int x1), none, none] [] h := ex_go S d 245 mt_245 e1_245 e2_245 _ _ rfl rfl h
theorem x_X12_grows (S : sT) (d : Nat) (a0 : Nat) (h : pH) : ex S (d + 1) 246 [.ref a0] h = bd S (ex S d) dflT E_X12_grows 100000 0 [some (.ref a0), none, none] [] h := ex_go S d 246 mt_246 e1_246 e2_246 _ _ rfl rfl h
theorem x_X12_partOf (S : sT) (d : Nat) (a0 : Nat) (x1 : Int32) (h : pH) : ex S (d + 1) 247 [.ref a0, .int x1] h = bd S (ex S d) dflT E_X12_partOf 100000 0 [some (.ref a0), some (.int x1)] [] h := ex_go S d 247 mt_247 e1_247 e2_247 _ _ rfl rfl h
theorem x_X12_capital (S : sT) (d : Nat) (a0 : Nat) (j1 : Int64) (h : pH) : ex S (d + 1) 248 [.ref a0, .long j1] h = bd S (ex S d) dflT E_X12_capital 100000 0 [some (.ref a0), some (.long j1), none] [] h := ex_go S d 248 mt_248 e1_248 e2_248 _ _ rfl rfl h
theorem x_X12_comes (S : sT) (d : Nat) (a0 : Nat) (x1 : Int32) (x2 : Int32) (h : pH) : ex S (d + 1) 249 [.ref a0, .int x1, .int x2] h = bd S (ex S d) dflT E_X12_comes 100000 0 [some (.ref a0), some (.int x1), some (.int x2), none] [] h := ex_go S d 249 mt_249 e1_249 e2_249 _ _ rfl rfl h
theorem x_X12_digs (S : sT) (d : Nat) (a0 : Nat) (x1 : Int32) (h : pH) : ex S (d + 1) 250 [.ref a0, .int x1] h = bd S (ex S d) dflT E_X12_digs 100000 0 [some (.ref a0), some (.int x1), none, none, none, none, none, none] [] h := ex_go S d 250 mt_250 e1_250 e2_250 _ _ rfl rfl h
theorem x_X12_paysLoan (S : sT) (d : Nat) (a0 : Nat) (x1 : Int32) (h : pH) : ex S (d + 1) 251 [.ref a0, .int x1] h = bd S (ex S d) dflT E_X12_paysLoan 100000 0 [some (.ref a0), some (.int x1), none, none] [] h := ex_go S d 251 mt_251 e1_251 e2_251 _ _ rfl rfl h
theorem x_X12_charges (S : sT) (d : Nat) (a0 : Nat) (h : pH) : ex S (d + 1) 252 [.ref a0] h = bd S (ex S d) dflT E_X12_charges 100000 0 [some (.ref a0), none, none, none] [] h := ex_go S d 252 mt_252 e1_252 e2_252 _ _ rfl rfl h
theorem x_X12_owedTo (S : sT) (d : Nat) (a0 : Nat) (x1 : Int32) (h : pH) : ex S (d + 1) 253 [.ref a0, .int x1] h = bd S (ex S d) dflT E_X12_owedTo 100000 0 [some (.ref a0), some (.int x1), none, none, none, none, none] [] h := ex_go S d 253 mt_253 e1_253 e2_253 _ _ rfl rfl h
theorem x_X12_goesOut (S : sT) (d : Nat) (a0 : Nat) (x1 : Int32) (h : pH) : ex S (d + 1) 254 [.ref a0, .int x1] h = bd S (ex S d) dflT E_X12_goesOut 100000 0 [some (.ref a0), some (.int x1), none, none, none, none] [] h := ex_go S d 254 mt_254 e1_254 e2_254 _ _ rfl rfl h
theorem x_X12_winter (S : sT) (d : Nat) (a0 : Nat) (h : pH) : ex S (d + 1) 255 [.ref a0] h = bd S (ex S d) dflT E_X12_winter 100000 0 [some (.ref a0), none, none] [] h := ex_go S d 255 mt_255 e1_255 e2_255 _ _ rfl rfl h
theorem x_X12_seasons (S : sT) (d : Nat) (a0 : Nat) (x1 : Int32) (h : pH) : ex S (d + 1) 256 [.ref a0, .int x1] h = bd S (ex S d) dflT E_X12_seasons 100000 0 [some (.ref a0), some (.int x1), none] [] h := ex_go S d 256 mt_256 e1_256 e2_256 _ _ rfl rfl h
theorem x_X11_needKnown (S : sT) (d : Nat) (x0 : Int32) (h : pH) : ex S (d + 1) 257 [.int x0] h = bd S (ex S d) dflT E_X11_needKnown 100000 0 [some (.int x0)] [] h := ex_go S d 257 mt_257 e1_257 e2_257 _ _ rfl rfl h
theorem x_X2_timberOf (S : sT) (d : Nat) (a0 : Nat) (x1 : Int32) (h : pH) : ex S (d + 1) 258 [.ref a0, .int x1] h = bd S (ex S d) dflT E_X2_timberOf 100000 0 [some (.ref a0), some (.int x1)] [] h := ex_go S d 258 mt_258 e1_258 e2_258 _ _ rfl rfl h
theorem x_X2_worthOf (S : sT) (d : Nat) (a0 : Nat) (x1 : Int32) (h : pH) : ex S (d + 1) 259 [.ref a0, .int x1] h = bd S (ex S d) dflT E_X2_worthOf 100000 0 [some (.ref a0), some (.int x1), none, none] [] h := ex_go S d 259 mt_259 e1_259 e2_259 _ _ rfl rfl h
theorem x_X11_look (S : sT) (d : Nat) (a0 : Nat) (x1 : Int32) (x2 : Int32) (h : pH) : ex S (d + 1) 260 [.ref a0, .int x1, .int x2] h = bd S (ex S d) dflT E_X11_look 100000 0 [some (.ref a0), some (.int x1), some (.int x2)] [] h := ex_go S d 260 mt_260 e1_260 e2_260 _ _ rfl rfl h
theorem x_L_look (S : sT) (d : Nat) (a0 : Nat) (x1 : Int32) (x2 : Int32) (a3 : Nat) (h : pH) : ex S (d + 1) 261 [.ref a0, .int x1, .int x2, .ref a3] h = onlyR 1 (bd S (ex S d) dflT E_L_look 10 0 [some (.ref a0), some (.int x1), some (.int x2), some (.ref a3), none] [] h) := ex_goH S d 261 mt_261 e1_261 e2_261 _ _ rfl rfl h
theorem x_X12_worthOf (S : sT) (d : Nat) (a0 : Nat) (x1 : Int32) (h : pH) : ex S (d + 1) 262 [.ref a0, .int x1] h = bd S (ex S d) dflT E_X12_worthOf 100000 0 [some (.ref a0), some (.int x1), none] [] h := ex_go S d 262 mt_262 e1_262 e2_262 _ _ rfl rfl h
theorem x_X12_look (S : sT) (d : Nat) (a0 : Nat) (x1 : Int32) (x2 : Int32) (h : pH) : ex S (d + 1) 263 [.ref a0, .int x1, .int x2] h = bd S (ex S d) dflT E_X12_look 100000 0 [some (.ref a0), some (.int x1), some (.int x2)] [] h := ex_go S d 263 mt_263 e1_263 e2_263 _ _ rfl rfl h
theorem x_X11_led (S : sT) (d : Nat) (a0 : Nat) (x1 : Int32) (x2 : Int32) (h : pH) : ex S (d + 1) 264 [.ref a0, .int x1, .int x2] h = bd S (ex S d) dflT E_X11_led 100000 0 [some (.ref a0), some (.int x1), some (.int x2)] [] h := ex_go S d 264 mt_264 e1_264 e2_264 _ _ rfl rfl h
theorem x_L_led (S : sT) (d : Nat) (a0 : Nat) (x1 : Int32) (x2 : Int32) (a3 : Nat) (h : pH) : ex S (d + 1) 265 [.ref a0, .int x1, .int x2, .ref a3] h = onlyR 1 (bd S (ex S d) dflT E_L_led 10 0 [some (.ref a0), some (.int x1), some (.int x2), some (.ref a3), none] [] h) := ex_goH S d 265 mt_265 e1_265 e2_265 _ _ rfl rfl h
theorem x_X12_led (S : sT) (d : Nat) (a0 : Nat) (x1 : Int32) (x2 : Int32) (h : pH) : ex S (d + 1) 266 [.ref a0, .int x1, .int x2] h = bd S (ex S d) dflT E_X12_led 100000 0 [some (.ref a0), some (.int x1), some (.int x2)] [] h := ex_go S d 266 mt_266 e1_266 e2_266 _ _ rfl rfl h
theorem x_X11_owed (S : sT) (d : Nat) (a0 : Nat) (x1 : Int32) (h : pH) : ex S (d + 1) 267 [.ref a0, .int x1] h = bd S (ex S d) dflT E_X11_owed 100000 0 [some (.ref a0), some (.int x1)] [] h := ex_go S d 267 mt_267 e1_267 e2_267 _ _ rfl rfl h
theorem x_L_owed (S : sT) (d : Nat) (a0 : Nat) (x1 : Int32) (a2 : Nat) (h : pH) : ex S (d + 1) 268 [.ref a0, .int x1, .ref a2] h = onlyR 1 (bd S (ex S d) dflT E_L_owed 10 0 [some (.ref a0), some (.int x1), some (.ref a2), none] [] h) := ex_goH S d 268 mt_268 e1_268 e2_268 _ _ rfl rfl h
theorem x_X12_owed (S : sT) (d : Nat) (a0 : Nat) (x1 : Int32) (h : pH) : ex S (d + 1) 269 [.ref a0, .int x1] h = bd S (ex S d) dflT E_X12_owed 100000 0 [some (.ref a0), some (.int x1)] [] h := ex_go S d 269 mt_269 e1_269 e2_269 _ _ rfl rfl h
theorem x_X11_rent (S : sT) (d : Nat) (a0 : Nat) (x1 : Int32) (h : pH) : ex S (d + 1) 270 [.ref a0, .int x1] h = bd S (ex S d) dflT E_X11_rent 100000 0 [some (.ref a0), some (.int x1)] [] h := ex_go S d 270 mt_270 e1_270 e2_270 _ _ rfl rfl h
theorem x_L_rent (S : sT) (d : Nat) (a0 : Nat) (x1 : Int32) (a2 : Nat) (h : pH) : ex S (d + 1) 271 [.ref a0, .int x1, .ref a2] h = onlyR 1 (bd S (ex S d) dflT E_L_rent 10 0 [some (.ref a0), some (.int x1), some (.ref a2), none] [] h) := ex_goH S d 271 mt_271 e1_271 e2_271 _ _ rfl rfl h
theorem x_X12_rent (S : sT) (d : Nat) (a0 : Nat) (x1 : Int32) (h : pH) : ex S (d + 1) 272 [.ref a0, .int x1] h = bd S (ex S d) dflT E_X12_rent 100000 0 [some (.ref a0), some (.int x1)] [] h := ex_go S d 272 mt_272 e1_272 e2_272 _ _ rfl rfl h
theorem x_X1_rankOf (S : sT) (d : Nat) (a0 : Nat) (x1 : Int32) (h : pH) : ex S (d + 1) 273 [.ref a0, .int x1] h = bd S (ex S d) dflT E_X1_rankOf 100000 0 [some (.ref a0), some (.int x1), none, none, none, none] [] h := ex_go S d 273 mt_273 e1_273 e2_273 _ _ rfl rfl h
theorem x_X1_ofRank (S : sT) (d : Nat) (a0 : Nat) (x1 : Int32) (h : pH) : ex S (d + 1) 274 [.ref a0, .int x1] h = bd S (ex S d) dflT E_X1_ofRank 100000 0 [some (.ref a0), some (.int x1), none] [] h := ex_go S d 274 mt_274 e1_274 e2_274 _ _ rfl rfl h
theorem x_X11_arrears (S : sT) (d : Nat) (a0 : Nat) (x1 : Int32) (h : pH) : ex S (d + 1) 275 [.ref a0, .int x1] h = bd S (ex S d) dflT E_X11_arrears 100000 0 [some (.ref a0), some (.int x1)] [] h := ex_go S d 275 mt_275 e1_275 e2_275 _ _ rfl rfl h
theorem x_X12_arrears (S : sT) (d : Nat) (a0 : Nat) (x1 : Int32) (h : pH) : ex S (d + 1) 276 [.ref a0, .int x1] h = bd S (ex S d) dflT E_X12_arrears 100000 0 [some (.ref a0), some (.int x1), none, none, none] [] h := ex_go S d 276 mt_276 e1_276 e2_276 _ _ rfl rfl h
theorem x_X11_needRoom (S : sT) (d : Nat) (x0 : Int32) (h : pH) : ex S (d + 1) 277 [.int x0] h = bd S (ex S d) dflT E_X11_needRoom 100000 0 [some (.int x0)] [] h := ex_go S d 277 mt_277 e1_277 e2_277 _ _ rfl rfl h
theorem x_X9_add (S : sT) (d : Nat) (a0 : Nat) (a1 : Nat) (x2 : Int32) (h : pH) : ex S (d + 1) 278 [.ref a0, .ref a1, .int x2] h = bd S (ex S d) dflT E_X9_add 100000 0 [some (.ref a0), some (.ref a1), some (.int x2), none] [] h := ex_go S d 278 mt_278 e1_278 e2_278 _ _ rfl rfl h
theorem x_X11_words (S : sT) (d : Nat) (a0 : Nat) (x1 : Int32) (h : pH) : ex S (d + 1) 279 [.ref a0, .int x1] h = bd S (ex S d) dflT E_X11_words 100000 0 [some (.ref a0), some (.int x1), none] [] h := ex_go S d 279 mt_279 e1_279 e2_279 _ _ rfl rfl h
theorem x_L_words (S : sT) (d : Nat) (a0 : Nat) (x1 : Int32) (a2 : Nat) (h : pH) : ex S (d + 1) 280 [.ref a0, .int x1, .ref a2] h = onlyR 1 (bd S (ex S d) dflT E_L_words 10 0 [some (.ref a0), some (.int x1), some (.ref a2), none] [] h) := ex_goH S d 280 mt_280 e1_280 e2_280 _ _ rfl rfl h
theorem x_X12_words (S : sT) (d : Nat) (a0 : Nat) (x1 : Int32) (h : pH) : ex S (d + 1) 281 [.ref a0, .int x1] h = bd S (ex S d) dflT E_X12_words 100000 0 [some (.ref a0), some (.int x1), none, none] [] h := ex_go S d 281 mt_281 e1_281 e2_281 _ _ rfl rfl h
theorem x_X11_fault (S : sT) (d : Nat) (a0 : Nat) (h : pH) : ex S (d + 1) 282 [.ref a0] h = bd S (ex S d) dflT E_X11_fault 100000 0 [some (.ref a0)] [] h := ex_go S d 282 mt_282 e1_282 e2_282 _ _ rfl rfl h
theorem x_X12_fault (S : sT) (d : Nat) (a0 : Nat) (h : pH) : ex S (d + 1) 283 [.ref a0] h = bd S (ex S d) dflT E_X12_fault 100000 0 [some (.ref a0)] [] h := ex_go S d 283 mt_283 e1_283 e2_283 _ _ rfl rfl h
theorem x_X8_firstHolding (S : sT) (d : Nat) (a0 : Nat) (x1 : Int32) (a2 : Nat) (h : pH) : ex S (d + 1) 284 [.ref a0, .int x1, .ref a2] h = bd S (ex S d) dflT E_X8_firstHolding 100000 0 [some (.ref a0), some (.int x1), some (.ref a2), none] [] h := ex_go S d 284 mt_284 e1_284 e2_284 _ _ rfl rfl h
theorem x_X9_firstHolding (S : sT) (d : Nat) (a0 : Nat) (x1 : Int32) (x2 : Int32) (a3 : Nat) (h : pH) : ex S (d + 1) 285 [.ref a0, .int x1, .int x2, .ref a3] h = bd S (ex S d) dflT E_X9_firstHolding 100000 0 [some (.ref a0), some (.int x1), some (.int x2), some (.ref a3), none, none, none, none] [] h := ex_go S d 285 mt_285 e1_285 e2_285 _ _ rfl rfl h
theorem x_X0_lineThatLets (S : sT) (d : Nat) (a0 : Nat) (x1 : Int32) (x2 : Int32) (h : pH) : ex S (d + 1) 286 [.ref a0, .int x1, .int x2] h = bd S (ex S d) dflT E_X0_lineThatLets 100000 0 [some (.ref a0), some (.int x1), some (.int x2)] [] h := ex_go S d 286 mt_286 e1_286 e2_286 _ _ rfl rfl h
theorem x_X0_mostBorrowed (S : sT) (d : Nat) (a0 : Nat) (h : pH) : ex S (d + 1) 287 [.ref a0] h = bd S (ex S d) dflT E_X0_mostBorrowed 100000 0 [some (.ref a0)] [] h := ex_go S d 287 mt_287 e1_287 e2_287 _ _ rfl rfl h
theorem x_X0_partOf (S : sT) (d : Nat) (a0 : Nat) (x1 : Int32) (h : pH) : ex S (d + 1) 288 [.ref a0, .int x1] h = bd S (ex S d) dflT E_X0_partOf 100000 0 [some (.ref a0), some (.int x1)] [] h := ex_go S d 288 mt_288 e1_288 e2_288 _ _ rfl rfl h
theorem x_X11_may (S : sT) (d : Nat) (a0 : Nat) (x1 : Int32) (x2 : Int32) (h : pH) : ex S (d + 1) 289 [.ref a0, .int x1, .int x2] h = bd S (ex S d) dflT E_X11_may 100000 0 [some (.ref a0), some (.int x1), some (.int x2)] [] h := ex_go S d 289 mt_289 e1_289 e2_289 _ _ rfl rfl h
theorem x_L_may (S : sT) (d : Nat) (a0 : Nat) (x1 : Int32) (x2 : Int32) (a3 : Nat) (h : pH) : ex S (d + 1) 290 [.ref a0, .int x1, .int x2, .ref a3] h = onlyR 1 (bd S (ex S d) dflT E_L_may 10 0 [some (.ref a0), some (.int x1), some (.int x2), some (.ref a3), none] [] h) := ex_goH S d 290 mt_290 e1_290 e2_290 _ _ rfl rfl h
theorem x_X12_mostOf (S : sT) (d : Nat) (a0 : Nat) (x1 : Int32) (h : pH) : ex S (d + 1) 291 [.ref a0, .int x1] h = bd S (ex S d) dflT E_X12_mostOf 100000 0 [some (.ref a0), some (.int x1)] [] h := ex_go S d 291 mt_291 e1_291 e2_291 _ _ rfl rfl h
theorem x_X12_firstLine (S : sT) (d : Nat) (a0 : Nat) (x1 : Int32) (x2 : Int32) (h : pH) : ex S (d + 1) 292 [.ref a0, .int x1, .int x2] h = bd S (ex S d) dflT E_X12_firstLine 100000 0 [some (.ref a0), some (.int x1), some (.int x2), none, none] [] h := ex_go S d 292 mt_292 e1_292 e2_292 _ _ rfl rfl h
theorem x_X12_may (S : sT) (d : Nat) (a0 : Nat) (x1 : Int32) (x2 : Int32) (h : pH) : ex S (d + 1) 293 [.ref a0, .int x1, .int x2] h = bd S (ex S d) dflT E_X12_may 100000 0 [some (.ref a0), some (.int x1), some (.int x2)] [] h := ex_go S d 293 mt_293 e1_293 e2_293 _ _ rfl rfl h
theorem x_X0_firstCharge (S : sT) (d : Nat) (a0 : Nat) (h : pH) : ex S (d + 1) 294 [.ref a0] h = bd S (ex S d) dflT E_X0_firstCharge 100000 0 [some (.ref a0)] [] h := ex_go S d 294 mt_294 e1_294 e2_294 _ _ rfl rfl h
theorem x_X11_why (S : sT) (d : Nat) (a0 : Nat) (x1 : Int32) (x2 : Int32) (h : pH) : ex S (d + 1) 295 [.ref a0, .int x1, .int x2] h = bd S (ex S d) dflT E_X11_why 100000 0 [some (.ref a0), some (.int x1), some (.int x2)] [] h := ex_go S d 295 mt_295 e1_295 e2_295 _ _ rfl rfl h
theorem x_L_why (S : sT) (d : Nat) (a0 : Nat) (x1 : Int32) (x2 : Int32) (a3 : Nat) (h : pH) : ex S (d + 1) 296 [.ref a0, .int x1, .int x2, .ref a3] h = onlyR 1 (bd S (ex S d) dflT E_L_why 10 0 [some (.ref a0), some (.int x1), some (.int x2), some (.ref a3), none] [] h) := ex_goH S d 296 mt_296 e1_296 e2_296 _ _ rfl rfl h
theorem x_X12_why (S : sT) (d : Nat) (a0 : Nat) (x1 : Int32) (x2 : Int32) (h : pH) : ex S (d + 1) 297 [.ref a0, .int x1, .int x2] h = bd S (ex S d) dflT E_X12_why 100000 0 [some (.ref a0), some (.int x1), some (.int x2)] [] h := ex_go S d 297 mt_297 e1_297 e2_297 _ _ rfl rfl h
theorem x_X11_cut (S : sT) (d : Nat) (a0 : Nat) (x1 : Int32) (x2 : Int32) (h : pH) : ex S (d + 1) 298 [.ref a0, .int x1, .int x2] h = bd S (ex S d) dflT E_X11_cut 100000 0 [some (.ref a0), some (.int x1), some (.int x2), none, none] [] h := ex_go S d 298 mt_298 e1_298 e2_298 _ _ rfl rfl h
theorem x_L_cut (S : sT) (d : Nat) (a0 : Nat) (x1 : Int32) (x2 : Int32) (a3 : Nat) (h : pH) : ex S (d + 1) 299 [.ref a0, .int x1, .int x2, .ref a3] h = onlyR 1 (bd S (ex S d) dflT E_L_cut 10 0 [some (.ref a0), some (.int x1), some (.int x2), some (.ref a3), none] [] h) := ex_goH S d 299 mt_299 e1_299 e2_299 _ _ rfl rfl h
theorem x_X12_cut (S : sT) (d : Nat) (a0 : Nat) (x1 : Int32) (x2 : Int32) (h : pH) : ex S (d + 1) 300 [.ref a0, .int x1, .int x2] h = bd S (ex S d) dflT E_X12_cut 100000 0 [some (.ref a0), some (.int x1), some (.int x2), none, none] [] h := ex_go S d 300 mt_300 e1_300 e2_300 _ _ rfl rfl h
theorem x_X3_owedInAll (S : sT) (d : Nat) (a0 : Nat) (h : pH) : ex S (d + 1) 301 [.ref a0] h = bd S (ex S d) dflT E_X3_owedInAll 100000 0 [some (.ref a0), none, none] [] h := ex_go S d 301 mt_301 e1_301 e2_301 _ _ rfl rfl h
theorem x_X3_lend (S : sT) (d : Nat) (a0 : Nat) (x1 : Int32) (x2 : Int32) (x3 : Int32) (h : pH) : ex S (d + 1) 302 [.ref a0, .int x1, .int x2, .int x3] h = bd S (ex S d) dflT E_X3_lend 100000 0 [some (.ref a0), some (.int x1), some (.int x2), some (.int x3)] [] h := ex_go S d 302 mt_302 e1_302 e2_302 _ _ rfl rfl h
theorem x_X11_loan (S : sT) (d : Nat) (a0 : Nat) (x1 : Int32) (x2 : Int32) (x3 : Int32) (x4 : Int32) (h : pH) : ex S (d + 1) 303 [.ref a0, .int x1, .int x2, .int x3, .int x4] h = bd S (ex S d) dflT E_X11_loan 100000 0 [some (.ref a0), some (.int x1), some (.int x2), some (.int x3), some (.int x4), none] [] h := ex_go S d 303 mt_303 e1_303 e2_303 _ _ rfl rfl h
theorem x_L_loan (S : sT) (d : Nat) (a0 : Nat) (x1 : Int32) (x2 : Int32) (x3 : Int32) (x4 : Int32) (a5 : Nat) (h : pH) : ex S (d + 1) 304 [.ref a0, .int x1, .int x2, .int x3, .int x4, .ref a5] h = onlyR 1 (bd S (ex S d) dflT E_L_loan 10 0 [some (.ref a0), some (.int x1), some (.int x2), some (.int x3), some (.int x4), some (.ref a5), none] [] h) := ex_goH S d 304 mt_304 e1_304 e2_304 _ _ rfl rfl h
theorem x_X12_owedOnLoans (S : sT) (d : Nat) (a0 : Nat) (h : pH) : ex S (d + 1) 305 [.ref a0] h = bd S (ex S d) dflT E_X12_owedOnLoans 100000 0 [some (.ref a0), none, none, none] [] h := ex_go S d 305 mt_305 e1_305 e2_305 _ _ rfl rfl h
theorem x_X12_loan (S : sT) (d : Nat) (a0 : Nat) (x1 : Int32) (x2 : Int32) (x3 : Int32) (x4 : Int32) (h : pH) : ex S (d + 1) 306 [.ref a0, .int x1, .int x2, .int x3, .int x4] h = bd S (ex S d) dflT E_X12_loan 100000 0 [some (.ref a0), some (.int x1), some (.int x2), some (.int x3), some (.int x4), none, none] [] h := ex_go S d 306 mt_306 e1_306 e2_306 _ _ rfl rfl h
theorem x_X11_owing (S : sT) (d : Nat) (a0 : Nat) (x1 : Int32) (h : pH) : ex S (d + 1) 307 [.ref a0, .int x1] h = bd S (ex S d) dflT E_X11_owing 100000 0 [some (.ref a0), some (.int x1)] [] h := ex_go S d 307 mt_307 e1_307 e2_307 _ _ rfl rfl h
theorem x_L_owing (S : sT) (d : Nat) (a0 : Nat) (x1 : Int32) (a2 : Nat) (h : pH) : ex S (d + 1) 308 [.ref a0, .int x1, .ref a2] h = onlyR 1 (bd S (ex S d) dflT E_L_owing 10 0 [some (.ref a0), some (.int x1), some (.ref a2), none] [] h) := ex_goH S d 308 mt_308 e1_308 e2_308 _ _ rfl rfl h
theorem x_X12_owing (S : sT) (d : Nat) (a0 : Nat) (x1 : Int32) (h : pH) : ex S (d + 1) 309 [.ref a0, .int x1] h = bd S (ex S d) dflT E_X12_owing 100000 0 [some (.ref a0), some (.int x1)] [] h := ex_go S d 309 mt_309 e1_309 e2_309 _ _ rfl rfl h
theorem x_X0_payWork (S : sT) (d : Nat) (a0 : Nat) (x1 : Int32) (x2 : Int32) (h : pH) : ex S (d + 1) 310 [.ref a0, .int x1, .int x2] h = bd S (ex S d) dflT E_X0_payWork 100000 0 [some (.ref a0), some (.int x1), some (.int x2), none, none] [] h := ex_go S d 310 mt_310 e1_310 e2_310 _ _ rfl rfl h
theorem x_X11_work (S : sT) (d : Nat) (a0 : Nat) (x1 : Int32) (x2 : Int32) (h : pH) : ex S (d + 1) 311 [.ref a0, .int x1, .int x2] h = bd S (ex S d) dflT E_X11_work 100000 0 [some (.ref a0), some (.int x1), some (.int x2), none] [] h := ex_go S d 311 mt_311 e1_311 e2_311 _ _ rfl rfl h
theorem x_L_work (S : sT) (d : Nat) (a0 : Nat) (x1 : Int32) (x2 : Int32) (a3 : Nat) (h : pH) : ex S (d + 1) 312 [.ref a0, .int x1, .int x2, .ref a3] h = onlyR 1 (bd S (ex S d) dflT E_L_work 10 0 [some (.ref a0), some (.int x1), some (.int x2), some (.ref a3), none] [] h) := ex_goH S d 312 mt_312 e1_312 e2_312 _ _ rfl rfl h
theorem x_X12_work (S : sT) (d : Nat) (a0 : Nat) (x1 : Int32) (x2 : Int32) (h : pH) : ex S (d + 1) 313 [.ref a0, .int x1, .int x2] h = bd S (ex S d) dflT E_X12_work 100000 0 [some (.ref a0), some (.int x1), some (.int x2), none, none, none] [] h := ex_go S d 313 mt_313 e1_313 e2_313 _ _ rfl rfl h
theorem x_X11_sell (S : sT) (d : Nat) (a0 : Nat) (x1 : Int32) (x2 : Int32) (h : pH) : ex S (d + 1) 314 [.ref a0, .int x1, .int x2] h = bd S (ex S d) dflT E_X11_sell 100000 0 [some (.ref a0), some (.int x1), some (.int x2), none, none] [] h := ex_go S d 314 mt_314 e1_314 e2_314 _ _ rfl rfl h
theorem x_L_sell (S : sT) (d : Nat) (a0 : Nat) (x1 : Int32) (x2 : Int32) (a3 : Nat) (h : pH) : ex S (d + 1) 315 [.ref a0, .int x1, .int x2, .ref a3] h = onlyR 1 (bd S (ex S d) dflT E_L_sell 10 0 [some (.ref a0), some (.int x1), some (.int x2), some (.ref a3), none] [] h) := ex_goH S d 315 mt_315 e1_315 e2_315 _ _ rfl rfl h
theorem x_X12_sell (S : sT) (d : Nat) (a0 : Nat) (x1 : Int32) (x2 : Int32) (h : pH) : ex S (d + 1) 316 [.ref a0, .int x1, .int x2] h = bd S (ex S d) dflT E_X12_sell 100000 0 [some (.ref a0), some (.int x1), some (.int x2), none, none] [] h := ex_go S d 316 mt_316 e1_316 e2_316 _ _ rfl rfl h
theorem x_X3_passOn (S : sT) (d : Nat) (a0 : Nat) (h : pH) : ex S (d + 1) 317 [.ref a0] h = bd S (ex S d) dflT E_X3_passOn 100000 0 [some (.ref a0), none] [] h := ex_go S d 317 mt_317 e1_317 e2_317 _ _ rfl rfl h
theorem x_X11_heir (S : sT) (d : Nat) (a0 : Nat) (h : pH) : ex S (d + 1) 318 [.ref a0] h = bd S (ex S d) dflT E_X11_heir 100000 0 [some (.ref a0)] [] h := ex_go S d 318 mt_318 e1_318 e2_318 _ _ rfl rfl h
theorem x_X12_heir (S : sT) (d : Nat) (a0 : Nat) (h : pH) : ex S (d + 1) 319 [.ref a0] h = bd S (ex S d) dflT E_X12_heir 100000 0 [some (.ref a0), none] [] h := ex_go S d 319 mt_319 e1_319 e2_319 _ _ rfl rfl h
theorem x_X3_wrongNote (S : sT) (d : Nat) (a0 : Nat) (x1 : Int32) (x2 : Int32) (h : pH) : ex S (d + 1) 320 [.ref a0, .int x1, .int x2] h = bd S (ex S d) dflT E_X3_wrongNote 100000 0 [some (.ref a0), some (.int x1), some (.int x2)] [] h := ex_go S d 320 mt_320 e1_320 e2_320 _ _ rfl rfl h
theorem x_X11_wrong (S : sT) (d : Nat) (a0 : Nat) (x1 : Int32) (x2 : Int32) (h : pH) : ex S (d + 1) 321 [.ref a0, .int x1, .int x2] h = bd S (ex S d) dflT E_X11_wrong 100000 0 [some (.ref a0), some (.int x1), some (.int x2)] [] h := ex_go S d 321 mt_321 e1_321 e2_321 _ _ rfl rfl h
theorem x_L_wrong (S : sT) (d : Nat) (a0 : Nat) (x1 : Int32) (x2 : Int32) (a3 : Nat) (h : pH) : ex S (d + 1) 322 [.ref a0, .int x1, .int x2, .ref a3] h = onlyR 1 (bd S (ex S d) dflT E_L_wrong 10 0 [some (.ref a0), some (.int x1), some (.int x2), some (.ref a3), none] [] h) := ex_goH S d 322 mt_322 e1_322 e2_322 _ _ rfl rfl h
theorem x_X12_wrong (S : sT) (d : Nat) (a0 : Nat) (x1 : Int32) (x2 : Int32) (h : pH) : ex S (d + 1) 323 [.ref a0, .int x1, .int x2] h = bd S (ex S d) dflT E_X12_wrong 100000 0 [some (.ref a0), some (.int x1), some (.int x2)] [] h := ex_go S d 323 mt_323 e1_323 e2_323 _ _ rfl rfl h
theorem x_X5_addJob (S : sT) (d : Nat) (a0 : Nat) (x1 : Int32) (x2 : Int32) (x3 : Int32) (h : pH) : ex S (d + 1) 324 [.ref a0, .int x1, .int x2, .int x3] h = bd S (ex S d) dflT E_X5_addJob 100000 0 [some (.ref a0), some (.int x1), some (.int x2), some (.int x3)] [] h := ex_go S d 324 mt_324 e1_324 e2_324 _ _ rfl rfl h
theorem x_X11_job (S : sT) (d : Nat) (a0 : Nat) (x1 : Int32) (x2 : Int32) (x3 : Int32) (h : pH) : ex S (d + 1) 325 [.ref a0, .int x1, .int x2, .int x3] h = bd S (ex S d) dflT E_X11_job 100000 0 [some (.ref a0), some (.int x1), some (.int x2), some (.int x3)] [] h := ex_go S d 325 mt_325 e1_325 e2_325 _ _ rfl rfl h
theorem x_L_job (S : sT) (d : Nat) (a0 : Nat) (x1 : Int32) (x2 : Int32) (x3 : Int32) (a4 : Nat) (h : pH) : ex S (d + 1) 326 [.ref a0, .int x1, .int x2, .int x3, .ref a4] h = onlyR 1 (bd S (ex S d) dflT E_L_job 10 0 [some (.ref a0), some (.int x1), some (.int x2), some (.int x3), some (.ref a4), none] [] h) := ex_goH S d 326 mt_326 e1_326 e2_326 _ _ rfl rfl h
theorem x_X12_job (S : sT) (d : Nat) (a0 : Nat) (x1 : Int32) (x2 : Int32) (x3 : Int32) (h : pH) : ex S (d + 1) 327 [.ref a0, .int x1, .int x2, .int x3] h = bd S (ex S d) dflT E_X12_job 100000 0 [some (.ref a0), some (.int x1), some (.int x2), some (.int x3), none] [] h := ex_go S d 327 mt_327 e1_327 e2_327 _ _ rfl rfl h
theorem x_X5_addTrouble (S : sT) (d : Nat) (a0 : Nat) (x1 : Int32) (x2 : Int32) (h : pH) : ex S (d + 1) 328 [.ref a0, .int x1, .int x2] h = bd S (ex S d) dflT E_X5_addTrouble 100000 0 [some (.ref a0), some (.int x1), some (.int x2)] [] h := ex_go S d 328 mt_328 e1_328 e2_328 _ _ rfl rfl h
theorem x_X11_trouble (S : sT) (d : Nat) (a0 : Nat) (x1 : Int32) (x2 : Int32) (h : pH) : ex S (d + 1) 329 [.ref a0, .int x1, .int x2] h = bd S (ex S d) dflT E_X11_trouble 100000 0 [some (.ref a0), some (.int x1), some (.int x2)] [] h := ex_go S d 329 mt_329 e1_329 e2_329 _ _ rfl rfl h
theorem x_L_trouble (S : sT) (d : Nat) (a0 : Nat) (x1 : Int32) (x2 : Int32) (a3 : Nat) (h : pH) : ex S (d + 1) 330 [.ref a0, .int x1, .int x2, .ref a3] h = onlyR 1 (bd S (ex S d) dflT E_L_trouble 10 0 [some (.ref a0), some (.int x1), some (.int x2), some (.ref a3), none] [] h) := ex_goH S d 330 mt_330 e1_330 e2_330 _ _ rfl rfl h
theorem x_X12_trouble (S : sT) (d : Nat) (a0 : Nat) (x1 : Int32) (x2 : Int32) (h : pH) : ex S (d + 1) 331 [.ref a0, .int x1, .int x2] h = bd S (ex S d) dflT E_X12_trouble 100000 0 [some (.ref a0), some (.int x1), some (.int x2), none] [] h := ex_go S d 331 mt_331 e1_331 e2_331 _ _ rfl rfl h
theorem x_X5_jobsIn (S : sT) (d : Nat) (a0 : Nat) (x1 : Int32) (x2 : Int32) (h : pH) : ex S (d + 1) 332 [.ref a0, .int x1, .int x2] h = bd S (ex S d) dflT E_X5_jobsIn 100000 0 [some (.ref a0), some (.int x1), some (.int x2), none, none] [] h := ex_go S d 332 mt_332 e1_332 e2_332 _ _ rfl rfl h
theorem x_X5_endOf (S : sT) (d : Nat) (a0 : Nat) (x1 : Int32) (x2 : Int32) (x3 : Int32) (x4 : Int32) (h : pH) : ex S (d + 1) 333 [.ref a0, .int x1, .int x2, .int x3, .int x4] h = bd S (ex S d) dflT E_X5_endOf 100000 0 [some (.ref a0), some (.int x1), some (.int x2), some (.int x3), some (.int x4), none, none] [] h := ex_go S d 333 mt_333 e1_333 e2_333 _ _ rfl rfl h
theorem x_X5_leastEnd (S : sT) (d : Nat) (a0 : Nat) (x1 : Int32) (x2 : Int32) (x3 : Int32) (h : pH) : ex S (d + 1) 334 [.ref a0, .int x1, .int x2, .int x3] h = bd S (ex S d) dflT E_X5_leastEnd 100000 0 [some (.ref a0), some (.int x1), some (.int x2), some (.int x3), none, none] [] h := ex_go S d 334 mt_334 e1_334 e2_334 _ _ rfl rfl h
theorem x_X11_worth (S : sT) (d : Nat) (a0 : Nat) (x1 : Int32) (x2 : Int32) (x3 : Int32) (h : pH) : ex S (d + 1) 335 [.ref a0, .int x1, .int x2, .int x3] h = bd S (ex S d) dflT E_X11_worth 100000 0 [some (.ref a0), some (.int x1), some (.int x2), some (.int x3)] [] h := ex_go S d 335 mt_335 e1_335 e2_335 _ _ rfl rfl h
theorem x_L_worth (S : sT) (d : Nat) (a0 : Nat) (x1 : Int32) (x2 : Int32) (x3 : Int32) (a4 : Nat) (h : pH) : ex S (d + 1) 336 [.ref a0, .int x1, .int x2, .int x3, .ref a4] h = onlyR 1 (bd S (ex S d) dflT E_L_worth 10 0 [some (.ref a0), some (.int x1), some (.int x2), some (.int x3), some (.ref a4), none] [] h) := ex_goH S d 336 mt_336 e1_336 e2_336 _ _ rfl rfl h
theorem x_X12_noPlan (S : sT) (d : Nat) (a0 : Nat) (x1 : Int32) (x2 : Int32) (h : pH) : ex S (d + 1) 337 [.ref a0, .int x1, .int x2] h = bd S (ex S d) dflT E_X12_noPlan 100000 0 [some (.ref a0), some (.int x1), some (.int x2)] [] h := ex_go S d 337 mt_337 e1_337 e2_337 _ _ rfl rfl h
theorem x_X12_endsWith (S : sT) (d : Nat) (a0 : Nat) (x1 : Int32) (x2 : Int32) (x3 : Int32) (x4 : Int32) (x5 : Int32) (h : pH) : ex S (d + 1) 338 [.ref a0, .int x1, .int x2, .int x3, .int x4, .int x5] h = bd S (ex S d) dflT E_X12_endsWith 100000 0 [some (.ref a0), some (.int x1), some (.int x2), some (.int x3), some (.int x4), some (.int x5), none, none, none, none] [] h := ex_go S d 338 mt_338 e1_338 e2_338 _ _ rfl rfl h
theorem x_X12_worthOfSet (S : sT) (d : Nat) (a0 : Nat) (x1 : Int32) (x2 : Int32) (x3 : Int32) (h : pH) : ex S (d + 1) 339 [.ref a0, .int x1, .int x2, .int x3] h = bd S (ex S d) dflT E_X12_worthOfSet 100000 0 [some (.ref a0), some (.int x1), some (.int x2), some (.int x3), none, none] [] h := ex_go S d 339 mt_339 e1_339 e2_339 _ _ rfl rfl h
theorem x_X12_worth (S : sT) (d : Nat) (a0 : Nat) (x1 : Int32) (x2 : Int32) (x3 : Int32) (h : pH) : ex S (d + 1) 340 [.ref a0, .int x1, .int x2, .int x3] h = bd S (ex S d) dflT E_X12_worth 100000 0 [some (.ref a0), some (.int x1), some (.int x2), some (.int x3)] [] h := ex_go S d 340 mt_340 e1_340 e2_340 _ _ rfl rfl h
theorem x_J6_bitCount_0f7a4 (S : sT) (d : Nat) (x0 : Int32) (h : pH) : ex S (d + 1) 341 [.int x0] h = bd S (ex S d) dflT E_J6_bitCount_0f7a4 100000 0 [some (.int x0)] [] h := ex_go S d 341 mt_341 e1_341 e2_341 _ _ rfl rfl h
theorem x_X5_bestSet (S : sT) (d : Nat) (a0 : Nat) (x1 : Int32) (x2 : Int32) (h : pH) : ex S (d + 1) 342 [.ref a0, .int x1, .int x2] h = bd S (ex S d) dflT E_X5_bestSet 100000 0 [some (.ref a0), some (.int x1), some (.int x2), none, none, none, none, none] [] h := ex_go S d 342 mt_342 e1_342 e2_342 _ _ rfl rfl h
theorem x_X11_best (S : sT) (d : Nat) (a0 : Nat) (x1 : Int32) (x2 : Int32) (h : pH) : ex S (d + 1) 343 [.ref a0, .int x1, .int x2] h = bd S (ex S d) dflT E_X11_best 100000 0 [some (.ref a0), some (.int x1), some (.int x2)] [] h := ex_go S d 343 mt_343 e1_343 e2_343 _ _ rfl rfl h
theorem x_L_best (S : sT) (d : Nat) (a0 : Nat) (x1 : Int32) (x2 : Int32) (a3 : Nat) (h : pH) : ex S (d + 1) 344 [.ref a0, .int x1, .int x2, .ref a3] h = onlyR 1 (bd S (ex S d) dflT E_L_best 10 0 [some (.ref a0), some (.int x1), some (.int x2), some (.ref a3), none] [] h) := ex_goH S d 344 mt_344 e1_344 e2_344 _ _ rfl rfl h
theorem x_X12_best (S : sT) (d : Nat) (a0 : Nat) (x1 : Int32) (x2 : Int32) (h : pH) : ex S (d + 1) 345 [.ref a0, .int x1, .int x2] h = bd S (ex S d) dflT E_X12_best 100000 0 [some (.ref a0), some (.int x1), some (.int x2), none, none, none, none] [] h := ex_go S d 345 mt_345 e1_345 e2_345 _ _ rfl rfl h
theorem x_X0_isIn (S : sT) (d : Nat) (x0 : Int32) (x1 : Int32) (x2 : Int32) (h : pH) : ex S (d + 1) 346 [.int x0, .int x1, .int x2] h = bd S (ex S d) dflT E_X0_isIn 100000 0 [some (.int x0), some (.int x1), some (.int x2), none] [] h := ex_go S d 346 mt_346 e1_346 e2_346 _ _ rfl rfl h
theorem x_X0_worthTogether (S : sT) (d : Nat) (a0 : Nat) (x1 : Int32) (x2 : Int32) (h : pH) : ex S (d + 1) 347 [.ref a0, .int x1, .int x2] h = bd S (ex S d) dflT E_X0_worthTogether 100000 0 [some (.ref a0), some (.int x1), some (.int x2), none, none] [] h := ex_go S d 347 mt_347 e1_347 e2_347 _ _ rfl rfl h
theorem x_X0_partedPairs (S : sT) (d : Nat) (a0 : Nat) (x1 : Int32) (x2 : Int32) (h : pH) : ex S (d + 1) 348 [.ref a0, .int x1, .int x2] h = bd S (ex S d) dflT E_X0_partedPairs 100000 0 [some (.ref a0), some (.int x1), some (.int x2), none, none, none, none] [] h := ex_go S d 348 mt_348 e1_348 e2_348 _ _ rfl rfl h
theorem x_X0_bestSale (S : sT) (d : Nat) (a0 : Nat) (x1 : Int32) (x2 : Int32) (x3 : Int32) (h : pH) : ex S (d + 1) 349 [.ref a0, .int x1, .int x2, .int x3] h = bd S (ex S d) dflT E_X0_bestSale 100000 0 [some (.ref a0), some (.int x1), some (.int x2), some (.int x3), none, none, none, none, none, none, none] [] h := ex_go S d 349 mt_349 e1_349 e2_349 _ _ rfl rfl h
theorem x_X11_toSell (S : sT) (d : Nat) (a0 : Nat) (x1 : Int32) (x2 : Int32) (x3 : Int32) (h : pH) : ex S (d + 1) 350 [.ref a0, .int x1, .int x2, .int x3] h = bd S (ex S d) dflT E_X11_toSell 100000 0 [some (.ref a0), some (.int x1), some (.int x2), some (.int x3)] [] h := ex_go S d 350 mt_350 e1_350 e2_350 _ _ rfl rfl h
theorem x_L_toSell (S : sT) (d : Nat) (a0 : Nat) (x1 : Int32) (x2 : Int32) (x3 : Int32) (a4 : Nat) (h : pH) : ex S (d + 1) 351 [.ref a0, .int x1, .int x2, .int x3, .ref a4] h = onlyR 1 (bd S (ex S d) dflT E_L_toSell 10 0 [some (.ref a0), some (.int x1), some (.int x2), some (.int x3), some (.ref a4), none] [] h) := ex_goH S d 351 mt_351 e1_351 e2_351 _ _ rfl rfl h
theorem x_X12_isOf (S : sT) (d : Nat) (x0 : Int32) (x1 : Int32) (x2 : Int32) (x3 : Int32) (h : pH) : ex S (d + 1) 352 [.int x0, .int x1, .int x2, .int x3] h = bd S (ex S d) dflT E_X12_isOf 100000 0 [some (.int x0), some (.int x1), some (.int x2), some (.int x3)] [] h := ex_go S d 352 mt_352 e1_352 e2_352 _ _ rfl rfl h
theorem x_X12_parted (S : sT) (d : Nat) (a0 : Nat) (x1 : Int32) (x2 : Int32) (x3 : Int32) (h : pH) : ex S (d + 1) 353 [.ref a0, .int x1, .int x2, .int x3] h = bd S (ex S d) dflT E_X12_parted 100000 0 [some (.ref a0), some (.int x1), some (.int x2), some (.int x3), none, none, none, none] [] h := ex_go S d 353 mt_353 e1_353 e2_353 _ _ rfl rfl h
theorem x_X12_toSell (S : sT) (d : Nat) (a0 : Nat) (x1 : Int32) (x2 : Int32) (x3 : Int32) (h : pH) : ex S (d + 1) 354 [.ref a0, .int x1, .int x2, .int x3] h = bd S (ex S d) dflT E_X12_toSell 100000 0 [some (.ref a0), some (.int x1), some (.int x2), some (.int x3), none, none, none, none, none, none, none] [] h := ex_go S d 354 mt_354 e1_354 e2_354 _ _ rfl rfl h
theorem x_X11_row (S : sT) (d : Nat) (a0 : Nat) (x1 : Int32) (x2 : Int32) (h : pH) : ex S (d + 1) 355 [.ref a0, .int x1, .int x2] h = bd S (ex S d) dflT E_X11_row 100000 0 [some (.ref a0), some (.int x1), some (.int x2)] [] h := ex_go S d 355 mt_355 e1_355 e2_355 _ _ rfl rfl h
theorem x_L_row (S : sT) (d : Nat) (a0 : Nat) (x1 : Int32) (x2 : Int32) (a3 : Nat) (h : pH) : ex S (d + 1) 356 [.ref a0, .int x1, .int x2, .ref a3] h = onlyR 1 (bd S (ex S d) dflT E_L_row 10 0 [some (.ref a0), some (.int x1), some (.int x2), some (.ref a3), none] [] h) := ex_goH S d 356 mt_356 e1_356 e2_356 _ _ rfl rfl h
theorem x_X12_noRow (S : sT) (d : Nat) (a0 : Nat) (x1 : Int32) (h : pH) : ex S (d + 1) 357 [.ref a0, .int x1] h = bd S (ex S d) dflT E_X12_noRow 100000 0 [some (.ref a0), some (.int x1)] [] h := ex_go S d 357 mt_357 e1_357 e2_357 _ _ rfl rfl h
theorem x_X12_row (S : sT) (d : Nat) (a0 : Nat) (x1 : Int32) (x2 : Int32) (h : pH) : ex S (d + 1) 358 [.ref a0, .int x1, .int x2] h = bd S (ex S d) dflT E_X12_row 100000 0 [some (.ref a0), some (.int x1), some (.int x2)] [] h := ex_go S d 358 mt_358 e1_358 e2_358 _ _ rfl rfl h
theorem x_X11_tear (S : sT) (d : Nat) (a0 : Nat) (x1 : Int32) (x2 : Int32) (x3 : Int32) (h : pH) : ex S (d + 1) 359 [.ref a0, .int x1, .int x2, .int x3] h = bd S (ex S d) dflT E_X11_tear 100000 0 [some (.ref a0), some (.int x1), some (.int x2), some (.int x3)] [] h := ex_go S d 359 mt_359 e1_359 e2_359 _ _ rfl rfl h
theorem x_L_tear (S : sT) (d : Nat) (a0 : Nat) (x1 : Int32) (x2 : Int32) (x3 : Int32) (a4 : Nat) (h : pH) : ex S (d + 1) 360 [.ref a0, .int x1, .int x2, .int x3, .ref a4] h = onlyR 1 (bd S (ex S d) dflT E_L_tear 10 0 [some (.ref a0), some (.int x1), some (.int x2), some (.int x3), some (.ref a4), none] [] h) := ex_goH S d 360 mt_360 e1_360 e2_360 _ _ rfl rfl h
theorem x_X12_tear (S : sT) (d : Nat) (a0 : Nat) (x1 : Int32) (x2 : Int32) (x3 : Int32) (h : pH) : ex S (d + 1) 361 [.ref a0, .int x1, .int x2, .int x3] h = bd S (ex S d) dflT E_X12_tear 100000 0 [some (.ref a0), some (.int x1), some (.int x2), some (.int x3)] [] h := ex_go S d 361 mt_361 e1_361 e2_361 _ _ rfl rfl h
theorem x_X7_firstFalse (S : sT) (d : Nat) (a0 : Nat) (h : pH) : ex S (d + 1) 362 [.ref a0] h = bd S (ex S d) dflT E_X7_firstFalse 100000 0 [some (.ref a0), none] [] h := ex_go S d 362 mt_362 e1_362 e2_362 _ _ rfl rfl h
theorem x_X11_check (S : sT) (d : Nat) (a0 : Nat) (h : pH) : ex S (d + 1) 363 [.ref a0] h = bd S (ex S d) dflT E_X11_check 100000 0 [some (.ref a0)] [] h := ex_go S d 363 mt_363 e1_363 e2_363 _ _ rfl rfl h
theorem x_X12_check (S : sT) (d : Nat) (a0 : Nat) (h : pH) : ex S (d + 1) 364 [.ref a0] h = bd S (ex S d) dflT E_X12_check 100000 0 [some (.ref a0), none] [] h := ex_go S d 364 mt_364 e1_364 e2_364 _ _ rfl rfl h
theorem x_X9_copyFrom (S : sT) (d : Nat) (a0 : Nat) (a1 : Nat) (h : pH) : ex S (d + 1) 365 [.ref a0, .ref a1] h = bd S (ex S d) dflT E_X9_copyFrom 100000 0 [some (.ref a0), some (.ref a1), none] [] h := ex_go S d 365 mt_365 e1_365 e2_365 _ _ rfl rfl h
theorem x_X2_copyFrom (S : sT) (d : Nat) (a0 : Nat) (a1 : Nat) (h : pH) : ex S (d + 1) 366 [.ref a0, .ref a1] h = bd S (ex S d) dflT E_X2_copyFrom 100000 0 [some (.ref a0), some (.ref a1)] [] h := ex_go S d 366 mt_366 e1_366 e2_366 _ _ rfl rfl h
theorem x_X1_copyFrom (S : sT) (d : Nat) (a0 : Nat) (a1 : Nat) (h : pH) : ex S (d + 1) 367 [.ref a0, .ref a1] h = bd S (ex S d) dflT E_X1_copyFrom 100000 0 [some (.ref a0), some (.ref a1), none] [] h := ex_go S d 367 mt_367 e1_367 e2_367 _ _ rfl rfl h
theorem x_X4_copyFrom (S : sT) (d : Nat) (a0 : Nat) (a1 : Nat) (h : pH) : ex S (d + 1) 368 [.ref a0, .ref a1] h = bd S (ex S d) dflT E_X4_copyFrom 100000 0 [some (.ref a0), some (.ref a1)] [] h := ex_go S d 368 mt_368 e1_368 e2_368 _ _ rfl rfl h
theorem x_X3_copyFrom (S : sT) (d : Nat) (a0 : Nat) (a1 : Nat) (h : pH) : ex S (d + 1) 369 [.ref a0, .ref a1] h = bd S (ex S d) dflT E_X3_copyFrom 100000 0 [some (.ref a0), some (.ref a1)] [] h := ex_go S d 369 mt_369 e1_369 e2_369 _ _ rfl rfl h
theorem x_X5_copyFrom (S : sT) (d : Nat) (a0 : Nat) (a1 : Nat) (h : pH) : ex S (d + 1) 370 [.ref a0, .ref a1] h = bd S (ex S d) dflT E_X5_copyFrom 100000 0 [some (.ref a0), some (.ref a1)] [] h := ex_go S d 370 mt_370 e1_370 e2_370 _ _ rfl rfl h
theorem x_X7_copyFrom (S : sT) (d : Nat) (a0 : Nat) (a1 : Nat) (h : pH) : ex S (d + 1) 371 [.ref a0, .ref a1] h = bd S (ex S d) dflT E_X7_copyFrom 100000 0 [some (.ref a0), some (.ref a1)] [] h := ex_go S d 371 mt_371 e1_371 e2_371 _ _ rfl rfl h
theorem x_X0_copyFrom (S : sT) (d : Nat) (a0 : Nat) (a1 : Nat) (h : pH) : ex S (d + 1) 372 [.ref a0, .ref a1] h = bd S (ex S d) dflT E_X0_copyFrom 100000 0 [some (.ref a0), some (.ref a1)] [] h := ex_go S d 372 mt_372 e1_372 e2_372 _ _ rfl rfl h
theorem x_X11_image (S : sT) (d : Nat) (a0 : Nat) (h : pH) : ex S (d + 1) 373 [.ref a0] h = bd S (ex S d) dflT E_X11_image 100000 0 [some (.ref a0)] [] h := ex_go S d 373 mt_373 e1_373 e2_373 _ _ rfl rfl h
theorem x_X12_image (S : sT) (d : Nat) (a0 : Nat) (h : pH) : ex S (d + 1) 374 [.ref a0] h = bd S (ex S d) dflT E_X12_image 100000 0 [some (.ref a0), none] [] h := ex_go S d 374 mt_374 e1_374 e2_374 _ _ rfl rfl h
theorem x_X11_back (S : sT) (d : Nat) (a0 : Nat) (h : pH) : ex S (d + 1) 375 [.ref a0] h = bd S (ex S d) dflT E_X11_back 100000 0 [some (.ref a0)] [] h := ex_go S d 375 mt_375 e1_375 e2_375 _ _ rfl rfl h
theorem x_X12_back (S : sT) (d : Nat) (a0 : Nat) (h : pH) : ex S (d + 1) 376 [.ref a0] h = bd S (ex S d) dflT E_X12_back 100000 0 [some (.ref a0), none] [] h := ex_go S d 376 mt_376 e1_376 e2_376 _ _ rfl rfl h
theorem x_X1_goingOn (S : sT) (d : Nat) (a0 : Nat) (h : pH) : ex S (d + 1) 377 [.ref a0] h = bd S (ex S d) dflT E_X1_goingOn 100000 0 [some (.ref a0), none, none] [] h := ex_go S d 377 mt_377 e1_377 e2_377 _ _ rfl rfl h
theorem x_X1_sumOf (S : sT) (d : Nat) (a0 : Nat) (x1 : Int32) (h : pH) : ex S (d + 1) 378 [.ref a0, .int x1] h = bd S (ex S d) dflT E_X1_sumOf 100000 0 [some (.ref a0), some (.int x1), none, none, none] [] h := ex_go S d 378 mt_378 e1_378 e2_378 _ _ rfl rfl h
theorem x_X9_linesOf (S : sT) (d : Nat) (a0 : Nat) (x1 : Int32) (h : pH) : ex S (d + 1) 379 [.ref a0, .int x1] h = bd S (ex S d) dflT E_X9_linesOf 100000 0 [some (.ref a0), some (.int x1), none, none] [] h := ex_go S d 379 mt_379 e1_379 e2_379 _ _ rfl rfl h
theorem x_X9_linesInForce (S : sT) (d : Nat) (a0 : Nat) (x1 : Int32) (h : pH) : ex S (d + 1) 380 [.ref a0, .int x1] h = bd S (ex S d) dflT E_X9_linesInForce 100000 0 [some (.ref a0), some (.int x1), none, none, none, none] [] h := ex_go S d 380 mt_380 e1_380 e2_380 _ _ rfl rfl h
theorem x_X2_soldFields (S : sT) (d : Nat) (a0 : Nat) (h : pH) : ex S (d + 1) 381 [.ref a0] h = bd S (ex S d) dflT E_X2_soldFields 100000 0 [some (.ref a0), none, none] [] h := ex_go S d 381 mt_381 e1_381 e2_381 _ _ rfl rfl h
theorem x_X3_told (S : sT) (d : Nat) (a0 : Nat) (x1 : Int32) (h : pH) : ex S (d + 1) 382 [.ref a0, .int x1] h = bd S (ex S d) dflT E_X3_told 100000 0 [some (.ref a0), some (.int x1)] [] h := ex_go S d 382 mt_382 e1_382 e2_382 _ _ rfl rfl h
theorem x_X11_count (S : sT) (d : Nat) (a0 : Nat) (x1 : Int32) (h : pH) : ex S (d + 1) 383 [.ref a0, .int x1] h = bd S (ex S d) dflT E_X11_count 100000 0 [some (.ref a0), some (.int x1)] [] h := ex_go S d 383 mt_383 e1_383 e2_383 _ _ rfl rfl h
theorem x_X12_sumOf (S : sT) (d : Nat) (a0 : Nat) (x1 : Int32) (h : pH) : ex S (d + 1) 384 [.ref a0, .int x1] h = bd S (ex S d) dflT E_X12_sumOf 100000 0 [some (.ref a0), some (.int x1), none, none, none] [] h := ex_go S d 384 mt_384 e1_384 e2_384 _ _ rfl rfl h
theorem x_X12_linesInForce (S : sT) (d : Nat) (a0 : Nat) (h : pH) : ex S (d + 1) 385 [.ref a0] h = bd S (ex S d) dflT E_X12_linesInForce 100000 0 [some (.ref a0), none, none, none] [] h := ex_go S d 385 mt_385 e1_385 e2_385 _ _ rfl rfl h
theorem x_X12_count (S : sT) (d : Nat) (a0 : Nat) (x1 : Int32) (h : pH) : ex S (d + 1) 386 [.ref a0, .int x1] h = bd S (ex S d) dflT E_X12_count 100000 0 [some (.ref a0), some (.int x1), none, none] [] h := ex_go S d 386 mt_386 e1_386 e2_386 _ _ rfl rfl h
