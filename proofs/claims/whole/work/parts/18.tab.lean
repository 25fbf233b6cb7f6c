/-! by program: the table of methods -/
def dflL : List (List Value) := [[.null, .int 0], [.null, .null, .null, .null, .int 0, .null], [.null, .null, .null, .null, .int 0, .null], [.null, .null, .null, .null, .null, .null, .null, .int 0, .null, .null], [.int 0, .null, .null, .null], [.null], [.int 0, .int 0, .int 0, .int 0, .int 0, .int 0, .int 0, .null, .int 0, .null, .null, .null], [.int 0, .null, .null, .null, .null, .null], [.int 0, .int 0, .null, .null, .null, .null, .null], [.null, .int 0, .int 0, .int 0, .int 0, .int 0, .int 0, .int 0, .null, .int 0, .int 0, .int 0], [.int 0, .null, .null], [.int 0, .null], [.int 0, .null, .null, .null], [.null, .null, .null, .null], [.null, .null, .null, .null], [.int 0, .null, .null, .int 0, .null, .int 0, .int 0, .int 0, .int 0, .int 0, .int 0, .null, .int 0, .null, .null, .null, .int 0, .null]]
def dflT (a : Nat) : List Value := dflL.getD a []
def MYT_0 : List (mY × Nat) := [(mX6_init, 0), (mX9_init, 0), (mX2_init, 0), (mX8_init, 0), (mX1_init, 0), (mX4_init, 0), (mX3_init, 0), (mX5_init, 0), (mX7_init, 0), (mX0_init, 0), (mX10_init, 0), (mX11_init, 0), (mX12_at, 0), (mX12_init, 0), (mX6_addBytes, 0), (mX11_feed, 0), (mX12_feed, 0), (mX11_end, 0), (mX12_end, 0), (mX11_needIndex, 0), (mX11_needField, 0), (mX11_needWithin, 0), (mX2_isCell, 0), (mX2_get, 0), (mX2_isSold, 0), (mX2_set, 0), (mX11_field, 0), (mL_field, 1), (mX12_in, 0), (mX12_noField, 0), (mX12_throwsIf, 0), (mX12_of, 0), (mX12_field, 0), (mX12_thrown, 0), (mX4_setRain, 0), (mX11_rain, 0), (mL_rain, 1), (mX12_rain, 0), (mX4_toldRain, 0), (mX4_rainOf, 0), (mX11_fell, 0), (mL_fell, 1), (mX12_rainTold, 0), (mX12_rainOf, 0), (mX12_fell, 0), (mX4_tell, 0), (mX11_price, 0), (mL_price, 1), (mX12_season, 0), (mX12_price, 0), (mX4_priceAt, 0), (mX11_known, 0), (mL_known, 1), (mX12_knownOf, 0), (mX12_known, 0), (mX6_useTape, 0), (mX6_isLetter, 0), (mJ0_coder_7d493, 0), (mJ0_length_8abf5, 0), (mJ0_isLatin1_aae02, 0)]
def MYT_1 : List (mY × Nat) := [(mJ0_checkIndex_df160, 0), (mJ1_charAt_3b067, 0), (mJ0_charAt_5068e, 0), (mX6_wordFrom, 0), (mX6_isDigit, 0), (mX6_next, 0), (mX6_write, 0), (mX6_takeVerb, 0), (mX6_takeNumber, 0), (mX6_isWord, 0), (mX6_takeWord, 0), (mX6_takeCrop, 0), (mX6_takeOneOf, 0), (mX6_isSign, 0), (mX6_takeSign, 0), (mX6_emit, 0), (mX6_takeSum, 0), (mX6_takeAtom, 0), (mX6_takeAll, 0), (mX6_takeCondition, 0), (mX6_takeIf, 0), (mX6_takeRestOfLease, 0), (mX6_takeRestOfAct, 0), (mX6_takeLines, 0), (mX6_read, 0), (mX11_needText, 0), (mX9_inForce, 0), (mX9_textAt, 0), (mX8_get, 0), (mX8_lastOf, 0), (mX9_lastLine, 0), (mX0_lastLine, 0), (mX9_numberIn, 0), (mX0_yearsLet, 0), (mX2_isBetween, 0), (mX2_isWithin, 0), (mX0_isFree, 0), (mX3_note, 0), (mX0_noteWrong, 0), (mX1_isCell, 0), (mX1_set, 0), (mX1_open, 0), (mX1_get, 0), (mX11_capped, 0), (mX1_grow, 0), (mX0_openOn, 0), (mX0_openLease, 0), (mX8_init_, 0), (mX6_newText, 0), (mX1_setLease, 0), (mX11_let, 0), (mL_let, 1), (mX12_uses, 0), (mX12_isAt, 0), (mX12_blanks, 0), (mX12_word, 0), (mX12_textAt, 0), (mX12_lineAt, 0), (mX12_isWord, 0), (mX12_wordOf, 0)]
def MYT_2 : List (mY × Nat) := [(mX12_sortOf, 0), (mX12_number, 0), (mX12_tells, 0), (mX12_needs, 0), (mX12_readCrop, 0), (mX12_readThing, 0), (mX12_passes, 0), (mX12_sign, 0), (mX12_adds, 0), (mX12_fact, 0), (mX12_readPart, 0), (mX12_readSum, 0), (mX12_readAtom, 0), (mX12_readAllOf, 0), (mX12_readCond, 0), (mX12_readIf, 0), (mX12_readRest, 0), (mX12_readLine, 0), (mX12_readAll, 0), (mX12_reads, 0), (mX12_orders, 0), (mX12_linesOf, 0), (mX12_isStruck, 0), (mX12_isLine, 0), (mX12_lastLine, 0), (mX12_numberOf, 0), (mX12_isIn, 0), (mX12_areFree, 0), (mX12_holdingAt, 0), (mX12_begins, 0), (mX12_kept, 0), (mX12_sets, 0), (mX12_year, 0), (mX12_copies, 0), (mX12_errs, 0), (mX12_let, 0), (mX0_openKept, 0), (mX11_keep, 0), (mL_keep, 1), (mX12_keep, 0), (mX0_kindAt, 0), (mX1_isHand, 0), (mX11_needKind, 0), (mX11_sow, 0), (mL_sow, 1), (mX12_its, 0), (mX12_kindOf, 0), (mX12_sow, 0), (mX11_needHolding, 0), (mX11_notice, 0), (mL_notice, 1), (mX12_noHolding, 0), (mX12_fieldsOf, 0), (mX12_notice, 0), (mX1_isLet, 0), (mX0_close, 0), (mX11_give, 0), (mL_give, 1), (mX12_isLet, 0), (mX12_leaves, 0)]
def MYT_3 : List (mY × Nat) := [(mX12_give, 0), (mX4_learnPrices, 0), (mX0_learnPrices, 0), (mX1_leaseOf, 0), (mX0_priceOf, 0), (mX2_growthOf, 0), (mX10_isBarred, 0), (mX10_chosenCrop, 0), (mX10_spring, 0), (mX2_harvest, 0), (mX3_addHarvest, 0), (mX3_addIncome, 0), (mX10_sellHarvest, 0), (mX7_add, 0), (mX10_summer, 0), (mX1_isOver, 0), (mX0_learnFacts, 0), (mX0_learnFactsOfTenant, 0), (mX8_step, 0), (mX8_holds, 0), (mX8_sumHolding, 0), (mX0_rentOf, 0), (mX10_harmOfGame, 0), (mX10_hundredthsPut, 0), (mX10_receive, 0), (mX10_takeRent, 0), (mX10_autumn, 0), (mX2_beside, 0), (mX10_isBesideWood, 0), (mX10_breedGame, 0), (mX10_growOlder, 0), (mX3_addCapital, 0), (mX0_takeIn, 0), (mX10_sink, 0), (mX10_dig, 0), (mX10_digMines, 0), (mX3_payLoans, 0), (mX0_learnFactsOfEstate, 0), (mX9_lastStrike, 0), (mX9_sumHolding, 0), (mX0_chargesNow, 0), (mX3_payCharges, 0), (mX10_isAtItsEnd, 0), (mX0_learnFactsOfField, 0), (mX0_leftOn, 0), (mX0_owedTo, 0), (mX10_goOut, 0), (mX10_endLeases, 0), (mX10_pass, 0), (mX11_seasons, 0), (mL_seasons, 1), (mX12_isBarred, 0), (mX12_priceOf, 0), (mX12_yieldOf, 0), (mX12_spring, 0), (mX12_income, 0), (mX12_writesRow, 0), (mX12_summer, 0), (mX12_looks, 0), (mX12_holds, 0)]
def MYT_4 : List (mY × Nat) := [(mX12_rentOf, 0), (mX12_rentLess, 0), (mX12_paysRent, 0), (mX12_autumn, 0), (mX12_beside, 0), (mX12_isNearWood, 0), (mX12_grows, 0), (mX12_partOf, 0), (mX12_capital, 0), (mX12_comes, 0), (mX12_digs, 0), (mX12_paysLoan, 0), (mX12_charges, 0), (mX12_owedTo, 0), (mX12_goesOut, 0), (mX12_winter, 0), (mX12_seasons, 0), (mX11_needKnown, 0), (mX2_timberOf, 0), (mX2_worthOf, 0), (mX11_look, 0), (mL_look, 1), (mX12_worthOf, 0), (mX12_look, 0), (mX11_led, 0), (mL_led, 1), (mX12_led, 0), (mX11_owed, 0), (mL_owed, 1), (mX12_owed, 0), (mX11_rent, 0), (mL_rent, 1), (mX12_rent, 0), (mX1_rankOf, 0), (mX1_ofRank, 0), (mX11_arrears, 0), (mX12_arrears, 0), (mX11_needRoom, 0), (mX9_add, 0), (mX11_words, 0), (mL_words, 1), (mX12_words, 0), (mX11_fault, 0), (mX12_fault, 0), (mX8_firstHolding, 0), (mX9_firstHolding, 0), (mX0_lineThatLets, 0), (mX0_mostBorrowed, 0), (mX0_partOf, 0), (mX11_may, 0), (mL_may, 1), (mX12_mostOf, 0), (mX12_firstLine, 0), (mX12_may, 0), (mX0_firstCharge, 0), (mX11_why, 0), (mL_why, 1), (mX12_why, 0), (mX11_cut, 0), (mL_cut, 1)]
def MYT_5 : List (mY × Nat) := [(mX12_cut, 0), (mX3_owedInAll, 0), (mX3_lend, 0), (mX11_loan, 0), (mL_loan, 1), (mX12_owedOnLoans, 0), (mX12_loan, 0), (mX11_owing, 0), (mL_owing, 1), (mX12_owing, 0), (mX0_payWork, 0), (mX11_work, 0), (mL_work, 1), (mX12_work, 0), (mX11_sell, 0), (mL_sell, 1), (mX12_sell, 0), (mX3_passOn, 0), (mX11_heir, 0), (mX12_heir, 0), (mX3_wrongNote, 0), (mX11_wrong, 0), (mL_wrong, 1), (mX12_wrong, 0), (mX5_addJob, 0), (mX11_job, 0), (mL_job, 1), (mX12_job, 0), (mX5_addTrouble, 0), (mX11_trouble, 0), (mL_trouble, 1), (mX12_trouble, 0), (mX5_jobsIn, 0), (mX5_endOf, 0), (mX5_leastEnd, 0), (mX11_worth, 0), (mL_worth, 1), (mX12_noPlan, 0), (mX12_endsWith, 0), (mX12_worthOfSet, 0), (mX12_worth, 0), (mJ6_bitCount_0f7a4, 0), (mX5_bestSet, 0), (mX11_best, 0), (mL_best, 1), (mX12_best, 0), (mX0_isIn, 0), (mX0_worthTogether, 0), (mX0_partedPairs, 0), (mX0_bestSale, 0), (mX11_toSell, 0), (mL_toSell, 1), (mX12_isOf, 0), (mX12_parted, 0), (mX12_toSell, 0), (mX11_row, 0), (mL_row, 1), (mX12_noRow, 0), (mX12_row, 0), (mX11_tear, 0)]
def MYT_6 : List (mY × Nat) := [(mL_tear, 1), (mX12_tear, 0), (mX7_firstFalse, 0), (mX11_check, 0), (mX12_check, 0), (mX9_copyFrom, 0), (mX2_copyFrom, 0), (mX1_copyFrom, 0), (mX4_copyFrom, 0), (mX3_copyFrom, 0), (mX5_copyFrom, 0), (mX7_copyFrom, 0), (mX0_copyFrom, 0), (mX11_image, 0), (mX12_image, 0), (mX11_back, 0), (mX12_back, 0), (mX1_goingOn, 0), (mX1_sumOf, 0), (mX9_linesOf, 0), (mX9_linesInForce, 0), (mX2_soldFields, 0), (mX3_told, 0), (mX11_count, 0), (mX12_sumOf, 0), (mX12_linesInForce, 0), (mX12_count, 0)]
def MYT : List (mY × Nat) := MYT_0 ++ (MYT_1 ++ (MYT_2 ++ (MYT_3 ++ (MYT_4 ++ (MYT_5 ++ (MYT_6))))))
theorem apl {α : Type} {A B : List α} {i : Nat} {x : α} (h : A[i]? = some x) : (A ++ B)[i]? = some x := by rw [List.getElem?_append_left (List.getElem?_eq_some_iff.mp h).1]; exact h
theorem apr {α : Type} {A B : List α} {n i : Nat} {x : α} (hn : A.length = n) (h : B[i]? = some x) : (A ++ B)[n + i]? = some x := by subst hn; rw [List.getElem?_append_right (Nat.le_add_right _ _), Nat.add_sub_cancel_left]; exact h
theorem ml_0 : MYT_0.length = 60 := rfl
theorem ml_1 : MYT_1.length = 60 := rfl
theorem ml_2 : MYT_2.length = 60 := rfl
theorem ml_3 : MYT_3.length = 60 := rfl
theorem ml_4 : MYT_4.length = 60 := rfl
theorem ml_5 : MYT_5.length = 60 := rfl
theorem ml_6 : MYT_6.length = 27 := rfl
theorem mc_0 {i : Nat} {x : mY × Nat} (h : MYT_0[i]? = some x) : MYT[0 + i]? = some x := by rw [show 0 + i = i by omega]; exact (apl h)
theorem mc_1 {i : Nat} {x : mY × Nat} (h : MYT_1[i]? = some x) : MYT[60 + i]? = some x := by rw [show 60 + i = 60 + (i) by omega]; exact (apr ml_0 (apl h))
theorem mc_2 {i : Nat} {x : mY × Nat} (h : MYT_2[i]? = some x) : MYT[120 + i]? = some x := by rw [show 120 + i = 60 + (60 + (i)) by omega]; exact (apr ml_0 (apr ml_1 (apl h)))
theorem mc_3 {i : Nat} {x : mY × Nat} (h : MYT_3[i]? = some x) : MYT[180 + i]? = some x := by rw [show 180 + i = 60 + (60 + (60 + (i))) by omega]; exact (apr ml_0 (apr ml_1 (apr ml_2 (apl h))))
theorem mc_4 {i : Nat} {x : mY × Nat} (h : MYT_4[i]? = some x) : MYT[240 + i]? = some x := by rw [show 240 + i = 60 + (60 + (60 + (60 + (i)))) by omega]; exact (apr ml_0 (apr ml_1 (apr ml_2 (apr ml_3 (apl h)))))
theorem mc_5 {i : Nat} {x : mY × Nat} (h : MYT_5[i]? = some x) : MYT[300 + i]? = some x := by rw [show 300 + i = 60 + (60 + (60 + (60 + (60 + (i))))) by omega]; exact (apr ml_0 (apr ml_1 (apr ml_2 (apr ml_3 (apr ml_4 (apl h))))))
theorem mc_6 {i : Nat} {x : mY × Nat} (h : MYT_6[i]? = some x) : MYT[360 + i]? = some x := by rw [show 360 + i = 60 + (60 + (60 + (60 + (60 + (60 + (i)))))) by omega]; exact (apr ml_0 (apr ml_1 (apr ml_2 (apr ml_3 (apr ml_4 (apr ml_5 h))))))
theorem my_0 : MYT[0]? = some (mX6_init, 0) := mc_0 (i := 0) rfl
theorem my_1 : MYT[1]? = some (mX9_init, 0) := mc_0 (i := 1) rfl
theorem my_2 : MYT[2]? = some (mX2_init, 0) := mc_0 (i := 2) rfl
theorem my_3 : MYT[3]? = some (mX8_init, 0) := mc_0 (i := 3) rfl
theorem my_4 : MYT[4]? = some (mX1_init, 0) := mc_0 (i := 4) rfl
theorem my_5 : MYT[5]? = some (mX4_init, 0) := mc_0 (i := 5) rfl
theorem my_6 : MYT[6]? = some (mX3_init, 0) := mc_0 (i := 6) rfl
theorem my_7 : MYT[7]? = some (mX5_init, 0) := mc_0 (i := 7) rfl
theorem my_8 : MYT[8]? = some (mX7_init, 0) := mc_0 (i := 8) rfl
theorem my_9 : MYT[9]? = some (mX0_init, 0) := mc_0 (i := 9) rfl
theorem my_10 : MYT[10]? = some (mX10_init, 0) := mc_0 (i := 10) rfl
theorem my_11 : MYT[11]? = some (mX11_init, 0) := mc_0 (i := 11) rfl
theorem my_12 : MYT[12]? = some (mX12_at, 0) := mc_0 (i := 12) rfl
theorem my_13 : MYT[13]? = some (mX12_init, 0) := mc_0 (i := 13) rfl
theorem my_14 : MYT[14]? = some (mX6_addBytes, 0) := mc_0 (i := 14) rfl
theorem my_15 : MYT[15]? = some (mX11_feed, 0) := mc_0 (i := 15) rfl
theorem my_16 : MYT[16]? = some (mX12_feed, 0) := mc_0 (i := 16) rfl
theorem my_17 : MYT[17]? = some (mX11_end, 0) := mc_0 (i := 17) rfl
theorem my_18 : MYT[18]? = some (mX12_end, 0) := mc_0 (i := 18) rfl
theorem my_19 : MYT[19]? = some (mX11_needIndex, 0) := mc_0 (i := 19) rfl
theorem my_20 : MYT[20]? = some (mX11_needField, 0) := mc_0 (i := 20) rfl
theorem my_21 : MYT[21]? = some (mX11_needWithin, 0) := mc_0 (i := 21) rfl
theorem my_22 : MYT[22]? = some (mX2_isCell, 0) := mc_0 (i := 22) rfl
theorem my_23 : MYT[23]? = some (mX2_get, 0) := mc_0 (i := 23) rfl
theorem my_24 : MYT[24]? = some (mX2_isSold, 0) := mc_0 (i := 24) rfl
theorem my_25 : MYT[25]? = some (mX2_set, 0) := mc_0 (i := 25) rfl
theorem my_26 : MYT[26]? = some (mX11_field, 0) := mc_0 (i := 26) rfl
theorem my_27 : MYT[27]? = some (mL_field, 1) := mc_0 (i := 27) rfl
theorem my_28 : MYT[28]? = some (mX12_in, 0) := mc_0 (i := 28) rfl
theorem my_29 : MYT[29]? = some (mX12_noField, 0) := mc_0 (i := 29) rfl
theorem my_30 : MYT[30]? = some (mX12_throwsIf, 0) := mc_0 (i := 30) rfl
theorem my_31 : MYT[31]? = some (mX12_of, 0) := mc_0 (i := 31) rfl
theorem my_32 : MYT[32]? = some (mX12_field, 0) := mc_0 (i := 32) rfl
theorem my_33 : MYT[33]? = some (mX12_thrown, 0) := mc_0 (i := 33) rfl
theorem my_34 : MYT[34]? = some (mX4_setRain, 0) := mc_0 (i := 34) rfl
theorem my_35 : MYT[35]? = some (mX11_rain, 0) := mc_0 (i := 35) rfl
theorem my_36 : MYT[36]? = some (mL_rain, 1) := mc_0 (i := 36) rfl
theorem my_37 : MYT[37]? = some (mX12_rain, 0) := mc_0 (i := 37) rfl
theorem my_38 : MYT[38]? = some (mX4_toldRain, 0) := mc_0 (i := 38) rfl
theorem my_39 : MYT[39]? = some (mX4_rainOf, 0) := mc_0 (i := 39) rfl
theorem my_40 : MYT[40]? = some (mX11_fell, 0) := mc_0 (i := 40) rfl
theorem my_41 : MYT[41]? = some (mL_fell, 1) := mc_0 (i := 41) rfl
theorem my_42 : MYT[42]? = some (mX12_rainTold, 0) := mc_0 (i := 42) rfl
theorem my_43 : MYT[43]? = some (mX12_rainOf, 0) := mc_0 (i := 43) rfl
theorem my_44 : MYT[44]? = some (mX12_fell, 0) := mc_0 (i := 44) rfl
theorem my_45 : MYT[45]? = some (mX4_tell, 0) := mc_0 (i := 45) rfl
theorem my_46 : MYT[46]? = some (mX11_price, 0) := mc_0 (i := 46) rfl
theorem my_47 : MYT[47]? = some (mL_price, 1) := mc_0 (i := 47) rfl
theorem my_48 : MYT[48]? = some (mX12_season, 0) := mc_0 (i := 48) rfl
theorem my_49 : MYT[49]? = some (mX12_price, 0) := mc_0 (i := 49) rfl
theorem my_50 : MYT[50]? = some (mX4_priceAt, 0) := mc_0 (i := 50) rfl
theorem my_51 : MYT[51]? = some (mX11_known, 0) := mc_0 (i := 51) rfl
theorem my_52 : MYT[52]? = some (mL_known, 1) := mc_0 (i := 52) rfl
theorem my_53 : MYT[53]? = some (mX12_knownOf, 0) := mc_0 (i := 53) rfl
theorem my_54 : MYT[54]? = some (mX12_known, 0) := mc_0 (i := 54) rfl
theorem my_55 : MYT[55]? = some (mX6_useTape, 0) := mc_0 (i := 55) rfl
theorem my_56 : MYT[56]? = some (mX6_isLetter, 0) := mc_0 (i := 56) rfl
theorem my_57 : MYT[57]? = some (mJ0_coder_7d493, 0) := mc_0 (i := 57) rfl
theorem my_58 : MYT[58]? = some (mJ0_length_8abf5, 0) := mc_0 (i := 58) rfl
theorem my_59 : MYT[59]? = some (mJ0_isLatin1_aae02, 0) := mc_0 (i := 59) rfl
theorem my_60 : MYT[60]? = some (mJ0_checkIndex_df160, 0) := mc_1 (i := 0) rfl
theorem my_61 : MYT[61]? = some (mJ1_charAt_3b067, 0) := mc_1 (i := 1) rfl
theorem my_62 : MYT[62]? = some (mJ0_charAt_5068e, 0) := mc_1 (i := 2) rfl
theorem my_63 : MYT[63]? = some (mX6_wordFrom, 0) := mc_1 (i := 3) rfl
theorem my_64 : MYT[64]? = some (mX6_isDigit, 0) := mc_1 (i := 4) rfl
theorem my_65 : MYT[65]? = some (mX6_next, 0) := mc_1 (i := 5) rfl
theorem my_66 : MYT[66]? = some (mX6_write, 0) := mc_1 (i := 6) rfl
theorem my_67 : MYT[67]? = some (mX6_takeVerb, 0) := mc_1 (i := 7) rfl
theorem my_68 : MYT[68]? = some (mX6_takeNumber, 0) := mc_1 (i := 8) rfl
theorem my_69 : MYT[69]? = some (mX6_isWord, 0) := mc_1 (i := 9) rfl
theorem my_70 : MYT[70]? = some (mX6_takeWord, 0) := mc_1 (i := 10) rfl
theorem my_71 : MYT[71]? = some (mX6_takeCrop, 0) := mc_1 (i := 11) rfl
theorem my_72 : MYT[72]? = some (mX6_takeOneOf, 0) := mc_1 (i := 12) rfl
theorem my_73 : MYT[73]? = some (mX6_isSign, 0) := mc_1 (i := 13) rfl
theorem my_74 : MYT[74]? = some (mX6_takeSign, 0) := mc_1 (i := 14) rfl
theorem my_75 : MYT[75]? = some (mX6_emit, 0) := mc_1 (i := 15) rfl
theorem my_76 : MYT[76]? = some (mX6_takeSum, 0) := mc_1 (i := 16) rfl
theorem my_77 : MYT[77]? = some (mX6_takeAtom, 0) := mc_1 (i := 17) rfl
theorem my_78 : MYT[78]? = some (mX6_takeAll, 0) := mc_1 (i := 18) rfl
theorem my_79 : MYT[79]? = some (mX6_takeCondition, 0) := mc_1 (i := 19) rfl
theorem my_80 : MYT[80]? = some (mX6_takeIf, 0) := mc_1 (i := 20) rfl
theorem my_81 : MYT[81]? = some (mX6_takeRestOfLease, 0) := mc_1 (i := 21) rfl
theorem my_82 : MYT[82]? = some (mX6_takeRestOfAct, 0) := mc_1 (i := 22) rfl
theorem my_83 : MYT[83]? = some (mX6_takeLines, 0) := mc_1 (i := 23) rfl
theorem my_84 : MYT[84]? = some (mX6_read, 0) := mc_1 (i := 24) rfl
theorem my_85 : MYT[85]? = some (mX11_needText, 0) := mc_1 (i := 25) rfl
theorem my_86 : MYT[86]? = some (mX9_inForce, 0) := mc_1 (i := 26) rfl
theorem my_87 : MYT[87]? = some (mX9_textAt, 0) := mc_1 (i := 27) rfl
theorem my_88 : MYT[88]? = some (mX8_get, 0) := mc_1 (i := 28) rfl
theorem my_89 : MYT[89]? = some (mX8_lastOf, 0) := mc_1 (i := 29) rfl
theorem my_90 : MYT[90]? = some (mX9_lastLine, 0) := mc_1 (i := 30) rfl
theorem my_91 : MYT[91]? = some (mX0_lastLine, 0) := mc_1 (i := 31) rfl
theorem my_92 : MYT[92]? = some (mX9_numberIn, 0) := mc_1 (i := 32) rfl
theorem my_93 : MYT[93]? = some (mX0_yearsLet, 0) := mc_1 (i := 33) rfl
theorem my_94 : MYT[94]? = some (mX2_isBetween, 0) := mc_1 (i := 34) rfl
theorem my_95 : MYT[95]? = some (mX2_isWithin, 0) := mc_1 (i := 35) rfl
theorem my_96 : MYT[96]? = some (mX0_isFree, 0) := mc_1 (i := 36) rfl
theorem my_97 : MYT[97]? = some (mX3_note, 0) := mc_1 (i := 37) rfl
theorem my_98 : MYT[98]? = some (mX0_noteWrong, 0) := mc_1 (i := 38) rfl
theorem my_99 : MYT[99]? = some (mX1_isCell, 0) := mc_1 (i := 39) rfl
theorem my_100 : MYT[100]? = some (mX1_set, 0) := mc_1 (i := 40) rfl
theorem my_101 : MYT[101]? = some (mX1_open, 0) := mc_1 (i := 41) rfl
theorem my_102 : MYT[102]? = some (mX1_get, 0) := mc_1 (i := 42) rfl
theorem my_103 : MYT[103]? = some (mX11_capped, 0) := mc_1 (i := 43) rfl
theorem my_104 : MYT[104]? = some (mX1_grow, 0) := mc_1 (i := 44) rfl
theorem my_105 : MYT[105]? = some (mX0_openOn, 0) := mc_1 (i := 45) rfl
theorem my_106 : MYT[106]? = some (mX0_openLease, 0) := mc_1 (i := 46) rfl
theorem my_107 : MYT[107]? = some (mX8_init_, 0) := mc_1 (i := 47) rfl
theorem my_108 : MYT[108]? = some (mX6_newText, 0) := mc_1 (i := 48) rfl
theorem my_109 : MYT[109]? = some (mX1_setLease, 0) := mc_1 (i := 49) rfl
theorem my_110 : MYT[110]? = some (mX11_let, 0) := mc_1 (i := 50) rfl
theorem my_111 : MYT[111]? = some (mL_let, 1) := mc_1 (i := 51) rfl
theorem my_112 : MYT[112]? = some (mX12_uses, 0) := mc_1 (i := 52) rfl
theorem my_113 : MYT[113]? = some (mX12_isAt, 0) := mc_1 (i := 53) rfl
theorem my_114 : MYT[114]? = some (mX12_blanks, 0) := mc_1 (i := 54) rfl
theorem my_115 : MYT[115]? = some (mX12_word, 0) := mc_1 (i := 55) rfl
theorem my_116 : MYT[116]? = some (mX12_textAt, 0) := mc_1 (i := 56) rfl
theorem my_117 : MYT[117]? = some (mX12_lineAt, 0) := mc_1 (i := 57) rfl
theorem my_118 : MYT[118]? = some (mX12_isWord, 0) := mc_1 (i := 58) rfl
theorem my_119 : MYT[119]? = some (mX12_wordOf, 0) := mc_1 (i := 59) rfl
theorem my_120 : MYT[120]? = some (mX12_sortOf, 0) := mc_2 (i := 0) rfl
theorem my_121 : MYT[121]? = some (mX12_number, 0) := mc_2 (i := 1) rfl
theorem my_122 : MYT[122]? = some (mX12_tells, 0) := mc_2 (i := 2) rfl
theorem my_123 : MYT[123]? = some (mX12_needs, 0) := mc_2 (i := 3) rfl
theorem my_124 : MYT[124]? = some (mX12_readCrop, 0) := mc_2 (i := 4) rfl
theorem my_125 : MYT[125]? = some (mX12_readThing, 0) := mc_2 (i := 5) rfl
theorem my_126 : MYT[126]? = some (mX12_passes, 0) := mc_2 (i := 6) rfl
theorem my_127 : MYT[127]? = some (mX12_sign, 0) := mc_2 (i := 7) rfl
theorem my_128 : MYT[128]? = some (mX12_adds, 0) := mc_2 (i := 8) rfl
theorem my_129 : MYT[129]? = some (mX12_fact, 0) := mc_2 (i := 9) rfl
theorem my_130 : MYT[130]? = some (mX12_readPart, 0) := mc_2 (i := 10) rfl
theorem my_131 : MYT[131]? = some (mX12_readSum, 0) := mc_2 (i := 11) rfl
theorem my_132 : MYT[132]? = some (mX12_readAtom, 0) := mc_2 (i := 12) rfl
theorem my_133 : MYT[133]? = some (mX12_readAllOf, 0) := mc_2 (i := 13) rfl
theorem my_134 : MYT[134]? = some (mX12_readCond, 0) := mc_2 (i := 14) rfl
theorem my_135 : MYT[135]? = some (mX12_readIf, 0) := mc_2 (i := 15) rfl
theorem my_136 : MYT[136]? = some (mX12_readRest, 0) := mc_2 (i := 16) rfl
theorem my_137 : MYT[137]? = some (mX12_readLine, 0) := mc_2 (i := 17) rfl
theorem my_138 : MYT[138]? = some (mX12_readAll, 0) := mc_2 (i := 18) rfl
theorem my_139 : MYT[139]? = some (mX12_reads, 0) := mc_2 (i := 19) rfl
theorem my_140 : MYT[140]? = some (mX12_orders, 0) := mc_2 (i := 20) rfl
theorem my_141 : MYT[141]? = some (mX12_linesOf, 0) := mc_2 (i := 21) rfl
theorem my_142 : MYT[142]? = some (mX12_isStruck, 0) := mc_2 (i := 22) rfl
theorem my_143 : MYT[143]? = some (mX12_isLine, 0) := mc_2 (i := 23) rfl
theorem my_144 : MYT[144]? = some (mX12_lastLine, 0) := mc_2 (i := 24) rfl
theorem my_145 : MYT[145]? = some (mX12_numberOf, 0) := mc_2 (i := 25) rfl
theorem my_146 : MYT[146]? = some (mX12_isIn, 0) := mc_2 (i := 26) rfl
theorem my_147 : MYT[147]? = some (mX12_areFree, 0) := mc_2 (i := 27) rfl
theorem my_148 : MYT[148]? = some (mX12_holdingAt, 0) := mc_2 (i := 28) rfl
theorem my_149 : MYT[149]? = some (mX12_begins, 0) := mc_2 (i := 29) rfl
theorem my_150 : MYT[150]? = some (mX12_kept, 0) := mc_2 (i := 30) rfl
theorem my_151 : MYT[151]? = some (mX12_sets, 0) := mc_2 (i := 31) rfl
theorem my_152 : MYT[152]? = some (mX12_year, 0) := mc_2 (i := 32) rfl
theorem my_153 : MYT[153]? = some (mX12_copies, 0) := mc_2 (i := 33) rfl
theorem my_154 : MYT[154]? = some (mX12_errs, 0) := mc_2 (i := 34) rfl
theorem my_155 : MYT[155]? = some (mX12_let, 0) := mc_2 (i := 35) rfl
theorem my_156 : MYT[156]? = some (mX0_openKept, 0) := mc_2 (i := 36) rfl
theorem my_157 : MYT[157]? = some (mX11_keep, 0) := mc_2 (i := 37) rfl
theorem my_158 : MYT[158]? = some (mL_keep, 1) := mc_2 (i := 38) rfl
theorem my_159 : MYT[159]? = some (mX12_keep, 0) := mc_2 (i := 39) rfl
theorem my_160 : MYT[160]? = some (mX0_kindAt, 0) := mc_2 (i := 40) rfl
theorem my_161 : MYT[161]? = some (mX1_isHand, 0) := mc_2 (i := 41) rfl
theorem my_162 : MYT[162]? = some (mX11_needKind, 0) := mc_2 (i := 42) rfl
theorem my_163 : MYT[163]? = some (mX11_sow, 0) := mc_2 (i := 43) rfl
theorem my_164 : MYT[164]? = some (mL_sow, 1) := mc_2 (i := 44) rfl
theorem my_165 : MYT[165]? = some (mX12_its, 0) := mc_2 (i := 45) rfl
theorem my_166 : MYT[166]? = some (mX12_kindOf, 0) := mc_2 (i := 46) rfl
theorem my_167 : MYT[167]? = some (mX12_sow, 0) := mc_2 (i := 47) rfl
theorem my_168 : MYT[168]? = some (mX11_needHolding, 0) := mc_2 (i := 48) rfl
theorem my_169 : MYT[169]? = some (mX11_notice, 0) := mc_2 (i := 49) rfl
theorem my_170 : MYT[170]? = some (mL_notice, 1) := mc_2 (i := 50) rfl
theorem my_171 : MYT[171]? = some (mX12_noHolding, 0) := mc_2 (i := 51) rfl
theorem my_172 : MYT[172]? = some (mX12_fieldsOf, 0) := mc_2 (i := 52) rfl
theorem my_173 : MYT[173]? = some (mX12_notice, 0) := mc_2 (i := 53) rfl
theorem my_174 : MYT[174]? = some (mX1_isLet, 0) := mc_2 (i := 54) rfl
theorem my_175 : MYT[175]? = some (mX0_close, 0) := mc_2 (i := 55) rfl
theorem my_176 : MYT[176]? = some (mX11_give, 0) := mc_2 (i := 56) rfl
theorem my_177 : MYT[177]? = some (mL_give, 1) := mc_2 (i := 57) rfl
theorem my_178 : MYT[178]? = some (mX12_isLet, 0) := mc_2 (i := 58) rfl
theorem my_179 : MYT[179]? = some (mX12_leaves, 0) := mc_2 (i := 59) rfl
theorem my_180 : MYT[180]? = some (mX12_give, 0) := mc_3 (i := 0) rfl
theorem my_181 : MYT[181]? = some (mX4_learnPrices, 0) := mc_3 (i := 1) rfl
theorem my_182 : MYT[182]? = some (mX0_learnPrices, 0) := mc_3 (i := 2) rfl
theorem my_183 : MYT[183]? = some (mX1_leaseOf, 0) := mc_3 (i := 3) rfl
theorem my_184 : MYT[184]? = some (mX0_priceOf, 0) := mc_3 (i := 4) rfl
theorem my_185 : MYT[185]? = some (mX2_growthOf, 0) := mc_3 (i := 5) rfl
theorem my_186 : MYT[186]? = some (mX10_isBarred, 0) := mc_3 (i := 6) rfl
theorem my_187 : MYT[187]? = some (mX10_chosenCrop, 0) := mc_3 (i := 7) rfl
theorem my_188 : MYT[188]? = some (mX10_spring, 0) := mc_3 (i := 8) rfl
theorem my_189 : MYT[189]? = some (mX2_harvest, 0) := mc_3 (i := 9) rfl
theorem my_190 : MYT[190]? = some (mX3_addHarvest, 0) := mc_3 (i := 10) rfl
theorem my_191 : MYT[191]? = some (mX3_addIncome, 0) := mc_3 (i := 11) rfl
theorem my_192 : MYT[192]? = some (mX10_sellHarvest, 0) := mc_3 (i := 12) rfl
theorem my_193 : MYT[193]? = some (mX7_add, 0) := mc_3 (i := 13) rfl
theorem my_194 : MYT[194]? = some (mX10_summer, 0) := mc_3 (i := 14) rfl
theorem my_195 : MYT[195]? = some (mX1_isOver, 0) := mc_3 (i := 15) rfl
theorem my_196 : MYT[196]? = some (mX0_learnFacts, 0) := mc_3 (i := 16) rfl
theorem my_197 : MYT[197]? = some (mX0_learnFactsOfTenant, 0) := mc_3 (i := 17) rfl
theorem my_198 : MYT[198]? = some (mX8_step, 0) := mc_3 (i := 18) rfl
theorem my_199 : MYT[199]? = some (mX8_holds, 0) := mc_3 (i := 19) rfl
theorem my_200 : MYT[200]? = some (mX8_sumHolding, 0) := mc_3 (i := 20) rfl
theorem my_201 : MYT[201]? = some (mX0_rentOf, 0) := mc_3 (i := 21) rfl
theorem my_202 : MYT[202]? = some (mX10_harmOfGame, 0) := mc_3 (i := 22) rfl
theorem my_203 : MYT[203]? = some (mX10_hundredthsPut, 0) := mc_3 (i := 23) rfl
theorem my_204 : MYT[204]? = some (mX10_receive, 0) := mc_3 (i := 24) rfl
theorem my_205 : MYT[205]? = some (mX10_takeRent, 0) := mc_3 (i := 25) rfl
theorem my_206 : MYT[206]? = some (mX10_autumn, 0) := mc_3 (i := 26) rfl
theorem my_207 : MYT[207]? = some (mX2_beside, 0) := mc_3 (i := 27) rfl
theorem my_208 : MYT[208]? = some (mX10_isBesideWood, 0) := mc_3 (i := 28) rfl
theorem my_209 : MYT[209]? = some (mX10_breedGame, 0) := mc_3 (i := 29) rfl
theorem my_210 : MYT[210]? = some (mX10_growOlder, 0) := mc_3 (i := 30) rfl
theorem my_211 : MYT[211]? = some (mX3_addCapital, 0) := mc_3 (i := 31) rfl
theorem my_212 : MYT[212]? = some (mX0_takeIn, 0) := mc_3 (i := 32) rfl
theorem my_213 : MYT[213]? = some (mX10_sink, 0) := mc_3 (i := 33) rfl
theorem my_214 : MYT[214]? = some (mX10_dig, 0) := mc_3 (i := 34) rfl
theorem my_215 : MYT[215]? = some (mX10_digMines, 0) := mc_3 (i := 35) rfl
theorem my_216 : MYT[216]? = some (mX3_payLoans, 0) := mc_3 (i := 36) rfl
theorem my_217 : MYT[217]? = some (mX0_learnFactsOfEstate, 0) := mc_3 (i := 37) rfl
theorem my_218 : MYT[218]? = some (mX9_lastStrike, 0) := mc_3 (i := 38) rfl
theorem my_219 : MYT[219]? = some (mX9_sumHolding, 0) := mc_3 (i := 39) rfl
theorem my_220 : MYT[220]? = some (mX0_chargesNow, 0) := mc_3 (i := 40) rfl
theorem my_221 : MYT[221]? = some (mX3_payCharges, 0) := mc_3 (i := 41) rfl
theorem my_222 : MYT[222]? = some (mX10_isAtItsEnd, 0) := mc_3 (i := 42) rfl
theorem my_223 : MYT[223]? = some (mX0_learnFactsOfField, 0) := mc_3 (i := 43) rfl
theorem my_224 : MYT[224]? = some (mX0_leftOn, 0) := mc_3 (i := 44) rfl
theorem my_225 : MYT[225]? = some (mX0_owedTo, 0) := mc_3 (i := 45) rfl
theorem my_226 : MYT[226]? = some (mX10_goOut, 0) := mc_3 (i := 46) rfl
theorem my_227 : MYT[227]? = some (mX10_endLeases, 0) := mc_3 (i := 47) rfl
theorem my_228 : MYT[228]? = some (mX10_pass, 0) := mc_3 (i := 48) rfl
theorem my_229 : MYT[229]? = some (mX11_seasons, 0) := mc_3 (i := 49) rfl
theorem my_230 : MYT[230]? = some (mL_seasons, 1) := mc_3 (i := 50) rfl
theorem my_231 : MYT[231]? = some (mX12_isBarred, 0) := mc_3 (i := 51) rfl
theorem my_232 : MYT[232]? = some (mX12_priceOf, 0) := mc_3 (i := 52) rfl
theorem my_233 : MYT[233]? = some (mX12_yieldOf, 0) := mc_3 (i := 53) rfl
theorem my_234 : MYT[234]? = some (mX12_spring, 0) := mc_3 (i := 54) rfl
theorem my_235 : MYT[235]? = some (mX12_income, 0) := mc_3 (i := 55) rfl
theorem my_236 : MYT[236]? = some (mX12_writesRow, 0) := mc_3 (i := 56) rfl
theorem my_237 : MYT[237]? = some (mX12_summer, 0) := mc_3 (i := 57) rfl
theorem my_238 : MYT[238]? = some (mX12_looks, 0) := mc_3 (i := 58) rfl
theorem my_239 : MYT[239]? = some (mX12_holds, 0) := mc_3 (i := 59) rfl
theorem my_240 : MYT[240]? = some (mX12_rentOf, 0) := mc_4 (i := 0) rfl
theorem my_241 : MYT[241]? = some (mX12_rentLess, 0) := mc_4 (i := 1) rfl
theorem my_242 : MYT[242]? = some (mX12_paysRent, 0) := mc_4 (i := 2) rfl
theorem my_243 : MYT[243]? = some (mX12_autumn, 0) := mc_4 (i := 3) rfl
theorem my_244 : MYT[244]? = some (mX12_beside, 0) := mc_4 (i := 4) rfl
theorem my_245 : MYT[245]? = some (mX12_isNearWood, 0) := mc_4 (i := 5) rfl
theorem my_246 : MYT[246]? = some (mX12_grows, 0) := mc_4 (i := 6) rfl
theorem my_247 : MYT[247]? = some (mX12_partOf, 0) := mc_4 (i := 7) rfl
theorem my_248 : MYT[248]? = some (mX12_capital, 0) := mc_4 (i := 8) rfl
theorem my_249 : MYT[249]? = some (mX12_comes, 0) := mc_4 (i := 9) rfl
theorem my_250 : MYT[250]? = some (mX12_digs, 0) := mc_4 (i := 10) rfl
theorem my_251 : MYT[251]? = some (mX12_paysLoan, 0) := mc_4 (i := 11) rfl
theorem my_252 : MYT[252]? = some (mX12_charges, 0) := mc_4 (i := 12) rfl
theorem my_253 : MYT[253]? = some (mX12_owedTo, 0) := mc_4 (i := 13) rfl
theorem my_254 : MYT[254]? = some (mX12_goesOut, 0) := mc_4 (i := 14) rfl
theorem my_255 : MYT[255]? = some (mX12_winter, 0) := mc_4 (i := 15) rfl
theorem my_256 : MYT[256]? = some (mX12_seasons, 0) := mc_4 (i := 16) rfl
theorem my_257 : MYT[257]? = some (mX11_needKnown, 0) := mc_4 (i := 17) rfl
theorem my_258 : MYT[258]? = some (mX2_timberOf, 0) := mc_4 (i := 18) rfl
theorem my_259 : MYT[259]? = some (mX2_worthOf, 0) := mc_4 (i := 19) rfl
theorem my_260 : MYT[260]? = some (mX11_look, 0) := mc_4 (i := 20) rfl
theorem my_261 : MYT[261]? = some (mL_look, 1) := mc_4 (i := 21) rfl
theorem my_262 : MYT[262]? = some (mX12_worthOf, 0) := mc_4 (i := 22) rfl
theorem my_263 : MYT[263]? = some (mX12_look, 0) := mc_4 (i := 23) rfl
theorem my_264 : MYT[264]? = some (mX11_led, 0) := mc_4 (i := 24) rfl
theorem my_265 : MYT[265]? = some (mL_led, 1) := mc_4 (i := 25) rfl
theorem my_266 : MYT[266]? = some (mX12_led, 0) := mc_4 (i := 26) rfl
theorem my_267 : MYT[267]? = some (mX11_owed, 0) := mc_4 (i := 27) rfl
theorem my_268 : MYT[268]? = some (mL_owed, 1) := mc_4 (i := 28) rfl
theorem my_269 : MYT[269]? = some (mX12_owed, 0) := mc_4 (i := 29) rfl
theorem my_270 : MYT[270]? = some (mX11_rent, 0) := mc_4 (i := 30) rfl
theorem my_271 : MYT[271]? = some (mL_rent, 1) := mc_4 (i := 31) rfl
theorem my_272 : MYT[272]? = some (mX12_rent, 0) := mc_4 (i := 32) rfl
theorem my_273 : MYT[273]? = some (mX1_rankOf, 0) := mc_4 (i := 33) rfl
theorem my_274 : MYT[274]? = some (mX1_ofRank, 0) := mc_4 (i := 34) rfl
theorem my_275 : MYT[275]? = some (mX11_arrears, 0) := mc_4 (i := 35) rfl
theorem my_276 : MYT[276]? = some (mX12_arrears, 0) := mc_4 (i := 36) rfl
theorem my_277 : MYT[277]? = some (mX11_needRoom, 0) := mc_4 (i := 37) rfl
theorem my_278 : MYT[278]? = some (mX9_add, 0) := mc_4 (i := 38) rfl
theorem my_279 : MYT[279]? = some (mX11_words, 0) := mc_4 (i := 39) rfl
theorem my_280 : MYT[280]? = some (mL_words, 1) := mc_4 (i := 40) rfl
theorem my_281 : MYT[281]? = some (mX12_words, 0) := mc_4 (i := 41) rfl
theorem my_282 : MYT[282]? = some (mX11_fault, 0) := mc_4 (i := 42) rfl
theorem my_283 : MYT[283]? = some (mX12_fault, 0) := mc_4 (i := 43) rfl
theorem my_284 : MYT[284]? = some (mX8_firstHolding, 0) := mc_4 (i := 44) rfl
theorem my_285 : MYT[285]? = some (mX9_firstHolding, 0) := mc_4 (i := 45) rfl
theorem my_286 : MYT[286]? = some (mX0_lineThatLets, 0) := mc_4 (i := 46) rfl
theorem my_287 : MYT[287]? = some (mX0_mostBorrowed, 0) := mc_4 (i := 47) rfl
theorem my_288 : MYT[288]? = some (mX0_partOf, 0) := mc_4 (i := 48) rfl
theorem my_289 : MYT[289]? = some (mX11_may, 0) := mc_4 (i := 49) rfl
theorem my_290 : MYT[290]? = some (mL_may, 1) := mc_4 (i := 50) rfl
theorem my_291 : MYT[291]? = some (mX12_mostOf, 0) := mc_4 (i := 51) rfl
theorem my_292 : MYT[292]? = some (mX12_firstLine, 0) := mc_4 (i := 52) rfl
theorem my_293 : MYT[293]? = some (mX12_may, 0) := mc_4 (i := 53) rfl
theorem my_294 : MYT[294]? = some (mX0_firstCharge, 0) := mc_4 (i := 54) rfl
theorem my_295 : MYT[295]? = some (mX11_why, 0) := mc_4 (i := 55) rfl
theorem my_296 : MYT[296]? = some (mL_why, 1) := mc_4 (i := 56) rfl
theorem my_297 : MYT[297]? = some (mX12_why, 0) := mc_4 (i := 57) rfl
theorem my_298 : MYT[298]? = some (mX11_cut, 0) := mc_4 (i := 58) rfl
theorem my_299 : MYT[299]? = some (mL_cut, 1) := mc_4 (i := 59) rfl
theorem my_300 : MYT[300]? = some (mX12_cut, 0) := mc_5 (i := 0) rfl
theorem my_301 : MYT[301]? = some (mX3_owedInAll, 0) := mc_5 (i := 1) rfl
theorem my_302 : MYT[302]? = some (mX3_lend, 0) := mc_5 (i := 2) rfl
theorem my_303 : MYT[303]? = some (mX11_loan, 0) := mc_5 (i := 3) rfl
theorem my_304 : MYT[304]? = some (mL_loan, 1) := mc_5 (i := 4) rfl
theorem my_305 : MYT[305]? = some (mX12_owedOnLoans, 0) := mc_5 (i := 5) rfl
theorem my_306 : MYT[306]? = some (mX12_loan, 0) := mc_5 (i := 6) rfl
theorem my_307 : MYT[307]? = some (mX11_owing, 0) := mc_5 (i := 7) rfl
theorem my_308 : MYT[308]? = some (mL_owing, 1) := mc_5 (i := 8) rfl
theorem my_309 : MYT[309]? = some (mX12_owing, 0) := mc_5 (i := 9) rfl
theorem my_310 : MYT[310]? = some (mX0_payWork, 0) := mc_5 (i := 10) rfl
theorem my_311 : MYT[311]? = some (mX11_work, 0) := mc_5 (i := 11) rfl
theorem my_312 : MYT[312]? = some (mL_work, 1) := mc_5 (i := 12) rfl
theorem my_313 : MYT[313]? = some (mX12_work, 0) := mc_5 (i := 13) rfl
theorem my_314 : MYT[314]? = some (mX11_sell, 0) := mc_5 (i := 14) rfl
theorem my_315 : MYT[315]? = some (mL_sell, 1) := mc_5 (i := 15) rfl
theorem my_316 : MYT[316]? = some (mX12_sell, 0) := mc_5 (i := 16) rfl
theorem my_317 : MYT[317]? = some (mX3_passOn, 0) := mc_5 (i := 17) rfl
theorem my_318 : MYT[318]? = some (mX11_heir, 0) := mc_5 (i := 18) rfl
theorem my_319 : MYT[319]? = some (mX12_heir, 0) := mc_5 (i := 19) rfl
theorem my_320 : MYT[320]? = some (mX3_wrongNote, 0) := mc_5 (i := 20) rfl
theorem my_321 : MYT[321]? = some (mX11_wrong, 0) := mc_5 (i := 21) rfl
theorem my_322 : MYT[322]? = some (mL_wrong, 1) := mc_5 (i := 22) rfl
theorem my_323 : MYT[323]? = some (mX12_wrong, 0) := mc_5 (i := 23) rfl
theorem my_324 : MYT[324]? = some (mX5_addJob, 0) := mc_5 (i := 24) rfl
theorem my_325 : MYT[325]? = some (mX11_job, 0) := mc_5 (i := 25) rfl
theorem my_326 : MYT[326]? = some (mL_job, 1) := mc_5 (i := 26) rfl
theorem my_327 : MYT[327]? = some (mX12_job, 0) := mc_5 (i := 27) rfl
theorem my_328 : MYT[328]? = some (mX5_addTrouble, 0) := mc_5 (i := 28) rfl
theorem my_329 : MYT[329]? = some (mX11_trouble, 0) := mc_5 (i := 29) rfl
theorem my_330 : MYT[330]? = some (mL_trouble, 1) := mc_5 (i := 30) rfl
theorem my_331 : MYT[331]? = some (mX12_trouble, 0) := mc_5 (i := 31) rfl
theorem my_332 : MYT[332]? = some (mX5_jobsIn, 0) := mc_5 (i := 32) rfl
theorem my_333 : MYT[333]? = some (mX5_endOf, 0) := mc_5 (i := 33) rfl
theorem my_334 : MYT[334]? = some (mX5_leastEnd, 0) := mc_5 (i := 34) rfl
theorem my_335 : MYT[335]? = some (mX11_worth, 0) := mc_5 (i := 35) rfl
theorem my_336 : MYT[336]? = some (mL_worth, 1) := mc_5 (i := 36) rfl
theorem my_337 : MYT[337]? = some (mX12_noPlan, 0) := mc_5 (i := 37) rfl
theorem my_338 : MYT[338]? = some (mX12_endsWith, 0) := mc_5 (i := 38) rfl
theorem my_339 : MYT[339]? = some (mX12_worthOfSet, 0) := mc_5 (i := 39) rfl
theorem my_340 : MYT[340]? = some (mX12_worth, 0) := mc_5 (i := 40) rfl
theorem my_341 : MYT[341]? = some (mJ6_bitCount_0f7a4, 0) := mc_5 (i := 41) rfl
theorem my_342 : MYT[342]? = some (mX5_bestSet, 0) := mc_5 (i := 42) rfl
theorem my_343 : MYT[343]? = some (mX11_best, 0) := mc_5 (i := 43) rfl
theorem my_344 : MYT[344]? = some (mL_best, 1) := mc_5 (i := 44) rfl
theorem my_345 : MYT[345]? = some (mX12_best, 0) := mc_5 (i := 45) rfl
theorem my_346 : MYT[346]? = some (mX0_isIn, 0) := mc_5 (i := 46) rfl
theorem my_347 : MYT[347]? = some (mX0_worthTogether, 0) := mc_5 (i := 47) rfl
theorem my_348 : MYT[348]? = some (mX0_partedPairs, 0) := mc_5 (i := 48) rfl
theorem my_349 : MYT[349]? = some (mX0_bestSale, 0) := mc_5 (i := 49) rfl
theorem my_350 : MYT[350]? = some (mX11_toSell, 0) := mc_5 (i := 50) rfl
theorem my_351 : MYT[351]? = some (mL_toSell, 1) := mc_5 (i := 51) rfl
theorem my_352 : MYT[352]? = some (mX12_isOf, 0) := mc_5 (i := 52) rfl
theorem my_353 : MYT[353]? = some (mX12_parted, 0) := mc_5 (i := 53) rfl
theorem my_354 : MYT[354]? = some (mX12_toSell, 0) := mc_5 (i := 54) rfl
theorem my_355 : MYT[355]? = some (mX11_row, 0) := mc_5 (i := 55) rfl
theorem my_356 : MYT[356]? = some (mL_row, 1) := mc_5 (i := 56) rfl
theorem my_357 : MYT[357]? = some (mX12_noRow, 0) := mc_5 (i := 57) rfl
theorem my_358 : MYT[358]? = some (mX12_row, 0) := mc_5 (i := 58) rfl
theorem my_359 : MYT[359]? = some (mX11_tear, 0) := mc_5 (i := 59) rfl
theorem my_360 : MYT[360]? = some (mL_tear, 1) := mc_6 (i := 0) rfl
theorem my_361 : MYT[361]? = some (mX12_tear, 0) := mc_6 (i := 1) rfl
theorem my_362 : MYT[362]? = some (mX7_firstFalse, 0) := mc_6 (i := 2) rfl
theorem my_363 : MYT[363]? = some (mX11_check, 0) := mc_6 (i := 3) rfl
theorem my_364 : MYT[364]? = some (mX12_check, 0) := mc_6 (i := 4) rfl
theorem my_365 : MYT[365]? = some (mX9_copyFrom, 0) := mc_6 (i := 5) rfl
theorem my_366 : MYT[366]? = some (mX2_copyFrom, 0) := mc_6 (i := 6) rfl
theorem my_367 : MYT[367]? = some (mX1_copyFrom, 0) := mc_6 (i := 7) rfl
theorem my_368 : MYT[368]? = some (mX4_copyFrom, 0) := mc_6 (i := 8) rfl
theorem my_369 : MYT[369]? = some (mX3_copyFrom, 0) := mc_6 (i := 9) rfl
theorem my_370 : MYT[370]? = some (mX5_copyFrom, 0) := mc_6 (i := 10) rfl
theorem my_371 : MYT[371]? = some (mX7_copyFrom, 0) := mc_6 (i := 11) rfl
theorem my_372 : MYT[372]? = some (mX0_copyFrom, 0) := mc_6 (i := 12) rfl
theorem my_373 : MYT[373]? = some (mX11_image, 0) := mc_6 (i := 13) rfl
theorem my_374 : MYT[374]? = some (mX12_image, 0) := mc_6 (i := 14) rfl
theorem my_375 : MYT[375]? = some (mX11_back, 0) := mc_6 (i := 15) rfl
theorem my_376 : MYT[376]? = some (mX12_back, 0) := mc_6 (i := 16) rfl
theorem my_377 : MYT[377]? = some (mX1_goingOn, 0) := mc_6 (i := 17) rfl
theorem my_378 : MYT[378]? = some (mX1_sumOf, 0) := mc_6 (i := 18) rfl
theorem my_379 : MYT[379]? = some (mX9_linesOf, 0) := mc_6 (i := 19) rfl
theorem my_380 : MYT[380]? = some (mX9_linesInForce, 0) := mc_6 (i := 20) rfl
theorem my_381 : MYT[381]? = some (mX2_soldFields, 0) := mc_6 (i := 21) rfl
theorem my_382 : MYT[382]? = some (mX3_told, 0) := mc_6 (i := 22) rfl
theorem my_383 : MYT[383]? = some (mX11_count, 0) := mc_6 (i := 23) rfl
theorem my_384 : MYT[384]? = some (mX12_sumOf, 0) := mc_6 (i := 24) rfl
theorem my_385 : MYT[385]? = some (mX12_linesInForce, 0) := mc_6 (i := 25) rfl
theorem my_386 : MYT[386]? = some (mX12_count, 0) := mc_6 (i := 26) rfl
theorem dJ3_checkIndex_8e157_0 : decode cJ3_checkIndex_8e157 0 = .ok (.iload_n 0, 1) := by decide +kernel
theorem dJ3_checkIndex_8e157_1 : decode cJ3_checkIndex_8e157 1 = .ok (.ifCond .lt 8, 3) := by decide +kernel
theorem dJ3_checkIndex_8e157_4 : decode cJ3_checkIndex_8e157 4 = .ok (.iload_n 0, 1) := by decide +kernel
theorem dJ3_checkIndex_8e157_5 : decode cJ3_checkIndex_8e157 5 = .ok (.iload_n 1, 1) := by decide +kernel
theorem dJ3_checkIndex_8e157_6 : decode cJ3_checkIndex_8e157 6 = .ok (.if_icmp .lt 10, 3) := by decide +kernel
theorem dJ3_checkIndex_8e157_9 : decode cJ3_checkIndex_8e157 9 = .ok (.aload_n 2, 1) := by decide +kernel
theorem dJ3_checkIndex_8e157_10 : decode cJ3_checkIndex_8e157 10 = .ok (.iload_n 0, 1) := by decide +kernel
theorem dJ3_checkIndex_8e157_11 : decode cJ3_checkIndex_8e157 11 = .ok (.iload_n 1, 1) := by decide +kernel
theorem dJ3_checkIndex_8e157_12 : decode cJ3_checkIndex_8e157 12 = .ok (.invokestatic 95, 3) := by decide +kernel
theorem dJ3_checkIndex_8e157_15 : decode cJ3_checkIndex_8e157 15 = .ok (.athrow, 1) := by decide +kernel
theorem dJ3_checkIndex_8e157_16 : decode cJ3_checkIndex_8e157 16 = .ok (.iload_n 0, 1) := by decide +kernel
theorem dJ3_checkIndex_8e157_17 : decode cJ3_checkIndex_8e157 17 = .ok (.ireturn, 1) := by decide +kernel
theorem ckP : CkP mJ3_checkIndex_8e157 := by
  intro G d h i n v hst hv h1 h2
  have hl : lent [Value.int i, Value.int n, v] = [some (.int i), some (.int n), some v] := by simp only [lent_I, lent_A hv, lent_0]
  refine ev_of (k := 0) (by decide) rfl (by rw [hl]; rfl) ?_ hst
  rw [hl]
  refine go_iload_n dJ3_checkIndex_8e157_0 rfl (go_if_lt (tgt := 9) dJ3_checkIndex_8e157_1 (by decide) (fun q => absurd q h1) (fun _ => ?_))
  refine go_iload_n dJ3_checkIndex_8e157_4 rfl (go_iload_n dJ3_checkIndex_8e157_5 rfl (go_icmp_lt (tgt := 16) dJ3_checkIndex_8e157_6 (by decide) (fun _ => ?_) (fun q => absurd (Int32.not_lt.mp q) h2)))
  exact go_iload_n dJ3_checkIndex_8e157_16 rfl (go_ireturn dJ3_checkIndex_8e157_17 rfl)
