/-! by program: methods, words, what the entries of the constant pools are -/
theorem tw_of {i : Nat} {w : Cond} (h1 : lw_tbl[i]? = some w) (h2 : goodWord w = true) : w ∈ TBg := List.mem_filter.mpr ⟨List.mem_of_getElem? h1, h2⟩
theorem tw_in {l : List Cond} (hl : ∀ w ∈ l, w ∈ tables_1) {i : Nat} {w : Cond} (h1 : l[i]? = some w) (h2 : goodWord w = true) : w ∈ TBg := List.mem_filter.mpr ⟨List.mem_append_right _ (hl w (List.mem_of_getElem? h1)), h2⟩
theorem tk_1 : ∀ w ∈ tables_1_1, w ∈ tables_1 := fun w h => List.mem_append_left _ h
theorem tk_2 : ∀ w ∈ tables_1_2, w ∈ tables_1 := fun w h => List.mem_append_right _ (List.mem_append_left _ h)
theorem tk_3 : ∀ w ∈ tables_1_3, w ∈ tables_1 := fun w h => List.mem_append_right _ (List.mem_append_right _ (List.mem_append_left _ h))
theorem tk_4 : ∀ w ∈ tables_1_4, w ∈ tables_1 := fun w h => List.mem_append_right _ (List.mem_append_right _ (List.mem_append_right _ (List.mem_append_left _ h)))
theorem tk_5 : ∀ w ∈ tables_1_5, w ∈ tables_1 := fun w h => List.mem_append_right _ (List.mem_append_right _ (List.mem_append_right _ (List.mem_append_right _ (List.mem_append_left _ h))))
theorem tk_6 : ∀ w ∈ tables_1_6, w ∈ tables_1 := fun w h => List.mem_append_right _ (List.mem_append_right _ (List.mem_append_right _ (List.mem_append_right _ (List.mem_append_right _ (List.mem_append_left _ h)))))
theorem tk_7 : ∀ w ∈ tables_1_7, w ∈ tables_1 := fun w h => List.mem_append_right _ (List.mem_append_right _ (List.mem_append_right _ (List.mem_append_right _ (List.mem_append_right _ (List.mem_append_right _ (List.mem_append_left _ h))))))
theorem tk_8 : ∀ w ∈ tables_1_8, w ∈ tables_1 := fun w h => List.mem_append_right _ (List.mem_append_right _ (List.mem_append_right _ (List.mem_append_right _ (List.mem_append_right _ (List.mem_append_right _ (List.mem_append_right _ (List.mem_append_left _ h)))))))
theorem tk_9 : ∀ w ∈ tables_1_9, w ∈ tables_1 := fun w h => List.mem_append_right _ (List.mem_append_right _ (List.mem_append_right _ (List.mem_append_right _ (List.mem_append_right _ (List.mem_append_right _ (List.mem_append_right _ (List.mem_append_right _ (List.mem_append_left _ h))))))))
theorem tk_10 : ∀ w ∈ tables_1_10, w ∈ tables_1 := fun w h => List.mem_append_right _ (List.mem_append_right _ (List.mem_append_right _ (List.mem_append_right _ (List.mem_append_right _ (List.mem_append_right _ (List.mem_append_right _ (List.mem_append_right _ (List.mem_append_right _ (h)))))))))
def mX11_init : mY := (yX11_init, prog_1_method_1_code, 1, (Option.none : Option Jvm.ClassFile.FieldType), [])
def mX6_init : mY := (yX6_init, prog_8_method_1_code, 1, (Option.none : Option Jvm.ClassFile.FieldType), [])
def mX0_init : mY := (yX0_init, prog_2_method_1_code, 1, (Option.none : Option Jvm.ClassFile.FieldType), [])
def mX9_init : mY := (yX9_init, prog_11_method_1_code, 1, (Option.none : Option Jvm.ClassFile.FieldType), [])
def mX2_init : mY := (yX2_init, prog_4_method_1_code, 2, (Option.none : Option Jvm.ClassFile.FieldType), [])
def mX1_init : mY := (yX1_init, prog_3_method_1_code, 1, (Option.none : Option Jvm.ClassFile.FieldType), [])
def mX8_init : mY := (yX8_init, prog_10_method_1_code, 1, (Option.none : Option Jvm.ClassFile.FieldType), [])
def mX4_init : mY := (yX4_init, prog_6_method_1_code, 1, (Option.none : Option Jvm.ClassFile.FieldType), [])
def mX3_init : mY := (yX3_init, prog_5_method_1_code, 1, (Option.none : Option Jvm.ClassFile.FieldType), [])
def mX5_init : mY := (yX5_init, prog_7_method_1_code, 1, (Option.none : Option Jvm.ClassFile.FieldType), [])
def mX7_init : mY := (yX7_init, prog_9_method_1_code, 1, (Option.none : Option Jvm.ClassFile.FieldType), [])
def mX10_init : mY := (yX10_init, prog_12_method_1_code, 2, (Option.none : Option Jvm.ClassFile.FieldType), [])
def mX11_feed : mY := (yX11_feed, prog_1_method_2_code, 6, (Option.some Jvm.ClassFile.FieldType.int), [])
def mX6_addBytes : mY := (yX6_addBytes, prog_8_method_2_code, 3, (Option.none : Option Jvm.ClassFile.FieldType), [])
def mX11_end : mY := (yX11_end, prog_1_method_3_code, 2, (Option.some Jvm.ClassFile.FieldType.boolean), [])
def mX11_arrears : mY := (yX11_arrears, prog_1_method_19_code, 2, (Option.some Jvm.ClassFile.FieldType.int), [])
def mX1_ofRank : mY := (yX1_ofRank, prog_3_method_15_code, 3, (Option.some Jvm.ClassFile.FieldType.int), [])
def mX1_get : mY := (yX1_get, prog_3_method_5_code, 3, (Option.some Jvm.ClassFile.FieldType.int), [])
def mX1_isCell : mY := (yX1_isCell, prog_3_method_7_code, 2, (Option.some Jvm.ClassFile.FieldType.boolean), [])
def mX1_rankOf : mY := (yX1_rankOf, prog_3_method_16_code, 6, (Option.some Jvm.ClassFile.FieldType.int), [])
def mX11_fault : mY := (yX11_fault, prog_1_method_21_code, 1, (Option.some Jvm.ClassFile.FieldType.int), [])
def mX11_heir : mY := (yX11_heir, prog_1_method_29_code, 1, (Option.some Jvm.ClassFile.FieldType.int), [])
def mX3_passOn : mY := (yX3_passOn, prog_5_method_7_code, 2, (Option.some Jvm.ClassFile.FieldType.int), [])
def mJ9_max_7cf53 : mY := (yJ9_max_7cf53, prog_21_method_65_code, 2, (Option.some Jvm.ClassFile.FieldType.int), [])
def mX11_capped : mY := (yX11_capped, prog_1_method_50_code, 2, (Option.some Jvm.ClassFile.FieldType.int), [])
def mJ9_min_f86c9 : mY := (yJ9_min_f86c9, prog_21_method_70_code, 4, (Option.some Jvm.ClassFile.FieldType.long), [])
def mJ9_max_f86c9 : mY := (yJ9_max_f86c9, prog_21_method_66_code, 4, (Option.some Jvm.ClassFile.FieldType.long), [])
def mX11_check : mY := (yX11_check, prog_1_method_38_code, 1, (Option.some Jvm.ClassFile.FieldType.int), [])
def mX7_firstFalse : mY := (yX7_firstFalse, prog_9_method_4_code, 2, (Option.some Jvm.ClassFile.FieldType.int), [])
def mX11_image : mY := (yX11_image, prog_1_method_39_code, 1, (Option.none : Option Jvm.ClassFile.FieldType), [])
def mX0_copyFrom : mY := (yX0_copyFrom, prog_2_method_2_code, 2, (Option.none : Option Jvm.ClassFile.FieldType), [])
def mX9_copyFrom : mY := (yX9_copyFrom, prog_11_method_3_code, 3, (Option.none : Option Jvm.ClassFile.FieldType), [])
def mX2_copyFrom : mY := (yX2_copyFrom, prog_4_method_2_code, 2, (Option.none : Option Jvm.ClassFile.FieldType), [])
def mX1_copyFrom : mY := (yX1_copyFrom, prog_3_method_2_code, 3, (Option.none : Option Jvm.ClassFile.FieldType), [])
def mX4_copyFrom : mY := (yX4_copyFrom, prog_6_method_2_code, 2, (Option.none : Option Jvm.ClassFile.FieldType), [])
def mX3_copyFrom : mY := (yX3_copyFrom, prog_5_method_2_code, 2, (Option.none : Option Jvm.ClassFile.FieldType), [])
def mX5_copyFrom : mY := (yX5_copyFrom, prog_7_method_2_code, 2, (Option.none : Option Jvm.ClassFile.FieldType), [])
def mX7_copyFrom : mY := (yX7_copyFrom, prog_9_method_2_code, 2, (Option.none : Option Jvm.ClassFile.FieldType), [])
def mX11_back : mY := (yX11_back, prog_1_method_40_code, 1, (Option.some Jvm.ClassFile.FieldType.boolean), [])
def mX11_count : mY := (yX11_count, prog_1_method_41_code, 2, (Option.some Jvm.ClassFile.FieldType.int), [])
def mX1_goingOn : mY := (yX1_goingOn, prog_3_method_13_code, 3, (Option.some Jvm.ClassFile.FieldType.int), [])
def mX1_isOver : mY := (yX1_isOver, prog_3_method_12_code, 2, (Option.some Jvm.ClassFile.FieldType.boolean), [])
def mX1_sumOf : mY := (yX1_sumOf, prog_3_method_14_code, 5, (Option.some Jvm.ClassFile.FieldType.int), [])
def mX9_linesInForce : mY := (yX9_linesInForce, prog_11_method_11_code, 6, (Option.some Jvm.ClassFile.FieldType.int), [])
def mX9_inForce : mY := (yX9_inForce, prog_11_method_5_code, 4, (Option.some Jvm.ClassFile.FieldType.int), [])
def mX9_lastStrike : mY := (yX9_lastStrike, prog_11_method_6_code, 5, (Option.some Jvm.ClassFile.FieldType.int), [])
def mX9_textAt : mY := (yX9_textAt, prog_11_method_4_code, 2, (Option.some Jvm.ClassFile.FieldType.int), [])
def mX8_lastOf : mY := (yX8_lastOf, prog_10_method_6_code, 4, (Option.some Jvm.ClassFile.FieldType.int), [])
def mX8_get : mY := (yX8_get, prog_10_method_3_code, 3, (Option.some Jvm.ClassFile.FieldType.int), [])
def mX9_linesOf : mY := (yX9_linesOf, prog_11_method_12_code, 4, (Option.some Jvm.ClassFile.FieldType.int), [])
def mX2_soldFields : mY := (yX2_soldFields, prog_4_method_7_code, 3, (Option.some Jvm.ClassFile.FieldType.int), [])
def mX2_get : mY := (yX2_get, prog_4_method_3_code, 3, (Option.some Jvm.ClassFile.FieldType.int), [])
def mX2_isCell : mY := (yX2_isCell, prog_4_method_5_code, 2, (Option.some Jvm.ClassFile.FieldType.boolean), [])
def mX3_told : mY := (yX3_told, prog_5_method_13_code, 2, (Option.some Jvm.ClassFile.FieldType.int), [])
def mX3_owedInAll : mY := (yX3_owedInAll, prog_5_method_11_code, 3, (Option.some Jvm.ClassFile.FieldType.int), [])
def mJx00060_init_a7421 : mY := (yJx00060_init_a7421, prog_15_method_2_code, 2, (Option.none : Option Jvm.ClassFile.FieldType), [])
def mX11_field : mY := (yX11_field, prog_1_method_4_code, 7, (Option.some Jvm.ClassFile.FieldType.boolean), [])
def mX11_needField : mY := (yX11_needField, prog_1_method_43_code, 1, (Option.none : Option Jvm.ClassFile.FieldType), [])
def mX11_needIndex : mY := (yX11_needIndex, prog_1_method_42_code, 2, (Option.none : Option Jvm.ClassFile.FieldType), [])
def mX11_needWithin : mY := (yX11_needWithin, prog_1_method_45_code, 3, (Option.none : Option Jvm.ClassFile.FieldType), [])
def mX2_isSold : mY := (yX2_isSold, prog_4_method_6_code, 2, (Option.some Jvm.ClassFile.FieldType.boolean), [])
def mX2_set : mY := (yX2_set, prog_4_method_4_code, 4, (Option.none : Option Jvm.ClassFile.FieldType), [])
def mX11_rain : mY := (yX11_rain, prog_1_method_5_code, 4, (Option.none : Option Jvm.ClassFile.FieldType), [])
def mX4_setRain : mY := (yX4_setRain, prog_6_method_3_code, 3, (Option.none : Option Jvm.ClassFile.FieldType), [])
def mX11_fell : mY := (yX11_fell, prog_1_method_6_code, 2, (Option.some Jvm.ClassFile.FieldType.int), [])
def mX4_rainOf : mY := (yX4_rainOf, prog_6_method_4_code, 2, (Option.some Jvm.ClassFile.FieldType.int), [])
def mX4_toldRain : mY := (yX4_toldRain, prog_6_method_5_code, 2, (Option.some Jvm.ClassFile.FieldType.int), [])
def mX11_price : mY := (yX11_price, prog_1_method_7_code, 4, (Option.some Jvm.ClassFile.FieldType.int), [])
def mX4_tell : mY := (yX4_tell, prog_6_method_6_code, 5, (Option.some Jvm.ClassFile.FieldType.int), [])
def mX11_known : mY := (yX11_known, prog_1_method_8_code, 4, (Option.some Jvm.ClassFile.FieldType.int), [])
def mX4_priceAt : mY := (yX4_priceAt, prog_6_method_7_code, 5, (Option.some Jvm.ClassFile.FieldType.int), [])
def mX11_let : mY := (yX11_let, prog_1_method_9_code, 8, (Option.some Jvm.ClassFile.FieldType.int), [])
def mX6_useTape : mY := (yX6_useTape, prog_8_method_3_code, 1, (Option.none : Option Jvm.ClassFile.FieldType), [])
def mX6_read : mY := (yX6_read, prog_8_method_4_code, 3, (Option.some Jvm.ClassFile.FieldType.boolean), [])
def mX6_next : mY := (yX6_next, prog_8_method_24_code, 1, (Option.none : Option Jvm.ClassFile.FieldType), [])
def mX6_isLetter : mY := (yX6_isLetter, prog_8_method_25_code, 1, (Option.some Jvm.ClassFile.FieldType.boolean), [])
def mX6_wordFrom : mY := (yX6_wordFrom, prog_8_method_27_code, 7, (Option.some Jvm.ClassFile.FieldType.int), [])
def mJ0_length_8abf5 : mY := (yJ0_length_8abf5, prog_23_method_54_code, 1, (Option.some Jvm.ClassFile.FieldType.int), [])
def mJ0_coder_7d493 : mY := (yJ0_coder_7d493, prog_23_method_152_code, 1, (Option.some Jvm.ClassFile.FieldType.byte), [])
def mJ0_charAt_5068e : mY := (yJ0_charAt_5068e, prog_23_method_56_code, 2, (Option.some Jvm.ClassFile.FieldType.char), [])
def mJ0_isLatin1_aae02 : mY := (yJ0_isLatin1_aae02, prog_23_method_154_code, 1, (Option.some Jvm.ClassFile.FieldType.boolean), [])
def mJ1_charAt_3b067 : mY := (yJ1_charAt_3b067, prog_24_method_2_code, 2, (Option.some Jvm.ClassFile.FieldType.char), [])
def mJ0_checkIndex_df160 : mY := (yJ0_checkIndex_df160, prog_23_method_155_code, 2, (Option.none : Option Jvm.ClassFile.FieldType), [])
def mJ3_checkIndex_8e157 : mY := (yJ3_checkIndex_8e157, prog_30_method_11_code, 3, (Option.some Jvm.ClassFile.FieldType.int), [])
def mJ2_charAt_3b067 : mY := (yJ2_charAt_3b067, prog_25_method_83_code, 2, (Option.some Jvm.ClassFile.FieldType.char), [])
def mJ2_checkIndex_2214a : mY := (yJ2_checkIndex_2214a, prog_25_method_91_code, 2, (Option.none : Option Jvm.ClassFile.FieldType), [])
def mJ2_length_9d52b : mY := (yJ2_length_9d52b, prog_25_method_6_code, 1, (Option.some Jvm.ClassFile.FieldType.int), [])
def mJ2_getChar_3b067 : mY := (yJ2_getChar_3b067, prog_25_method_5_code, 2, (Option.some Jvm.ClassFile.FieldType.char), [])
def mX6_isDigit : mY := (yX6_isDigit, prog_8_method_26_code, 1, (Option.some Jvm.ClassFile.FieldType.boolean), [])
def mX6_takeLines : mY := (yX6_takeLines, prog_8_method_6_code, 3, (Option.some Jvm.ClassFile.FieldType.boolean), [])
def mX6_takeVerb : mY := (yX6_takeVerb, prog_8_method_9_code, 4, (Option.some Jvm.ClassFile.FieldType.boolean), [])
def mX6_write : mY := (yX6_write, prog_8_method_7_code, 3, (Option.none : Option Jvm.ClassFile.FieldType), [])
def mX6_takeRestOfLease : mY := (yX6_takeRestOfLease, prog_8_method_10_code, 1, (Option.some Jvm.ClassFile.FieldType.boolean), [])
def mX6_takeNumber : mY := (yX6_takeNumber, prog_8_method_12_code, 2, (Option.some Jvm.ClassFile.FieldType.boolean), [])
def mX6_takeWord : mY := (yX6_takeWord, prog_8_method_15_code, 2, (Option.some Jvm.ClassFile.FieldType.boolean), [])
def mX6_isWord : mY := (yX6_isWord, prog_8_method_17_code, 2, (Option.some Jvm.ClassFile.FieldType.boolean), [])
def mX6_takeCrop : mY := (yX6_takeCrop, prog_8_method_13_code, 3, (Option.some Jvm.ClassFile.FieldType.boolean), [])
def mX6_takeOneOf : mY := (yX6_takeOneOf, prog_8_method_14_code, 3, (Option.some Jvm.ClassFile.FieldType.boolean), [])
def mX6_takeIf : mY := (yX6_takeIf, prog_8_method_19_code, 1, (Option.some Jvm.ClassFile.FieldType.boolean), [])
def mX6_takeCondition : mY := (yX6_takeCondition, prog_8_method_20_code, 3, (Option.some Jvm.ClassFile.FieldType.boolean), [])
def mX6_takeAll : mY := (yX6_takeAll, prog_8_method_21_code, 3, (Option.some Jvm.ClassFile.FieldType.boolean), [])
def mX6_takeAtom : mY := (yX6_takeAtom, prog_8_method_22_code, 5, (Option.some Jvm.ClassFile.FieldType.boolean), [])
def mX6_isSign : mY := (yX6_isSign, prog_8_method_18_code, 2, (Option.some Jvm.ClassFile.FieldType.boolean), [])
def mX6_takeSign : mY := (yX6_takeSign, prog_8_method_16_code, 2, (Option.some Jvm.ClassFile.FieldType.boolean), [])
def mX6_emit : mY := (yX6_emit, prog_8_method_8_code, 2, (Option.none : Option Jvm.ClassFile.FieldType), [])
def mX6_takeSum : mY := (yX6_takeSum, prog_8_method_23_code, 4, (Option.some Jvm.ClassFile.FieldType.boolean), [])
def mX6_takeRestOfAct : mY := (yX6_takeRestOfAct, prog_8_method_11_code, 1, (Option.some Jvm.ClassFile.FieldType.boolean), [])
def mX11_needText : mY := (yX11_needText, prog_1_method_46_code, 1, (Option.none : Option Jvm.ClassFile.FieldType), [])
def mX0_yearsLet : mY := (yX0_yearsLet, prog_2_method_17_code, 1, (Option.some Jvm.ClassFile.FieldType.int), [])
def mX0_lastLine : mY := (yX0_lastLine, prog_2_method_16_code, 3, (Option.some Jvm.ClassFile.FieldType.int), [])
def mX9_lastLine : mY := (yX9_lastLine, prog_11_method_7_code, 7, (Option.some Jvm.ClassFile.FieldType.int), [])
def mX9_numberIn : mY := (yX9_numberIn, prog_11_method_8_code, 3, (Option.some Jvm.ClassFile.FieldType.int), [])
def mX0_isFree : mY := (yX0_isFree, prog_2_method_5_code, 5, (Option.some Jvm.ClassFile.FieldType.boolean), [])
def mX2_isWithin : mY := (yX2_isWithin, prog_4_method_9_code, 3, (Option.some Jvm.ClassFile.FieldType.boolean), [])
def mX2_isBetween : mY := (yX2_isBetween, prog_4_method_10_code, 3, (Option.some Jvm.ClassFile.FieldType.boolean), [])
def mJ9_min_7cf53 : mY := (yJ9_min_7cf53, prog_21_method_69_code, 2, (Option.some Jvm.ClassFile.FieldType.int), [])
def mX0_noteWrong : mY := (yX0_noteWrong, prog_2_method_4_code, 3, (Option.none : Option Jvm.ClassFile.FieldType), [])
def mX3_note : mY := (yX3_note, prog_5_method_8_code, 4, (Option.none : Option Jvm.ClassFile.FieldType), [])
def mX0_openLease : mY := (yX0_openLease, prog_2_method_6_code, 6, (Option.some Jvm.ClassFile.FieldType.int), [])
def mX0_openOn : mY := (yX0_openOn, prog_2_method_8_code, 6, (Option.some Jvm.ClassFile.FieldType.int), [])
def mX1_open : mY := (yX1_open, prog_3_method_9_code, 3, (Option.some Jvm.ClassFile.FieldType.int), [])
def mX1_set : mY := (yX1_set, prog_3_method_6_code, 4, (Option.none : Option Jvm.ClassFile.FieldType), [])
def mX1_grow : mY := (yX1_grow, prog_3_method_8_code, 5, (Option.none : Option Jvm.ClassFile.FieldType), [])
def mX6_newText : mY := (yX6_newText, prog_8_method_5_code, 3, (Option.some (Jvm.ClassFile.FieldType.object "GreatEstate$Text")), [])
def mX8_init_ : mY := (yX8_init_, prog_10_method_2_code, 3, (Option.none : Option Jvm.ClassFile.FieldType), [])
def mX1_setLease : mY := (yX1_setLease, prog_3_method_3_code, 3, (Option.none : Option Jvm.ClassFile.FieldType), [])
def mX11_keep : mY := (yX11_keep, prog_1_method_10_code, 6, (Option.some Jvm.ClassFile.FieldType.int), [])
def mX0_openKept : mY := (yX0_openKept, prog_2_method_7_code, 7, (Option.some Jvm.ClassFile.FieldType.int), [])
def mJx3273f_init_a7421 : mY := (yJx3273f_init_a7421, prog_16_method_2_code, 2, (Option.none : Option Jvm.ClassFile.FieldType), [])
def mX11_sow : mY := (yX11_sow, prog_1_method_11_code, 4, (Option.some Jvm.ClassFile.FieldType.boolean), [])
def mX0_kindAt : mY := (yX0_kindAt, prog_2_method_3_code, 3, (Option.some Jvm.ClassFile.FieldType.int), [])
def mX1_isHand : mY := (yX1_isHand, prog_3_method_10_code, 1, (Option.some Jvm.ClassFile.FieldType.boolean), [])
def mX11_needKind : mY := (yX11_needKind, prog_1_method_47_code, 1, (Option.none : Option Jvm.ClassFile.FieldType), [])
def mX11_notice : mY := (yX11_notice, prog_1_method_12_code, 3, (Option.some Jvm.ClassFile.FieldType.boolean), [])
def mX11_needHolding : mY := (yX11_needHolding, prog_1_method_44_code, 2, (Option.none : Option Jvm.ClassFile.FieldType), [])
def mX11_give : mY := (yX11_give, prog_1_method_13_code, 3, (Option.some Jvm.ClassFile.FieldType.int), [])
def mX1_isLet : mY := (yX1_isLet, prog_3_method_11_code, 2, (Option.some Jvm.ClassFile.FieldType.boolean), [])
def mX0_close : mY := (yX0_close, prog_2_method_9_code, 3, (Option.none : Option Jvm.ClassFile.FieldType), [])
def mX11_seasons : mY := (yX11_seasons, prog_1_method_14_code, 3, (Option.some Jvm.ClassFile.FieldType.int), [])
def mX10_pass : mY := (yX10_pass, prog_12_method_2_code, 1, (Option.none : Option Jvm.ClassFile.FieldType), [])
def mX0_learnPrices : mY := (yX0_learnPrices, prog_2_method_10_code, 1, (Option.none : Option Jvm.ClassFile.FieldType), [])
def mX4_learnPrices : mY := (yX4_learnPrices, prog_6_method_8_code, 5, (Option.none : Option Jvm.ClassFile.FieldType), [])
def mX10_spring : mY := (yX10_spring, prog_12_method_3_code, 3, (Option.none : Option Jvm.ClassFile.FieldType), [])
def mX1_leaseOf : mY := (yX1_leaseOf, prog_3_method_4_code, 3, (Option.some (Jvm.ClassFile.FieldType.object "GreatEstate$Text")), [])
def mX10_chosenCrop : mY := (yX10_chosenCrop, prog_12_method_4_code, 7, (Option.some Jvm.ClassFile.FieldType.int), [])
def mX0_priceOf : mY := (yX0_priceOf, prog_2_method_11_code, 2, (Option.some Jvm.ClassFile.FieldType.int), [])
def mX2_growthOf : mY := (yX2_growthOf, prog_4_method_13_code, 7, (Option.some Jvm.ClassFile.FieldType.int), [])
def mX10_isBarred : mY := (yX10_isBarred, prog_12_method_5_code, 5, (Option.some Jvm.ClassFile.FieldType.boolean), [])
def mX10_summer : mY := (yX10_summer, prog_12_method_6_code, 3, (Option.none : Option Jvm.ClassFile.FieldType), [])
def mX2_harvest : mY := (yX2_harvest, prog_4_method_14_code, 6, (Option.none : Option Jvm.ClassFile.FieldType), [])
def mX10_sellHarvest : mY := (yX10_sellHarvest, prog_12_method_7_code, 4, (Option.none : Option Jvm.ClassFile.FieldType), [])
def mX3_addHarvest : mY := (yX3_addHarvest, prog_5_method_5_code, 2, (Option.none : Option Jvm.ClassFile.FieldType), [])
def mX3_addIncome : mY := (yX3_addIncome, prog_5_method_3_code, 3, (Option.none : Option Jvm.ClassFile.FieldType), [])
def mX7_add : mY := (yX7_add, prog_9_method_3_code, 3, (Option.none : Option Jvm.ClassFile.FieldType), [])
def mX10_autumn : mY := (yX10_autumn, prog_12_method_8_code, 2, (Option.none : Option Jvm.ClassFile.FieldType), [])
def mX10_takeRent : mY := (yX10_takeRent, prog_12_method_10_code, 10, (Option.none : Option Jvm.ClassFile.FieldType), [])
def mX0_rentOf : mY := (yX0_rentOf, prog_2_method_25_code, 6, (Option.some Jvm.ClassFile.FieldType.int), [])
def mX0_learnFactsOfTenant : mY := (yX0_learnFactsOfTenant, prog_2_method_14_code, 2, (Option.none : Option Jvm.ClassFile.FieldType), [])
def mX0_learnFacts : mY := (yX0_learnFacts, prog_2_method_12_code, 4, (Option.none : Option Jvm.ClassFile.FieldType), [])
def mX8_sumHolding : mY := (yX8_sumHolding, prog_10_method_8_code, 5, (Option.some Jvm.ClassFile.FieldType.int), [])
def mX8_holds : mY := (yX8_holds, prog_10_method_4_code, 6, (Option.some Jvm.ClassFile.FieldType.boolean), [])
def mX8_step : mY := (yX8_step, prog_10_method_5_code, 7, (Option.some Jvm.ClassFile.FieldType.int), [])
def mX10_harmOfGame : mY := (yX10_harmOfGame, prog_12_method_11_code, 6, (Option.some Jvm.ClassFile.FieldType.int), [])
def mX10_hundredthsPut : mY := (yX10_hundredthsPut, prog_12_method_12_code, 5, (Option.some Jvm.ClassFile.FieldType.int), [])
def mX10_receive : mY := (yX10_receive, prog_12_method_9_code, 3, (Option.none : Option Jvm.ClassFile.FieldType), [])
def mX10_breedGame : mY := (yX10_breedGame, prog_12_method_13_code, 3, (Option.none : Option Jvm.ClassFile.FieldType), [])
def mX10_isBesideWood : mY := (yX10_isBesideWood, prog_12_method_14_code, 4, (Option.some Jvm.ClassFile.FieldType.boolean), [])
def mX2_beside : mY := (yX2_beside, prog_4_method_8_code, 4, (Option.some Jvm.ClassFile.FieldType.int), [])
def mX10_growOlder : mY := (yX10_growOlder, prog_12_method_15_code, 3, (Option.none : Option Jvm.ClassFile.FieldType), [])
def mX10_digMines : mY := (yX10_digMines, prog_12_method_16_code, 2, (Option.none : Option Jvm.ClassFile.FieldType), [])
def mX10_dig : mY := (yX10_dig, prog_12_method_17_code, 7, (Option.none : Option Jvm.ClassFile.FieldType), [])
def mX0_takeIn : mY := (yX0_takeIn, prog_2_method_23_code, 5, (Option.none : Option Jvm.ClassFile.FieldType), [])
def mX3_addCapital : mY := (yX3_addCapital, prog_5_method_4_code, 3, (Option.none : Option Jvm.ClassFile.FieldType), [])
def mX10_sink : mY := (yX10_sink, prog_12_method_18_code, 5, (Option.none : Option Jvm.ClassFile.FieldType), [])
def mX3_payLoans : mY := (yX3_payLoans, prog_5_method_12_code, 5, (Option.none : Option Jvm.ClassFile.FieldType), [])
def mX0_chargesNow : mY := (yX0_chargesNow, prog_2_method_22_code, 1, (Option.some Jvm.ClassFile.FieldType.int), [])
def mX0_learnFactsOfEstate : mY := (yX0_learnFactsOfEstate, prog_2_method_13_code, 1, (Option.none : Option Jvm.ClassFile.FieldType), [])
def mX9_sumHolding : mY := (yX9_sumHolding, prog_11_method_10_code, 8, (Option.some Jvm.ClassFile.FieldType.int), [])
def mX3_payCharges : mY := (yX3_payCharges, prog_5_method_6_code, 2, (Option.none : Option Jvm.ClassFile.FieldType), [])
def mX10_endLeases : mY := (yX10_endLeases, prog_12_method_19_code, 2, (Option.none : Option Jvm.ClassFile.FieldType), [])
def mX10_isAtItsEnd : mY := (yX10_isAtItsEnd, prog_12_method_20_code, 3, (Option.some Jvm.ClassFile.FieldType.boolean), [])
def mX10_goOut : mY := (yX10_goOut, prog_12_method_21_code, 5, (Option.none : Option Jvm.ClassFile.FieldType), [])
def mX0_owedTo : mY := (yX0_owedTo, prog_2_method_26_code, 6, (Option.some Jvm.ClassFile.FieldType.int), [])
def mX0_learnFactsOfField : mY := (yX0_learnFactsOfField, prog_2_method_15_code, 2, (Option.none : Option Jvm.ClassFile.FieldType), [])
def mX0_leftOn : mY := (yX0_leftOn, prog_2_method_27_code, 7, (Option.some Jvm.ClassFile.FieldType.long), [])
def mX11_look : mY := (yX11_look, prog_1_method_15_code, 3, (Option.some Jvm.ClassFile.FieldType.int), [])
def mX11_needKnown : mY := (yX11_needKnown, prog_1_method_48_code, 1, (Option.none : Option Jvm.ClassFile.FieldType), [])
def mX2_worthOf : mY := (yX2_worthOf, prog_4_method_12_code, 4, (Option.some Jvm.ClassFile.FieldType.int), [])
def mX2_timberOf : mY := (yX2_timberOf, prog_4_method_11_code, 2, (Option.some Jvm.ClassFile.FieldType.int), [])
def mX11_led : mY := (yX11_led, prog_1_method_16_code, 3, (Option.some Jvm.ClassFile.FieldType.int), [])
def mX11_owed : mY := (yX11_owed, prog_1_method_17_code, 2, (Option.some Jvm.ClassFile.FieldType.int), [])
def mX11_rent : mY := (yX11_rent, prog_1_method_18_code, 2, (Option.some Jvm.ClassFile.FieldType.int), [])
def mX11_words : mY := (yX11_words, prog_1_method_20_code, 3, (Option.some Jvm.ClassFile.FieldType.int), [])
def mX11_needRoom : mY := (yX11_needRoom, prog_1_method_49_code, 1, (Option.none : Option Jvm.ClassFile.FieldType), [])
def mX9_add : mY := (yX9_add, prog_11_method_2_code, 4, (Option.none : Option Jvm.ClassFile.FieldType), [])
def mX11_may : mY := (yX11_may, prog_1_method_22_code, 3, (Option.some Jvm.ClassFile.FieldType.int), [])
def mX0_lineThatLets : mY := (yX0_lineThatLets, prog_2_method_20_code, 3, (Option.some Jvm.ClassFile.FieldType.int), [])
def mX9_firstHolding : mY := (yX9_firstHolding, prog_11_method_9_code, 8, (Option.some Jvm.ClassFile.FieldType.int), [])
def mX8_firstHolding : mY := (yX8_firstHolding, prog_10_method_7_code, 4, (Option.some Jvm.ClassFile.FieldType.int), [])
def mX0_mostBorrowed : mY := (yX0_mostBorrowed, prog_2_method_18_code, 1, (Option.some Jvm.ClassFile.FieldType.int), [])
def mX0_partOf : mY := (yX0_partOf, prog_2_method_19_code, 2, (Option.some Jvm.ClassFile.FieldType.int), [])
def mX11_why : mY := (yX11_why, prog_1_method_23_code, 3, (Option.some Jvm.ClassFile.FieldType.int), [])
def mX0_firstCharge : mY := (yX0_firstCharge, prog_2_method_21_code, 1, (Option.some Jvm.ClassFile.FieldType.int), [])
def mX11_cut : mY := (yX11_cut, prog_1_method_24_code, 5, (Option.some Jvm.ClassFile.FieldType.int), [])
def mX11_loan : mY := (yX11_loan, prog_1_method_25_code, 6, (Option.some Jvm.ClassFile.FieldType.int), [])
def mX3_lend : mY := (yX3_lend, prog_5_method_10_code, 4, (Option.some Jvm.ClassFile.FieldType.int), [])
def mX11_owing : mY := (yX11_owing, prog_1_method_26_code, 2, (Option.some Jvm.ClassFile.FieldType.int), [])
def mX11_work : mY := (yX11_work, prog_1_method_27_code, 4, (Option.some Jvm.ClassFile.FieldType.boolean), [])
def mX0_payWork : mY := (yX0_payWork, prog_2_method_24_code, 5, (Option.some Jvm.ClassFile.FieldType.boolean), [])
def mX11_sell : mY := (yX11_sell, prog_1_method_28_code, 5, (Option.some Jvm.ClassFile.FieldType.int), [])
def mX11_wrong : mY := (yX11_wrong, prog_1_method_30_code, 3, (Option.some Jvm.ClassFile.FieldType.int), [])
def mX3_wrongNote : mY := (yX3_wrongNote, prog_5_method_9_code, 3, (Option.some Jvm.ClassFile.FieldType.int), [])
def mX11_job : mY := (yX11_job, prog_1_method_31_code, 4, (Option.some Jvm.ClassFile.FieldType.int), [])
def mX5_addJob : mY := (yX5_addJob, prog_7_method_3_code, 4, (Option.some Jvm.ClassFile.FieldType.int), [])
def mX11_trouble : mY := (yX11_trouble, prog_1_method_32_code, 3, (Option.some Jvm.ClassFile.FieldType.int), [])
def mX5_addTrouble : mY := (yX5_addTrouble, prog_7_method_4_code, 3, (Option.some Jvm.ClassFile.FieldType.int), [])
def mX11_worth : mY := (yX11_worth, prog_1_method_33_code, 4, (Option.some Jvm.ClassFile.FieldType.int), [])
def mX5_leastEnd : mY := (yX5_leastEnd, prog_7_method_5_code, 6, (Option.some Jvm.ClassFile.FieldType.int), [])
def mX5_endOf : mY := (yX5_endOf, prog_7_method_6_code, 7, (Option.some Jvm.ClassFile.FieldType.int), [])
def mX5_jobsIn : mY := (yX5_jobsIn, prog_7_method_7_code, 5, (Option.some Jvm.ClassFile.FieldType.int), [])
def mX11_best : mY := (yX11_best, prog_1_method_34_code, 3, (Option.some Jvm.ClassFile.FieldType.int), [])
def mX5_bestSet : mY := (yX5_bestSet, prog_7_method_8_code, 8, (Option.some Jvm.ClassFile.FieldType.int), [])
def mJ6_bitCount_0f7a4 : mY := (yJ6_bitCount_0f7a4, prog_20_method_49_code, 1, (Option.some Jvm.ClassFile.FieldType.int), [])
def mX11_toSell : mY := (yX11_toSell, prog_1_method_35_code, 4, (Option.some Jvm.ClassFile.FieldType.int), [])
def mX0_bestSale : mY := (yX0_bestSale, prog_2_method_28_code, 11, (Option.some Jvm.ClassFile.FieldType.int), [])
def mX0_worthTogether : mY := (yX0_worthTogether, prog_2_method_30_code, 5, (Option.some Jvm.ClassFile.FieldType.int), [])
def mX0_isIn : mY := (yX0_isIn, prog_2_method_29_code, 4, (Option.some Jvm.ClassFile.FieldType.boolean), [])
def mX0_partedPairs : mY := (yX0_partedPairs, prog_2_method_31_code, 7, (Option.some Jvm.ClassFile.FieldType.int), [])
def mX11_row : mY := (yX11_row, prog_1_method_36_code, 3, (Option.some Jvm.ClassFile.FieldType.int), [])
def mX11_tear : mY := (yX11_tear, prog_1_method_37_code, 4, (Option.some Jvm.ClassFile.FieldType.int), [])
def mX12_thrown : mY := (yX12_thrown, prog_14_method_1_code, 1, (Option.some Jvm.ClassFile.FieldType.int), [])
def mX12_init : mY := (yX12_init, prog_14_method_5_code, 2, (Option.none : Option Jvm.ClassFile.FieldType), [])
def mX12_at : mY := (yX12_at, prog_14_method_8_code, 2, (Option.some Jvm.ClassFile.FieldType.int), [])
def mX12_image : mY := (yX12_image, prog_14_method_12_code, 2, (Option.none : Option Jvm.ClassFile.FieldType), [])
def mX12_back : mY := (yX12_back, prog_14_method_13_code, 2, (Option.some Jvm.ClassFile.FieldType.boolean), [])
def mX12_field : mY := (yX12_field, prog_14_method_14_code, 7, (Option.some Jvm.ClassFile.FieldType.boolean), [])
def mX12_noField : mY := (yX12_noField, prog_14_method_10_code, 1, (Option.some Jvm.ClassFile.FieldType.boolean), [])
def mX12_in : mY := (yX12_in, prog_14_method_3_code, 3, (Option.some Jvm.ClassFile.FieldType.boolean), [])
def mX12_throwsIf : mY := (yX12_throwsIf, prog_14_method_2_code, 3, (Option.some Jvm.ClassFile.FieldType.boolean), [])
def mX12_of : mY := (yX12_of, prog_14_method_9_code, 3, (Option.some Jvm.ClassFile.FieldType.int), [])
def mX12_rain : mY := (yX12_rain, prog_14_method_15_code, 4, (Option.none : Option Jvm.ClassFile.FieldType), [])
def mX12_fell : mY := (yX12_fell, prog_14_method_18_code, 2, (Option.some Jvm.ClassFile.FieldType.int), [])
def mX12_rainOf : mY := (yX12_rainOf, prog_14_method_17_code, 2, (Option.some Jvm.ClassFile.FieldType.int), [])
def mX12_rainTold : mY := (yX12_rainTold, prog_14_method_16_code, 2, (Option.some Jvm.ClassFile.FieldType.int), [])
def mX12_price : mY := (yX12_price, prog_14_method_19_code, 5, (Option.some Jvm.ClassFile.FieldType.int), [])
def mX12_season : mY := (yX12_season, prog_14_method_6_code, 1, (Option.some Jvm.ClassFile.FieldType.int), [])
def mX12_known : mY := (yX12_known, prog_14_method_21_code, 4, (Option.some Jvm.ClassFile.FieldType.int), [])
def mX12_knownOf : mY := (yX12_knownOf, prog_14_method_20_code, 6, (Option.some Jvm.ClassFile.FieldType.int), [])
def mX12_look : mY := (yX12_look, prog_14_method_24_code, 3, (Option.some Jvm.ClassFile.FieldType.int), [])
def mX12_worthOf : mY := (yX12_worthOf, prog_14_method_23_code, 3, (Option.some Jvm.ClassFile.FieldType.int), [])
def mX12_feed : mY := (yX12_feed, prog_14_method_25_code, 7, (Option.some Jvm.ClassFile.FieldType.int), [])
def mX12_end : mY := (yX12_end, prog_14_method_26_code, 2, (Option.some Jvm.ClassFile.FieldType.boolean), [])
def mX12_fault : mY := (yX12_fault, prog_14_method_35_code, 1, (Option.some Jvm.ClassFile.FieldType.int), [])
def mX12_words : mY := (yX12_words, prog_14_method_70_code, 4, (Option.some Jvm.ClassFile.FieldType.int), [])
def mX12_uses : mY := (yX12_uses, prog_14_method_54_code, 1, (Option.none : Option Jvm.ClassFile.FieldType), [])
def mX12_reads : mY := (yX12_reads, prog_14_method_55_code, 3, (Option.some Jvm.ClassFile.FieldType.int), [])
def mX12_readAll : mY := (yX12_readAll, prog_14_method_53_code, 3, (Option.some Jvm.ClassFile.FieldType.int), [])
def mX12_blanks : mY := (yX12_blanks, prog_14_method_28_code, 1, (Option.none : Option Jvm.ClassFile.FieldType), [])
def mX12_isAt : mY := (yX12_isAt, prog_14_method_27_code, 3, (Option.some Jvm.ClassFile.FieldType.boolean), [])
def mX12_readLine : mY := (yX12_readLine, prog_14_method_52_code, 5, (Option.some Jvm.ClassFile.FieldType.boolean), [])
def mX12_word : mY := (yX12_word, prog_14_method_29_code, 1, (Option.none : Option Jvm.ClassFile.FieldType), [])
def mX12_lineAt : mY := (yX12_lineAt, prog_14_method_37_code, 2, (Option.some Jvm.ClassFile.FieldType.int), [])
def mX12_textAt : mY := (yX12_textAt, prog_14_method_36_code, 1, (Option.some Jvm.ClassFile.FieldType.int), [])
def mX12_sortOf : mY := (yX12_sortOf, prog_14_method_47_code, 3, (Option.some Jvm.ClassFile.FieldType.int), [])
def mX12_isWord : mY := (yX12_isWord, prog_14_method_30_code, 4, (Option.some Jvm.ClassFile.FieldType.boolean), [])
def mX12_wordOf : mY := (yX12_wordOf, prog_14_method_48_code, 1, (Option.some Jvm.ClassFile.FieldType.int), [])
def mX12_readRest : mY := (yX12_readRest, prog_14_method_51_code, 3, (Option.some Jvm.ClassFile.FieldType.boolean), [])
def mX12_tells : mY := (yX12_tells, prog_14_method_49_code, 3, (Option.some Jvm.ClassFile.FieldType.boolean), [])
def mX12_number : mY := (yX12_number, prog_14_method_34_code, 3, (Option.some Jvm.ClassFile.FieldType.int), [])
def mX12_needs : mY := (yX12_needs, prog_14_method_32_code, 2, (Option.some Jvm.ClassFile.FieldType.boolean), [])
def mX12_readCrop : mY := (yX12_readCrop, prog_14_method_45_code, 1, (Option.some Jvm.ClassFile.FieldType.int), [])
def mX12_readThing : mY := (yX12_readThing, prog_14_method_46_code, 3, (Option.some Jvm.ClassFile.FieldType.int), [])
def mX12_readIf : mY := (yX12_readIf, prog_14_method_50_code, 3, (Option.some Jvm.ClassFile.FieldType.boolean), [])
def mX12_passes : mY := (yX12_passes, prog_14_method_31_code, 2, (Option.some Jvm.ClassFile.FieldType.boolean), [])
def mX12_readCond : mY := (yX12_readCond, prog_14_method_44_code, 1, (Option.some Jvm.ClassFile.FieldType.boolean), [])
def mX12_readAllOf : mY := (yX12_readAllOf, prog_14_method_43_code, 1, (Option.some Jvm.ClassFile.FieldType.boolean), [])
def mX12_readAtom : mY := (yX12_readAtom, prog_14_method_42_code, 2, (Option.some Jvm.ClassFile.FieldType.boolean), [])
def mX12_sign : mY := (yX12_sign, prog_14_method_33_code, 2, (Option.some Jvm.ClassFile.FieldType.boolean), [])
def mX12_adds : mY := (yX12_adds, prog_14_method_38_code, 4, (Option.none : Option Jvm.ClassFile.FieldType), [])
def mX12_readSum : mY := (yX12_readSum, prog_14_method_41_code, 1, (Option.some Jvm.ClassFile.FieldType.boolean), [])
def mX12_readPart : mY := (yX12_readPart, prog_14_method_40_code, 2, (Option.some Jvm.ClassFile.FieldType.boolean), [])
def mX12_fact : mY := (yX12_fact, prog_14_method_39_code, 1, (Option.some (Jvm.ClassFile.FieldType.object "java/lang/String")), [])
def mX12_copies : mY := (yX12_copies, prog_14_method_56_code, 3, (Option.none : Option Jvm.ClassFile.FieldType), [])
def mX12_may : mY := (yX12_may, prog_14_method_71_code, 3, (Option.some Jvm.ClassFile.FieldType.int), [])
def mX12_mostOf : mY := (yX12_mostOf, prog_14_method_65_code, 2, (Option.some Jvm.ClassFile.FieldType.int), [])
def mX12_lastLine : mY := (yX12_lastLine, prog_14_method_63_code, 6, (Option.some Jvm.ClassFile.FieldType.int), [])
def mX12_orders : mY := (yX12_orders, prog_14_method_60_code, 3, (Option.none : Option Jvm.ClassFile.FieldType), [])
def mX12_linesOf : mY := (yX12_linesOf, prog_14_method_57_code, 2, (Option.some Jvm.ClassFile.FieldType.int), [])
def mX12_isLine : mY := (yX12_isLine, prog_14_method_62_code, 4, (Option.some Jvm.ClassFile.FieldType.boolean), [])
def mX12_isStruck : mY := (yX12_isStruck, prog_14_method_61_code, 6, (Option.some Jvm.ClassFile.FieldType.boolean), [])
def mX12_numberOf : mY := (yX12_numberOf, prog_14_method_64_code, 2, (Option.some Jvm.ClassFile.FieldType.int), [])
def mX12_firstLine : mY := (yX12_firstLine, prog_14_method_67_code, 5, (Option.some Jvm.ClassFile.FieldType.int), [])
def mX12_looks : mY := (yX12_looks, prog_14_method_58_code, 4, (Option.none : Option Jvm.ClassFile.FieldType), [])
def mX12_year : mY := (yX12_year, prog_14_method_7_code, 1, (Option.some Jvm.ClassFile.FieldType.int), [])
def mX12_priceOf : mY := (yX12_priceOf, prog_14_method_22_code, 2, (Option.some Jvm.ClassFile.FieldType.int), [])
def mX12_its : mY := (yX12_its, prog_14_method_79_code, 3, (Option.some Jvm.ClassFile.FieldType.int), [])
def mX12_holdingAt : mY := (yX12_holdingAt, prog_14_method_78_code, 2, (Option.some Jvm.ClassFile.FieldType.int), [])
def mX12_holds : mY := (yX12_holds, prog_14_method_59_code, 11, (Option.some Jvm.ClassFile.FieldType.boolean), [])
def mX12_charges : mY := (yX12_charges, prog_14_method_68_code, 4, (Option.some Jvm.ClassFile.FieldType.int), [])
def mX12_partOf : mY := (yX12_partOf, prog_14_method_66_code, 2, (Option.some Jvm.ClassFile.FieldType.int), [])
def mX12_why : mY := (yX12_why, prog_14_method_72_code, 3, (Option.some Jvm.ClassFile.FieldType.int), [])
def mX12_wrong : mY := (yX12_wrong, prog_14_method_77_code, 3, (Option.some Jvm.ClassFile.FieldType.int), [])
def mX12_let : mY := (yX12_let, prog_14_method_87_code, 10, (Option.some Jvm.ClassFile.FieldType.int), [])
def mX12_areFree : mY := (yX12_areFree, prog_14_method_85_code, 5, (Option.some Jvm.ClassFile.FieldType.boolean), [])
def mX12_isIn : mY := (yX12_isIn, prog_14_method_84_code, 5, (Option.some Jvm.ClassFile.FieldType.boolean), [])
def mX12_begins : mY := (yX12_begins, prog_14_method_86_code, 6, (Option.some Jvm.ClassFile.FieldType.int), [])
def mX12_sets : mY := (yX12_sets, prog_14_method_80_code, 5, (Option.none : Option Jvm.ClassFile.FieldType), [])
def mX12_kept : mY := (yX12_kept, prog_14_method_4_code, 2, (Option.some Jvm.ClassFile.FieldType.int), [])
def mX12_errs : mY := (yX12_errs, prog_14_method_76_code, 4, (Option.none : Option Jvm.ClassFile.FieldType), [])
def mX12_keep : mY := (yX12_keep, prog_14_method_88_code, 8, (Option.some Jvm.ClassFile.FieldType.int), [])
def mX12_sow : mY := (yX12_sow, prog_14_method_90_code, 4, (Option.some Jvm.ClassFile.FieldType.boolean), [])
def mX12_kindOf : mY := (yX12_kindOf, prog_14_method_89_code, 2, (Option.some Jvm.ClassFile.FieldType.int), [])
def mX12_notice : mY := (yX12_notice, prog_14_method_91_code, 2, (Option.some Jvm.ClassFile.FieldType.boolean), [])
def mX12_noHolding : mY := (yX12_noHolding, prog_14_method_81_code, 2, (Option.some Jvm.ClassFile.FieldType.boolean), [])
def mX12_fieldsOf : mY := (yX12_fieldsOf, prog_14_method_83_code, 4, (Option.some Jvm.ClassFile.FieldType.int), [])
def mX12_give : mY := (yX12_give, prog_14_method_93_code, 2, (Option.some Jvm.ClassFile.FieldType.int), [])
def mX12_isLet : mY := (yX12_isLet, prog_14_method_82_code, 2, (Option.some Jvm.ClassFile.FieldType.boolean), [])
def mX12_leaves : mY := (yX12_leaves, prog_14_method_92_code, 4, (Option.some Jvm.ClassFile.FieldType.int), [])
def mX12_led : mY := (yX12_led, prog_14_method_94_code, 3, (Option.some Jvm.ClassFile.FieldType.int), [])
def mX12_rent : mY := (yX12_rent, prog_14_method_96_code, 2, (Option.some Jvm.ClassFile.FieldType.int), [])
def mX12_rentOf : mY := (yX12_rentOf, prog_14_method_95_code, 6, (Option.some Jvm.ClassFile.FieldType.int), [])
def mX12_owed : mY := (yX12_owed, prog_14_method_98_code, 2, (Option.some Jvm.ClassFile.FieldType.int), [])
def mX12_owedTo : mY := (yX12_owedTo, prog_14_method_97_code, 7, (Option.some Jvm.ClassFile.FieldType.int), [])
def mX12_arrears : mY := (yX12_arrears, prog_14_method_100_code, 5, (Option.some Jvm.ClassFile.FieldType.int), [])
def mX12_seasons : mY := (yX12_seasons, prog_14_method_113_code, 3, (Option.some Jvm.ClassFile.FieldType.int), [])
def mX12_spring : mY := (yX12_spring, prog_14_method_102_code, 7, (Option.none : Option Jvm.ClassFile.FieldType), [])
def mX12_isBarred : mY := (yX12_isBarred, prog_14_method_99_code, 7, (Option.some Jvm.ClassFile.FieldType.boolean), [])
def mX12_yieldOf : mY := (yX12_yieldOf, prog_14_method_101_code, 5, (Option.some Jvm.ClassFile.FieldType.int), [])
def mX12_summer : mY := (yX12_summer, prog_14_method_103_code, 9, (Option.none : Option Jvm.ClassFile.FieldType), [])
def mX12_income : mY := (yX12_income, prog_14_method_73_code, 3, (Option.none : Option Jvm.ClassFile.FieldType), [])
def mX12_writesRow : mY := (yX12_writesRow, prog_14_method_104_code, 2, (Option.none : Option Jvm.ClassFile.FieldType), [])
def mX12_autumn : mY := (yX12_autumn, prog_14_method_107_code, 2, (Option.none : Option Jvm.ClassFile.FieldType), [])
def mX12_paysRent : mY := (yX12_paysRent, prog_14_method_106_code, 7, (Option.none : Option Jvm.ClassFile.FieldType), [])
def mX12_rentLess : mY := (yX12_rentLess, prog_14_method_105_code, 6, (Option.some Jvm.ClassFile.FieldType.int), [])
def mX12_winter : mY := (yX12_winter, prog_14_method_112_code, 3, (Option.none : Option Jvm.ClassFile.FieldType), [])
def mX12_grows : mY := (yX12_grows, prog_14_method_109_code, 3, (Option.none : Option Jvm.ClassFile.FieldType), [])
def mX12_isNearWood : mY := (yX12_isNearWood, prog_14_method_108_code, 4, (Option.some Jvm.ClassFile.FieldType.boolean), [])
def mX12_beside : mY := (yX12_beside, prog_14_method_11_code, 2, (Option.some Jvm.ClassFile.FieldType.int), [])
def mX12_digs : mY := (yX12_digs, prog_14_method_110_code, 8, (Option.none : Option Jvm.ClassFile.FieldType), [])
def mX12_comes : mY := (yX12_comes, prog_14_method_75_code, 4, (Option.none : Option Jvm.ClassFile.FieldType), [])
def mX12_capital : mY := (yX12_capital, prog_14_method_74_code, 3, (Option.none : Option Jvm.ClassFile.FieldType), [])
def mX12_paysLoan : mY := (yX12_paysLoan, prog_14_method_117_code, 4, (Option.none : Option Jvm.ClassFile.FieldType), [])
def mX12_goesOut : mY := (yX12_goesOut, prog_14_method_111_code, 6, (Option.none : Option Jvm.ClassFile.FieldType), [])
def mX12_cut : mY := (yX12_cut, prog_14_method_114_code, 5, (Option.some Jvm.ClassFile.FieldType.int), [])
def mX12_loan : mY := (yX12_loan, prog_14_method_116_code, 7, (Option.some Jvm.ClassFile.FieldType.int), [])
def mX12_owedOnLoans : mY := (yX12_owedOnLoans, prog_14_method_115_code, 4, (Option.some Jvm.ClassFile.FieldType.int), [])
def mX12_owing : mY := (yX12_owing, prog_14_method_118_code, 2, (Option.some Jvm.ClassFile.FieldType.int), [])
def mX12_work : mY := (yX12_work, prog_14_method_119_code, 6, (Option.some Jvm.ClassFile.FieldType.boolean), [])
def mX12_sell : mY := (yX12_sell, prog_14_method_120_code, 5, (Option.some Jvm.ClassFile.FieldType.int), [])
def mX12_heir : mY := (yX12_heir, prog_14_method_121_code, 2, (Option.some Jvm.ClassFile.FieldType.int), [])
def mX12_job : mY := (yX12_job, prog_14_method_122_code, 5, (Option.some Jvm.ClassFile.FieldType.int), [])
def mX12_trouble : mY := (yX12_trouble, prog_14_method_123_code, 4, (Option.some Jvm.ClassFile.FieldType.int), [])
def mX12_worth : mY := (yX12_worth, prog_14_method_127_code, 4, (Option.some Jvm.ClassFile.FieldType.int), [])
def mX12_noPlan : mY := (yX12_noPlan, prog_14_method_126_code, 3, (Option.some Jvm.ClassFile.FieldType.boolean), [])
def mX12_worthOfSet : mY := (yX12_worthOfSet, prog_14_method_125_code, 6, (Option.some Jvm.ClassFile.FieldType.int), [])
def mX12_endsWith : mY := (yX12_endsWith, prog_14_method_124_code, 10, (Option.some Jvm.ClassFile.FieldType.int), [])
def mX12_best : mY := (yX12_best, prog_14_method_128_code, 7, (Option.some Jvm.ClassFile.FieldType.int), [])
def mX12_toSell : mY := (yX12_toSell, prog_14_method_131_code, 11, (Option.some Jvm.ClassFile.FieldType.int), [])
def mX12_parted : mY := (yX12_parted, prog_14_method_130_code, 8, (Option.some Jvm.ClassFile.FieldType.int), [])
def mX12_isOf : mY := (yX12_isOf, prog_14_method_129_code, 4, (Option.some Jvm.ClassFile.FieldType.boolean), [])
def mX12_row : mY := (yX12_row, prog_14_method_133_code, 3, (Option.some Jvm.ClassFile.FieldType.int), [])
def mX12_noRow : mY := (yX12_noRow, prog_14_method_132_code, 2, (Option.some Jvm.ClassFile.FieldType.boolean), [])
def mX12_tear : mY := (yX12_tear, prog_14_method_134_code, 4, (Option.some Jvm.ClassFile.FieldType.int), [])
def mX12_check : mY := (yX12_check, prog_14_method_135_code, 2, (Option.some Jvm.ClassFile.FieldType.int), [])
def mX12_count : mY := (yX12_count, prog_14_method_137_code, 4, (Option.some Jvm.ClassFile.FieldType.int), [])
def mX12_sumOf : mY := (yX12_sumOf, prog_14_method_136_code, 5, (Option.some Jvm.ClassFile.FieldType.int), [])
def mX12_linesInForce : mY := (yX12_linesInForce, prog_14_method_69_code, 4, (Option.some Jvm.ClassFile.FieldType.int), [])
def mL_field : mY := (yL_field, method_3_code, 9, (Option.some Jvm.ClassFile.FieldType.int), [((0 : Nat), (25 : Nat), (28 : Nat), (13 : Nat)), ((0 : Nat), (25 : Nat), (32 : Nat), (15 : Nat))])
def mL_rain : mY := (yL_rain, method_4_code, 5, (Option.some Jvm.ClassFile.FieldType.int), [((0 : Nat), (7 : Nat), (10 : Nat), (15 : Nat))])
def mL_fell : mY := (yL_fell, method_5_code, 4, (Option.some Jvm.ClassFile.FieldType.int), [((0 : Nat), (9 : Nat), (12 : Nat), (15 : Nat))])
def mL_price : mY := (yL_price, method_6_code, 6, (Option.some Jvm.ClassFile.FieldType.int), [((0 : Nat), (12 : Nat), (15 : Nat), (15 : Nat))])
def mL_known : mY := (yL_known, method_7_code, 6, (Option.some Jvm.ClassFile.FieldType.int), [((0 : Nat), (12 : Nat), (15 : Nat), (15 : Nat))])
def mL_let : mY := (yL_let, method_8_code, 8, (Option.some Jvm.ClassFile.FieldType.int), [((0 : Nat), (16 : Nat), (19 : Nat), (13 : Nat)), ((0 : Nat), (16 : Nat), (23 : Nat), (15 : Nat))])
def mL_keep : mY := (yL_keep, method_9_code, 8, (Option.some Jvm.ClassFile.FieldType.int), [((0 : Nat), (16 : Nat), (19 : Nat), (13 : Nat)), ((0 : Nat), (16 : Nat), (23 : Nat), (15 : Nat))])
def mL_sow : mY := (yL_sow, method_10_code, 5, (Option.some Jvm.ClassFile.FieldType.int), [((0 : Nat), (17 : Nat), (20 : Nat), (13 : Nat)), ((0 : Nat), (17 : Nat), (24 : Nat), (15 : Nat)), ((0 : Nat), (17 : Nat), (28 : Nat), (44 : Nat))])
def mL_notice : mY := (yL_notice, method_11_code, 4, (Option.some Jvm.ClassFile.FieldType.int), [((0 : Nat), (16 : Nat), (19 : Nat), (13 : Nat)), ((0 : Nat), (16 : Nat), (22 : Nat), (44 : Nat))])
def mL_give : mY := (yL_give, method_12_code, 4, (Option.some Jvm.ClassFile.FieldType.int), [((0 : Nat), (9 : Nat), (12 : Nat), (13 : Nat)), ((0 : Nat), (9 : Nat), (15 : Nat), (44 : Nat))])
def mL_seasons : mY := (yL_seasons, method_13_code, 4, (Option.some Jvm.ClassFile.FieldType.int), [((0 : Nat), (9 : Nat), (12 : Nat), (15 : Nat))])
def mL_look : mY := (yL_look, method_14_code, 5, (Option.some Jvm.ClassFile.FieldType.int), [((0 : Nat), (10 : Nat), (13 : Nat), (13 : Nat)), ((0 : Nat), (10 : Nat), (17 : Nat), (60 : Nat))])
def mL_led : mY := (yL_led, method_15_code, 5, (Option.some Jvm.ClassFile.FieldType.int), [((0 : Nat), (10 : Nat), (13 : Nat), (13 : Nat)), ((0 : Nat), (10 : Nat), (17 : Nat), (60 : Nat))])
def mL_owed : mY := (yL_owed, method_16_code, 4, (Option.some Jvm.ClassFile.FieldType.int), [((0 : Nat), (9 : Nat), (12 : Nat), (13 : Nat)), ((0 : Nat), (9 : Nat), (15 : Nat), (44 : Nat))])
def mL_rent : mY := (yL_rent, method_17_code, 4, (Option.some Jvm.ClassFile.FieldType.int), [((0 : Nat), (9 : Nat), (12 : Nat), (13 : Nat)), ((0 : Nat), (9 : Nat), (15 : Nat), (44 : Nat))])
def mL_words : mY := (yL_words, method_18_code, 4, (Option.some Jvm.ClassFile.FieldType.int), [((0 : Nat), (9 : Nat), (12 : Nat), (15 : Nat)), ((0 : Nat), (9 : Nat), (15 : Nat), (74 : Nat))])
def mL_may : mY := (yL_may, method_19_code, 5, (Option.some Jvm.ClassFile.FieldType.int), [((0 : Nat), (10 : Nat), (13 : Nat), (13 : Nat)), ((0 : Nat), (10 : Nat), (17 : Nat), (60 : Nat))])
def mL_why : mY := (yL_why, method_20_code, 5, (Option.some Jvm.ClassFile.FieldType.int), [((0 : Nat), (10 : Nat), (13 : Nat), (13 : Nat)), ((0 : Nat), (10 : Nat), (17 : Nat), (60 : Nat))])
def mL_cut : mY := (yL_cut, method_21_code, 5, (Option.some Jvm.ClassFile.FieldType.int), [((0 : Nat), (10 : Nat), (13 : Nat), (13 : Nat)), ((0 : Nat), (10 : Nat), (17 : Nat), (44 : Nat))])
def mL_loan : mY := (yL_loan, method_22_code, 7, (Option.some Jvm.ClassFile.FieldType.int), [((0 : Nat), (14 : Nat), (17 : Nat), (15 : Nat)), ((0 : Nat), (14 : Nat), (21 : Nat), (74 : Nat))])
def mL_owing : mY := (yL_owing, method_23_code, 4, (Option.some Jvm.ClassFile.FieldType.int), [((0 : Nat), (9 : Nat), (12 : Nat), (13 : Nat))])
def mL_work : mY := (yL_work, method_24_code, 5, (Option.some Jvm.ClassFile.FieldType.int), [((0 : Nat), (17 : Nat), (20 : Nat), (13 : Nat))])
def mL_sell : mY := (yL_sell, method_25_code, 5, (Option.some Jvm.ClassFile.FieldType.int), [((0 : Nat), (10 : Nat), (13 : Nat), (13 : Nat))])
def mL_wrong : mY := (yL_wrong, method_26_code, 5, (Option.some Jvm.ClassFile.FieldType.int), [((0 : Nat), (10 : Nat), (13 : Nat), (60 : Nat))])
def mL_job : mY := (yL_job, method_27_code, 6, (Option.some Jvm.ClassFile.FieldType.int), [((0 : Nat), (12 : Nat), (15 : Nat), (15 : Nat))])
def mL_trouble : mY := (yL_trouble, method_28_code, 5, (Option.some Jvm.ClassFile.FieldType.int), [((0 : Nat), (10 : Nat), (13 : Nat), (15 : Nat))])
def mL_worth : mY := (yL_worth, method_29_code, 6, (Option.some Jvm.ClassFile.FieldType.int), [((0 : Nat), (12 : Nat), (15 : Nat), (15 : Nat))])
def mL_best : mY := (yL_best, method_30_code, 5, (Option.some Jvm.ClassFile.FieldType.int), [((0 : Nat), (10 : Nat), (13 : Nat), (15 : Nat))])
def mL_toSell : mY := (yL_toSell, method_31_code, 6, (Option.some Jvm.ClassFile.FieldType.int), [((0 : Nat), (12 : Nat), (15 : Nat), (13 : Nat)), ((0 : Nat), (12 : Nat), (19 : Nat), (15 : Nat))])
def mL_row : mY := (yL_row, method_32_code, 5, (Option.some Jvm.ClassFile.FieldType.int), [((0 : Nat), (10 : Nat), (13 : Nat), (13 : Nat)), ((0 : Nat), (10 : Nat), (17 : Nat), (60 : Nat))])
def mL_tear : mY := (yL_tear, method_33_code, 6, (Option.some Jvm.ClassFile.FieldType.int), [((0 : Nat), (12 : Nat), (15 : Nat), (13 : Nat)), ((0 : Nat), (12 : Nat), (19 : Nat), (60 : Nat))])
theorem tw_0 : Cond.selects "GreatEstate$Holdings" yX1_rankOf yX1_rankOf ∈ TBg := tw_of (i := 0) (by decide +kernel) (by decide +kernel)
theorem tw_1 : Cond.selects "GreatEstate$Words" yX9_inForce yX9_inForce ∈ TBg := tw_of (i := 1) (by decide +kernel) (by decide +kernel)
theorem tw_2 : Cond.selects "GreatEstate$Words" yX9_lastStrike yX9_lastStrike ∈ TBg := tw_of (i := 2) (by decide +kernel) (by decide +kernel)
theorem tw_3 : Cond.selects "GreatEstate$Words" yX9_textAt yX9_textAt ∈ TBg := tw_of (i := 3) (by decide +kernel) (by decide +kernel)
theorem tw_5 : Cond.selects "GreatEstate$Market" yX4_toldRain yX4_toldRain ∈ TBg := tw_of (i := 5) (by decide +kernel) (by decide +kernel)
theorem tw_6 : Cond.selects "GreatEstate$Reader" yX6_next yX6_next ∈ TBg := tw_of (i := 6) (by decide +kernel) (by decide +kernel)
theorem tw_7 : Cond.selects "GreatEstate$Reader" yX6_wordFrom yX6_wordFrom ∈ TBg := tw_of (i := 7) (by decide +kernel) (by decide +kernel)
theorem tw_8 : Cond.selects "GreatEstate$Reader" yX6_takeLines yX6_takeLines ∈ TBg := tw_of (i := 8) (by decide +kernel) (by decide +kernel)
theorem tw_9 : Cond.selects "GreatEstate$Reader" yX6_takeVerb yX6_takeVerb ∈ TBg := tw_of (i := 9) (by decide +kernel) (by decide +kernel)
theorem tw_10 : Cond.selects "GreatEstate$Reader" yX6_write yX6_write ∈ TBg := tw_of (i := 10) (by decide +kernel) (by decide +kernel)
theorem tw_11 : Cond.selects "GreatEstate$Reader" yX6_takeRestOfLease yX6_takeRestOfLease ∈ TBg := tw_of (i := 11) (by decide +kernel) (by decide +kernel)
theorem tw_12 : Cond.selects "GreatEstate$Reader" yX6_takeNumber yX6_takeNumber ∈ TBg := tw_of (i := 12) (by decide +kernel) (by decide +kernel)
theorem tw_13 : Cond.selects "GreatEstate$Reader" yX6_takeWord yX6_takeWord ∈ TBg := tw_of (i := 13) (by decide +kernel) (by decide +kernel)
theorem tw_14 : Cond.selects "GreatEstate$Reader" yX6_isWord yX6_isWord ∈ TBg := tw_of (i := 14) (by decide +kernel) (by decide +kernel)
theorem tw_15 : Cond.selects "GreatEstate$Reader" yX6_takeCrop yX6_takeCrop ∈ TBg := tw_of (i := 15) (by decide +kernel) (by decide +kernel)
theorem tw_16 : Cond.selects "GreatEstate$Reader" yX6_takeOneOf yX6_takeOneOf ∈ TBg := tw_of (i := 16) (by decide +kernel) (by decide +kernel)
theorem tw_17 : Cond.selects "GreatEstate$Reader" yX6_takeIf yX6_takeIf ∈ TBg := tw_of (i := 17) (by decide +kernel) (by decide +kernel)
theorem tw_18 : Cond.selects "GreatEstate$Reader" yX6_takeCondition yX6_takeCondition ∈ TBg := tw_of (i := 18) (by decide +kernel) (by decide +kernel)
theorem tw_19 : Cond.selects "GreatEstate$Reader" yX6_takeAll yX6_takeAll ∈ TBg := tw_of (i := 19) (by decide +kernel) (by decide +kernel)
theorem tw_20 : Cond.selects "GreatEstate$Reader" yX6_takeAtom yX6_takeAtom ∈ TBg := tw_of (i := 20) (by decide +kernel) (by decide +kernel)
theorem tw_21 : Cond.selects "GreatEstate$Reader" yX6_isSign yX6_isSign ∈ TBg := tw_of (i := 21) (by decide +kernel) (by decide +kernel)
theorem tw_22 : Cond.selects "GreatEstate$Reader" yX6_takeSign yX6_takeSign ∈ TBg := tw_of (i := 22) (by decide +kernel) (by decide +kernel)
theorem tw_23 : Cond.selects "GreatEstate$Reader" yX6_emit yX6_emit ∈ TBg := tw_of (i := 23) (by decide +kernel) (by decide +kernel)
theorem tw_24 : Cond.selects "GreatEstate$Reader" yX6_takeSum yX6_takeSum ∈ TBg := tw_of (i := 24) (by decide +kernel) (by decide +kernel)
theorem tw_25 : Cond.selects "GreatEstate$Reader" yX6_takeRestOfAct yX6_takeRestOfAct ∈ TBg := tw_of (i := 25) (by decide +kernel) (by decide +kernel)
theorem tw_26 : Cond.selects "GreatEstate$Estate" yX0_openOn yX0_openOn ∈ TBg := tw_of (i := 26) (by decide +kernel) (by decide +kernel)
theorem tw_27 : Cond.selects "GreatEstate" yX11_needHolding yX11_needHolding ∈ TBg := tw_of (i := 27) (by decide +kernel) (by decide +kernel)
theorem tw_28 : Cond.selects "GreatEstate$Year" yX10_spring yX10_spring ∈ TBg := tw_of (i := 28) (by decide +kernel) (by decide +kernel)
theorem tw_29 : Cond.selects "GreatEstate$Year" yX10_chosenCrop yX10_chosenCrop ∈ TBg := tw_of (i := 29) (by decide +kernel) (by decide +kernel)
theorem tw_30 : Cond.selects "GreatEstate$Year" yX10_summer yX10_summer ∈ TBg := tw_of (i := 30) (by decide +kernel) (by decide +kernel)
theorem tw_31 : Cond.selects "GreatEstate$Year" yX10_sellHarvest yX10_sellHarvest ∈ TBg := tw_of (i := 31) (by decide +kernel) (by decide +kernel)
theorem tw_32 : Cond.selects "GreatEstate$Year" yX10_autumn yX10_autumn ∈ TBg := tw_of (i := 32) (by decide +kernel) (by decide +kernel)
theorem tw_33 : Cond.selects "GreatEstate$Year" yX10_takeRent yX10_takeRent ∈ TBg := tw_of (i := 33) (by decide +kernel) (by decide +kernel)
theorem tw_34 : Cond.selects "GreatEstate$Estate" yX0_learnFacts yX0_learnFacts ∈ TBg := tw_of (i := 34) (by decide +kernel) (by decide +kernel)
theorem tw_35 : Cond.selects "GreatEstate$Year" yX10_harmOfGame yX10_harmOfGame ∈ TBg := tw_of (i := 35) (by decide +kernel) (by decide +kernel)
theorem tw_36 : Cond.selects "GreatEstate$Year" yX10_hundredthsPut yX10_hundredthsPut ∈ TBg := tw_of (i := 36) (by decide +kernel) (by decide +kernel)
theorem tw_37 : Cond.selects "GreatEstate$Year" yX10_receive yX10_receive ∈ TBg := tw_of (i := 37) (by decide +kernel) (by decide +kernel)
theorem tw_38 : Cond.selects "GreatEstate$Year" yX10_breedGame yX10_breedGame ∈ TBg := tw_of (i := 38) (by decide +kernel) (by decide +kernel)
theorem tw_39 : Cond.selects "GreatEstate$Year" yX10_isBesideWood yX10_isBesideWood ∈ TBg := tw_of (i := 39) (by decide +kernel) (by decide +kernel)
theorem tw_40 : Cond.selects "GreatEstate$Year" yX10_growOlder yX10_growOlder ∈ TBg := tw_of (i := 40) (by decide +kernel) (by decide +kernel)
theorem tw_41 : Cond.selects "GreatEstate$Year" yX10_digMines yX10_digMines ∈ TBg := tw_of (i := 41) (by decide +kernel) (by decide +kernel)
theorem tw_42 : Cond.selects "GreatEstate$Year" yX10_dig yX10_dig ∈ TBg := tw_of (i := 42) (by decide +kernel) (by decide +kernel)
theorem tw_43 : Cond.selects "GreatEstate$Year" yX10_sink yX10_sink ∈ TBg := tw_of (i := 43) (by decide +kernel) (by decide +kernel)
theorem tw_44 : Cond.selects "GreatEstate$Estate" yX0_learnFactsOfEstate yX0_learnFactsOfEstate ∈ TBg := tw_of (i := 44) (by decide +kernel) (by decide +kernel)
theorem tw_45 : Cond.selects "GreatEstate$Year" yX10_endLeases yX10_endLeases ∈ TBg := tw_of (i := 45) (by decide +kernel) (by decide +kernel)
theorem tw_46 : Cond.selects "GreatEstate$Year" yX10_isAtItsEnd yX10_isAtItsEnd ∈ TBg := tw_of (i := 46) (by decide +kernel) (by decide +kernel)
theorem tw_47 : Cond.selects "GreatEstate$Year" yX10_goOut yX10_goOut ∈ TBg := tw_of (i := 47) (by decide +kernel) (by decide +kernel)
theorem tw_48 : Cond.selects "GreatEstate$Estate" yX0_learnFactsOfField yX0_learnFactsOfField ∈ TBg := tw_of (i := 48) (by decide +kernel) (by decide +kernel)
theorem tw_49 : Cond.selects "GreatEstate$Estate" yX0_leftOn yX0_leftOn ∈ TBg := tw_of (i := 49) (by decide +kernel) (by decide +kernel)
theorem tw_50 : Cond.selects "GreatEstate$Plan" yX5_endOf yX5_endOf ∈ TBg := tw_of (i := 50) (by decide +kernel) (by decide +kernel)
theorem tw_51 : Cond.selects "GreatEstate$Plan" yX5_jobsIn yX5_jobsIn ∈ TBg := tw_of (i := 51) (by decide +kernel) (by decide +kernel)
theorem tw_52 : Cond.selects "GreatEstate$Estate" yX0_worthTogether yX0_worthTogether ∈ TBg := tw_of (i := 52) (by decide +kernel) (by decide +kernel)
theorem tw_53 : Cond.selects "GreatEstate$Estate" yX0_partedPairs yX0_partedPairs ∈ TBg := tw_of (i := 53) (by decide +kernel) (by decide +kernel)
theorem tw_54 : Cond.selects "GreatEstateModel" yX12_throwsIf yX12_throwsIf ∈ TBg := tw_of (i := 54) (by decide +kernel) (by decide +kernel)
theorem tw_55 : Cond.selects "GreatEstateModel" yX12_of yX12_of ∈ TBg := tw_of (i := 55) (by decide +kernel) (by decide +kernel)
theorem tw_56 : Cond.selects "GreatEstateModel" yX12_rainOf yX12_rainOf ∈ TBg := tw_of (i := 56) (by decide +kernel) (by decide +kernel)
theorem tw_57 : Cond.selects "GreatEstateModel" yX12_rainTold yX12_rainTold ∈ TBg := tw_of (i := 57) (by decide +kernel) (by decide +kernel)
theorem tw_58 : Cond.selects "GreatEstateModel" yX12_season yX12_season ∈ TBg := tw_of (i := 58) (by decide +kernel) (by decide +kernel)
theorem tw_59 : Cond.selects "GreatEstateModel" yX12_knownOf yX12_knownOf ∈ TBg := tw_of (i := 59) (by decide +kernel) (by decide +kernel)
theorem tw_60 : Cond.selects "GreatEstateModel" yX12_worthOf yX12_worthOf ∈ TBg := tw_of (i := 60) (by decide +kernel) (by decide +kernel)
theorem tw_61 : Cond.selects "GreatEstateModel" yX12_uses yX12_uses ∈ TBg := tw_of (i := 61) (by decide +kernel) (by decide +kernel)
theorem tw_62 : Cond.selects "GreatEstateModel" yX12_reads yX12_reads ∈ TBg := tw_of (i := 62) (by decide +kernel) (by decide +kernel)
theorem tw_63 : Cond.selects "GreatEstateModel" yX12_readAll yX12_readAll ∈ TBg := tw_of (i := 63) (by decide +kernel) (by decide +kernel)
theorem tw_64 : Cond.selects "GreatEstateModel" yX12_blanks yX12_blanks ∈ TBg := tw_of (i := 64) (by decide +kernel) (by decide +kernel)
theorem tw_65 : Cond.selects "GreatEstateModel" yX12_isAt yX12_isAt ∈ TBg := tw_of (i := 65) (by decide +kernel) (by decide +kernel)
theorem tw_66 : Cond.selects "GreatEstateModel" yX12_readLine yX12_readLine ∈ TBg := tw_of (i := 66) (by decide +kernel) (by decide +kernel)
theorem tw_67 : Cond.selects "GreatEstateModel" yX12_word yX12_word ∈ TBg := tw_of (i := 67) (by decide +kernel) (by decide +kernel)
theorem tw_68 : Cond.selects "GreatEstateModel" yX12_sortOf yX12_sortOf ∈ TBg := tw_of (i := 68) (by decide +kernel) (by decide +kernel)
theorem tw_69 : Cond.selects "GreatEstateModel" yX12_isWord yX12_isWord ∈ TBg := tw_of (i := 69) (by decide +kernel) (by decide +kernel)
theorem tw_70 : Cond.selects "GreatEstateModel" yX12_wordOf yX12_wordOf ∈ TBg := tw_of (i := 70) (by decide +kernel) (by decide +kernel)
theorem tw_71 : Cond.selects "GreatEstateModel" yX12_readRest yX12_readRest ∈ TBg := tw_of (i := 71) (by decide +kernel) (by decide +kernel)
theorem tw_72 : Cond.selects "GreatEstateModel" yX12_tells yX12_tells ∈ TBg := tw_of (i := 72) (by decide +kernel) (by decide +kernel)
theorem tw_73 : Cond.selects "GreatEstateModel" yX12_number yX12_number ∈ TBg := tw_of (i := 73) (by decide +kernel) (by decide +kernel)
theorem tw_74 : Cond.selects "GreatEstateModel" yX12_needs yX12_needs ∈ TBg := tw_of (i := 74) (by decide +kernel) (by decide +kernel)
theorem tw_75 : Cond.selects "GreatEstateModel" yX12_readCrop yX12_readCrop ∈ TBg := tw_of (i := 75) (by decide +kernel) (by decide +kernel)
theorem tw_76 : Cond.selects "GreatEstateModel" yX12_readThing yX12_readThing ∈ TBg := tw_of (i := 76) (by decide +kernel) (by decide +kernel)
theorem tw_77 : Cond.selects "GreatEstateModel" yX12_readIf yX12_readIf ∈ TBg := tw_of (i := 77) (by decide +kernel) (by decide +kernel)
theorem tw_78 : Cond.selects "GreatEstateModel" yX12_passes yX12_passes ∈ TBg := tw_of (i := 78) (by decide +kernel) (by decide +kernel)
theorem tw_79 : Cond.selects "GreatEstateModel" yX12_readCond yX12_readCond ∈ TBg := tw_of (i := 79) (by decide +kernel) (by decide +kernel)
theorem tw_80 : Cond.selects "GreatEstateModel" yX12_readAllOf yX12_readAllOf ∈ TBg := tw_of (i := 80) (by decide +kernel) (by decide +kernel)
theorem tw_81 : Cond.selects "GreatEstateModel" yX12_readAtom yX12_readAtom ∈ TBg := tw_of (i := 81) (by decide +kernel) (by decide +kernel)
theorem tw_82 : Cond.selects "GreatEstateModel" yX12_sign yX12_sign ∈ TBg := tw_of (i := 82) (by decide +kernel) (by decide +kernel)
theorem tw_83 : Cond.selects "GreatEstateModel" yX12_adds yX12_adds ∈ TBg := tw_of (i := 83) (by decide +kernel) (by decide +kernel)
theorem tw_84 : Cond.selects "GreatEstateModel" yX12_readSum yX12_readSum ∈ TBg := tw_of (i := 84) (by decide +kernel) (by decide +kernel)
theorem tw_85 : Cond.selects "GreatEstateModel" yX12_readPart yX12_readPart ∈ TBg := tw_of (i := 85) (by decide +kernel) (by decide +kernel)
theorem tw_86 : Cond.selects "GreatEstateModel" yX12_copies yX12_copies ∈ TBg := tw_of (i := 86) (by decide +kernel) (by decide +kernel)
theorem tw_87 : Cond.selects "GreatEstateModel" yX12_mostOf yX12_mostOf ∈ TBg := tw_of (i := 87) (by decide +kernel) (by decide +kernel)
theorem tw_88 : Cond.selects "GreatEstateModel" yX12_lastLine yX12_lastLine ∈ TBg := tw_of (i := 88) (by decide +kernel) (by decide +kernel)
theorem tw_89 : Cond.selects "GreatEstateModel" yX12_orders yX12_orders ∈ TBg := tw_of (i := 89) (by decide +kernel) (by decide +kernel)
theorem tw_90 : Cond.selects "GreatEstateModel" yX12_linesOf yX12_linesOf ∈ TBg := tw_of (i := 90) (by decide +kernel) (by decide +kernel)
theorem tw_91 : Cond.selects "GreatEstateModel" yX12_isLine yX12_isLine ∈ TBg := tw_of (i := 91) (by decide +kernel) (by decide +kernel)
theorem tw_92 : Cond.selects "GreatEstateModel" yX12_isStruck yX12_isStruck ∈ TBg := tw_of (i := 92) (by decide +kernel) (by decide +kernel)
theorem tw_93 : Cond.selects "GreatEstateModel" yX12_numberOf yX12_numberOf ∈ TBg := tw_of (i := 93) (by decide +kernel) (by decide +kernel)
theorem tw_94 : Cond.selects "GreatEstateModel" yX12_firstLine yX12_firstLine ∈ TBg := tw_of (i := 94) (by decide +kernel) (by decide +kernel)
theorem tw_95 : Cond.selects "GreatEstateModel" yX12_looks yX12_looks ∈ TBg := tw_of (i := 95) (by decide +kernel) (by decide +kernel)
theorem tw_96 : Cond.selects "GreatEstateModel" yX12_year yX12_year ∈ TBg := tw_of (i := 96) (by decide +kernel) (by decide +kernel)
theorem tw_97 : Cond.selects "GreatEstateModel" yX12_priceOf yX12_priceOf ∈ TBg := tw_of (i := 97) (by decide +kernel) (by decide +kernel)
theorem tw_98 : Cond.selects "GreatEstateModel" yX12_its yX12_its ∈ TBg := tw_of (i := 98) (by decide +kernel) (by decide +kernel)
theorem tw_99 : Cond.selects "GreatEstateModel" yX12_holds yX12_holds ∈ TBg := tw_of (i := 99) (by decide +kernel) (by decide +kernel)
theorem tw_100 : Cond.selects "GreatEstateModel" yX12_charges yX12_charges ∈ TBg := tw_of (i := 100) (by decide +kernel) (by decide +kernel)
theorem tw_101 : Cond.selects "GreatEstateModel" yX12_partOf yX12_partOf ∈ TBg := tw_of (i := 101) (by decide +kernel) (by decide +kernel)
theorem tw_102 : Cond.selects "GreatEstateModel" yX12_areFree yX12_areFree ∈ TBg := tw_of (i := 102) (by decide +kernel) (by decide +kernel)
theorem tw_103 : Cond.selects "GreatEstateModel" yX12_begins yX12_begins ∈ TBg := tw_of (i := 103) (by decide +kernel) (by decide +kernel)
theorem tw_104 : Cond.selects "GreatEstateModel" yX12_sets yX12_sets ∈ TBg := tw_of (i := 104) (by decide +kernel) (by decide +kernel)
theorem tw_105 : Cond.selects "GreatEstateModel" yX12_errs yX12_errs ∈ TBg := tw_of (i := 105) (by decide +kernel) (by decide +kernel)
theorem tw_106 : Cond.selects "GreatEstateModel" yX12_kindOf yX12_kindOf ∈ TBg := tw_of (i := 106) (by decide +kernel) (by decide +kernel)
theorem tw_107 : Cond.selects "GreatEstateModel" yX12_noHolding yX12_noHolding ∈ TBg := tw_of (i := 107) (by decide +kernel) (by decide +kernel)
theorem tw_108 : Cond.selects "GreatEstateModel" yX12_fieldsOf yX12_fieldsOf ∈ TBg := tw_of (i := 108) (by decide +kernel) (by decide +kernel)
theorem tw_109 : Cond.selects "GreatEstateModel" yX12_isLet yX12_isLet ∈ TBg := tw_of (i := 109) (by decide +kernel) (by decide +kernel)
theorem tw_110 : Cond.selects "GreatEstateModel" yX12_leaves yX12_leaves ∈ TBg := tw_of (i := 110) (by decide +kernel) (by decide +kernel)
theorem tw_111 : Cond.selects "GreatEstateModel" yX12_rentOf yX12_rentOf ∈ TBg := tw_of (i := 111) (by decide +kernel) (by decide +kernel)
theorem tw_112 : Cond.selects "GreatEstateModel" yX12_owedTo yX12_owedTo ∈ TBg := tw_of (i := 112) (by decide +kernel) (by decide +kernel)
theorem tw_113 : Cond.selects "GreatEstateModel" yX12_spring yX12_spring ∈ TBg := tw_of (i := 113) (by decide +kernel) (by decide +kernel)
theorem tw_114 : Cond.selects "GreatEstateModel" yX12_isBarred yX12_isBarred ∈ TBg := tw_of (i := 114) (by decide +kernel) (by decide +kernel)
theorem tw_115 : Cond.selects "GreatEstateModel" yX12_yieldOf yX12_yieldOf ∈ TBg := tw_of (i := 115) (by decide +kernel) (by decide +kernel)
theorem tw_116 : Cond.selects "GreatEstateModel" yX12_summer yX12_summer ∈ TBg := tw_of (i := 116) (by decide +kernel) (by decide +kernel)
theorem tw_117 : Cond.selects "GreatEstateModel" yX12_income yX12_income ∈ TBg := tw_of (i := 117) (by decide +kernel) (by decide +kernel)
theorem tw_118 : Cond.selects "GreatEstateModel" yX12_writesRow yX12_writesRow ∈ TBg := tw_of (i := 118) (by decide +kernel) (by decide +kernel)
theorem tw_119 : Cond.selects "GreatEstateModel" yX12_autumn yX12_autumn ∈ TBg := tw_of (i := 119) (by decide +kernel) (by decide +kernel)
theorem tw_120 : Cond.selects "GreatEstateModel" yX12_paysRent yX12_paysRent ∈ TBg := tw_of (i := 120) (by decide +kernel) (by decide +kernel)
theorem tw_121 : Cond.selects "GreatEstateModel" yX12_rentLess yX12_rentLess ∈ TBg := tw_of (i := 121) (by decide +kernel) (by decide +kernel)
theorem tw_122 : Cond.selects "GreatEstateModel" yX12_winter yX12_winter ∈ TBg := tw_of (i := 122) (by decide +kernel) (by decide +kernel)
theorem tw_123 : Cond.selects "GreatEstateModel" yX12_grows yX12_grows ∈ TBg := tw_of (i := 123) (by decide +kernel) (by decide +kernel)
theorem tw_124 : Cond.selects "GreatEstateModel" yX12_isNearWood yX12_isNearWood ∈ TBg := tw_of (i := 124) (by decide +kernel) (by decide +kernel)
theorem tw_125 : Cond.selects "GreatEstateModel" yX12_digs yX12_digs ∈ TBg := tw_of (i := 125) (by decide +kernel) (by decide +kernel)
theorem tw_126 : Cond.selects "GreatEstateModel" yX12_comes yX12_comes ∈ TBg := tw_of (i := 126) (by decide +kernel) (by decide +kernel)
theorem tw_127 : Cond.selects "GreatEstateModel" yX12_capital yX12_capital ∈ TBg := tw_of (i := 127) (by decide +kernel) (by decide +kernel)
theorem tw_128 : Cond.selects "GreatEstateModel" yX12_paysLoan yX12_paysLoan ∈ TBg := tw_of (i := 128) (by decide +kernel) (by decide +kernel)
theorem tw_129 : Cond.selects "GreatEstateModel" yX12_goesOut yX12_goesOut ∈ TBg := tw_of (i := 129) (by decide +kernel) (by decide +kernel)
theorem tw_130 : Cond.selects "GreatEstateModel" yX12_owedOnLoans yX12_owedOnLoans ∈ TBg := tw_of (i := 130) (by decide +kernel) (by decide +kernel)
theorem tw_131 : Cond.selects "GreatEstateModel" yX12_noPlan yX12_noPlan ∈ TBg := tw_of (i := 131) (by decide +kernel) (by decide +kernel)
theorem tw_132 : Cond.selects "GreatEstateModel" yX12_worthOfSet yX12_worthOfSet ∈ TBg := tw_of (i := 132) (by decide +kernel) (by decide +kernel)
theorem tw_133 : Cond.selects "GreatEstateModel" yX12_endsWith yX12_endsWith ∈ TBg := tw_of (i := 133) (by decide +kernel) (by decide +kernel)
theorem tw_134 : Cond.selects "GreatEstateModel" yX12_parted yX12_parted ∈ TBg := tw_of (i := 134) (by decide +kernel) (by decide +kernel)
theorem tw_135 : Cond.selects "GreatEstateModel" yX12_noRow yX12_noRow ∈ TBg := tw_of (i := 135) (by decide +kernel) (by decide +kernel)
theorem tw_136 : Cond.selects "GreatEstateModel" yX12_sumOf yX12_sumOf ∈ TBg := tw_of (i := 136) (by decide +kernel) (by decide +kernel)
theorem tw_137 : Cond.selects "GreatEstateModel" yX12_linesInForce yX12_linesInForce ∈ TBg := tw_of (i := 137) (by decide +kernel) (by decide +kernel)
set_option maxRecDepth 100000 in
theorem tw_138 : Cond.initialized "GreatEstateLaw" ∈ TBg := tw_in tk_1 (i := 0) rfl rfl
set_option maxRecDepth 100000 in
theorem tw_139 : Cond.initialized "GreatEstate" ∈ TBg := tw_in tk_1 (i := 1) rfl rfl
set_option maxRecDepth 100000 in
theorem tw_140 : Cond.initialized "GreatEstate$Reader" ∈ TBg := tw_in tk_1 (i := 2) rfl rfl
set_option maxRecDepth 100000 in
theorem tw_141 : Cond.initialized "GreatEstate$Estate" ∈ TBg := tw_in tk_1 (i := 3) rfl rfl
set_option maxRecDepth 100000 in
theorem tw_142 : Cond.initialized "GreatEstate$Words" ∈ TBg := tw_in tk_1 (i := 4) rfl rfl
set_option maxRecDepth 100000 in
theorem tw_143 : Cond.initialized "GreatEstate$Land" ∈ TBg := tw_in tk_1 (i := 5) rfl rfl
set_option maxRecDepth 100000 in
theorem tw_144 : Cond.initialized "GreatEstate$Holdings" ∈ TBg := tw_in tk_1 (i := 6) rfl rfl
set_option maxRecDepth 100000 in
theorem tw_145 : Cond.initialized "GreatEstate$Text" ∈ TBg := tw_in tk_1 (i := 7) rfl rfl
set_option maxRecDepth 100000 in
theorem tw_146 : Cond.initialized "GreatEstate$Market" ∈ TBg := tw_in tk_1 (i := 8) rfl rfl
set_option maxRecDepth 100000 in
theorem tw_147 : Cond.initialized "GreatEstate$Ledger" ∈ TBg := tw_in tk_1 (i := 9) rfl rfl
set_option maxRecDepth 100000 in
theorem tw_148 : Cond.initialized "GreatEstate$Plan" ∈ TBg := tw_in tk_1 (i := 10) rfl rfl
set_option maxRecDepth 100000 in
theorem tw_149 : Cond.initialized "GreatEstate$Rows" ∈ TBg := tw_in tk_1 (i := 11) rfl rfl
set_option maxRecDepth 100000 in
theorem tw_150 : Cond.initialized "GreatEstate$Year" ∈ TBg := tw_in tk_1 (i := 12) rfl rfl
set_option maxRecDepth 100000 in
theorem tw_151 : Cond.initialized "GreatEstateModel" ∈ TBg := tw_in tk_1 (i := 13) rfl rfl
set_option maxRecDepth 100000 in
theorem tw_157 : Cond.initialized "java/lang/String" ∈ TBg := tw_in tk_1 (i := 19) rfl rfl
set_option maxRecDepth 100000 in
theorem tw_159 : Cond.initialized "java/lang/StringLatin1" ∈ TBg := tw_in tk_1 (i := 21) rfl rfl
set_option maxRecDepth 100000 in
theorem tw_160 : Cond.initialized "jdk/internal/util/Preconditions" ∈ TBg := tw_in tk_1 (i := 22) rfl rfl
set_option maxRecDepth 100000 in
theorem tw_161 : Cond.initialized "java/lang/StringUTF16" ∈ TBg := tw_in tk_1 (i := 23) rfl rfl
set_option maxRecDepth 100000 in
theorem tw_162 : Cond.initialized "java/lang/Math" ∈ TBg := tw_in tk_1 (i := 24) rfl rfl
set_option maxRecDepth 100000 in
theorem tw_163 : Cond.initialized "java/lang/System" ∈ TBg := tw_in tk_1 (i := 25) rfl rfl
set_option maxRecDepth 100000 in
theorem tw_164 : Cond.initialized "java/lang/ClassCastException" ∈ TBg := tw_in tk_1 (i := 26) rfl rfl
set_option maxRecDepth 100000 in
theorem tw_167 : Cond.initialized "java/lang/Integer" ∈ TBg := tw_in tk_1 (i := 29) rfl rfl
set_option maxRecDepth 100000 in
theorem tw_168 : Cond.classLink "GreatEstateLaw" 8 "GreatEstate" ∈ TBg := tw_in tk_1 (i := 30) rfl rfl
set_option maxRecDepth 100000 in
theorem tw_169 : Cond.instantiable "GreatEstate" 4 ∈ TBg := tw_in tk_1 (i := 31) rfl rfl
set_option maxRecDepth 100000 in
theorem tw_170 : Cond.methodLink "GreatEstateLaw" 124 yX11_init ∈ TBg := tw_in tk_1 (i := 32) rfl rfl
set_option maxRecDepth 100000 in
theorem tw_171 : Cond.instanceMethod yX11_init ∈ TBg := tw_in tk_1 (i := 33) rfl rfl
set_option maxRecDepth 100000 in
theorem tw_172 : Cond.code yX11_init prog_1_method_1_code 1 (Option.none : Option Jvm.ClassFile.FieldType) ∈ TBg := tw_in tk_1 (i := 34) rfl rfl
set_option maxRecDepth 100000 in
theorem tw_173 : Cond.methodLink "GreatEstate" 1 objectInit ∈ TBg := tw_in tk_1 (i := 35) rfl rfl
set_option maxRecDepth 100000 in
theorem tw_174 : Cond.instanceMethod objectInit ∈ TBg := tw_in tk_1 (i := 36) rfl rfl
set_option maxRecDepth 100000 in
theorem tw_175 : Cond.code objectInit ⟨#[0xb1]⟩ 1 none ∈ TBg := tw_in tk_1 (i := 37) rfl rfl
set_option maxRecDepth 100000 in
theorem tw_176 : Cond.classLink "GreatEstate" 7 "GreatEstate$Reader" ∈ TBg := tw_in tk_1 (i := 38) rfl rfl
set_option maxRecDepth 100000 in
theorem tw_177 : Cond.instantiable "GreatEstate$Reader" 12 ∈ TBg := tw_in tk_1 (i := 39) rfl rfl
set_option maxRecDepth 100000 in
theorem tw_178 : Cond.methodLink "GreatEstate" 9 yX6_init ∈ TBg := tw_in tk_1 (i := 40) rfl rfl
set_option maxRecDepth 100000 in
theorem tw_179 : Cond.instanceMethod yX6_init ∈ TBg := tw_in tk_1 (i := 41) rfl rfl
set_option maxRecDepth 100000 in
theorem tw_180 : Cond.code yX6_init prog_8_method_1_code 1 (Option.none : Option Jvm.ClassFile.FieldType) ∈ TBg := tw_in tk_1 (i := 42) rfl rfl
set_option maxRecDepth 100000 in
theorem tw_181 : Cond.methodLink "GreatEstate$Reader" 5 objectInit ∈ TBg := tw_in tk_1 (i := 43) rfl rfl
set_option maxRecDepth 100000 in
theorem tw_182 : Cond.fieldLink "GreatEstate$Reader" 11 "GreatEstate$Reader" "tape" "[B" ∈ TBg := tw_in tk_1 (i := 44) rfl rfl
set_option maxRecDepth 100000 in
theorem tw_183 : Cond.fieldLink "GreatEstate" 32 "GreatEstate$Reader" "fed" "I" ∈ TBg := tw_in tk_1 (i := 45) rfl rfl
set_option maxRecDepth 100000 in
theorem tw_184 : Cond.fieldLink "GreatEstate$Reader" 25 "GreatEstate$Reader" "fed" "I" ∈ TBg := tw_in tk_1 (i := 46) rfl rfl
set_option maxRecDepth 100000 in
theorem tw_185 : Cond.fieldLink "GreatEstate$Reader" 17 "GreatEstate$Reader" "fault" "I" ∈ TBg := tw_in tk_1 (i := 47) rfl rfl
set_option maxRecDepth 100000 in
theorem tw_186 : Cond.fieldLink "GreatEstate" 192 "GreatEstate$Reader" "fault" "I" ∈ TBg := tw_in tk_1 (i := 48) rfl rfl
set_option maxRecDepth 100000 in
theorem tw_187 : Cond.fieldLink "GreatEstate$Reader" 28 "GreatEstate$Reader" "length" "I" ∈ TBg := tw_in tk_1 (i := 49) rfl rfl
set_option maxRecDepth 100000 in
theorem tw_188 : Cond.fieldLink "GreatEstate$Reader" 31 "GreatEstate$Reader" "at" "I" ∈ TBg := tw_in tk_1 (i := 50) rfl rfl
set_option maxRecDepth 100000 in
theorem tw_189 : Cond.fieldLink "GreatEstate$Reader" 47 "GreatEstate$Reader" "start" "I" ∈ TBg := tw_in tk_1 (i := 51) rfl rfl
set_option maxRecDepth 100000 in
theorem tw_190 : Cond.fieldLink "GreatEstate$Reader" 60 "GreatEstate$Reader" "kind" "I" ∈ TBg := tw_in tk_1 (i := 52) rfl rfl
set_option maxRecDepth 100000 in
theorem tw_191 : Cond.fieldLink "GreatEstate$Reader" 81 "GreatEstate$Reader" "value" "I" ∈ TBg := tw_in tk_1 (i := 53) rfl rfl
set_option maxRecDepth 100000 in
theorem tw_192 : Cond.fieldLink "GreatEstate$Reader" 21 "GreatEstate$Reader" "draft" "[I" ∈ TBg := tw_in tk_1 (i := 54) rfl rfl
set_option maxRecDepth 100000 in
theorem tw_193 : Cond.fieldLink "GreatEstate$Reader" 34 "GreatEstate$Reader" "lines" "I" ∈ TBg := tw_in tk_1 (i := 55) rfl rfl
set_option maxRecDepth 100000 in
theorem tw_194 : Cond.fieldLink "GreatEstate$Reader" 37 "GreatEstate$Reader" "codes" "I" ∈ TBg := tw_in tk_1 (i := 56) rfl rfl
set_option maxRecDepth 100000 in
theorem tw_195 : Cond.fieldLink "GreatEstate$Reader" 84 "GreatEstate$Reader" "verb" "I" ∈ TBg := tw_in tk_1 (i := 57) rfl rfl
set_option maxRecDepth 100000 in
theorem tw_221 : Cond.arrayClass .byte ∈ TBg := tw_in tk_1 (i := 83) rfl rfl
set_option maxRecDepth 100000 in
theorem tw_222 : Cond.arrayClass .int ∈ TBg := tw_in tk_1 (i := 84) rfl rfl
set_option maxRecDepth 100000 in
theorem tw_223 : Cond.classLink "GreatEstate" 16 "GreatEstate$Estate" ∈ TBg := tw_in tk_1 (i := 85) rfl rfl
set_option maxRecDepth 100000 in
theorem tw_224 : Cond.instantiable "GreatEstate$Estate" 10 ∈ TBg := tw_in tk_1 (i := 86) rfl rfl
set_option maxRecDepth 100000 in
theorem tw_225 : Cond.methodLink "GreatEstate" 18 yX0_init ∈ TBg := tw_in tk_1 (i := 87) rfl rfl
set_option maxRecDepth 100000 in
theorem tw_226 : Cond.instanceMethod yX0_init ∈ TBg := tw_in tk_1 (i := 88) rfl rfl
set_option maxRecDepth 100000 in
theorem tw_227 : Cond.code yX0_init prog_2_method_1_code 1 (Option.none : Option Jvm.ClassFile.FieldType) ∈ TBg := tw_in tk_1 (i := 89) rfl rfl
set_option maxRecDepth 100000 in
theorem tw_228 : Cond.methodLink "GreatEstate$Estate" 3 objectInit ∈ TBg := tw_in tk_1 (i := 90) rfl rfl
set_option maxRecDepth 100000 in
theorem tw_229 : Cond.classLink "GreatEstate$Estate" 9 "GreatEstate$Words" ∈ TBg := tw_in tk_1 (i := 91) rfl rfl
set_option maxRecDepth 100000 in
theorem tw_230 : Cond.instantiable "GreatEstate$Words" 4 ∈ TBg := tw_in tk_1 (i := 92) rfl rfl
set_option maxRecDepth 100000 in
theorem tw_231 : Cond.methodLink "GreatEstate$Estate" 11 yX9_init ∈ TBg := tw_in tk_1 (i := 93) rfl rfl
set_option maxRecDepth 100000 in
theorem tw_232 : Cond.instanceMethod yX9_init ∈ TBg := tw_in tk_1 (i := 94) rfl rfl
set_option maxRecDepth 100000 in
theorem tw_233 : Cond.code yX9_init prog_11_method_1_code 1 (Option.none : Option Jvm.ClassFile.FieldType) ∈ TBg := tw_in tk_1 (i := 95) rfl rfl
set_option maxRecDepth 100000 in
theorem tw_234 : Cond.methodLink "GreatEstate$Words" 3 objectInit ∈ TBg := tw_in tk_1 (i := 96) rfl rfl
set_option maxRecDepth 100000 in
theorem tw_235 : Cond.classLink "GreatEstate$Words" 9 "GreatEstate$Text" ∈ TBg := tw_in tk_1 (i := 97) rfl rfl
set_option maxRecDepth 100000 in
theorem tw_237 : Cond.fieldLink "GreatEstate$Words" 24 "GreatEstate$Words" "size" "I" ∈ TBg := tw_in tk_1 (i := 99) rfl rfl
set_option maxRecDepth 100000 in
theorem tw_238 : Cond.fieldLink "GreatEstate" 175 "GreatEstate$Words" "size" "I" ∈ TBg := tw_in tk_1 (i := 100) rfl rfl
set_option maxRecDepth 100000 in
theorem tw_239 : Cond.fieldLink "GreatEstate$Words" 11 "GreatEstate$Words" "texts" "[LGreatEstate$Text;" ∈ TBg := tw_in tk_1 (i := 101) rfl rfl
set_option maxRecDepth 100000 in
theorem tw_240 : Cond.fieldLink "GreatEstate$Words" 17 "GreatEstate$Words" "since" "[I" ∈ TBg := tw_in tk_1 (i := 102) rfl rfl
set_option maxRecDepth 100000 in
theorem tw_241 : Cond.fieldLink "GreatEstate$Words" 21 "GreatEstate$Words" "order" "[I" ∈ TBg := tw_in tk_1 (i := 103) rfl rfl
set_option maxRecDepth 100000 in
theorem tw_251 : Cond.classLink "GreatEstate$Estate" 18 "GreatEstate$Land" ∈ TBg := tw_in tk_1 (i := 113) rfl rfl
set_option maxRecDepth 100000 in
theorem tw_252 : Cond.instantiable "GreatEstate$Land" 1 ∈ TBg := tw_in tk_1 (i := 114) rfl rfl
set_option maxRecDepth 100000 in
theorem tw_253 : Cond.methodLink "GreatEstate$Estate" 20 yX2_init ∈ TBg := tw_in tk_1 (i := 115) rfl rfl
set_option maxRecDepth 100000 in
theorem tw_254 : Cond.instanceMethod yX2_init ∈ TBg := tw_in tk_1 (i := 116) rfl rfl
set_option maxRecDepth 100000 in
theorem tw_255 : Cond.code yX2_init prog_4_method_1_code 2 (Option.none : Option Jvm.ClassFile.FieldType) ∈ TBg := tw_in tk_1 (i := 117) rfl rfl
set_option maxRecDepth 100000 in
theorem tw_256 : Cond.methodLink "GreatEstate$Land" 3 objectInit ∈ TBg := tw_in tk_1 (i := 118) rfl rfl
set_option maxRecDepth 100000 in
theorem tw_257 : Cond.fieldLink "GreatEstate$Land" 11 "GreatEstate$Land" "cells" "[I" ∈ TBg := tw_in tk_1 (i := 119) rfl rfl
set_option maxRecDepth 100000 in
theorem tw_261 : Cond.classLink "GreatEstate$Estate" 25 "GreatEstate$Holdings" ∈ TBg := tw_in tk_1 (i := 123) rfl rfl
set_option maxRecDepth 100000 in
theorem tw_262 : Cond.instantiable "GreatEstate$Holdings" 4 ∈ TBg := tw_in tk_1 (i := 124) rfl rfl
set_option maxRecDepth 100000 in
theorem tw_263 : Cond.methodLink "GreatEstate$Estate" 27 yX1_init ∈ TBg := tw_in tk_1 (i := 125) rfl rfl
set_option maxRecDepth 100000 in
theorem tw_264 : Cond.instanceMethod yX1_init ∈ TBg := tw_in tk_1 (i := 126) rfl rfl
set_option maxRecDepth 100000 in
theorem tw_265 : Cond.code yX1_init prog_3_method_1_code 1 (Option.none : Option Jvm.ClassFile.FieldType) ∈ TBg := tw_in tk_1 (i := 127) rfl rfl
set_option maxRecDepth 100000 in
theorem tw_266 : Cond.methodLink "GreatEstate$Holdings" 3 objectInit ∈ TBg := tw_in tk_1 (i := 128) rfl rfl
set_option maxRecDepth 100000 in
theorem tw_267 : Cond.classLink "GreatEstate$Holdings" 15 "GreatEstate$Text" ∈ TBg := tw_in tk_1 (i := 129) rfl rfl
set_option maxRecDepth 100000 in
theorem tw_268 : Cond.instantiable "GreatEstate$Text" 2 ∈ TBg := tw_in tk_1 (i := 130) rfl rfl
set_option maxRecDepth 100000 in
theorem tw_269 : Cond.methodLink "GreatEstate$Holdings" 21 yX8_init ∈ TBg := tw_in tk_1 (i := 131) rfl rfl
set_option maxRecDepth 100000 in
theorem tw_270 : Cond.instanceMethod yX8_init ∈ TBg := tw_in tk_1 (i := 132) rfl rfl
set_option maxRecDepth 100000 in
theorem tw_271 : Cond.code yX8_init prog_10_method_1_code 1 (Option.none : Option Jvm.ClassFile.FieldType) ∈ TBg := tw_in tk_1 (i := 133) rfl rfl
set_option maxRecDepth 100000 in
theorem tw_272 : Cond.methodLink "GreatEstate$Text" 5 objectInit ∈ TBg := tw_in tk_1 (i := 134) rfl rfl
set_option maxRecDepth 100000 in
theorem tw_273 : Cond.fieldLink "GreatEstate$Text" 11 "GreatEstate$Text" "lines" "I" ∈ TBg := tw_in tk_1 (i := 135) rfl rfl
set_option maxRecDepth 100000 in
theorem tw_274 : Cond.fieldLink "GreatEstate$Year" 112 "GreatEstate$Text" "lines" "I" ∈ TBg := tw_in tk_1 (i := 136) rfl rfl
set_option maxRecDepth 100000 in
theorem tw_275 : Cond.fieldLink "GreatEstate$Words" 56 "GreatEstate$Text" "lines" "I" ∈ TBg := tw_in tk_1 (i := 137) rfl rfl
set_option maxRecDepth 100000 in
theorem tw_276 : Cond.fieldLink "GreatEstate" 187 "GreatEstate$Text" "lines" "I" ∈ TBg := tw_in tk_1 (i := 138) rfl rfl
set_option maxRecDepth 100000 in
theorem tw_277 : Cond.fieldLink "GreatEstate$Estate" 190 "GreatEstate$Text" "lines" "I" ∈ TBg := tw_in tk_1 (i := 139) rfl rfl
set_option maxRecDepth 100000 in
theorem tw_278 : Cond.fieldLink "GreatEstate$Text" 15 "GreatEstate$Text" "cells" "[I" ∈ TBg := tw_in tk_1 (i := 140) rfl rfl
set_option maxRecDepth 100000 in
theorem tw_284 : Cond.fieldLink "GreatEstate$Holdings" 26 "GreatEstate$Holdings" "size" "I" ∈ TBg := tw_in tk_1 (i := 146) rfl rfl
set_option maxRecDepth 100000 in
theorem tw_285 : Cond.fieldLink "GreatEstate$Estate" 105 "GreatEstate$Holdings" "size" "I" ∈ TBg := tw_in tk_1 (i := 147) rfl rfl
set_option maxRecDepth 100000 in
theorem tw_286 : Cond.fieldLink "GreatEstate$Year" 158 "GreatEstate$Holdings" "size" "I" ∈ TBg := tw_in tk_1 (i := 148) rfl rfl
set_option maxRecDepth 100000 in
theorem tw_287 : Cond.fieldLink "GreatEstate" 300 "GreatEstate$Holdings" "size" "I" ∈ TBg := tw_in tk_1 (i := 149) rfl rfl
set_option maxRecDepth 100000 in
theorem tw_288 : Cond.fieldLink "GreatEstate$Holdings" 11 "GreatEstate$Holdings" "cells" "[I" ∈ TBg := tw_in tk_1 (i := 150) rfl rfl
set_option maxRecDepth 100000 in
theorem tw_289 : Cond.fieldLink "GreatEstate$Holdings" 17 "GreatEstate$Holdings" "leases" "[LGreatEstate$Text;" ∈ TBg := tw_in tk_1 (i := 151) rfl rfl
set_option maxRecDepth 100000 in
theorem tw_290 : Cond.fieldLink "GreatEstate$Holdings" 22 "GreatEstate$Holdings" "noLease" "LGreatEstate$Text;" ∈ TBg := tw_in tk_1 (i := 152) rfl rfl
set_option maxRecDepth 100000 in
theorem tw_300 : Cond.classLink "GreatEstate$Estate" 32 "GreatEstate$Market" ∈ TBg := tw_in tk_1 (i := 162) rfl rfl
set_option maxRecDepth 100000 in
theorem tw_301 : Cond.instantiable "GreatEstate$Market" 6 ∈ TBg := tw_in tk_1 (i := 163) rfl rfl
set_option maxRecDepth 100000 in
theorem tw_302 : Cond.methodLink "GreatEstate$Estate" 34 yX4_init ∈ TBg := tw_in tk_1 (i := 164) rfl rfl
set_option maxRecDepth 100000 in
theorem tw_303 : Cond.instanceMethod yX4_init ∈ TBg := tw_in tk_1 (i := 165) rfl rfl
set_option maxRecDepth 100000 in
theorem tw_304 : Cond.code yX4_init prog_6_method_1_code 1 (Option.none : Option Jvm.ClassFile.FieldType) ∈ TBg := tw_in tk_1 (i := 166) rfl rfl
set_option maxRecDepth 100000 in
theorem tw_305 : Cond.methodLink "GreatEstate$Market" 3 objectInit ∈ TBg := tw_in tk_1 (i := 167) rfl rfl
set_option maxRecDepth 100000 in
theorem tw_306 : Cond.fieldLink "GreatEstate$Market" 27 "GreatEstate$Market" "size" "I" ∈ TBg := tw_in tk_1 (i := 168) rfl rfl
set_option maxRecDepth 100000 in
theorem tw_307 : Cond.fieldLink "GreatEstate$Market" 9 "GreatEstate$Market" "rains" "[I" ∈ TBg := tw_in tk_1 (i := 169) rfl rfl
set_option maxRecDepth 100000 in
theorem tw_308 : Cond.fieldLink "GreatEstate$Market" 15 "GreatEstate$Market" "crops" "[I" ∈ TBg := tw_in tk_1 (i := 170) rfl rfl
set_option maxRecDepth 100000 in
theorem tw_309 : Cond.fieldLink "GreatEstate$Market" 18 "GreatEstate$Market" "years" "[I" ∈ TBg := tw_in tk_1 (i := 171) rfl rfl
set_option maxRecDepth 100000 in
theorem tw_310 : Cond.fieldLink "GreatEstate$Market" 21 "GreatEstate$Market" "numbers" "[I" ∈ TBg := tw_in tk_1 (i := 172) rfl rfl
set_option maxRecDepth 100000 in
theorem tw_311 : Cond.fieldLink "GreatEstate$Market" 24 "GreatEstate$Market" "seasons" "[I" ∈ TBg := tw_in tk_1 (i := 173) rfl rfl
set_option maxRecDepth 100000 in
theorem tw_325 : Cond.classLink "GreatEstate$Estate" 39 "GreatEstate$Ledger" ∈ TBg := tw_in tk_1 (i := 187) rfl rfl
set_option maxRecDepth 100000 in
theorem tw_326 : Cond.instantiable "GreatEstate$Ledger" 12 ∈ TBg := tw_in tk_1 (i := 188) rfl rfl
set_option maxRecDepth 100000 in
theorem tw_327 : Cond.methodLink "GreatEstate$Estate" 41 yX3_init ∈ TBg := tw_in tk_1 (i := 189) rfl rfl
set_option maxRecDepth 100000 in
theorem tw_328 : Cond.instanceMethod yX3_init ∈ TBg := tw_in tk_1 (i := 190) rfl rfl
set_option maxRecDepth 100000 in
theorem tw_329 : Cond.code yX3_init prog_5_method_1_code 1 (Option.none : Option Jvm.ClassFile.FieldType) ∈ TBg := tw_in tk_1 (i := 191) rfl rfl
set_option maxRecDepth 100000 in
theorem tw_330 : Cond.methodLink "GreatEstate$Ledger" 3 objectInit ∈ TBg := tw_in tk_1 (i := 192) rfl rfl
set_option maxRecDepth 100000 in
theorem tw_331 : Cond.fieldLink "GreatEstate$Ledger" 24 "GreatEstate$Ledger" "income" "I" ∈ TBg := tw_in tk_1 (i := 193) rfl rfl
set_option maxRecDepth 100000 in
theorem tw_332 : Cond.fieldLink "GreatEstate$Estate" 136 "GreatEstate$Ledger" "income" "I" ∈ TBg := tw_in tk_1 (i := 194) rfl rfl
set_option maxRecDepth 100000 in
theorem tw_333 : Cond.fieldLink "GreatEstate$Ledger" 28 "GreatEstate$Ledger" "capital" "I" ∈ TBg := tw_in tk_1 (i := 195) rfl rfl
set_option maxRecDepth 100000 in
theorem tw_334 : Cond.fieldLink "GreatEstate$Estate" 177 "GreatEstate$Ledger" "capital" "I" ∈ TBg := tw_in tk_1 (i := 196) rfl rfl
set_option maxRecDepth 100000 in
theorem tw_335 : Cond.fieldLink "GreatEstate$Ledger" 31 "GreatEstate$Ledger" "harvests" "I" ∈ TBg := tw_in tk_1 (i := 197) rfl rfl
set_option maxRecDepth 100000 in
theorem tw_336 : Cond.fieldLink "GreatEstate$Ledger" 34 "GreatEstate$Ledger" "charges" "I" ∈ TBg := tw_in tk_1 (i := 198) rfl rfl
set_option maxRecDepth 100000 in
theorem tw_337 : Cond.fieldLink "GreatEstate$Ledger" 37 "GreatEstate$Ledger" "paidOut" "I" ∈ TBg := tw_in tk_1 (i := 199) rfl rfl
set_option maxRecDepth 100000 in
theorem tw_338 : Cond.fieldLink "GreatEstate$Ledger" 40 "GreatEstate$Ledger" "reigns" "I" ∈ TBg := tw_in tk_1 (i := 200) rfl rfl
set_option maxRecDepth 100000 in
theorem tw_339 : Cond.fieldLink "GreatEstate$Ledger" 43 "GreatEstate$Ledger" "wrongs" "I" ∈ TBg := tw_in tk_1 (i := 201) rfl rfl
set_option maxRecDepth 100000 in
theorem tw_340 : Cond.fieldLink "GreatEstate" 247 "GreatEstate$Ledger" "wrongs" "I" ∈ TBg := tw_in tk_1 (i := 202) rfl rfl
set_option maxRecDepth 100000 in
theorem tw_341 : Cond.fieldLink "GreatEstate$Ledger" 11 "GreatEstate$Ledger" "notes" "[I" ∈ TBg := tw_in tk_1 (i := 203) rfl rfl
set_option maxRecDepth 100000 in
theorem tw_342 : Cond.fieldLink "GreatEstate$Ledger" 52 "GreatEstate$Ledger" "loans" "I" ∈ TBg := tw_in tk_1 (i := 204) rfl rfl
set_option maxRecDepth 100000 in
theorem tw_343 : Cond.fieldLink "GreatEstate" 223 "GreatEstate$Ledger" "loans" "I" ∈ TBg := tw_in tk_1 (i := 205) rfl rfl
set_option maxRecDepth 100000 in
theorem tw_344 : Cond.fieldLink "GreatEstate$Ledger" 15 "GreatEstate$Ledger" "rates" "[I" ∈ TBg := tw_in tk_1 (i := 206) rfl rfl
set_option maxRecDepth 100000 in
theorem tw_345 : Cond.fieldLink "GreatEstate$Ledger" 18 "GreatEstate$Ledger" "parts" "[I" ∈ TBg := tw_in tk_1 (i := 207) rfl rfl
set_option maxRecDepth 100000 in
theorem tw_346 : Cond.fieldLink "GreatEstate$Ledger" 21 "GreatEstate$Ledger" "left" "[I" ∈ TBg := tw_in tk_1 (i := 208) rfl rfl
set_option maxRecDepth 100000 in
theorem tw_347 : Cond.fieldLink "GreatEstate" 237 "GreatEstate$Ledger" "left" "[I" ∈ TBg := tw_in tk_1 (i := 209) rfl rfl
set_option maxRecDepth 100000 in
theorem tw_373 : Cond.classLink "GreatEstate$Estate" 46 "GreatEstate$Plan" ∈ TBg := tw_in tk_1 (i := 235) rfl rfl
set_option maxRecDepth 100000 in
theorem tw_374 : Cond.instantiable "GreatEstate$Plan" 7 ∈ TBg := tw_in tk_1 (i := 236) rfl rfl
set_option maxRecDepth 100000 in
theorem tw_375 : Cond.methodLink "GreatEstate$Estate" 48 yX5_init ∈ TBg := tw_in tk_1 (i := 237) rfl rfl
set_option maxRecDepth 100000 in
theorem tw_376 : Cond.instanceMethod yX5_init ∈ TBg := tw_in tk_1 (i := 238) rfl rfl
set_option maxRecDepth 100000 in
theorem tw_377 : Cond.code yX5_init prog_7_method_1_code 1 (Option.none : Option Jvm.ClassFile.FieldType) ∈ TBg := tw_in tk_1 (i := 239) rfl rfl
set_option maxRecDepth 100000 in
theorem tw_378 : Cond.methodLink "GreatEstate$Plan" 3 objectInit ∈ TBg := tw_in tk_2 (i := 0) rfl rfl
set_option maxRecDepth 100000 in
theorem tw_379 : Cond.fieldLink "GreatEstate$Plan" 27 "GreatEstate$Plan" "jobs" "I" ∈ TBg := tw_in tk_2 (i := 1) rfl rfl
set_option maxRecDepth 100000 in
theorem tw_380 : Cond.fieldLink "GreatEstate$Plan" 31 "GreatEstate$Plan" "troubles" "I" ∈ TBg := tw_in tk_2 (i := 2) rfl rfl
set_option maxRecDepth 100000 in
theorem tw_381 : Cond.fieldLink "GreatEstate$Plan" 11 "GreatEstate$Plan" "costs" "[I" ∈ TBg := tw_in tk_2 (i := 3) rfl rfl
set_option maxRecDepth 100000 in
theorem tw_382 : Cond.fieldLink "GreatEstate$Plan" 15 "GreatEstate$Plan" "brings" "[I" ∈ TBg := tw_in tk_2 (i := 4) rfl rfl
set_option maxRecDepth 100000 in
theorem tw_383 : Cond.fieldLink "GreatEstate$Plan" 18 "GreatEstate$Plan" "years" "[I" ∈ TBg := tw_in tk_2 (i := 5) rfl rfl
set_option maxRecDepth 100000 in
theorem tw_384 : Cond.fieldLink "GreatEstate$Plan" 21 "GreatEstate$Plan" "firsts" "[I" ∈ TBg := tw_in tk_2 (i := 6) rfl rfl
set_option maxRecDepth 100000 in
theorem tw_385 : Cond.fieldLink "GreatEstate$Plan" 24 "GreatEstate$Plan" "changes" "[I" ∈ TBg := tw_in tk_2 (i := 7) rfl rfl
set_option maxRecDepth 100000 in
theorem tw_401 : Cond.classLink "GreatEstate$Estate" 53 "GreatEstate$Rows" ∈ TBg := tw_in tk_2 (i := 23) rfl rfl
set_option maxRecDepth 100000 in
theorem tw_402 : Cond.instantiable "GreatEstate$Rows" 3 ∈ TBg := tw_in tk_2 (i := 24) rfl rfl
set_option maxRecDepth 100000 in
theorem tw_403 : Cond.methodLink "GreatEstate$Estate" 55 yX7_init ∈ TBg := tw_in tk_2 (i := 25) rfl rfl
set_option maxRecDepth 100000 in
theorem tw_404 : Cond.instanceMethod yX7_init ∈ TBg := tw_in tk_2 (i := 26) rfl rfl
set_option maxRecDepth 100000 in
theorem tw_405 : Cond.code yX7_init prog_9_method_1_code 1 (Option.none : Option Jvm.ClassFile.FieldType) ∈ TBg := tw_in tk_2 (i := 27) rfl rfl
set_option maxRecDepth 100000 in
theorem tw_406 : Cond.methodLink "GreatEstate$Rows" 3 objectInit ∈ TBg := tw_in tk_2 (i := 28) rfl rfl
set_option maxRecDepth 100000 in
theorem tw_407 : Cond.fieldLink "GreatEstate$Rows" 18 "GreatEstate$Rows" "size" "I" ∈ TBg := tw_in tk_2 (i := 29) rfl rfl
set_option maxRecDepth 100000 in
theorem tw_408 : Cond.fieldLink "GreatEstate" 285 "GreatEstate$Rows" "size" "I" ∈ TBg := tw_in tk_2 (i := 30) rfl rfl
set_option maxRecDepth 100000 in
theorem tw_409 : Cond.fieldLink "GreatEstate$Rows" 11 "GreatEstate$Rows" "seen" "[I" ∈ TBg := tw_in tk_2 (i := 31) rfl rfl
set_option maxRecDepth 100000 in
theorem tw_410 : Cond.fieldLink "GreatEstate" 288 "GreatEstate$Rows" "seen" "[I" ∈ TBg := tw_in tk_2 (i := 32) rfl rfl
set_option maxRecDepth 100000 in
theorem tw_411 : Cond.fieldLink "GreatEstate$Rows" 15 "GreatEstate$Rows" "brought" "[I" ∈ TBg := tw_in tk_2 (i := 33) rfl rfl
set_option maxRecDepth 100000 in
theorem tw_419 : Cond.fieldLink "GreatEstate$Estate" 12 "GreatEstate$Estate" "words" "LGreatEstate$Words;" ∈ TBg := tw_in tk_2 (i := 41) rfl rfl
set_option maxRecDepth 100000 in
theorem tw_420 : Cond.fieldLink "GreatEstate" 171 "GreatEstate$Estate" "words" "LGreatEstate$Words;" ∈ TBg := tw_in tk_2 (i := 42) rfl rfl
set_option maxRecDepth 100000 in
theorem tw_421 : Cond.fieldLink "GreatEstate$Year" 15 "GreatEstate$Estate" "land" "LGreatEstate$Land;" ∈ TBg := tw_in tk_2 (i := 43) rfl rfl
set_option maxRecDepth 100000 in
theorem tw_422 : Cond.fieldLink "GreatEstate$Estate" 21 "GreatEstate$Estate" "land" "LGreatEstate$Land;" ∈ TBg := tw_in tk_2 (i := 44) rfl rfl
set_option maxRecDepth 100000 in
theorem tw_423 : Cond.fieldLink "GreatEstate" 47 "GreatEstate$Estate" "land" "LGreatEstate$Land;" ∈ TBg := tw_in tk_2 (i := 45) rfl rfl
set_option maxRecDepth 100000 in
theorem tw_424 : Cond.fieldLink "GreatEstate$Year" 22 "GreatEstate$Estate" "holdings" "LGreatEstate$Holdings;" ∈ TBg := tw_in tk_2 (i := 46) rfl rfl
set_option maxRecDepth 100000 in
theorem tw_425 : Cond.fieldLink "GreatEstate$Estate" 28 "GreatEstate$Estate" "holdings" "LGreatEstate$Holdings;" ∈ TBg := tw_in tk_2 (i := 47) rfl rfl
set_option maxRecDepth 100000 in
theorem tw_426 : Cond.fieldLink "GreatEstate" 111 "GreatEstate$Estate" "holdings" "LGreatEstate$Holdings;" ∈ TBg := tw_in tk_2 (i := 48) rfl rfl
set_option maxRecDepth 100000 in
theorem tw_427 : Cond.fieldLink "GreatEstate$Estate" 35 "GreatEstate$Estate" "market" "LGreatEstate$Market;" ∈ TBg := tw_in tk_2 (i := 49) rfl rfl
set_option maxRecDepth 100000 in
theorem tw_428 : Cond.fieldLink "GreatEstate" 60 "GreatEstate$Estate" "market" "LGreatEstate$Market;" ∈ TBg := tw_in tk_2 (i := 50) rfl rfl
set_option maxRecDepth 100000 in
theorem tw_429 : Cond.fieldLink "GreatEstate$Year" 118 "GreatEstate$Estate" "market" "LGreatEstate$Market;" ∈ TBg := tw_in tk_2 (i := 51) rfl rfl
set_option maxRecDepth 100000 in
theorem tw_430 : Cond.fieldLink "GreatEstate$Year" 27 "GreatEstate$Estate" "ledger" "LGreatEstate$Ledger;" ∈ TBg := tw_in tk_2 (i := 52) rfl rfl
set_option maxRecDepth 100000 in
theorem tw_431 : Cond.fieldLink "GreatEstate$Estate" 42 "GreatEstate$Estate" "ledger" "LGreatEstate$Ledger;" ∈ TBg := tw_in tk_2 (i := 53) rfl rfl
set_option maxRecDepth 100000 in
theorem tw_432 : Cond.fieldLink "GreatEstate" 219 "GreatEstate$Estate" "ledger" "LGreatEstate$Ledger;" ∈ TBg := tw_in tk_2 (i := 54) rfl rfl
set_option maxRecDepth 100000 in
theorem tw_433 : Cond.fieldLink "GreatEstate$Estate" 49 "GreatEstate$Estate" "plan" "LGreatEstate$Plan;" ∈ TBg := tw_in tk_2 (i := 55) rfl rfl
set_option maxRecDepth 100000 in
theorem tw_434 : Cond.fieldLink "GreatEstate" 258 "GreatEstate$Estate" "plan" "LGreatEstate$Plan;" ∈ TBg := tw_in tk_2 (i := 56) rfl rfl
set_option maxRecDepth 100000 in
theorem tw_435 : Cond.fieldLink "GreatEstate$Estate" 56 "GreatEstate$Estate" "rows" "LGreatEstate$Rows;" ∈ TBg := tw_in tk_2 (i := 57) rfl rfl
set_option maxRecDepth 100000 in
theorem tw_436 : Cond.fieldLink "GreatEstate$Year" 134 "GreatEstate$Estate" "rows" "LGreatEstate$Rows;" ∈ TBg := tw_in tk_2 (i := 58) rfl rfl
set_option maxRecDepth 100000 in
theorem tw_437 : Cond.fieldLink "GreatEstate" 281 "GreatEstate$Estate" "rows" "LGreatEstate$Rows;" ∈ TBg := tw_in tk_2 (i := 59) rfl rfl
set_option maxRecDepth 100000 in
theorem tw_438 : Cond.fieldLink "GreatEstate$Year" 35 "GreatEstate$Estate" "season" "I" ∈ TBg := tw_in tk_2 (i := 60) rfl rfl
set_option maxRecDepth 100000 in
theorem tw_439 : Cond.fieldLink "GreatEstate$Estate" 92 "GreatEstate$Estate" "season" "I" ∈ TBg := tw_in tk_2 (i := 61) rfl rfl
set_option maxRecDepth 100000 in
theorem tw_440 : Cond.fieldLink "GreatEstate" 74 "GreatEstate$Estate" "season" "I" ∈ TBg := tw_in tk_2 (i := 62) rfl rfl
set_option maxRecDepth 100000 in
theorem tw_441 : Cond.fieldLink "GreatEstate$Estate" 60 "GreatEstate$Estate" "prices" "[I" ∈ TBg := tw_in tk_2 (i := 63) rfl rfl
set_option maxRecDepth 100000 in
theorem tw_442 : Cond.fieldLink "GreatEstate$Estate" 66 "GreatEstate$Estate" "facts" "[J" ∈ TBg := tw_in tk_2 (i := 64) rfl rfl
set_option maxRecDepth 100000 in
theorem tw_443 : Cond.fieldLink "GreatEstate$Year" 202 "GreatEstate$Estate" "facts" "[J" ∈ TBg := tw_in tk_2 (i := 65) rfl rfl
set_option maxRecDepth 100000 in
theorem tw_465 : Cond.arrayClass .long ∈ TBg := tw_in tk_2 (i := 87) rfl rfl
set_option maxRecDepth 100000 in
theorem tw_466 : Cond.classLink "GreatEstate" 23 "GreatEstate$Year" ∈ TBg := tw_in tk_2 (i := 88) rfl rfl
set_option maxRecDepth 100000 in
theorem tw_467 : Cond.instantiable "GreatEstate$Year" 4 ∈ TBg := tw_in tk_2 (i := 89) rfl rfl
set_option maxRecDepth 100000 in
theorem tw_468 : Cond.methodLink "GreatEstate" 25 yX10_init ∈ TBg := tw_in tk_2 (i := 90) rfl rfl
set_option maxRecDepth 100000 in
theorem tw_469 : Cond.instanceMethod yX10_init ∈ TBg := tw_in tk_2 (i := 91) rfl rfl
set_option maxRecDepth 100000 in
theorem tw_470 : Cond.code yX10_init prog_12_method_1_code 2 (Option.none : Option Jvm.ClassFile.FieldType) ∈ TBg := tw_in tk_2 (i := 92) rfl rfl
set_option maxRecDepth 100000 in
theorem tw_471 : Cond.methodLink "GreatEstate$Year" 3 objectInit ∈ TBg := tw_in tk_2 (i := 93) rfl rfl
set_option maxRecDepth 100000 in
theorem tw_472 : Cond.fieldLink "GreatEstate$Year" 9 "GreatEstate$Year" "estate" "LGreatEstate$Estate;" ∈ TBg := tw_in tk_2 (i := 94) rfl rfl
set_option maxRecDepth 100000 in
theorem tw_473 : Cond.fieldLink "GreatEstate$Year" 21 "GreatEstate$Year" "land" "LGreatEstate$Land;" ∈ TBg := tw_in tk_2 (i := 95) rfl rfl
set_option maxRecDepth 100000 in
theorem tw_474 : Cond.fieldLink "GreatEstate$Year" 26 "GreatEstate$Year" "holdings" "LGreatEstate$Holdings;" ∈ TBg := tw_in tk_2 (i := 96) rfl rfl
set_option maxRecDepth 100000 in
theorem tw_475 : Cond.fieldLink "GreatEstate$Year" 31 "GreatEstate$Year" "ledger" "LGreatEstate$Ledger;" ∈ TBg := tw_in tk_2 (i := 97) rfl rfl
set_option maxRecDepth 100000 in
theorem tw_485 : Cond.fieldLink "GreatEstate" 10 "GreatEstate" "reader" "LGreatEstate$Reader;" ∈ TBg := tw_in tk_2 (i := 107) rfl rfl
set_option maxRecDepth 100000 in
theorem tw_486 : Cond.fieldLink "GreatEstate" 19 "GreatEstate" "now" "LGreatEstate$Estate;" ∈ TBg := tw_in tk_2 (i := 108) rfl rfl
set_option maxRecDepth 100000 in
theorem tw_487 : Cond.fieldLink "GreatEstate" 28 "GreatEstate" "passing" "LGreatEstate$Year;" ∈ TBg := tw_in tk_2 (i := 109) rfl rfl
set_option maxRecDepth 100000 in
theorem tw_488 : Cond.fieldLink "GreatEstate" 294 "GreatEstate" "kept" "LGreatEstate$Estate;" ∈ TBg := tw_in tk_2 (i := 110) rfl rfl
set_option maxRecDepth 100000 in
theorem tw_498 : Cond.methodLink "GreatEstateLaw" 128 yX11_feed ∈ TBg := tw_in tk_2 (i := 120) rfl rfl
set_option maxRecDepth 100000 in
theorem tw_499 : Cond.instanceMethod yX11_feed ∈ TBg := tw_in tk_2 (i := 121) rfl rfl
set_option maxRecDepth 100000 in
theorem tw_500 : Cond.selects "GreatEstate" yX11_feed yX11_feed ∈ TBg := tw_in tk_2 (i := 122) rfl rfl
set_option maxRecDepth 100000 in
theorem tw_501 : Cond.code yX11_feed prog_1_method_2_code 6 (Option.some Jvm.ClassFile.FieldType.int) ∈ TBg := tw_in tk_2 (i := 123) rfl rfl
set_option maxRecDepth 100000 in
theorem tw_502 : Cond.methodLink "GreatEstate" 36 yX6_addBytes ∈ TBg := tw_in tk_2 (i := 124) rfl rfl
set_option maxRecDepth 100000 in
theorem tw_503 : Cond.instanceMethod yX6_addBytes ∈ TBg := tw_in tk_2 (i := 125) rfl rfl
set_option maxRecDepth 100000 in
theorem tw_504 : Cond.selects "GreatEstate$Reader" yX6_addBytes yX6_addBytes ∈ TBg := tw_in tk_2 (i := 126) rfl rfl
set_option maxRecDepth 100000 in
theorem tw_505 : Cond.code yX6_addBytes prog_8_method_2_code 3 (Option.none : Option Jvm.ClassFile.FieldType) ∈ TBg := tw_in tk_2 (i := 127) rfl rfl
set_option maxRecDepth 100000 in
theorem tw_506 : Cond.methodLink "GreatEstateLaw" 132 yX11_end ∈ TBg := tw_in tk_2 (i := 128) rfl rfl
set_option maxRecDepth 100000 in
theorem tw_507 : Cond.instanceMethod yX11_end ∈ TBg := tw_in tk_2 (i := 129) rfl rfl
set_option maxRecDepth 100000 in
theorem tw_508 : Cond.selects "GreatEstate" yX11_end yX11_end ∈ TBg := tw_in tk_2 (i := 130) rfl rfl
set_option maxRecDepth 100000 in
theorem tw_509 : Cond.code yX11_end prog_1_method_3_code 2 (Option.some Jvm.ClassFile.FieldType.boolean) ∈ TBg := tw_in tk_2 (i := 131) rfl rfl
set_option maxRecDepth 100000 in
theorem tw_510 : Cond.methodLink "GreatEstateLaw" 194 yX11_arrears ∈ TBg := tw_in tk_2 (i := 132) rfl rfl
set_option maxRecDepth 100000 in
theorem tw_511 : Cond.instanceMethod yX11_arrears ∈ TBg := tw_in tk_2 (i := 133) rfl rfl
set_option maxRecDepth 100000 in
theorem tw_512 : Cond.selects "GreatEstate" yX11_arrears yX11_arrears ∈ TBg := tw_in tk_2 (i := 134) rfl rfl
set_option maxRecDepth 100000 in
theorem tw_513 : Cond.code yX11_arrears prog_1_method_19_code 2 (Option.some Jvm.ClassFile.FieldType.int) ∈ TBg := tw_in tk_2 (i := 135) rfl rfl
set_option maxRecDepth 100000 in
theorem tw_514 : Cond.methodLink "GreatEstate" 168 yX1_ofRank ∈ TBg := tw_in tk_2 (i := 136) rfl rfl
set_option maxRecDepth 100000 in
theorem tw_515 : Cond.instanceMethod yX1_ofRank ∈ TBg := tw_in tk_2 (i := 137) rfl rfl
set_option maxRecDepth 100000 in
theorem tw_516 : Cond.selects "GreatEstate$Holdings" yX1_ofRank yX1_ofRank ∈ TBg := tw_in tk_2 (i := 138) rfl rfl
set_option maxRecDepth 100000 in
theorem tw_517 : Cond.code yX1_ofRank prog_3_method_15_code 3 (Option.some Jvm.ClassFile.FieldType.int) ∈ TBg := tw_in tk_2 (i := 139) rfl rfl
set_option maxRecDepth 100000 in
theorem tw_518 : Cond.methodLink "GreatEstate$Holdings" 40 yX1_get ∈ TBg := tw_in tk_2 (i := 140) rfl rfl
set_option maxRecDepth 100000 in
theorem tw_519 : Cond.instanceMethod yX1_get ∈ TBg := tw_in tk_2 (i := 141) rfl rfl
set_option maxRecDepth 100000 in
theorem tw_520 : Cond.selects "GreatEstate$Holdings" yX1_get yX1_get ∈ TBg := tw_in tk_2 (i := 142) rfl rfl
set_option maxRecDepth 100000 in
theorem tw_521 : Cond.code yX1_get prog_3_method_5_code 3 (Option.some Jvm.ClassFile.FieldType.int) ∈ TBg := tw_in tk_2 (i := 143) rfl rfl
set_option maxRecDepth 100000 in
theorem tw_522 : Cond.methodLink "GreatEstate$Holdings" 36 yX1_isCell ∈ TBg := tw_in tk_2 (i := 144) rfl rfl
set_option maxRecDepth 100000 in
theorem tw_523 : Cond.static yX1_isCell ∈ TBg := tw_in tk_2 (i := 145) rfl rfl
set_option maxRecDepth 100000 in
theorem tw_524 : Cond.code yX1_isCell prog_3_method_7_code 2 (Option.some Jvm.ClassFile.FieldType.boolean) ∈ TBg := tw_in tk_2 (i := 146) rfl rfl
set_option maxRecDepth 100000 in
theorem tw_525 : Cond.methodLink "GreatEstate$Holdings" 56 yX1_rankOf ∈ TBg := tw_in tk_2 (i := 147) rfl rfl
set_option maxRecDepth 100000 in
theorem tw_527 : Cond.instanceMethod yX1_rankOf ∈ TBg := tw_in tk_2 (i := 149) rfl rfl
set_option maxRecDepth 100000 in
theorem tw_528 : Cond.code yX1_rankOf prog_3_method_16_code 6 (Option.some Jvm.ClassFile.FieldType.int) ∈ TBg := tw_in tk_2 (i := 150) rfl rfl
set_option maxRecDepth 100000 in
theorem tw_529 : Cond.methodLink "GreatEstateLaw" 201 yX11_fault ∈ TBg := tw_in tk_2 (i := 151) rfl rfl
set_option maxRecDepth 100000 in
theorem tw_530 : Cond.instanceMethod yX11_fault ∈ TBg := tw_in tk_2 (i := 152) rfl rfl
set_option maxRecDepth 100000 in
theorem tw_531 : Cond.selects "GreatEstate" yX11_fault yX11_fault ∈ TBg := tw_in tk_2 (i := 153) rfl rfl
set_option maxRecDepth 100000 in
theorem tw_532 : Cond.code yX11_fault prog_1_method_21_code 1 (Option.some Jvm.ClassFile.FieldType.int) ∈ TBg := tw_in tk_2 (i := 154) rfl rfl
set_option maxRecDepth 100000 in
theorem tw_533 : Cond.methodLink "GreatEstateLaw" 228 yX11_heir ∈ TBg := tw_in tk_2 (i := 155) rfl rfl
set_option maxRecDepth 100000 in
theorem tw_534 : Cond.instanceMethod yX11_heir ∈ TBg := tw_in tk_2 (i := 156) rfl rfl
set_option maxRecDepth 100000 in
theorem tw_535 : Cond.selects "GreatEstate" yX11_heir yX11_heir ∈ TBg := tw_in tk_2 (i := 157) rfl rfl
set_option maxRecDepth 100000 in
theorem tw_536 : Cond.code yX11_heir prog_1_method_29_code 1 (Option.some Jvm.ClassFile.FieldType.int) ∈ TBg := tw_in tk_2 (i := 158) rfl rfl
set_option maxRecDepth 100000 in
theorem tw_537 : Cond.methodLink "GreatEstate" 244 yX3_passOn ∈ TBg := tw_in tk_2 (i := 159) rfl rfl
set_option maxRecDepth 100000 in
theorem tw_538 : Cond.instanceMethod yX3_passOn ∈ TBg := tw_in tk_2 (i := 160) rfl rfl
set_option maxRecDepth 100000 in
theorem tw_539 : Cond.selects "GreatEstate$Ledger" yX3_passOn yX3_passOn ∈ TBg := tw_in tk_2 (i := 161) rfl rfl
set_option maxRecDepth 100000 in
theorem tw_540 : Cond.code yX3_passOn prog_5_method_7_code 2 (Option.some Jvm.ClassFile.FieldType.int) ∈ TBg := tw_in tk_2 (i := 162) rfl rfl
set_option maxRecDepth 100000 in
theorem tw_541 : Cond.methodLink "GreatEstate$Ledger" 63 Lib.Math.max.name ∈ TBg := tw_in tk_2 (i := 163) rfl rfl
set_option maxRecDepth 100000 in
theorem tw_542 : Cond.static Lib.Math.max.name ∈ TBg := tw_in tk_2 (i := 164) rfl rfl
set_option maxRecDepth 100000 in
theorem tw_543 : Cond.code Lib.Math.max.name Lib.Math.max.code 2 (some .int) ∈ TBg := tw_in tk_2 (i := 165) rfl rfl
set_option maxRecDepth 100000 in
theorem tw_545 : Cond.static yX11_capped ∈ TBg := tw_in tk_2 (i := 167) rfl rfl
set_option maxRecDepth 100000 in
theorem tw_546 : Cond.code yX11_capped prog_1_method_50_code 2 (Option.some Jvm.ClassFile.FieldType.int) ∈ TBg := tw_in tk_2 (i := 168) rfl rfl
set_option maxRecDepth 100000 in
theorem tw_547 : Cond.constantLong "GreatEstate" 343 (-2000000000) ∈ TBg := tw_in tk_2 (i := 169) rfl rfl
set_option maxRecDepth 100000 in
theorem tw_548 : Cond.constantLong "GreatEstate" 345 (2000000000) ∈ TBg := tw_in tk_2 (i := 170) rfl rfl
set_option maxRecDepth 100000 in
theorem tw_549 : Cond.methodLink "GreatEstate" 347 Lib.MathLoose.min_long.x ∈ TBg := tw_in tk_2 (i := 171) rfl rfl
set_option maxRecDepth 100000 in
theorem tw_550 : Cond.static Lib.MathLoose.min_long.x ∈ TBg := tw_in tk_2 (i := 172) rfl rfl
set_option maxRecDepth 100000 in
theorem tw_551 : Cond.code Lib.MathLoose.min_long.x Lib.MathLoose.min_long.code 4 (some .long) ∈ TBg := tw_in tk_2 (i := 173) rfl rfl
set_option maxRecDepth 100000 in
theorem tw_552 : Cond.methodLink "GreatEstate" 350 Lib.MathLoose.max_long.x ∈ TBg := tw_in tk_2 (i := 174) rfl rfl
set_option maxRecDepth 100000 in
theorem tw_553 : Cond.static Lib.MathLoose.max_long.x ∈ TBg := tw_in tk_2 (i := 175) rfl rfl
set_option maxRecDepth 100000 in
theorem tw_554 : Cond.code Lib.MathLoose.max_long.x Lib.MathLoose.max_long.code 4 (some .long) ∈ TBg := tw_in tk_2 (i := 176) rfl rfl
set_option maxRecDepth 100000 in
theorem tw_555 : Cond.methodLink "GreatEstateLaw" 256 yX11_check ∈ TBg := tw_in tk_2 (i := 177) rfl rfl
set_option maxRecDepth 100000 in
theorem tw_556 : Cond.instanceMethod yX11_check ∈ TBg := tw_in tk_2 (i := 178) rfl rfl
set_option maxRecDepth 100000 in
theorem tw_557 : Cond.selects "GreatEstate" yX11_check yX11_check ∈ TBg := tw_in tk_2 (i := 179) rfl rfl
set_option maxRecDepth 100000 in
theorem tw_558 : Cond.code yX11_check prog_1_method_38_code 1 (Option.some Jvm.ClassFile.FieldType.int) ∈ TBg := tw_in tk_2 (i := 180) rfl rfl
set_option maxRecDepth 100000 in
theorem tw_559 : Cond.methodLink "GreatEstate" 291 yX7_firstFalse ∈ TBg := tw_in tk_2 (i := 181) rfl rfl
set_option maxRecDepth 100000 in
theorem tw_560 : Cond.instanceMethod yX7_firstFalse ∈ TBg := tw_in tk_2 (i := 182) rfl rfl
set_option maxRecDepth 100000 in
theorem tw_561 : Cond.selects "GreatEstate$Rows" yX7_firstFalse yX7_firstFalse ∈ TBg := tw_in tk_2 (i := 183) rfl rfl
set_option maxRecDepth 100000 in
theorem tw_562 : Cond.code yX7_firstFalse prog_9_method_4_code 2 (Option.some Jvm.ClassFile.FieldType.int) ∈ TBg := tw_in tk_2 (i := 184) rfl rfl
set_option maxRecDepth 100000 in
theorem tw_563 : Cond.methodLink "GreatEstateLaw" 260 yX11_image ∈ TBg := tw_in tk_2 (i := 185) rfl rfl
set_option maxRecDepth 100000 in
theorem tw_564 : Cond.instanceMethod yX11_image ∈ TBg := tw_in tk_2 (i := 186) rfl rfl
set_option maxRecDepth 100000 in
theorem tw_565 : Cond.selects "GreatEstate" yX11_image yX11_image ∈ TBg := tw_in tk_2 (i := 187) rfl rfl
set_option maxRecDepth 100000 in
theorem tw_566 : Cond.code yX11_image prog_1_method_39_code 1 (Option.none : Option Jvm.ClassFile.FieldType) ∈ TBg := tw_in tk_2 (i := 188) rfl rfl
set_option maxRecDepth 100000 in
theorem tw_567 : Cond.methodLink "GreatEstate" 297 yX0_copyFrom ∈ TBg := tw_in tk_2 (i := 189) rfl rfl
set_option maxRecDepth 100000 in
theorem tw_568 : Cond.instanceMethod yX0_copyFrom ∈ TBg := tw_in tk_2 (i := 190) rfl rfl
set_option maxRecDepth 100000 in
theorem tw_569 : Cond.selects "GreatEstate$Estate" yX0_copyFrom yX0_copyFrom ∈ TBg := tw_in tk_2 (i := 191) rfl rfl
set_option maxRecDepth 100000 in
theorem tw_570 : Cond.code yX0_copyFrom prog_2_method_2_code 2 (Option.none : Option Jvm.ClassFile.FieldType) ∈ TBg := tw_in tk_2 (i := 192) rfl rfl
set_option maxRecDepth 100000 in
theorem tw_571 : Cond.methodLink "GreatEstate$Estate" 70 yX9_copyFrom ∈ TBg := tw_in tk_2 (i := 193) rfl rfl
set_option maxRecDepth 100000 in
theorem tw_572 : Cond.instanceMethod yX9_copyFrom ∈ TBg := tw_in tk_2 (i := 194) rfl rfl
set_option maxRecDepth 100000 in
theorem tw_573 : Cond.selects "GreatEstate$Words" yX9_copyFrom yX9_copyFrom ∈ TBg := tw_in tk_2 (i := 195) rfl rfl
set_option maxRecDepth 100000 in
theorem tw_574 : Cond.code yX9_copyFrom prog_11_method_3_code 3 (Option.none : Option Jvm.ClassFile.FieldType) ∈ TBg := tw_in tk_2 (i := 196) rfl rfl
set_option maxRecDepth 100000 in
theorem tw_575 : Cond.methodLink "GreatEstate$Estate" 74 yX2_copyFrom ∈ TBg := tw_in tk_2 (i := 197) rfl rfl
set_option maxRecDepth 100000 in
theorem tw_576 : Cond.instanceMethod yX2_copyFrom ∈ TBg := tw_in tk_2 (i := 198) rfl rfl
set_option maxRecDepth 100000 in
theorem tw_577 : Cond.selects "GreatEstate$Land" yX2_copyFrom yX2_copyFrom ∈ TBg := tw_in tk_2 (i := 199) rfl rfl
set_option maxRecDepth 100000 in
theorem tw_578 : Cond.code yX2_copyFrom prog_4_method_2_code 2 (Option.none : Option Jvm.ClassFile.FieldType) ∈ TBg := tw_in tk_2 (i := 200) rfl rfl
set_option maxRecDepth 100000 in
theorem tw_579 : Cond.methodLink "GreatEstate$Land" 15 arraycopyName ∈ TBg := tw_in tk_2 (i := 201) rfl rfl
set_option maxRecDepth 100000 in
theorem tw_580 : Cond.static arraycopyName ∈ TBg := tw_in tk_2 (i := 202) rfl rfl
set_option maxRecDepth 100000 in
theorem tw_581 : Cond.native arraycopyName ∈ TBg := tw_in tk_2 (i := 203) rfl rfl
set_option maxRecDepth 100000 in
theorem tw_582 : Cond.methodLink "GreatEstate$Estate" 77 yX1_copyFrom ∈ TBg := tw_in tk_2 (i := 204) rfl rfl
set_option maxRecDepth 100000 in
theorem tw_583 : Cond.instanceMethod yX1_copyFrom ∈ TBg := tw_in tk_2 (i := 205) rfl rfl
set_option maxRecDepth 100000 in
theorem tw_584 : Cond.selects "GreatEstate$Holdings" yX1_copyFrom yX1_copyFrom ∈ TBg := tw_in tk_2 (i := 206) rfl rfl
set_option maxRecDepth 100000 in
theorem tw_585 : Cond.code yX1_copyFrom prog_3_method_2_code 3 (Option.none : Option Jvm.ClassFile.FieldType) ∈ TBg := tw_in tk_2 (i := 207) rfl rfl
set_option maxRecDepth 100000 in
theorem tw_586 : Cond.methodLink "GreatEstate$Holdings" 30 arraycopyName ∈ TBg := tw_in tk_2 (i := 208) rfl rfl
set_option maxRecDepth 100000 in
theorem tw_587 : Cond.methodLink "GreatEstate$Estate" 80 yX4_copyFrom ∈ TBg := tw_in tk_2 (i := 209) rfl rfl
set_option maxRecDepth 100000 in
theorem tw_588 : Cond.instanceMethod yX4_copyFrom ∈ TBg := tw_in tk_2 (i := 210) rfl rfl
set_option maxRecDepth 100000 in
theorem tw_589 : Cond.selects "GreatEstate$Market" yX4_copyFrom yX4_copyFrom ∈ TBg := tw_in tk_2 (i := 211) rfl rfl
set_option maxRecDepth 100000 in
theorem tw_590 : Cond.code yX4_copyFrom prog_6_method_2_code 2 (Option.none : Option Jvm.ClassFile.FieldType) ∈ TBg := tw_in tk_2 (i := 212) rfl rfl
set_option maxRecDepth 100000 in
theorem tw_591 : Cond.methodLink "GreatEstate$Market" 31 arraycopyName ∈ TBg := tw_in tk_2 (i := 213) rfl rfl
set_option maxRecDepth 100000 in
theorem tw_592 : Cond.methodLink "GreatEstate$Estate" 83 yX3_copyFrom ∈ TBg := tw_in tk_2 (i := 214) rfl rfl
set_option maxRecDepth 100000 in
theorem tw_593 : Cond.instanceMethod yX3_copyFrom ∈ TBg := tw_in tk_2 (i := 215) rfl rfl
set_option maxRecDepth 100000 in
theorem tw_594 : Cond.selects "GreatEstate$Ledger" yX3_copyFrom yX3_copyFrom ∈ TBg := tw_in tk_2 (i := 216) rfl rfl
set_option maxRecDepth 100000 in
theorem tw_595 : Cond.code yX3_copyFrom prog_5_method_2_code 2 (Option.none : Option Jvm.ClassFile.FieldType) ∈ TBg := tw_in tk_2 (i := 217) rfl rfl
set_option maxRecDepth 100000 in
theorem tw_596 : Cond.methodLink "GreatEstate$Ledger" 46 arraycopyName ∈ TBg := tw_in tk_2 (i := 218) rfl rfl
set_option maxRecDepth 100000 in
theorem tw_597 : Cond.methodLink "GreatEstate$Estate" 86 yX5_copyFrom ∈ TBg := tw_in tk_2 (i := 219) rfl rfl
set_option maxRecDepth 100000 in
theorem tw_598 : Cond.instanceMethod yX5_copyFrom ∈ TBg := tw_in tk_2 (i := 220) rfl rfl
set_option maxRecDepth 100000 in
theorem tw_599 : Cond.selects "GreatEstate$Plan" yX5_copyFrom yX5_copyFrom ∈ TBg := tw_in tk_2 (i := 221) rfl rfl
set_option maxRecDepth 100000 in
theorem tw_600 : Cond.code yX5_copyFrom prog_7_method_2_code 2 (Option.none : Option Jvm.ClassFile.FieldType) ∈ TBg := tw_in tk_2 (i := 222) rfl rfl
set_option maxRecDepth 100000 in
theorem tw_601 : Cond.methodLink "GreatEstate$Plan" 34 arraycopyName ∈ TBg := tw_in tk_2 (i := 223) rfl rfl
set_option maxRecDepth 100000 in
theorem tw_602 : Cond.methodLink "GreatEstate$Estate" 89 yX7_copyFrom ∈ TBg := tw_in tk_2 (i := 224) rfl rfl
set_option maxRecDepth 100000 in
theorem tw_603 : Cond.instanceMethod yX7_copyFrom ∈ TBg := tw_in tk_2 (i := 225) rfl rfl
set_option maxRecDepth 100000 in
theorem tw_604 : Cond.selects "GreatEstate$Rows" yX7_copyFrom yX7_copyFrom ∈ TBg := tw_in tk_2 (i := 226) rfl rfl
set_option maxRecDepth 100000 in
theorem tw_605 : Cond.code yX7_copyFrom prog_9_method_2_code 2 (Option.none : Option Jvm.ClassFile.FieldType) ∈ TBg := tw_in tk_2 (i := 227) rfl rfl
set_option maxRecDepth 100000 in
theorem tw_606 : Cond.methodLink "GreatEstate$Rows" 22 arraycopyName ∈ TBg := tw_in tk_2 (i := 228) rfl rfl
set_option maxRecDepth 100000 in
theorem tw_607 : Cond.methodLink "GreatEstateLaw" 264 yX11_back ∈ TBg := tw_in tk_2 (i := 229) rfl rfl
set_option maxRecDepth 100000 in
theorem tw_608 : Cond.instanceMethod yX11_back ∈ TBg := tw_in tk_2 (i := 230) rfl rfl
set_option maxRecDepth 100000 in
theorem tw_609 : Cond.selects "GreatEstate" yX11_back yX11_back ∈ TBg := tw_in tk_2 (i := 231) rfl rfl
set_option maxRecDepth 100000 in
theorem tw_610 : Cond.code yX11_back prog_1_method_40_code 1 (Option.some Jvm.ClassFile.FieldType.boolean) ∈ TBg := tw_in tk_2 (i := 232) rfl rfl
set_option maxRecDepth 100000 in
theorem tw_611 : Cond.methodLink "GreatEstateLaw" 269 yX11_count ∈ TBg := tw_in tk_2 (i := 233) rfl rfl
set_option maxRecDepth 100000 in
theorem tw_612 : Cond.instanceMethod yX11_count ∈ TBg := tw_in tk_2 (i := 234) rfl rfl
set_option maxRecDepth 100000 in
theorem tw_613 : Cond.selects "GreatEstate" yX11_count yX11_count ∈ TBg := tw_in tk_2 (i := 235) rfl rfl
set_option maxRecDepth 100000 in
theorem tw_614 : Cond.code yX11_count prog_1_method_41_code 2 (Option.some Jvm.ClassFile.FieldType.int) ∈ TBg := tw_in tk_2 (i := 236) rfl rfl
set_option maxRecDepth 100000 in
theorem tw_615 : Cond.methodLink "GreatEstate" 301 yX1_goingOn ∈ TBg := tw_in tk_2 (i := 237) rfl rfl
set_option maxRecDepth 100000 in
theorem tw_616 : Cond.instanceMethod yX1_goingOn ∈ TBg := tw_in tk_2 (i := 238) rfl rfl
set_option maxRecDepth 100000 in
theorem tw_617 : Cond.selects "GreatEstate$Holdings" yX1_goingOn yX1_goingOn ∈ TBg := tw_in tk_2 (i := 239) rfl rfl
set_option maxRecDepth 100000 in
theorem tw_618 : Cond.code yX1_goingOn prog_3_method_13_code 3 (Option.some Jvm.ClassFile.FieldType.int) ∈ TBg := tw_in tk_3 (i := 0) rfl rfl
set_option maxRecDepth 100000 in
theorem tw_619 : Cond.methodLink "GreatEstate$Holdings" 52 yX1_isOver ∈ TBg := tw_in tk_3 (i := 1) rfl rfl
set_option maxRecDepth 100000 in
theorem tw_620 : Cond.instanceMethod yX1_isOver ∈ TBg := tw_in tk_3 (i := 2) rfl rfl
set_option maxRecDepth 100000 in
theorem tw_621 : Cond.selects "GreatEstate$Holdings" yX1_isOver yX1_isOver ∈ TBg := tw_in tk_3 (i := 3) rfl rfl
set_option maxRecDepth 100000 in
theorem tw_622 : Cond.code yX1_isOver prog_3_method_12_code 2 (Option.some Jvm.ClassFile.FieldType.boolean) ∈ TBg := tw_in tk_3 (i := 4) rfl rfl
set_option maxRecDepth 100000 in
theorem tw_623 : Cond.methodLink "GreatEstate" 304 yX1_sumOf ∈ TBg := tw_in tk_3 (i := 5) rfl rfl
set_option maxRecDepth 100000 in
theorem tw_624 : Cond.instanceMethod yX1_sumOf ∈ TBg := tw_in tk_3 (i := 6) rfl rfl
set_option maxRecDepth 100000 in
theorem tw_625 : Cond.selects "GreatEstate$Holdings" yX1_sumOf yX1_sumOf ∈ TBg := tw_in tk_3 (i := 7) rfl rfl
set_option maxRecDepth 100000 in
theorem tw_626 : Cond.code yX1_sumOf prog_3_method_14_code 5 (Option.some Jvm.ClassFile.FieldType.int) ∈ TBg := tw_in tk_3 (i := 8) rfl rfl
set_option maxRecDepth 100000 in
theorem tw_628 : Cond.methodLink "GreatEstate" 307 yX9_linesInForce ∈ TBg := tw_in tk_3 (i := 10) rfl rfl
set_option maxRecDepth 100000 in
theorem tw_629 : Cond.instanceMethod yX9_linesInForce ∈ TBg := tw_in tk_3 (i := 11) rfl rfl
set_option maxRecDepth 100000 in
theorem tw_630 : Cond.selects "GreatEstate$Words" yX9_linesInForce yX9_linesInForce ∈ TBg := tw_in tk_3 (i := 12) rfl rfl
set_option maxRecDepth 100000 in
theorem tw_631 : Cond.code yX9_linesInForce prog_11_method_11_code 6 (Option.some Jvm.ClassFile.FieldType.int) ∈ TBg := tw_in tk_3 (i := 13) rfl rfl
set_option maxRecDepth 100000 in
theorem tw_632 : Cond.methodLink "GreatEstate$Words" 36 yX9_inForce ∈ TBg := tw_in tk_3 (i := 14) rfl rfl
set_option maxRecDepth 100000 in
theorem tw_634 : Cond.instanceMethod yX9_inForce ∈ TBg := tw_in tk_3 (i := 16) rfl rfl
set_option maxRecDepth 100000 in
theorem tw_635 : Cond.code yX9_inForce prog_11_method_5_code 4 (Option.some Jvm.ClassFile.FieldType.int) ∈ TBg := tw_in tk_3 (i := 17) rfl rfl
set_option maxRecDepth 100000 in
theorem tw_636 : Cond.methodLink "GreatEstate$Words" 42 yX9_lastStrike ∈ TBg := tw_in tk_3 (i := 18) rfl rfl
set_option maxRecDepth 100000 in
theorem tw_638 : Cond.instanceMethod yX9_lastStrike ∈ TBg := tw_in tk_3 (i := 20) rfl rfl
set_option maxRecDepth 100000 in
theorem tw_639 : Cond.code yX9_lastStrike prog_11_method_6_code 5 (Option.some Jvm.ClassFile.FieldType.int) ∈ TBg := tw_in tk_3 (i := 21) rfl rfl
set_option maxRecDepth 100000 in
theorem tw_640 : Cond.methodLink "GreatEstate$Words" 28 yX9_textAt ∈ TBg := tw_in tk_3 (i := 22) rfl rfl
set_option maxRecDepth 100000 in
theorem tw_642 : Cond.instanceMethod yX9_textAt ∈ TBg := tw_in tk_3 (i := 24) rfl rfl
set_option maxRecDepth 100000 in
theorem tw_643 : Cond.code yX9_textAt prog_11_method_4_code 2 (Option.some Jvm.ClassFile.FieldType.int) ∈ TBg := tw_in tk_3 (i := 25) rfl rfl
set_option maxRecDepth 100000 in
theorem tw_644 : Cond.methodLink "GreatEstate$Words" 32 yX8_lastOf ∈ TBg := tw_in tk_3 (i := 26) rfl rfl
set_option maxRecDepth 100000 in
theorem tw_645 : Cond.instanceMethod yX8_lastOf ∈ TBg := tw_in tk_3 (i := 27) rfl rfl
set_option maxRecDepth 100000 in
theorem tw_646 : Cond.selects "GreatEstate$Text" yX8_lastOf yX8_lastOf ∈ TBg := tw_in tk_3 (i := 28) rfl rfl
set_option maxRecDepth 100000 in
theorem tw_647 : Cond.code yX8_lastOf prog_10_method_6_code 4 (Option.some Jvm.ClassFile.FieldType.int) ∈ TBg := tw_in tk_3 (i := 29) rfl rfl
set_option maxRecDepth 100000 in
theorem tw_648 : Cond.methodLink "GreatEstate$Text" 19 yX8_get ∈ TBg := tw_in tk_3 (i := 30) rfl rfl
set_option maxRecDepth 100000 in
theorem tw_649 : Cond.instanceMethod yX8_get ∈ TBg := tw_in tk_3 (i := 31) rfl rfl
set_option maxRecDepth 100000 in
theorem tw_650 : Cond.selects "GreatEstate$Text" yX8_get yX8_get ∈ TBg := tw_in tk_3 (i := 32) rfl rfl
set_option maxRecDepth 100000 in
theorem tw_651 : Cond.code yX8_get prog_10_method_3_code 3 (Option.some Jvm.ClassFile.FieldType.int) ∈ TBg := tw_in tk_3 (i := 33) rfl rfl
set_option maxRecDepth 100000 in
theorem tw_652 : Cond.methodLink "GreatEstate$Words" 52 yX9_linesOf ∈ TBg := tw_in tk_3 (i := 34) rfl rfl
set_option maxRecDepth 100000 in
theorem tw_653 : Cond.static yX9_linesOf ∈ TBg := tw_in tk_3 (i := 35) rfl rfl
set_option maxRecDepth 100000 in
theorem tw_654 : Cond.code yX9_linesOf prog_11_method_12_code 4 (Option.some Jvm.ClassFile.FieldType.int) ∈ TBg := tw_in tk_3 (i := 36) rfl rfl
set_option maxRecDepth 100000 in
theorem tw_655 : Cond.methodLink "GreatEstate$Words" 39 yX8_get ∈ TBg := tw_in tk_3 (i := 37) rfl rfl
set_option maxRecDepth 100000 in
theorem tw_656 : Cond.methodLink "GreatEstate" 310 yX2_soldFields ∈ TBg := tw_in tk_3 (i := 38) rfl rfl
set_option maxRecDepth 100000 in
theorem tw_657 : Cond.instanceMethod yX2_soldFields ∈ TBg := tw_in tk_3 (i := 39) rfl rfl
set_option maxRecDepth 100000 in
theorem tw_658 : Cond.selects "GreatEstate$Land" yX2_soldFields yX2_soldFields ∈ TBg := tw_in tk_3 (i := 40) rfl rfl
set_option maxRecDepth 100000 in
theorem tw_659 : Cond.code yX2_soldFields prog_4_method_7_code 3 (Option.some Jvm.ClassFile.FieldType.int) ∈ TBg := tw_in tk_3 (i := 41) rfl rfl
set_option maxRecDepth 100000 in
theorem tw_660 : Cond.methodLink "GreatEstate$Land" 25 yX2_get ∈ TBg := tw_in tk_3 (i := 42) rfl rfl
set_option maxRecDepth 100000 in
theorem tw_661 : Cond.instanceMethod yX2_get ∈ TBg := tw_in tk_3 (i := 43) rfl rfl
set_option maxRecDepth 100000 in
theorem tw_662 : Cond.selects "GreatEstate$Land" yX2_get yX2_get ∈ TBg := tw_in tk_3 (i := 44) rfl rfl
set_option maxRecDepth 100000 in
theorem tw_663 : Cond.code yX2_get prog_4_method_3_code 3 (Option.some Jvm.ClassFile.FieldType.int) ∈ TBg := tw_in tk_3 (i := 45) rfl rfl
set_option maxRecDepth 100000 in
theorem tw_664 : Cond.methodLink "GreatEstate$Land" 21 yX2_isCell ∈ TBg := tw_in tk_3 (i := 46) rfl rfl
set_option maxRecDepth 100000 in
theorem tw_665 : Cond.static yX2_isCell ∈ TBg := tw_in tk_3 (i := 47) rfl rfl
set_option maxRecDepth 100000 in
theorem tw_666 : Cond.code yX2_isCell prog_4_method_5_code 2 (Option.some Jvm.ClassFile.FieldType.boolean) ∈ TBg := tw_in tk_3 (i := 48) rfl rfl
set_option maxRecDepth 100000 in
theorem tw_667 : Cond.methodLink "GreatEstate" 313 yX3_told ∈ TBg := tw_in tk_3 (i := 49) rfl rfl
set_option maxRecDepth 100000 in
theorem tw_668 : Cond.instanceMethod yX3_told ∈ TBg := tw_in tk_3 (i := 50) rfl rfl
set_option maxRecDepth 100000 in
theorem tw_669 : Cond.selects "GreatEstate$Ledger" yX3_told yX3_told ∈ TBg := tw_in tk_3 (i := 51) rfl rfl
set_option maxRecDepth 100000 in
theorem tw_670 : Cond.code yX3_told prog_5_method_13_code 2 (Option.some Jvm.ClassFile.FieldType.int) ∈ TBg := tw_in tk_3 (i := 52) rfl rfl
set_option maxRecDepth 100000 in
theorem tw_671 : Cond.methodLink "GreatEstate$Ledger" 79 yX3_owedInAll ∈ TBg := tw_in tk_3 (i := 53) rfl rfl
set_option maxRecDepth 100000 in
theorem tw_672 : Cond.instanceMethod yX3_owedInAll ∈ TBg := tw_in tk_3 (i := 54) rfl rfl
set_option maxRecDepth 100000 in
theorem tw_673 : Cond.selects "GreatEstate$Ledger" yX3_owedInAll yX3_owedInAll ∈ TBg := tw_in tk_3 (i := 55) rfl rfl
set_option maxRecDepth 100000 in
theorem tw_674 : Cond.code yX3_owedInAll prog_5_method_11_code 3 (Option.some Jvm.ClassFile.FieldType.int) ∈ TBg := tw_in tk_3 (i := 56) rfl rfl
set_option maxRecDepth 100000 in
theorem tw_675 : Cond.methodLink "GreatEstateLaw" 136 yL_field ∈ TBg := tw_in tk_3 (i := 57) rfl rfl
set_option maxRecDepth 100000 in
theorem tw_676 : Cond.static yL_field ∈ TBg := tw_in tk_3 (i := 58) rfl rfl
set_option maxRecDepth 100000 in
theorem tw_677 : Cond.codeWith yL_field method_3_code 9 (Option.some Jvm.ClassFile.FieldType.int) [((0 : Nat), (25 : Nat), (28 : Nat), (13 : Nat)), ((0 : Nat), (25 : Nat), (32 : Nat), (15 : Nat))] ∈ TBg := tw_in tk_3 (i := 59) rfl rfl
set_option maxRecDepth 100000 in
theorem tw_757 : Cond.methodLink "GreatEstateLaw" 7 yX11_field ∈ TBg := tw_in tk_3 (i := 139) rfl rfl
set_option maxRecDepth 100000 in
theorem tw_758 : Cond.instanceMethod yX11_field ∈ TBg := tw_in tk_3 (i := 140) rfl rfl
set_option maxRecDepth 100000 in
theorem tw_759 : Cond.selects "GreatEstate" yX11_field yX11_field ∈ TBg := tw_in tk_3 (i := 141) rfl rfl
set_option maxRecDepth 100000 in
theorem tw_760 : Cond.code yX11_field prog_1_method_4_code 7 (Option.some Jvm.ClassFile.FieldType.boolean) ∈ TBg := tw_in tk_3 (i := 142) rfl rfl
set_option maxRecDepth 100000 in
theorem tw_761 : Cond.methodLink "GreatEstate" 40 yX11_needField ∈ TBg := tw_in tk_3 (i := 143) rfl rfl
set_option maxRecDepth 100000 in
theorem tw_762 : Cond.static yX11_needField ∈ TBg := tw_in tk_3 (i := 144) rfl rfl
set_option maxRecDepth 100000 in
theorem tw_763 : Cond.code yX11_needField prog_1_method_43_code 1 (Option.none : Option Jvm.ClassFile.FieldType) ∈ TBg := tw_in tk_3 (i := 145) rfl rfl
set_option maxRecDepth 100000 in
theorem tw_764 : Cond.methodLink "GreatEstate" 234 yX11_needIndex ∈ TBg := tw_in tk_3 (i := 146) rfl rfl
set_option maxRecDepth 100000 in
theorem tw_765 : Cond.static yX11_needIndex ∈ TBg := tw_in tk_3 (i := 147) rfl rfl
set_option maxRecDepth 100000 in
theorem tw_766 : Cond.code yX11_needIndex prog_1_method_42_code 2 (Option.none : Option Jvm.ClassFile.FieldType) ∈ TBg := tw_in tk_3 (i := 148) rfl rfl
set_option maxRecDepth 100000 in
theorem tw_780 : Cond.methodLink "GreatEstate" 43 yX11_needWithin ∈ TBg := tw_in tk_3 (i := 162) rfl rfl
set_option maxRecDepth 100000 in
theorem tw_781 : Cond.static yX11_needWithin ∈ TBg := tw_in tk_3 (i := 163) rfl rfl
set_option maxRecDepth 100000 in
theorem tw_782 : Cond.code yX11_needWithin prog_1_method_45_code 3 (Option.none : Option Jvm.ClassFile.FieldType) ∈ TBg := tw_in tk_3 (i := 164) rfl rfl
set_option maxRecDepth 100000 in
theorem tw_799 : Cond.methodLink "GreatEstate" 51 yX2_isSold ∈ TBg := tw_in tk_3 (i := 181) rfl rfl
set_option maxRecDepth 100000 in
theorem tw_800 : Cond.instanceMethod yX2_isSold ∈ TBg := tw_in tk_3 (i := 182) rfl rfl
set_option maxRecDepth 100000 in
theorem tw_801 : Cond.selects "GreatEstate$Land" yX2_isSold yX2_isSold ∈ TBg := tw_in tk_3 (i := 183) rfl rfl
set_option maxRecDepth 100000 in
theorem tw_802 : Cond.code yX2_isSold prog_4_method_6_code 2 (Option.some Jvm.ClassFile.FieldType.boolean) ∈ TBg := tw_in tk_3 (i := 184) rfl rfl
set_option maxRecDepth 100000 in
theorem tw_803 : Cond.methodLink "GreatEstate" 57 yX2_set ∈ TBg := tw_in tk_3 (i := 185) rfl rfl
set_option maxRecDepth 100000 in
theorem tw_804 : Cond.instanceMethod yX2_set ∈ TBg := tw_in tk_3 (i := 186) rfl rfl
set_option maxRecDepth 100000 in
theorem tw_805 : Cond.selects "GreatEstate$Land" yX2_set yX2_set ∈ TBg := tw_in tk_3 (i := 187) rfl rfl
set_option maxRecDepth 100000 in
theorem tw_806 : Cond.code yX2_set prog_4_method_4_code 4 (Option.none : Option Jvm.ClassFile.FieldType) ∈ TBg := tw_in tk_3 (i := 188) rfl rfl
set_option maxRecDepth 100000 in
theorem tw_807 : Cond.methodLink "GreatEstateLaw" 146 yL_rain ∈ TBg := tw_in tk_3 (i := 189) rfl rfl
set_option maxRecDepth 100000 in
theorem tw_808 : Cond.static yL_rain ∈ TBg := tw_in tk_3 (i := 190) rfl rfl
set_option maxRecDepth 100000 in
theorem tw_809 : Cond.codeWith yL_rain method_4_code 5 (Option.some Jvm.ClassFile.FieldType.int) [((0 : Nat), (7 : Nat), (10 : Nat), (15 : Nat))] ∈ TBg := tw_in tk_3 (i := 191) rfl rfl
set_option maxRecDepth 100000 in
theorem tw_810 : Cond.methodLink "GreatEstateLaw" 17 yX11_rain ∈ TBg := tw_in tk_3 (i := 192) rfl rfl
set_option maxRecDepth 100000 in
theorem tw_811 : Cond.instanceMethod yX11_rain ∈ TBg := tw_in tk_3 (i := 193) rfl rfl
set_option maxRecDepth 100000 in
theorem tw_812 : Cond.selects "GreatEstate" yX11_rain yX11_rain ∈ TBg := tw_in tk_3 (i := 194) rfl rfl
set_option maxRecDepth 100000 in
theorem tw_813 : Cond.code yX11_rain prog_1_method_5_code 4 (Option.none : Option Jvm.ClassFile.FieldType) ∈ TBg := tw_in tk_3 (i := 195) rfl rfl
set_option maxRecDepth 100000 in
theorem tw_814 : Cond.methodLink "GreatEstate" 66 yX4_setRain ∈ TBg := tw_in tk_3 (i := 196) rfl rfl
set_option maxRecDepth 100000 in
theorem tw_815 : Cond.instanceMethod yX4_setRain ∈ TBg := tw_in tk_3 (i := 197) rfl rfl
set_option maxRecDepth 100000 in
theorem tw_816 : Cond.selects "GreatEstate$Market" yX4_setRain yX4_setRain ∈ TBg := tw_in tk_3 (i := 198) rfl rfl
set_option maxRecDepth 100000 in
theorem tw_817 : Cond.code yX4_setRain prog_6_method_3_code 3 (Option.none : Option Jvm.ClassFile.FieldType) ∈ TBg := tw_in tk_3 (i := 199) rfl rfl
set_option maxRecDepth 100000 in
theorem tw_818 : Cond.methodLink "GreatEstateLaw" 150 yL_fell ∈ TBg := tw_in tk_3 (i := 200) rfl rfl
set_option maxRecDepth 100000 in
theorem tw_819 : Cond.static yL_fell ∈ TBg := tw_in tk_3 (i := 201) rfl rfl
set_option maxRecDepth 100000 in
theorem tw_820 : Cond.codeWith yL_fell method_5_code 4 (Option.some Jvm.ClassFile.FieldType.int) [((0 : Nat), (9 : Nat), (12 : Nat), (15 : Nat))] ∈ TBg := tw_in tk_3 (i := 202) rfl rfl
set_option maxRecDepth 100000 in
theorem tw_821 : Cond.methodLink "GreatEstateLaw" 21 yX11_fell ∈ TBg := tw_in tk_3 (i := 203) rfl rfl
set_option maxRecDepth 100000 in
theorem tw_822 : Cond.instanceMethod yX11_fell ∈ TBg := tw_in tk_3 (i := 204) rfl rfl
set_option maxRecDepth 100000 in
theorem tw_823 : Cond.selects "GreatEstate" yX11_fell yX11_fell ∈ TBg := tw_in tk_3 (i := 205) rfl rfl
set_option maxRecDepth 100000 in
theorem tw_824 : Cond.code yX11_fell prog_1_method_6_code 2 (Option.some Jvm.ClassFile.FieldType.int) ∈ TBg := tw_in tk_3 (i := 206) rfl rfl
set_option maxRecDepth 100000 in
theorem tw_825 : Cond.methodLink "GreatEstate" 70 yX4_rainOf ∈ TBg := tw_in tk_3 (i := 207) rfl rfl
set_option maxRecDepth 100000 in
theorem tw_826 : Cond.instanceMethod yX4_rainOf ∈ TBg := tw_in tk_3 (i := 208) rfl rfl
set_option maxRecDepth 100000 in
theorem tw_827 : Cond.selects "GreatEstate$Market" yX4_rainOf yX4_rainOf ∈ TBg := tw_in tk_3 (i := 209) rfl rfl
set_option maxRecDepth 100000 in
theorem tw_828 : Cond.code yX4_rainOf prog_6_method_4_code 2 (Option.some Jvm.ClassFile.FieldType.int) ∈ TBg := tw_in tk_3 (i := 210) rfl rfl
set_option maxRecDepth 100000 in
theorem tw_829 : Cond.methodLink "GreatEstate$Market" 37 yX4_toldRain ∈ TBg := tw_in tk_3 (i := 211) rfl rfl
set_option maxRecDepth 100000 in
theorem tw_831 : Cond.instanceMethod yX4_toldRain ∈ TBg := tw_in tk_3 (i := 213) rfl rfl
set_option maxRecDepth 100000 in
theorem tw_832 : Cond.code yX4_toldRain prog_6_method_5_code 2 (Option.some Jvm.ClassFile.FieldType.int) ∈ TBg := tw_in tk_3 (i := 214) rfl rfl
set_option maxRecDepth 100000 in
theorem tw_833 : Cond.methodLink "GreatEstateLaw" 154 yL_price ∈ TBg := tw_in tk_3 (i := 215) rfl rfl
set_option maxRecDepth 100000 in
theorem tw_834 : Cond.static yL_price ∈ TBg := tw_in tk_3 (i := 216) rfl rfl
set_option maxRecDepth 100000 in
theorem tw_835 : Cond.codeWith yL_price method_6_code 6 (Option.some Jvm.ClassFile.FieldType.int) [((0 : Nat), (12 : Nat), (15 : Nat), (15 : Nat))] ∈ TBg := tw_in tk_3 (i := 217) rfl rfl
set_option maxRecDepth 100000 in
theorem tw_836 : Cond.methodLink "GreatEstateLaw" 25 yX11_price ∈ TBg := tw_in tk_3 (i := 218) rfl rfl
set_option maxRecDepth 100000 in
theorem tw_837 : Cond.instanceMethod yX11_price ∈ TBg := tw_in tk_3 (i := 219) rfl rfl
set_option maxRecDepth 100000 in
theorem tw_838 : Cond.selects "GreatEstate" yX11_price yX11_price ∈ TBg := tw_in tk_3 (i := 220) rfl rfl
set_option maxRecDepth 100000 in
theorem tw_839 : Cond.code yX11_price prog_1_method_7_code 4 (Option.some Jvm.ClassFile.FieldType.int) ∈ TBg := tw_in tk_3 (i := 221) rfl rfl
set_option maxRecDepth 100000 in
theorem tw_840 : Cond.methodLink "GreatEstate" 77 yX4_tell ∈ TBg := tw_in tk_3 (i := 222) rfl rfl
set_option maxRecDepth 100000 in
theorem tw_841 : Cond.instanceMethod yX4_tell ∈ TBg := tw_in tk_3 (i := 223) rfl rfl
set_option maxRecDepth 100000 in
theorem tw_842 : Cond.selects "GreatEstate$Market" yX4_tell yX4_tell ∈ TBg := tw_in tk_3 (i := 224) rfl rfl
set_option maxRecDepth 100000 in
theorem tw_843 : Cond.code yX4_tell prog_6_method_6_code 5 (Option.some Jvm.ClassFile.FieldType.int) ∈ TBg := tw_in tk_3 (i := 225) rfl rfl
set_option maxRecDepth 100000 in
theorem tw_844 : Cond.methodLink "GreatEstateLaw" 158 yL_known ∈ TBg := tw_in tk_3 (i := 226) rfl rfl
set_option maxRecDepth 100000 in
theorem tw_845 : Cond.static yL_known ∈ TBg := tw_in tk_3 (i := 227) rfl rfl
set_option maxRecDepth 100000 in
theorem tw_846 : Cond.codeWith yL_known method_7_code 6 (Option.some Jvm.ClassFile.FieldType.int) [((0 : Nat), (12 : Nat), (15 : Nat), (15 : Nat))] ∈ TBg := tw_in tk_3 (i := 228) rfl rfl
set_option maxRecDepth 100000 in
theorem tw_847 : Cond.methodLink "GreatEstateLaw" 29 yX11_known ∈ TBg := tw_in tk_3 (i := 229) rfl rfl
set_option maxRecDepth 100000 in
theorem tw_848 : Cond.instanceMethod yX11_known ∈ TBg := tw_in tk_3 (i := 230) rfl rfl
set_option maxRecDepth 100000 in
theorem tw_849 : Cond.selects "GreatEstate" yX11_known yX11_known ∈ TBg := tw_in tk_3 (i := 231) rfl rfl
set_option maxRecDepth 100000 in
theorem tw_850 : Cond.code yX11_known prog_1_method_8_code 4 (Option.some Jvm.ClassFile.FieldType.int) ∈ TBg := tw_in tk_3 (i := 232) rfl rfl
set_option maxRecDepth 100000 in
theorem tw_851 : Cond.methodLink "GreatEstate" 81 yX4_priceAt ∈ TBg := tw_in tk_3 (i := 233) rfl rfl
set_option maxRecDepth 100000 in
theorem tw_852 : Cond.instanceMethod yX4_priceAt ∈ TBg := tw_in tk_3 (i := 234) rfl rfl
set_option maxRecDepth 100000 in
theorem tw_853 : Cond.selects "GreatEstate$Market" yX4_priceAt yX4_priceAt ∈ TBg := tw_in tk_3 (i := 235) rfl rfl
set_option maxRecDepth 100000 in
theorem tw_854 : Cond.code yX4_priceAt prog_6_method_7_code 5 (Option.some Jvm.ClassFile.FieldType.int) ∈ TBg := tw_in tk_3 (i := 236) rfl rfl
set_option maxRecDepth 100000 in
theorem tw_855 : Cond.methodLink "GreatEstateLaw" 161 yL_let ∈ TBg := tw_in tk_3 (i := 237) rfl rfl
set_option maxRecDepth 100000 in
theorem tw_856 : Cond.static yL_let ∈ TBg := tw_in tk_3 (i := 238) rfl rfl
set_option maxRecDepth 100000 in
theorem tw_857 : Cond.codeWith yL_let method_8_code 8 (Option.some Jvm.ClassFile.FieldType.int) [((0 : Nat), (16 : Nat), (19 : Nat), (13 : Nat)), ((0 : Nat), (16 : Nat), (23 : Nat), (15 : Nat))] ∈ TBg := tw_in tk_3 (i := 239) rfl rfl
set_option maxRecDepth 100000 in
theorem tw_858 : Cond.methodLink "GreatEstateLaw" 32 yX11_let ∈ TBg := tw_in tk_4 (i := 0) rfl rfl
set_option maxRecDepth 100000 in
theorem tw_859 : Cond.instanceMethod yX11_let ∈ TBg := tw_in tk_4 (i := 1) rfl rfl
set_option maxRecDepth 100000 in
theorem tw_860 : Cond.selects "GreatEstate" yX11_let yX11_let ∈ TBg := tw_in tk_4 (i := 2) rfl rfl
set_option maxRecDepth 100000 in
theorem tw_861 : Cond.code yX11_let prog_1_method_9_code 8 (Option.some Jvm.ClassFile.FieldType.int) ∈ TBg := tw_in tk_4 (i := 3) rfl rfl
set_option maxRecDepth 100000 in
theorem tw_862 : Cond.methodLink "GreatEstate" 85 yX6_useTape ∈ TBg := tw_in tk_4 (i := 4) rfl rfl
set_option maxRecDepth 100000 in
theorem tw_863 : Cond.instanceMethod yX6_useTape ∈ TBg := tw_in tk_4 (i := 5) rfl rfl
set_option maxRecDepth 100000 in
theorem tw_864 : Cond.selects "GreatEstate$Reader" yX6_useTape yX6_useTape ∈ TBg := tw_in tk_4 (i := 6) rfl rfl
set_option maxRecDepth 100000 in
theorem tw_865 : Cond.code yX6_useTape prog_8_method_3_code 1 (Option.none : Option Jvm.ClassFile.FieldType) ∈ TBg := tw_in tk_4 (i := 7) rfl rfl
set_option maxRecDepth 100000 in
theorem tw_866 : Cond.constant "GreatEstate" 88 (100000) ∈ TBg := tw_in tk_4 (i := 8) rfl rfl
set_option maxRecDepth 100000 in
theorem tw_867 : Cond.methodLink "GreatEstate" 89 yX6_read ∈ TBg := tw_in tk_4 (i := 9) rfl rfl
set_option maxRecDepth 100000 in
theorem tw_868 : Cond.instanceMethod yX6_read ∈ TBg := tw_in tk_4 (i := 10) rfl rfl
set_option maxRecDepth 100000 in
theorem tw_869 : Cond.selects "GreatEstate$Reader" yX6_read yX6_read ∈ TBg := tw_in tk_4 (i := 11) rfl rfl
set_option maxRecDepth 100000 in
theorem tw_870 : Cond.code yX6_read prog_8_method_4_code 3 (Option.some Jvm.ClassFile.FieldType.boolean) ∈ TBg := tw_in tk_4 (i := 12) rfl rfl
set_option maxRecDepth 100000 in
theorem tw_871 : Cond.methodLink "GreatEstate$Reader" 40 yX6_next ∈ TBg := tw_in tk_4 (i := 13) rfl rfl
set_option maxRecDepth 100000 in
theorem tw_873 : Cond.instanceMethod yX6_next ∈ TBg := tw_in tk_4 (i := 15) rfl rfl
set_option maxRecDepth 100000 in
theorem tw_874 : Cond.code yX6_next prog_8_method_24_code 1 (Option.none : Option Jvm.ClassFile.FieldType) ∈ TBg := tw_in tk_4 (i := 16) rfl rfl
set_option maxRecDepth 100000 in
theorem tw_875 : Cond.methodLink "GreatEstate$Reader" 126 yX6_isLetter ∈ TBg := tw_in tk_4 (i := 17) rfl rfl
set_option maxRecDepth 100000 in
theorem tw_876 : Cond.static yX6_isLetter ∈ TBg := tw_in tk_4 (i := 18) rfl rfl
set_option maxRecDepth 100000 in
theorem tw_877 : Cond.code yX6_isLetter prog_8_method_25_code 1 (Option.some Jvm.ClassFile.FieldType.boolean) ∈ TBg := tw_in tk_4 (i := 19) rfl rfl
set_option maxRecDepth 100000 in
theorem tw_878 : Cond.methodLink "GreatEstate$Reader" 129 yX6_wordFrom ∈ TBg := tw_in tk_4 (i := 20) rfl rfl
set_option maxRecDepth 100000 in
theorem tw_880 : Cond.instanceMethod yX6_wordFrom ∈ TBg := tw_in tk_4 (i := 22) rfl rfl
set_option maxRecDepth 100000 in
theorem tw_881 : Cond.code yX6_wordFrom prog_8_method_27_code 7 (Option.some Jvm.ClassFile.FieldType.int) ∈ TBg := tw_in tk_4 (i := 23) rfl rfl
set_option maxRecDepth 100000 in
theorem tw_883 : Cond.methodLink "GreatEstate$Reader" 139 yJ0_length_8abf5 ∈ TBg := tw_in tk_4 (i := 25) rfl rfl
set_option maxRecDepth 100000 in
theorem tw_884 : Cond.instanceMethod yJ0_length_8abf5 ∈ TBg := tw_in tk_4 (i := 26) rfl rfl
set_option maxRecDepth 100000 in
theorem tw_885 : Cond.selects "java/lang/String" yJ0_length_8abf5 yJ0_length_8abf5 ∈ TBg := tw_in tk_4 (i := 27) rfl rfl
set_option maxRecDepth 100000 in
theorem tw_886 : Cond.code yJ0_length_8abf5 prog_23_method_54_code 1 (Option.some Jvm.ClassFile.FieldType.int) ∈ TBg := tw_in tk_4 (i := 28) rfl rfl
set_option maxRecDepth 100000 in
theorem tw_887 : Cond.methodLink "java/lang/String" 335 yJ0_coder_7d493 ∈ TBg := tw_in tk_4 (i := 29) rfl rfl
set_option maxRecDepth 100000 in
theorem tw_888 : Cond.instanceMethod yJ0_coder_7d493 ∈ TBg := tw_in tk_4 (i := 30) rfl rfl
set_option maxRecDepth 100000 in
theorem tw_889 : Cond.selects "java/lang/String" yJ0_coder_7d493 yJ0_coder_7d493 ∈ TBg := tw_in tk_4 (i := 31) rfl rfl
set_option maxRecDepth 100000 in
theorem tw_890 : Cond.code yJ0_coder_7d493 prog_23_method_152_code 1 (Option.some Jvm.ClassFile.FieldType.byte) ∈ TBg := tw_in tk_4 (i := 32) rfl rfl
set_option maxRecDepth 100000 in
theorem tw_891 : Cond.fieldLink "java/lang/String" 38 "java/lang/String" "COMPACT_STRINGS" "Z" ∈ TBg := tw_in tk_4 (i := 33) rfl rfl
set_option maxRecDepth 100000 in
theorem tw_893 : Cond.methodLink "GreatEstate$Reader" 144 yJ0_charAt_5068e ∈ TBg := tw_in tk_4 (i := 35) rfl rfl
set_option maxRecDepth 100000 in
theorem tw_894 : Cond.instanceMethod yJ0_charAt_5068e ∈ TBg := tw_in tk_4 (i := 36) rfl rfl
set_option maxRecDepth 100000 in
theorem tw_895 : Cond.selects "java/lang/String" yJ0_charAt_5068e yJ0_charAt_5068e ∈ TBg := tw_in tk_4 (i := 37) rfl rfl
set_option maxRecDepth 100000 in
theorem tw_896 : Cond.code yJ0_charAt_5068e prog_23_method_56_code 2 (Option.some Jvm.ClassFile.FieldType.char) ∈ TBg := tw_in tk_4 (i := 38) rfl rfl
set_option maxRecDepth 100000 in
theorem tw_897 : Cond.methodLink "java/lang/String" 492 yJ0_isLatin1_aae02 ∈ TBg := tw_in tk_4 (i := 39) rfl rfl
set_option maxRecDepth 100000 in
theorem tw_898 : Cond.instanceMethod yJ0_isLatin1_aae02 ∈ TBg := tw_in tk_4 (i := 40) rfl rfl
set_option maxRecDepth 100000 in
theorem tw_899 : Cond.selects "java/lang/String" yJ0_isLatin1_aae02 yJ0_isLatin1_aae02 ∈ TBg := tw_in tk_4 (i := 41) rfl rfl
set_option maxRecDepth 100000 in
theorem tw_900 : Cond.code yJ0_isLatin1_aae02 prog_23_method_154_code 1 (Option.some Jvm.ClassFile.FieldType.boolean) ∈ TBg := tw_in tk_4 (i := 42) rfl rfl
set_option maxRecDepth 100000 in
theorem tw_901 : Cond.methodLink "java/lang/String" 495 yJ1_charAt_3b067 ∈ TBg := tw_in tk_4 (i := 43) rfl rfl
set_option maxRecDepth 100000 in
theorem tw_902 : Cond.static yJ1_charAt_3b067 ∈ TBg := tw_in tk_4 (i := 44) rfl rfl
set_option maxRecDepth 100000 in
theorem tw_903 : Cond.code yJ1_charAt_3b067 prog_24_method_2_code 2 (Option.some Jvm.ClassFile.FieldType.char) ∈ TBg := tw_in tk_4 (i := 45) rfl rfl
set_option maxRecDepth 100000 in
theorem tw_904 : Cond.methodLink "java/lang/StringLatin1" 9 yJ0_checkIndex_df160 ∈ TBg := tw_in tk_4 (i := 46) rfl rfl
set_option maxRecDepth 100000 in
theorem tw_905 : Cond.static yJ0_checkIndex_df160 ∈ TBg := tw_in tk_4 (i := 47) rfl rfl
set_option maxRecDepth 100000 in
theorem tw_906 : Cond.code yJ0_checkIndex_df160 prog_23_method_155_code 2 (Option.none : Option Jvm.ClassFile.FieldType) ∈ TBg := tw_in tk_4 (i := 48) rfl rfl
set_option maxRecDepth 100000 in
theorem tw_907 : Cond.fieldLink "java/lang/String" 1053 "jdk/internal/util/Preconditions" "SIOOBE_FORMATTER" "Ljava/util/function/BiFunction;" ∈ TBg := tw_in tk_4 (i := 49) rfl rfl
set_option maxRecDepth 100000 in
theorem tw_909 : Cond.methodLink "java/lang/String" 1059 yJ3_checkIndex_8e157 ∈ TBg := tw_in tk_4 (i := 51) rfl rfl
set_option maxRecDepth 100000 in
theorem tw_910 : Cond.static yJ3_checkIndex_8e157 ∈ TBg := tw_in tk_4 (i := 52) rfl rfl
set_option maxRecDepth 100000 in
theorem tw_911 : Cond.code yJ3_checkIndex_8e157 prog_30_method_11_code 3 (Option.some Jvm.ClassFile.FieldType.int) ∈ TBg := tw_in tk_4 (i := 53) rfl rfl
set_option maxRecDepth 100000 in
theorem tw_912 : Cond.methodLink "java/lang/String" 498 yJ2_charAt_3b067 ∈ TBg := tw_in tk_4 (i := 54) rfl rfl
set_option maxRecDepth 100000 in
theorem tw_913 : Cond.static yJ2_charAt_3b067 ∈ TBg := tw_in tk_4 (i := 55) rfl rfl
set_option maxRecDepth 100000 in
theorem tw_914 : Cond.code yJ2_charAt_3b067 prog_25_method_83_code 2 (Option.some Jvm.ClassFile.FieldType.char) ∈ TBg := tw_in tk_4 (i := 56) rfl rfl
set_option maxRecDepth 100000 in
theorem tw_915 : Cond.methodLink "java/lang/StringUTF16" 67 yJ2_checkIndex_2214a ∈ TBg := tw_in tk_4 (i := 57) rfl rfl
set_option maxRecDepth 100000 in
theorem tw_916 : Cond.static yJ2_checkIndex_2214a ∈ TBg := tw_in tk_4 (i := 58) rfl rfl
set_option maxRecDepth 100000 in
theorem tw_917 : Cond.code yJ2_checkIndex_2214a prog_25_method_91_code 2 (Option.none : Option Jvm.ClassFile.FieldType) ∈ TBg := tw_in tk_4 (i := 59) rfl rfl
set_option maxRecDepth 100000 in
theorem tw_918 : Cond.methodLink "java/lang/StringUTF16" 48 yJ2_length_9d52b ∈ TBg := tw_in tk_4 (i := 60) rfl rfl
set_option maxRecDepth 100000 in
theorem tw_919 : Cond.static yJ2_length_9d52b ∈ TBg := tw_in tk_4 (i := 61) rfl rfl
set_option maxRecDepth 100000 in
theorem tw_920 : Cond.code yJ2_length_9d52b prog_25_method_6_code 1 (Option.some Jvm.ClassFile.FieldType.int) ∈ TBg := tw_in tk_4 (i := 62) rfl rfl
set_option maxRecDepth 100000 in
theorem tw_921 : Cond.methodLink "java/lang/StringUTF16" 414 yJ0_checkIndex_df160 ∈ TBg := tw_in tk_4 (i := 63) rfl rfl
set_option maxRecDepth 100000 in
theorem tw_922 : Cond.methodLink "java/lang/StringUTF16" 71 yJ2_getChar_3b067 ∈ TBg := tw_in tk_4 (i := 64) rfl rfl
set_option maxRecDepth 100000 in
theorem tw_923 : Cond.static yJ2_getChar_3b067 ∈ TBg := tw_in tk_4 (i := 65) rfl rfl
set_option maxRecDepth 100000 in
theorem tw_924 : Cond.code yJ2_getChar_3b067 prog_25_method_5_code 2 (Option.some Jvm.ClassFile.FieldType.char) ∈ TBg := tw_in tk_4 (i := 66) rfl rfl
set_option maxRecDepth 100000 in
theorem tw_931 : Cond.methodLink "GreatEstate$Reader" 133 yX6_isDigit ∈ TBg := tw_in tk_4 (i := 73) rfl rfl
set_option maxRecDepth 100000 in
theorem tw_932 : Cond.static yX6_isDigit ∈ TBg := tw_in tk_4 (i := 74) rfl rfl
set_option maxRecDepth 100000 in
theorem tw_933 : Cond.code yX6_isDigit prog_8_method_26_code 1 (Option.some Jvm.ClassFile.FieldType.boolean) ∈ TBg := tw_in tk_4 (i := 75) rfl rfl
set_option maxRecDepth 100000 in
theorem tw_934 : Cond.constant "GreatEstate$Reader" 136 (1000000) ∈ TBg := tw_in tk_4 (i := 76) rfl rfl
set_option maxRecDepth 100000 in
theorem tw_935 : Cond.methodLink "GreatEstate$Reader" 43 yX6_takeLines ∈ TBg := tw_in tk_4 (i := 77) rfl rfl
set_option maxRecDepth 100000 in
theorem tw_937 : Cond.instanceMethod yX6_takeLines ∈ TBg := tw_in tk_4 (i := 79) rfl rfl
set_option maxRecDepth 100000 in
theorem tw_938 : Cond.code yX6_takeLines prog_8_method_6_code 3 (Option.some Jvm.ClassFile.FieldType.boolean) ∈ TBg := tw_in tk_4 (i := 80) rfl rfl
set_option maxRecDepth 100000 in
theorem tw_939 : Cond.methodLink "GreatEstate$Reader" 63 yX6_takeVerb ∈ TBg := tw_in tk_4 (i := 81) rfl rfl
set_option maxRecDepth 100000 in
theorem tw_941 : Cond.instanceMethod yX6_takeVerb ∈ TBg := tw_in tk_4 (i := 83) rfl rfl
set_option maxRecDepth 100000 in
theorem tw_942 : Cond.code yX6_takeVerb prog_8_method_9_code 4 (Option.some Jvm.ClassFile.FieldType.boolean) ∈ TBg := tw_in tk_4 (i := 84) rfl rfl
set_option maxRecDepth 100000 in
theorem tw_943 : Cond.methodLink "GreatEstate$Reader" 73 yX6_write ∈ TBg := tw_in tk_4 (i := 85) rfl rfl
set_option maxRecDepth 100000 in
theorem tw_945 : Cond.instanceMethod yX6_write ∈ TBg := tw_in tk_4 (i := 87) rfl rfl
set_option maxRecDepth 100000 in
theorem tw_946 : Cond.code yX6_write prog_8_method_7_code 3 (Option.none : Option Jvm.ClassFile.FieldType) ∈ TBg := tw_in tk_4 (i := 88) rfl rfl
set_option maxRecDepth 100000 in
theorem tw_947 : Cond.methodLink "GreatEstate$Reader" 66 yX6_takeRestOfLease ∈ TBg := tw_in tk_4 (i := 89) rfl rfl
set_option maxRecDepth 100000 in
theorem tw_949 : Cond.instanceMethod yX6_takeRestOfLease ∈ TBg := tw_in tk_4 (i := 91) rfl rfl
set_option maxRecDepth 100000 in
theorem tw_950 : Cond.code yX6_takeRestOfLease prog_8_method_10_code 1 (Option.some Jvm.ClassFile.FieldType.boolean) ∈ TBg := tw_in tk_4 (i := 92) rfl rfl
set_option maxRecDepth 100000 in
theorem tw_951 : Cond.constant "GreatEstate$Reader" 87 (999999) ∈ TBg := tw_in tk_4 (i := 93) rfl rfl
set_option maxRecDepth 100000 in
theorem tw_952 : Cond.methodLink "GreatEstate$Reader" 88 yX6_takeNumber ∈ TBg := tw_in tk_4 (i := 94) rfl rfl
set_option maxRecDepth 100000 in
theorem tw_954 : Cond.instanceMethod yX6_takeNumber ∈ TBg := tw_in tk_4 (i := 96) rfl rfl
set_option maxRecDepth 100000 in
theorem tw_955 : Cond.code yX6_takeNumber prog_8_method_12_code 2 (Option.some Jvm.ClassFile.FieldType.boolean) ∈ TBg := tw_in tk_4 (i := 97) rfl rfl
set_option maxRecDepth 100000 in
theorem tw_956 : Cond.methodLink "GreatEstate$Reader" 91 yX6_takeWord ∈ TBg := tw_in tk_4 (i := 98) rfl rfl
set_option maxRecDepth 100000 in
theorem tw_958 : Cond.instanceMethod yX6_takeWord ∈ TBg := tw_in tk_4 (i := 100) rfl rfl
set_option maxRecDepth 100000 in
theorem tw_959 : Cond.code yX6_takeWord prog_8_method_15_code 2 (Option.some Jvm.ClassFile.FieldType.boolean) ∈ TBg := tw_in tk_4 (i := 101) rfl rfl
set_option maxRecDepth 100000 in
theorem tw_960 : Cond.methodLink "GreatEstate$Reader" 101 yX6_isWord ∈ TBg := tw_in tk_4 (i := 102) rfl rfl
set_option maxRecDepth 100000 in
theorem tw_962 : Cond.instanceMethod yX6_isWord ∈ TBg := tw_in tk_4 (i := 104) rfl rfl
set_option maxRecDepth 100000 in
theorem tw_963 : Cond.code yX6_isWord prog_8_method_17_code 2 (Option.some Jvm.ClassFile.FieldType.boolean) ∈ TBg := tw_in tk_4 (i := 105) rfl rfl
set_option maxRecDepth 100000 in
theorem tw_964 : Cond.methodLink "GreatEstate$Reader" 94 yX6_takeCrop ∈ TBg := tw_in tk_4 (i := 106) rfl rfl
set_option maxRecDepth 100000 in
theorem tw_966 : Cond.instanceMethod yX6_takeCrop ∈ TBg := tw_in tk_4 (i := 108) rfl rfl
set_option maxRecDepth 100000 in
theorem tw_967 : Cond.code yX6_takeCrop prog_8_method_13_code 3 (Option.some Jvm.ClassFile.FieldType.boolean) ∈ TBg := tw_in tk_4 (i := 109) rfl rfl
set_option maxRecDepth 100000 in
theorem tw_968 : Cond.methodLink "GreatEstate$Reader" 97 yX6_takeOneOf ∈ TBg := tw_in tk_4 (i := 110) rfl rfl
set_option maxRecDepth 100000 in
theorem tw_970 : Cond.instanceMethod yX6_takeOneOf ∈ TBg := tw_in tk_4 (i := 112) rfl rfl
set_option maxRecDepth 100000 in
theorem tw_971 : Cond.code yX6_takeOneOf prog_8_method_14_code 3 (Option.some Jvm.ClassFile.FieldType.boolean) ∈ TBg := tw_in tk_4 (i := 113) rfl rfl
set_option maxRecDepth 100000 in
theorem tw_972 : Cond.methodLink "GreatEstate$Reader" 104 yX6_takeIf ∈ TBg := tw_in tk_4 (i := 114) rfl rfl
set_option maxRecDepth 100000 in
theorem tw_974 : Cond.instanceMethod yX6_takeIf ∈ TBg := tw_in tk_4 (i := 116) rfl rfl
set_option maxRecDepth 100000 in
theorem tw_975 : Cond.code yX6_takeIf prog_8_method_19_code 1 (Option.some Jvm.ClassFile.FieldType.boolean) ∈ TBg := tw_in tk_4 (i := 117) rfl rfl
set_option maxRecDepth 100000 in
theorem tw_976 : Cond.methodLink "GreatEstate$Reader" 110 yX6_takeCondition ∈ TBg := tw_in tk_4 (i := 118) rfl rfl
set_option maxRecDepth 100000 in
theorem tw_978 : Cond.instanceMethod yX6_takeCondition ∈ TBg := tw_in tk_4 (i := 120) rfl rfl
set_option maxRecDepth 100000 in
theorem tw_979 : Cond.code yX6_takeCondition prog_8_method_20_code 3 (Option.some Jvm.ClassFile.FieldType.boolean) ∈ TBg := tw_in tk_4 (i := 121) rfl rfl
set_option maxRecDepth 100000 in
theorem tw_980 : Cond.methodLink "GreatEstate$Reader" 113 yX6_takeAll ∈ TBg := tw_in tk_4 (i := 122) rfl rfl
set_option maxRecDepth 100000 in
theorem tw_982 : Cond.instanceMethod yX6_takeAll ∈ TBg := tw_in tk_4 (i := 124) rfl rfl
set_option maxRecDepth 100000 in
theorem tw_983 : Cond.code yX6_takeAll prog_8_method_21_code 3 (Option.some Jvm.ClassFile.FieldType.boolean) ∈ TBg := tw_in tk_4 (i := 125) rfl rfl
set_option maxRecDepth 100000 in
theorem tw_984 : Cond.methodLink "GreatEstate$Reader" 120 yX6_takeAtom ∈ TBg := tw_in tk_4 (i := 126) rfl rfl
set_option maxRecDepth 100000 in
theorem tw_986 : Cond.instanceMethod yX6_takeAtom ∈ TBg := tw_in tk_4 (i := 128) rfl rfl
set_option maxRecDepth 100000 in
theorem tw_987 : Cond.code yX6_takeAtom prog_8_method_22_code 5 (Option.some Jvm.ClassFile.FieldType.boolean) ∈ TBg := tw_in tk_4 (i := 129) rfl rfl
set_option maxRecDepth 100000 in
theorem tw_988 : Cond.methodLink "GreatEstate$Reader" 107 yX6_isSign ∈ TBg := tw_in tk_4 (i := 130) rfl rfl
set_option maxRecDepth 100000 in
theorem tw_990 : Cond.instanceMethod yX6_isSign ∈ TBg := tw_in tk_4 (i := 132) rfl rfl
set_option maxRecDepth 100000 in
theorem tw_991 : Cond.code yX6_isSign prog_8_method_18_code 2 (Option.some Jvm.ClassFile.FieldType.boolean) ∈ TBg := tw_in tk_4 (i := 133) rfl rfl
set_option maxRecDepth 100000 in
theorem tw_992 : Cond.methodLink "GreatEstate$Reader" 77 yX6_takeSign ∈ TBg := tw_in tk_4 (i := 134) rfl rfl
set_option maxRecDepth 100000 in
theorem tw_994 : Cond.instanceMethod yX6_takeSign ∈ TBg := tw_in tk_4 (i := 136) rfl rfl
set_option maxRecDepth 100000 in
theorem tw_995 : Cond.code yX6_takeSign prog_8_method_16_code 2 (Option.some Jvm.ClassFile.FieldType.boolean) ∈ TBg := tw_in tk_4 (i := 137) rfl rfl
set_option maxRecDepth 100000 in
theorem tw_996 : Cond.methodLink "GreatEstate$Reader" 116 yX6_emit ∈ TBg := tw_in tk_4 (i := 138) rfl rfl
set_option maxRecDepth 100000 in
theorem tw_998 : Cond.instanceMethod yX6_emit ∈ TBg := tw_in tk_4 (i := 140) rfl rfl
set_option maxRecDepth 100000 in
theorem tw_999 : Cond.code yX6_emit prog_8_method_8_code 2 (Option.none : Option Jvm.ClassFile.FieldType) ∈ TBg := tw_in tk_4 (i := 141) rfl rfl
set_option maxRecDepth 100000 in
theorem tw_1000 : Cond.methodLink "GreatEstate$Reader" 123 yX6_takeSum ∈ TBg := tw_in tk_4 (i := 142) rfl rfl
set_option maxRecDepth 100000 in
theorem tw_1002 : Cond.instanceMethod yX6_takeSum ∈ TBg := tw_in tk_4 (i := 144) rfl rfl
set_option maxRecDepth 100000 in
theorem tw_1003 : Cond.code yX6_takeSum prog_8_method_23_code 4 (Option.some Jvm.ClassFile.FieldType.boolean) ∈ TBg := tw_in tk_4 (i := 145) rfl rfl
set_option maxRecDepth 100000 in
theorem tw_1004 : Cond.methodLink "GreatEstate$Reader" 70 yX6_takeRestOfAct ∈ TBg := tw_in tk_4 (i := 146) rfl rfl
set_option maxRecDepth 100000 in
theorem tw_1006 : Cond.instanceMethod yX6_takeRestOfAct ∈ TBg := tw_in tk_4 (i := 148) rfl rfl
set_option maxRecDepth 100000 in
theorem tw_1007 : Cond.code yX6_takeRestOfAct prog_8_method_11_code 1 (Option.some Jvm.ClassFile.FieldType.boolean) ∈ TBg := tw_in tk_4 (i := 149) rfl rfl
set_option maxRecDepth 100000 in
theorem tw_1008 : Cond.methodLink "GreatEstate" 93 yX11_needText ∈ TBg := tw_in tk_4 (i := 150) rfl rfl
set_option maxRecDepth 100000 in
theorem tw_1009 : Cond.static yX11_needText ∈ TBg := tw_in tk_4 (i := 151) rfl rfl
set_option maxRecDepth 100000 in
theorem tw_1010 : Cond.code yX11_needText prog_1_method_46_code 1 (Option.none : Option Jvm.ClassFile.FieldType) ∈ TBg := tw_in tk_4 (i := 152) rfl rfl
set_option maxRecDepth 100000 in
theorem tw_1012 : Cond.methodLink "GreatEstate" 97 yX0_yearsLet ∈ TBg := tw_in tk_4 (i := 154) rfl rfl
set_option maxRecDepth 100000 in
theorem tw_1013 : Cond.instanceMethod yX0_yearsLet ∈ TBg := tw_in tk_4 (i := 155) rfl rfl
set_option maxRecDepth 100000 in
theorem tw_1014 : Cond.selects "GreatEstate$Estate" yX0_yearsLet yX0_yearsLet ∈ TBg := tw_in tk_4 (i := 156) rfl rfl
set_option maxRecDepth 100000 in
theorem tw_1015 : Cond.code yX0_yearsLet prog_2_method_17_code 1 (Option.some Jvm.ClassFile.FieldType.int) ∈ TBg := tw_in tk_4 (i := 157) rfl rfl
set_option maxRecDepth 100000 in
theorem tw_1016 : Cond.methodLink "GreatEstate$Estate" 146 yX0_lastLine ∈ TBg := tw_in tk_4 (i := 158) rfl rfl
set_option maxRecDepth 100000 in
theorem tw_1017 : Cond.instanceMethod yX0_lastLine ∈ TBg := tw_in tk_4 (i := 159) rfl rfl
set_option maxRecDepth 100000 in
theorem tw_1018 : Cond.selects "GreatEstate$Estate" yX0_lastLine yX0_lastLine ∈ TBg := tw_in tk_4 (i := 160) rfl rfl
set_option maxRecDepth 100000 in
theorem tw_1019 : Cond.code yX0_lastLine prog_2_method_16_code 3 (Option.some Jvm.ClassFile.FieldType.int) ∈ TBg := tw_in tk_4 (i := 161) rfl rfl
set_option maxRecDepth 100000 in
theorem tw_1020 : Cond.methodLink "GreatEstate$Estate" 143 yX9_lastLine ∈ TBg := tw_in tk_4 (i := 162) rfl rfl
set_option maxRecDepth 100000 in
theorem tw_1021 : Cond.instanceMethod yX9_lastLine ∈ TBg := tw_in tk_4 (i := 163) rfl rfl
set_option maxRecDepth 100000 in
theorem tw_1022 : Cond.selects "GreatEstate$Words" yX9_lastLine yX9_lastLine ∈ TBg := tw_in tk_4 (i := 164) rfl rfl
set_option maxRecDepth 100000 in
theorem tw_1023 : Cond.code yX9_lastLine prog_11_method_7_code 7 (Option.some Jvm.ClassFile.FieldType.int) ∈ TBg := tw_in tk_4 (i := 165) rfl rfl
set_option maxRecDepth 100000 in
theorem tw_1024 : Cond.methodLink "GreatEstate$Estate" 148 yX9_numberIn ∈ TBg := tw_in tk_4 (i := 166) rfl rfl
set_option maxRecDepth 100000 in
theorem tw_1025 : Cond.instanceMethod yX9_numberIn ∈ TBg := tw_in tk_4 (i := 167) rfl rfl
set_option maxRecDepth 100000 in
theorem tw_1026 : Cond.selects "GreatEstate$Words" yX9_numberIn yX9_numberIn ∈ TBg := tw_in tk_4 (i := 168) rfl rfl
set_option maxRecDepth 100000 in
theorem tw_1027 : Cond.code yX9_numberIn prog_11_method_8_code 3 (Option.some Jvm.ClassFile.FieldType.int) ∈ TBg := tw_in tk_4 (i := 169) rfl rfl
set_option maxRecDepth 100000 in
theorem tw_1028 : Cond.methodLink "GreatEstate" 101 yX0_isFree ∈ TBg := tw_in tk_4 (i := 170) rfl rfl
set_option maxRecDepth 100000 in
theorem tw_1029 : Cond.instanceMethod yX0_isFree ∈ TBg := tw_in tk_4 (i := 171) rfl rfl
set_option maxRecDepth 100000 in
theorem tw_1030 : Cond.selects "GreatEstate$Estate" yX0_isFree yX0_isFree ∈ TBg := tw_in tk_4 (i := 172) rfl rfl
set_option maxRecDepth 100000 in
theorem tw_1031 : Cond.code yX0_isFree prog_2_method_5_code 5 (Option.some Jvm.ClassFile.FieldType.boolean) ∈ TBg := tw_in tk_4 (i := 173) rfl rfl
set_option maxRecDepth 100000 in
theorem tw_1032 : Cond.methodLink "GreatEstate$Estate" 108 yX2_isSold ∈ TBg := tw_in tk_4 (i := 174) rfl rfl
set_option maxRecDepth 100000 in
theorem tw_1033 : Cond.methodLink "GreatEstate$Estate" 96 yX2_get ∈ TBg := tw_in tk_4 (i := 175) rfl rfl
set_option maxRecDepth 100000 in
theorem tw_1034 : Cond.methodLink "GreatEstate$Estate" 112 yX2_isWithin ∈ TBg := tw_in tk_4 (i := 176) rfl rfl
set_option maxRecDepth 100000 in
theorem tw_1035 : Cond.static yX2_isWithin ∈ TBg := tw_in tk_4 (i := 177) rfl rfl
set_option maxRecDepth 100000 in
theorem tw_1036 : Cond.code yX2_isWithin prog_4_method_9_code 3 (Option.some Jvm.ClassFile.FieldType.boolean) ∈ TBg := tw_in tk_4 (i := 178) rfl rfl
set_option maxRecDepth 100000 in
theorem tw_1037 : Cond.methodLink "GreatEstate$Land" 29 yX2_isBetween ∈ TBg := tw_in tk_4 (i := 179) rfl rfl
set_option maxRecDepth 100000 in
theorem tw_1038 : Cond.static yX2_isBetween ∈ TBg := tw_in tk_4 (i := 180) rfl rfl
set_option maxRecDepth 100000 in
theorem tw_1039 : Cond.code yX2_isBetween prog_4_method_10_code 3 (Option.some Jvm.ClassFile.FieldType.boolean) ∈ TBg := tw_in tk_4 (i := 181) rfl rfl
set_option maxRecDepth 100000 in
theorem tw_1040 : Cond.methodLink "GreatEstate$Land" 33 Lib.Math.min.name ∈ TBg := tw_in tk_4 (i := 182) rfl rfl
set_option maxRecDepth 100000 in
theorem tw_1041 : Cond.static Lib.Math.min.name ∈ TBg := tw_in tk_4 (i := 183) rfl rfl
set_option maxRecDepth 100000 in
theorem tw_1042 : Cond.code Lib.Math.min.name Lib.Math.min.code 2 (some .int) ∈ TBg := tw_in tk_4 (i := 184) rfl rfl
set_option maxRecDepth 100000 in
theorem tw_1043 : Cond.methodLink "GreatEstate$Land" 38 Lib.Math.max.name ∈ TBg := tw_in tk_4 (i := 185) rfl rfl
set_option maxRecDepth 100000 in
theorem tw_1044 : Cond.methodLink "GreatEstate" 105 yX0_noteWrong ∈ TBg := tw_in tk_4 (i := 186) rfl rfl
set_option maxRecDepth 100000 in
theorem tw_1045 : Cond.instanceMethod yX0_noteWrong ∈ TBg := tw_in tk_4 (i := 187) rfl rfl
set_option maxRecDepth 100000 in
theorem tw_1046 : Cond.selects "GreatEstate$Estate" yX0_noteWrong yX0_noteWrong ∈ TBg := tw_in tk_4 (i := 188) rfl rfl
set_option maxRecDepth 100000 in
theorem tw_1047 : Cond.code yX0_noteWrong prog_2_method_4_code 3 (Option.none : Option Jvm.ClassFile.FieldType) ∈ TBg := tw_in tk_4 (i := 189) rfl rfl
set_option maxRecDepth 100000 in
theorem tw_1048 : Cond.methodLink "GreatEstate$Estate" 101 yX3_note ∈ TBg := tw_in tk_4 (i := 190) rfl rfl
set_option maxRecDepth 100000 in
theorem tw_1049 : Cond.instanceMethod yX3_note ∈ TBg := tw_in tk_4 (i := 191) rfl rfl
set_option maxRecDepth 100000 in
theorem tw_1050 : Cond.selects "GreatEstate$Ledger" yX3_note yX3_note ∈ TBg := tw_in tk_4 (i := 192) rfl rfl
set_option maxRecDepth 100000 in
theorem tw_1051 : Cond.code yX3_note prog_5_method_8_code 4 (Option.none : Option Jvm.ClassFile.FieldType) ∈ TBg := tw_in tk_4 (i := 193) rfl rfl
set_option maxRecDepth 100000 in
theorem tw_1052 : Cond.methodLink "GreatEstate" 108 yX0_openLease ∈ TBg := tw_in tk_4 (i := 194) rfl rfl
set_option maxRecDepth 100000 in
theorem tw_1053 : Cond.instanceMethod yX0_openLease ∈ TBg := tw_in tk_4 (i := 195) rfl rfl
set_option maxRecDepth 100000 in
theorem tw_1054 : Cond.selects "GreatEstate$Estate" yX0_openLease yX0_openLease ∈ TBg := tw_in tk_4 (i := 196) rfl rfl
set_option maxRecDepth 100000 in
theorem tw_1055 : Cond.code yX0_openLease prog_2_method_6_code 6 (Option.some Jvm.ClassFile.FieldType.int) ∈ TBg := tw_in tk_4 (i := 197) rfl rfl
set_option maxRecDepth 100000 in
theorem tw_1056 : Cond.methodLink "GreatEstate$Estate" 116 yX0_openOn ∈ TBg := tw_in tk_4 (i := 198) rfl rfl
set_option maxRecDepth 100000 in
theorem tw_1058 : Cond.instanceMethod yX0_openOn ∈ TBg := tw_in tk_4 (i := 200) rfl rfl
set_option maxRecDepth 100000 in
theorem tw_1059 : Cond.code yX0_openOn prog_2_method_8_code 6 (Option.some Jvm.ClassFile.FieldType.int) ∈ TBg := tw_in tk_4 (i := 201) rfl rfl
set_option maxRecDepth 100000 in
theorem tw_1060 : Cond.methodLink "GreatEstate$Estate" 123 yX1_open ∈ TBg := tw_in tk_4 (i := 202) rfl rfl
set_option maxRecDepth 100000 in
theorem tw_1061 : Cond.instanceMethod yX1_open ∈ TBg := tw_in tk_4 (i := 203) rfl rfl
set_option maxRecDepth 100000 in
theorem tw_1062 : Cond.selects "GreatEstate$Holdings" yX1_open yX1_open ∈ TBg := tw_in tk_4 (i := 204) rfl rfl
set_option maxRecDepth 100000 in
theorem tw_1063 : Cond.code yX1_open prog_3_method_9_code 3 (Option.some Jvm.ClassFile.FieldType.int) ∈ TBg := tw_in tk_4 (i := 205) rfl rfl
set_option maxRecDepth 100000 in
theorem tw_1064 : Cond.methodLink "GreatEstate$Holdings" 48 yX1_set ∈ TBg := tw_in tk_4 (i := 206) rfl rfl
set_option maxRecDepth 100000 in
theorem tw_1065 : Cond.instanceMethod yX1_set ∈ TBg := tw_in tk_4 (i := 207) rfl rfl
set_option maxRecDepth 100000 in
theorem tw_1066 : Cond.selects "GreatEstate$Holdings" yX1_set yX1_set ∈ TBg := tw_in tk_4 (i := 208) rfl rfl
set_option maxRecDepth 100000 in
theorem tw_1067 : Cond.code yX1_set prog_3_method_6_code 4 (Option.none : Option Jvm.ClassFile.FieldType) ∈ TBg := tw_in tk_4 (i := 209) rfl rfl
set_option maxRecDepth 100000 in
theorem tw_1068 : Cond.methodLink "GreatEstate$Estate" 127 yX2_set ∈ TBg := tw_in tk_4 (i := 210) rfl rfl
set_option maxRecDepth 100000 in
theorem tw_1069 : Cond.methodLink "GreatEstate$Estate" 128 yX1_grow ∈ TBg := tw_in tk_4 (i := 211) rfl rfl
set_option maxRecDepth 100000 in
theorem tw_1070 : Cond.instanceMethod yX1_grow ∈ TBg := tw_in tk_4 (i := 212) rfl rfl
set_option maxRecDepth 100000 in
theorem tw_1071 : Cond.selects "GreatEstate$Holdings" yX1_grow yX1_grow ∈ TBg := tw_in tk_4 (i := 213) rfl rfl
set_option maxRecDepth 100000 in
theorem tw_1072 : Cond.code yX1_grow prog_3_method_8_code 5 (Option.none : Option Jvm.ClassFile.FieldType) ∈ TBg := tw_in tk_4 (i := 214) rfl rfl
set_option maxRecDepth 100000 in
theorem tw_1073 : Cond.methodLink "GreatEstate$Estate" 120 yX1_set ∈ TBg := tw_in tk_4 (i := 215) rfl rfl
set_option maxRecDepth 100000 in
theorem tw_1074 : Cond.methodLink "GreatEstate" 115 yX6_newText ∈ TBg := tw_in tk_4 (i := 216) rfl rfl
set_option maxRecDepth 100000 in
theorem tw_1075 : Cond.instanceMethod yX6_newText ∈ TBg := tw_in tk_4 (i := 217) rfl rfl
set_option maxRecDepth 100000 in
theorem tw_1076 : Cond.selects "GreatEstate$Reader" yX6_newText yX6_newText ∈ TBg := tw_in tk_4 (i := 218) rfl rfl
set_option maxRecDepth 100000 in
theorem tw_1077 : Cond.code yX6_newText prog_8_method_5_code 3 (Option.some (Jvm.ClassFile.FieldType.object "GreatEstate$Text")) ∈ TBg := tw_in tk_4 (i := 219) rfl rfl
set_option maxRecDepth 100000 in
theorem tw_1078 : Cond.classLink "GreatEstate$Reader" 1 "GreatEstate$Text" ∈ TBg := tw_in tk_4 (i := 220) rfl rfl
set_option maxRecDepth 100000 in
theorem tw_1079 : Cond.methodLink "GreatEstate$Reader" 50 yX8_init ∈ TBg := tw_in tk_4 (i := 221) rfl rfl
set_option maxRecDepth 100000 in
theorem tw_1080 : Cond.methodLink "GreatEstate$Reader" 51 arraycopyName ∈ TBg := tw_in tk_4 (i := 222) rfl rfl
set_option maxRecDepth 100000 in
theorem tw_1081 : Cond.methodLink "GreatEstate$Reader" 57 yX8_init_ ∈ TBg := tw_in tk_4 (i := 223) rfl rfl
set_option maxRecDepth 100000 in
theorem tw_1082 : Cond.instanceMethod yX8_init_ ∈ TBg := tw_in tk_4 (i := 224) rfl rfl
set_option maxRecDepth 100000 in
theorem tw_1083 : Cond.code yX8_init_ prog_10_method_2_code 3 (Option.none : Option Jvm.ClassFile.FieldType) ∈ TBg := tw_in tk_4 (i := 225) rfl rfl
set_option maxRecDepth 100000 in
theorem tw_1084 : Cond.methodLink "GreatEstate" 119 yX1_setLease ∈ TBg := tw_in tk_4 (i := 226) rfl rfl
set_option maxRecDepth 100000 in
theorem tw_1085 : Cond.instanceMethod yX1_setLease ∈ TBg := tw_in tk_4 (i := 227) rfl rfl
set_option maxRecDepth 100000 in
theorem tw_1086 : Cond.selects "GreatEstate$Holdings" yX1_setLease yX1_setLease ∈ TBg := tw_in tk_4 (i := 228) rfl rfl
set_option maxRecDepth 100000 in
theorem tw_1087 : Cond.code yX1_setLease prog_3_method_3_code 3 (Option.none : Option Jvm.ClassFile.FieldType) ∈ TBg := tw_in tk_4 (i := 229) rfl rfl
set_option maxRecDepth 100000 in
theorem tw_1088 : Cond.methodLink "GreatEstateLaw" 165 yL_keep ∈ TBg := tw_in tk_4 (i := 230) rfl rfl
set_option maxRecDepth 100000 in
theorem tw_1089 : Cond.static yL_keep ∈ TBg := tw_in tk_4 (i := 231) rfl rfl
set_option maxRecDepth 100000 in
theorem tw_1090 : Cond.codeWith yL_keep method_9_code 8 (Option.some Jvm.ClassFile.FieldType.int) [((0 : Nat), (16 : Nat), (19 : Nat), (13 : Nat)), ((0 : Nat), (16 : Nat), (23 : Nat), (15 : Nat))] ∈ TBg := tw_in tk_4 (i := 232) rfl rfl
set_option maxRecDepth 100000 in
theorem tw_1091 : Cond.methodLink "GreatEstateLaw" 36 yX11_keep ∈ TBg := tw_in tk_4 (i := 233) rfl rfl
set_option maxRecDepth 100000 in
theorem tw_1092 : Cond.instanceMethod yX11_keep ∈ TBg := tw_in tk_4 (i := 234) rfl rfl
set_option maxRecDepth 100000 in
theorem tw_1093 : Cond.selects "GreatEstate" yX11_keep yX11_keep ∈ TBg := tw_in tk_4 (i := 235) rfl rfl
set_option maxRecDepth 100000 in
theorem tw_1094 : Cond.code yX11_keep prog_1_method_10_code 6 (Option.some Jvm.ClassFile.FieldType.int) ∈ TBg := tw_in tk_4 (i := 236) rfl rfl
set_option maxRecDepth 100000 in
theorem tw_1095 : Cond.methodLink "GreatEstate" 125 yX0_openKept ∈ TBg := tw_in tk_4 (i := 237) rfl rfl
set_option maxRecDepth 100000 in
theorem tw_1096 : Cond.instanceMethod yX0_openKept ∈ TBg := tw_in tk_4 (i := 238) rfl rfl
set_option maxRecDepth 100000 in
theorem tw_1097 : Cond.selects "GreatEstate$Estate" yX0_openKept yX0_openKept ∈ TBg := tw_in tk_4 (i := 239) rfl rfl
set_option maxRecDepth 100000 in
theorem tw_1098 : Cond.code yX0_openKept prog_2_method_7_code 7 (Option.some Jvm.ClassFile.FieldType.int) ∈ TBg := tw_in tk_5 (i := 0) rfl rfl
set_option maxRecDepth 100000 in
theorem tw_1099 : Cond.methodLink "GreatEstateLaw" 169 yL_sow ∈ TBg := tw_in tk_5 (i := 1) rfl rfl
set_option maxRecDepth 100000 in
theorem tw_1100 : Cond.static yL_sow ∈ TBg := tw_in tk_5 (i := 2) rfl rfl
set_option maxRecDepth 100000 in
theorem tw_1101 : Cond.codeWith yL_sow method_10_code 5 (Option.some Jvm.ClassFile.FieldType.int) [((0 : Nat), (17 : Nat), (20 : Nat), (13 : Nat)), ((0 : Nat), (17 : Nat), (24 : Nat), (15 : Nat)), ((0 : Nat), (17 : Nat), (28 : Nat), (44 : Nat))] ∈ TBg := tw_in tk_5 (i := 3) rfl rfl
set_option maxRecDepth 100000 in
theorem tw_1104 : Cond.instanceMethod yJx3273f_init_a7421 ∈ TBg := tw_in tk_5 (i := 6) rfl rfl
set_option maxRecDepth 100000 in
theorem tw_1105 : Cond.code yJx3273f_init_a7421 prog_16_method_2_code 2 (Option.none : Option Jvm.ClassFile.FieldType) ∈ TBg := tw_in tk_5 (i := 7) rfl rfl
set_option maxRecDepth 100000 in
theorem tw_1116 : Cond.methodLink "GreatEstateLaw" 40 yX11_sow ∈ TBg := tw_in tk_5 (i := 18) rfl rfl
set_option maxRecDepth 100000 in
theorem tw_1117 : Cond.instanceMethod yX11_sow ∈ TBg := tw_in tk_5 (i := 19) rfl rfl
set_option maxRecDepth 100000 in
theorem tw_1118 : Cond.selects "GreatEstate" yX11_sow yX11_sow ∈ TBg := tw_in tk_5 (i := 20) rfl rfl
set_option maxRecDepth 100000 in
theorem tw_1119 : Cond.code yX11_sow prog_1_method_11_code 4 (Option.some Jvm.ClassFile.FieldType.boolean) ∈ TBg := tw_in tk_5 (i := 21) rfl rfl
set_option maxRecDepth 100000 in
theorem tw_1120 : Cond.methodLink "GreatEstate" 129 yX0_kindAt ∈ TBg := tw_in tk_5 (i := 22) rfl rfl
set_option maxRecDepth 100000 in
theorem tw_1121 : Cond.instanceMethod yX0_kindAt ∈ TBg := tw_in tk_5 (i := 23) rfl rfl
set_option maxRecDepth 100000 in
theorem tw_1122 : Cond.selects "GreatEstate$Estate" yX0_kindAt yX0_kindAt ∈ TBg := tw_in tk_5 (i := 24) rfl rfl
set_option maxRecDepth 100000 in
theorem tw_1123 : Cond.code yX0_kindAt prog_2_method_3_code 3 (Option.some Jvm.ClassFile.FieldType.int) ∈ TBg := tw_in tk_5 (i := 25) rfl rfl
set_option maxRecDepth 100000 in
theorem tw_1124 : Cond.methodLink "GreatEstate$Estate" 100 yX1_get ∈ TBg := tw_in tk_5 (i := 26) rfl rfl
set_option maxRecDepth 100000 in
theorem tw_1125 : Cond.methodLink "GreatEstate" 132 yX1_isHand ∈ TBg := tw_in tk_5 (i := 27) rfl rfl
set_option maxRecDepth 100000 in
theorem tw_1126 : Cond.static yX1_isHand ∈ TBg := tw_in tk_5 (i := 28) rfl rfl
set_option maxRecDepth 100000 in
theorem tw_1127 : Cond.code yX1_isHand prog_3_method_10_code 1 (Option.some Jvm.ClassFile.FieldType.boolean) ∈ TBg := tw_in tk_5 (i := 29) rfl rfl
set_option maxRecDepth 100000 in
theorem tw_1128 : Cond.methodLink "GreatEstate" 135 yX11_needKind ∈ TBg := tw_in tk_5 (i := 30) rfl rfl
set_option maxRecDepth 100000 in
theorem tw_1129 : Cond.static yX11_needKind ∈ TBg := tw_in tk_5 (i := 31) rfl rfl
set_option maxRecDepth 100000 in
theorem tw_1130 : Cond.code yX11_needKind prog_1_method_47_code 1 (Option.none : Option Jvm.ClassFile.FieldType) ∈ TBg := tw_in tk_5 (i := 32) rfl rfl
set_option maxRecDepth 100000 in
theorem tw_1133 : Cond.methodLink "GreatEstate" 334 yJx3273f_init_a7421 ∈ TBg := tw_in tk_5 (i := 35) rfl rfl
set_option maxRecDepth 100000 in
theorem tw_1134 : Cond.methodLink "GreatEstate" 138 yX2_get ∈ TBg := tw_in tk_5 (i := 36) rfl rfl
set_option maxRecDepth 100000 in
theorem tw_1135 : Cond.methodLink "GreatEstateLaw" 173 yL_notice ∈ TBg := tw_in tk_5 (i := 37) rfl rfl
set_option maxRecDepth 100000 in
theorem tw_1136 : Cond.static yL_notice ∈ TBg := tw_in tk_5 (i := 38) rfl rfl
set_option maxRecDepth 100000 in
theorem tw_1137 : Cond.codeWith yL_notice method_11_code 4 (Option.some Jvm.ClassFile.FieldType.int) [((0 : Nat), (16 : Nat), (19 : Nat), (13 : Nat)), ((0 : Nat), (16 : Nat), (22 : Nat), (44 : Nat))] ∈ TBg := tw_in tk_5 (i := 39) rfl rfl
set_option maxRecDepth 100000 in
theorem tw_1138 : Cond.methodLink "GreatEstateLaw" 46 yX11_notice ∈ TBg := tw_in tk_5 (i := 40) rfl rfl
set_option maxRecDepth 100000 in
theorem tw_1139 : Cond.instanceMethod yX11_notice ∈ TBg := tw_in tk_5 (i := 41) rfl rfl
set_option maxRecDepth 100000 in
theorem tw_1140 : Cond.selects "GreatEstate" yX11_notice yX11_notice ∈ TBg := tw_in tk_5 (i := 42) rfl rfl
set_option maxRecDepth 100000 in
theorem tw_1141 : Cond.code yX11_notice prog_1_method_12_code 3 (Option.some Jvm.ClassFile.FieldType.boolean) ∈ TBg := tw_in tk_5 (i := 43) rfl rfl
set_option maxRecDepth 100000 in
theorem tw_1142 : Cond.methodLink "GreatEstate" 142 yX11_needHolding ∈ TBg := tw_in tk_5 (i := 44) rfl rfl
set_option maxRecDepth 100000 in
theorem tw_1144 : Cond.instanceMethod yX11_needHolding ∈ TBg := tw_in tk_5 (i := 46) rfl rfl
set_option maxRecDepth 100000 in
theorem tw_1145 : Cond.code yX11_needHolding prog_1_method_44_code 2 (Option.none : Option Jvm.ClassFile.FieldType) ∈ TBg := tw_in tk_5 (i := 47) rfl rfl
set_option maxRecDepth 100000 in
theorem tw_1146 : Cond.methodLink "GreatEstate" 145 yX1_get ∈ TBg := tw_in tk_5 (i := 48) rfl rfl
set_option maxRecDepth 100000 in
theorem tw_1147 : Cond.methodLink "GreatEstate" 146 yX1_set ∈ TBg := tw_in tk_5 (i := 49) rfl rfl
set_option maxRecDepth 100000 in
theorem tw_1148 : Cond.methodLink "GreatEstateLaw" 176 yL_give ∈ TBg := tw_in tk_5 (i := 50) rfl rfl
set_option maxRecDepth 100000 in
theorem tw_1149 : Cond.static yL_give ∈ TBg := tw_in tk_5 (i := 51) rfl rfl
set_option maxRecDepth 100000 in
theorem tw_1150 : Cond.codeWith yL_give method_12_code 4 (Option.some Jvm.ClassFile.FieldType.int) [((0 : Nat), (9 : Nat), (12 : Nat), (13 : Nat)), ((0 : Nat), (9 : Nat), (15 : Nat), (44 : Nat))] ∈ TBg := tw_in tk_5 (i := 52) rfl rfl
set_option maxRecDepth 100000 in
theorem tw_1151 : Cond.methodLink "GreatEstateLaw" 50 yX11_give ∈ TBg := tw_in tk_5 (i := 53) rfl rfl
set_option maxRecDepth 100000 in
theorem tw_1152 : Cond.instanceMethod yX11_give ∈ TBg := tw_in tk_5 (i := 54) rfl rfl
set_option maxRecDepth 100000 in
theorem tw_1153 : Cond.selects "GreatEstate" yX11_give yX11_give ∈ TBg := tw_in tk_5 (i := 55) rfl rfl
set_option maxRecDepth 100000 in
theorem tw_1154 : Cond.code yX11_give prog_1_method_13_code 3 (Option.some Jvm.ClassFile.FieldType.int) ∈ TBg := tw_in tk_5 (i := 56) rfl rfl
set_option maxRecDepth 100000 in
theorem tw_1155 : Cond.methodLink "GreatEstate" 147 yX1_isLet ∈ TBg := tw_in tk_5 (i := 57) rfl rfl
set_option maxRecDepth 100000 in
theorem tw_1156 : Cond.instanceMethod yX1_isLet ∈ TBg := tw_in tk_5 (i := 58) rfl rfl
set_option maxRecDepth 100000 in
theorem tw_1157 : Cond.selects "GreatEstate$Holdings" yX1_isLet yX1_isLet ∈ TBg := tw_in tk_5 (i := 59) rfl rfl
set_option maxRecDepth 100000 in
theorem tw_1158 : Cond.code yX1_isLet prog_3_method_11_code 2 (Option.some Jvm.ClassFile.FieldType.boolean) ∈ TBg := tw_in tk_5 (i := 60) rfl rfl
set_option maxRecDepth 100000 in
theorem tw_1159 : Cond.methodLink "GreatEstate" 150 yX0_close ∈ TBg := tw_in tk_5 (i := 61) rfl rfl
set_option maxRecDepth 100000 in
theorem tw_1160 : Cond.instanceMethod yX0_close ∈ TBg := tw_in tk_5 (i := 62) rfl rfl
set_option maxRecDepth 100000 in
theorem tw_1161 : Cond.selects "GreatEstate$Estate" yX0_close yX0_close ∈ TBg := tw_in tk_5 (i := 63) rfl rfl
set_option maxRecDepth 100000 in
theorem tw_1162 : Cond.code yX0_close prog_2_method_9_code 3 (Option.none : Option Jvm.ClassFile.FieldType) ∈ TBg := tw_in tk_5 (i := 64) rfl rfl
set_option maxRecDepth 100000 in
theorem tw_1163 : Cond.methodLink "GreatEstateLaw" 179 yL_seasons ∈ TBg := tw_in tk_5 (i := 65) rfl rfl
set_option maxRecDepth 100000 in
theorem tw_1164 : Cond.static yL_seasons ∈ TBg := tw_in tk_5 (i := 66) rfl rfl
set_option maxRecDepth 100000 in
theorem tw_1165 : Cond.codeWith yL_seasons method_13_code 4 (Option.some Jvm.ClassFile.FieldType.int) [((0 : Nat), (9 : Nat), (12 : Nat), (15 : Nat))] ∈ TBg := tw_in tk_5 (i := 67) rfl rfl
set_option maxRecDepth 100000 in
theorem tw_1166 : Cond.methodLink "GreatEstateLaw" 53 yX11_seasons ∈ TBg := tw_in tk_5 (i := 68) rfl rfl
set_option maxRecDepth 100000 in
theorem tw_1167 : Cond.instanceMethod yX11_seasons ∈ TBg := tw_in tk_5 (i := 69) rfl rfl
set_option maxRecDepth 100000 in
theorem tw_1168 : Cond.selects "GreatEstate" yX11_seasons yX11_seasons ∈ TBg := tw_in tk_5 (i := 70) rfl rfl
set_option maxRecDepth 100000 in
theorem tw_1169 : Cond.code yX11_seasons prog_1_method_14_code 3 (Option.some Jvm.ClassFile.FieldType.int) ∈ TBg := tw_in tk_5 (i := 71) rfl rfl
set_option maxRecDepth 100000 in
theorem tw_1170 : Cond.methodLink "GreatEstate" 153 yX10_pass ∈ TBg := tw_in tk_5 (i := 72) rfl rfl
set_option maxRecDepth 100000 in
theorem tw_1171 : Cond.instanceMethod yX10_pass ∈ TBg := tw_in tk_5 (i := 73) rfl rfl
set_option maxRecDepth 100000 in
theorem tw_1172 : Cond.selects "GreatEstate$Year" yX10_pass yX10_pass ∈ TBg := tw_in tk_5 (i := 74) rfl rfl
set_option maxRecDepth 100000 in
theorem tw_1173 : Cond.code yX10_pass prog_12_method_2_code 1 (Option.none : Option Jvm.ClassFile.FieldType) ∈ TBg := tw_in tk_5 (i := 75) rfl rfl
set_option maxRecDepth 100000 in
theorem tw_1174 : Cond.methodLink "GreatEstate$Year" 32 yX0_learnPrices ∈ TBg := tw_in tk_5 (i := 76) rfl rfl
set_option maxRecDepth 100000 in
theorem tw_1175 : Cond.instanceMethod yX0_learnPrices ∈ TBg := tw_in tk_5 (i := 77) rfl rfl
set_option maxRecDepth 100000 in
theorem tw_1176 : Cond.selects "GreatEstate$Estate" yX0_learnPrices yX0_learnPrices ∈ TBg := tw_in tk_5 (i := 78) rfl rfl
set_option maxRecDepth 100000 in
theorem tw_1177 : Cond.code yX0_learnPrices prog_2_method_10_code 1 (Option.none : Option Jvm.ClassFile.FieldType) ∈ TBg := tw_in tk_5 (i := 79) rfl rfl
set_option maxRecDepth 100000 in
theorem tw_1178 : Cond.methodLink "GreatEstate$Estate" 132 yX4_learnPrices ∈ TBg := tw_in tk_5 (i := 80) rfl rfl
set_option maxRecDepth 100000 in
theorem tw_1179 : Cond.instanceMethod yX4_learnPrices ∈ TBg := tw_in tk_5 (i := 81) rfl rfl
set_option maxRecDepth 100000 in
theorem tw_1180 : Cond.selects "GreatEstate$Market" yX4_learnPrices yX4_learnPrices ∈ TBg := tw_in tk_5 (i := 82) rfl rfl
set_option maxRecDepth 100000 in
theorem tw_1181 : Cond.code yX4_learnPrices prog_6_method_8_code 5 (Option.none : Option Jvm.ClassFile.FieldType) ∈ TBg := tw_in tk_5 (i := 83) rfl rfl
set_option maxRecDepth 100000 in
theorem tw_1182 : Cond.methodLink "GreatEstate$Year" 39 yX10_spring ∈ TBg := tw_in tk_5 (i := 84) rfl rfl
set_option maxRecDepth 100000 in
theorem tw_1184 : Cond.instanceMethod yX10_spring ∈ TBg := tw_in tk_5 (i := 86) rfl rfl
set_option maxRecDepth 100000 in
theorem tw_1185 : Cond.code yX10_spring prog_12_method_3_code 3 (Option.none : Option Jvm.ClassFile.FieldType) ∈ TBg := tw_in tk_5 (i := 87) rfl rfl
set_option maxRecDepth 100000 in
theorem tw_1186 : Cond.methodLink "GreatEstate$Year" 73 yX0_kindAt ∈ TBg := tw_in tk_5 (i := 88) rfl rfl
set_option maxRecDepth 100000 in
theorem tw_1187 : Cond.methodLink "GreatEstate$Year" 79 yX2_get ∈ TBg := tw_in tk_5 (i := 89) rfl rfl
set_option maxRecDepth 100000 in
theorem tw_1188 : Cond.methodLink "GreatEstate$Year" 83 yX1_leaseOf ∈ TBg := tw_in tk_5 (i := 90) rfl rfl
set_option maxRecDepth 100000 in
theorem tw_1189 : Cond.instanceMethod yX1_leaseOf ∈ TBg := tw_in tk_5 (i := 91) rfl rfl
set_option maxRecDepth 100000 in
theorem tw_1190 : Cond.selects "GreatEstate$Holdings" yX1_leaseOf yX1_leaseOf ∈ TBg := tw_in tk_5 (i := 92) rfl rfl
set_option maxRecDepth 100000 in
theorem tw_1191 : Cond.code yX1_leaseOf prog_3_method_4_code 3 (Option.some (Jvm.ClassFile.FieldType.object "GreatEstate$Text")) ∈ TBg := tw_in tk_5 (i := 93) rfl rfl
set_option maxRecDepth 100000 in
theorem tw_1192 : Cond.methodLink "GreatEstate$Year" 89 yX10_chosenCrop ∈ TBg := tw_in tk_5 (i := 94) rfl rfl
set_option maxRecDepth 100000 in
theorem tw_1194 : Cond.instanceMethod yX10_chosenCrop ∈ TBg := tw_in tk_5 (i := 96) rfl rfl
set_option maxRecDepth 100000 in
theorem tw_1195 : Cond.code yX10_chosenCrop prog_12_method_4_code 7 (Option.some Jvm.ClassFile.FieldType.int) ∈ TBg := tw_in tk_5 (i := 97) rfl rfl
set_option maxRecDepth 100000 in
theorem tw_1196 : Cond.methodLink "GreatEstate$Year" 101 yX0_priceOf ∈ TBg := tw_in tk_5 (i := 98) rfl rfl
set_option maxRecDepth 100000 in
theorem tw_1197 : Cond.instanceMethod yX0_priceOf ∈ TBg := tw_in tk_5 (i := 99) rfl rfl
set_option maxRecDepth 100000 in
theorem tw_1198 : Cond.selects "GreatEstate$Estate" yX0_priceOf yX0_priceOf ∈ TBg := tw_in tk_5 (i := 100) rfl rfl
set_option maxRecDepth 100000 in
theorem tw_1199 : Cond.code yX0_priceOf prog_2_method_11_code 2 (Option.some Jvm.ClassFile.FieldType.int) ∈ TBg := tw_in tk_5 (i := 101) rfl rfl
set_option maxRecDepth 100000 in
theorem tw_1200 : Cond.methodLink "GreatEstate$Year" 104 yX2_growthOf ∈ TBg := tw_in tk_5 (i := 102) rfl rfl
set_option maxRecDepth 100000 in
theorem tw_1201 : Cond.instanceMethod yX2_growthOf ∈ TBg := tw_in tk_5 (i := 103) rfl rfl
set_option maxRecDepth 100000 in
theorem tw_1202 : Cond.selects "GreatEstate$Land" yX2_growthOf yX2_growthOf ∈ TBg := tw_in tk_5 (i := 104) rfl rfl
set_option maxRecDepth 100000 in
theorem tw_1203 : Cond.code yX2_growthOf prog_4_method_13_code 7 (Option.some Jvm.ClassFile.FieldType.int) ∈ TBg := tw_in tk_5 (i := 105) rfl rfl
set_option maxRecDepth 100000 in
theorem tw_1204 : Cond.fieldLink "GreatEstate$Land" 45 "GreatEstate$Land" "GROWS" "[I" ∈ TBg := tw_in tk_5 (i := 106) rfl rfl
set_option maxRecDepth 100000 in
theorem tw_1206 : Cond.methodLink "GreatEstate$Year" 108 yX10_isBarred ∈ TBg := tw_in tk_5 (i := 108) rfl rfl
set_option maxRecDepth 100000 in
theorem tw_1207 : Cond.static yX10_isBarred ∈ TBg := tw_in tk_5 (i := 109) rfl rfl
set_option maxRecDepth 100000 in
theorem tw_1208 : Cond.code yX10_isBarred prog_12_method_5_code 5 (Option.some Jvm.ClassFile.FieldType.boolean) ∈ TBg := tw_in tk_5 (i := 110) rfl rfl
set_option maxRecDepth 100000 in
theorem tw_1209 : Cond.methodLink "GreatEstate$Year" 117 yX8_get ∈ TBg := tw_in tk_5 (i := 111) rfl rfl
set_option maxRecDepth 100000 in
theorem tw_1210 : Cond.methodLink "GreatEstate$Year" 93 yX2_set ∈ TBg := tw_in tk_5 (i := 112) rfl rfl
set_option maxRecDepth 100000 in
theorem tw_1211 : Cond.methodLink "GreatEstate$Year" 97 yX1_isHand ∈ TBg := tw_in tk_5 (i := 113) rfl rfl
set_option maxRecDepth 100000 in
theorem tw_1212 : Cond.methodLink "GreatEstate$Year" 42 yX10_summer ∈ TBg := tw_in tk_5 (i := 114) rfl rfl
set_option maxRecDepth 100000 in
theorem tw_1214 : Cond.instanceMethod yX10_summer ∈ TBg := tw_in tk_5 (i := 116) rfl rfl
set_option maxRecDepth 100000 in
theorem tw_1215 : Cond.code yX10_summer prog_12_method_6_code 3 (Option.none : Option Jvm.ClassFile.FieldType) ∈ TBg := tw_in tk_5 (i := 117) rfl rfl
set_option maxRecDepth 100000 in
theorem tw_1216 : Cond.methodLink "GreatEstate$Year" 122 yX4_rainOf ∈ TBg := tw_in tk_5 (i := 118) rfl rfl
set_option maxRecDepth 100000 in
theorem tw_1217 : Cond.methodLink "GreatEstate$Year" 127 yX2_harvest ∈ TBg := tw_in tk_5 (i := 119) rfl rfl
set_option maxRecDepth 100000 in
theorem tw_1218 : Cond.instanceMethod yX2_harvest ∈ TBg := tw_in tk_5 (i := 120) rfl rfl
set_option maxRecDepth 100000 in
theorem tw_1219 : Cond.selects "GreatEstate$Land" yX2_harvest yX2_harvest ∈ TBg := tw_in tk_5 (i := 121) rfl rfl
set_option maxRecDepth 100000 in
theorem tw_1220 : Cond.code yX2_harvest prog_4_method_14_code 6 (Option.none : Option Jvm.ClassFile.FieldType) ∈ TBg := tw_in tk_5 (i := 122) rfl rfl
set_option maxRecDepth 100000 in
theorem tw_1221 : Cond.methodLink "GreatEstate$Land" 48 yX2_growthOf ∈ TBg := tw_in tk_5 (i := 123) rfl rfl
set_option maxRecDepth 100000 in
theorem tw_1222 : Cond.methodLink "GreatEstate$Land" 52 yX2_set ∈ TBg := tw_in tk_5 (i := 124) rfl rfl
set_option maxRecDepth 100000 in
theorem tw_1223 : Cond.fieldLink "GreatEstate$Land" 56 "GreatEstate$Land" "WEARS" "[I" ∈ TBg := tw_in tk_5 (i := 125) rfl rfl
set_option maxRecDepth 100000 in
theorem tw_1225 : Cond.methodLink "GreatEstate$Year" 131 yX10_sellHarvest ∈ TBg := tw_in tk_5 (i := 127) rfl rfl
set_option maxRecDepth 100000 in
theorem tw_1227 : Cond.instanceMethod yX10_sellHarvest ∈ TBg := tw_in tk_5 (i := 129) rfl rfl
set_option maxRecDepth 100000 in
theorem tw_1228 : Cond.code yX10_sellHarvest prog_12_method_7_code 4 (Option.none : Option Jvm.ClassFile.FieldType) ∈ TBg := tw_in tk_5 (i := 130) rfl rfl
set_option maxRecDepth 100000 in
theorem tw_1229 : Cond.methodLink "GreatEstate$Year" 144 yX3_addHarvest ∈ TBg := tw_in tk_5 (i := 131) rfl rfl
set_option maxRecDepth 100000 in
theorem tw_1230 : Cond.instanceMethod yX3_addHarvest ∈ TBg := tw_in tk_5 (i := 132) rfl rfl
set_option maxRecDepth 100000 in
theorem tw_1231 : Cond.selects "GreatEstate$Ledger" yX3_addHarvest yX3_addHarvest ∈ TBg := tw_in tk_5 (i := 133) rfl rfl
set_option maxRecDepth 100000 in
theorem tw_1232 : Cond.code yX3_addHarvest prog_5_method_5_code 2 (Option.none : Option Jvm.ClassFile.FieldType) ∈ TBg := tw_in tk_5 (i := 134) rfl rfl
set_option maxRecDepth 100000 in
theorem tw_1233 : Cond.methodLink "GreatEstate$Year" 147 yX1_isLet ∈ TBg := tw_in tk_5 (i := 135) rfl rfl
set_option maxRecDepth 100000 in
theorem tw_1234 : Cond.methodLink "GreatEstate$Year" 150 yX1_grow ∈ TBg := tw_in tk_5 (i := 136) rfl rfl
set_option maxRecDepth 100000 in
theorem tw_1235 : Cond.methodLink "GreatEstate$Year" 154 yX3_addIncome ∈ TBg := tw_in tk_5 (i := 137) rfl rfl
set_option maxRecDepth 100000 in
theorem tw_1236 : Cond.instanceMethod yX3_addIncome ∈ TBg := tw_in tk_5 (i := 138) rfl rfl
set_option maxRecDepth 100000 in
theorem tw_1237 : Cond.selects "GreatEstate$Ledger" yX3_addIncome yX3_addIncome ∈ TBg := tw_in tk_5 (i := 139) rfl rfl
set_option maxRecDepth 100000 in
theorem tw_1238 : Cond.code yX3_addIncome prog_5_method_3_code 3 (Option.none : Option Jvm.ClassFile.FieldType) ∈ TBg := tw_in tk_5 (i := 140) rfl rfl
set_option maxRecDepth 100000 in
theorem tw_1239 : Cond.methodLink "GreatEstate$Year" 138 yX7_add ∈ TBg := tw_in tk_5 (i := 141) rfl rfl
set_option maxRecDepth 100000 in
theorem tw_1240 : Cond.instanceMethod yX7_add ∈ TBg := tw_in tk_5 (i := 142) rfl rfl
set_option maxRecDepth 100000 in
theorem tw_1241 : Cond.selects "GreatEstate$Rows" yX7_add yX7_add ∈ TBg := tw_in tk_5 (i := 143) rfl rfl
set_option maxRecDepth 100000 in
theorem tw_1242 : Cond.code yX7_add prog_9_method_3_code 3 (Option.none : Option Jvm.ClassFile.FieldType) ∈ TBg := tw_in tk_5 (i := 144) rfl rfl
set_option maxRecDepth 100000 in
theorem tw_1243 : Cond.methodLink "GreatEstate$Rows" 30 yX2_get ∈ TBg := tw_in tk_5 (i := 145) rfl rfl
set_option maxRecDepth 100000 in
theorem tw_1244 : Cond.methodLink "GreatEstate$Year" 45 yX10_autumn ∈ TBg := tw_in tk_5 (i := 146) rfl rfl
set_option maxRecDepth 100000 in
theorem tw_1246 : Cond.instanceMethod yX10_autumn ∈ TBg := tw_in tk_5 (i := 148) rfl rfl
set_option maxRecDepth 100000 in
theorem tw_1247 : Cond.code yX10_autumn prog_12_method_8_code 2 (Option.none : Option Jvm.ClassFile.FieldType) ∈ TBg := tw_in tk_5 (i := 149) rfl rfl
set_option maxRecDepth 100000 in
theorem tw_1248 : Cond.methodLink "GreatEstate$Year" 161 yX1_isOver ∈ TBg := tw_in tk_5 (i := 150) rfl rfl
set_option maxRecDepth 100000 in
theorem tw_1249 : Cond.methodLink "GreatEstate$Year" 164 yX10_takeRent ∈ TBg := tw_in tk_5 (i := 151) rfl rfl
set_option maxRecDepth 100000 in
theorem tw_1251 : Cond.instanceMethod yX10_takeRent ∈ TBg := tw_in tk_5 (i := 153) rfl rfl
set_option maxRecDepth 100000 in
theorem tw_1252 : Cond.code yX10_takeRent prog_12_method_10_code 10 (Option.none : Option Jvm.ClassFile.FieldType) ∈ TBg := tw_in tk_5 (i := 154) rfl rfl
set_option maxRecDepth 100000 in
theorem tw_1253 : Cond.methodLink "GreatEstate$Year" 171 yX0_rentOf ∈ TBg := tw_in tk_5 (i := 155) rfl rfl
set_option maxRecDepth 100000 in
theorem tw_1254 : Cond.instanceMethod yX0_rentOf ∈ TBg := tw_in tk_5 (i := 156) rfl rfl
set_option maxRecDepth 100000 in
theorem tw_1255 : Cond.selects "GreatEstate$Estate" yX0_rentOf yX0_rentOf ∈ TBg := tw_in tk_5 (i := 157) rfl rfl
set_option maxRecDepth 100000 in
theorem tw_1256 : Cond.code yX0_rentOf prog_2_method_25_code 6 (Option.some Jvm.ClassFile.FieldType.int) ∈ TBg := tw_in tk_5 (i := 158) rfl rfl
set_option maxRecDepth 100000 in
theorem tw_1257 : Cond.methodLink "GreatEstate$Estate" 180 yX0_learnFactsOfTenant ∈ TBg := tw_in tk_5 (i := 159) rfl rfl
set_option maxRecDepth 100000 in
theorem tw_1258 : Cond.instanceMethod yX0_learnFactsOfTenant ∈ TBg := tw_in tk_5 (i := 160) rfl rfl
set_option maxRecDepth 100000 in
theorem tw_1259 : Cond.selects "GreatEstate$Estate" yX0_learnFactsOfTenant yX0_learnFactsOfTenant ∈ TBg := tw_in tk_5 (i := 161) rfl rfl
set_option maxRecDepth 100000 in
theorem tw_1260 : Cond.code yX0_learnFactsOfTenant prog_2_method_14_code 2 (Option.none : Option Jvm.ClassFile.FieldType) ∈ TBg := tw_in tk_5 (i := 162) rfl rfl
set_option maxRecDepth 100000 in
theorem tw_1261 : Cond.methodLink "GreatEstate$Estate" 139 yX0_learnFacts ∈ TBg := tw_in tk_5 (i := 163) rfl rfl
set_option maxRecDepth 100000 in
theorem tw_1263 : Cond.instanceMethod yX0_learnFacts ∈ TBg := tw_in tk_5 (i := 165) rfl rfl
set_option maxRecDepth 100000 in
theorem tw_1264 : Cond.code yX0_learnFacts prog_2_method_12_code 4 (Option.none : Option Jvm.ClassFile.FieldType) ∈ TBg := tw_in tk_5 (i := 166) rfl rfl
set_option maxRecDepth 100000 in
theorem tw_1265 : Cond.methodLink "GreatEstate$Estate" 183 yX1_leaseOf ∈ TBg := tw_in tk_5 (i := 167) rfl rfl
set_option maxRecDepth 100000 in
theorem tw_1266 : Cond.methodLink "GreatEstate$Estate" 187 yX8_sumHolding ∈ TBg := tw_in tk_5 (i := 168) rfl rfl
set_option maxRecDepth 100000 in
theorem tw_1267 : Cond.instanceMethod yX8_sumHolding ∈ TBg := tw_in tk_5 (i := 169) rfl rfl
set_option maxRecDepth 100000 in
theorem tw_1268 : Cond.selects "GreatEstate$Text" yX8_sumHolding yX8_sumHolding ∈ TBg := tw_in tk_5 (i := 170) rfl rfl
set_option maxRecDepth 100000 in
theorem tw_1269 : Cond.code yX8_sumHolding prog_10_method_8_code 5 (Option.some Jvm.ClassFile.FieldType.int) ∈ TBg := tw_in tk_5 (i := 171) rfl rfl
set_option maxRecDepth 100000 in
theorem tw_1270 : Cond.methodLink "GreatEstate$Text" 27 yX8_holds ∈ TBg := tw_in tk_5 (i := 172) rfl rfl
set_option maxRecDepth 100000 in
theorem tw_1271 : Cond.instanceMethod yX8_holds ∈ TBg := tw_in tk_5 (i := 173) rfl rfl
set_option maxRecDepth 100000 in
theorem tw_1272 : Cond.selects "GreatEstate$Text" yX8_holds yX8_holds ∈ TBg := tw_in tk_5 (i := 174) rfl rfl
set_option maxRecDepth 100000 in
theorem tw_1273 : Cond.code yX8_holds prog_10_method_4_code 6 (Option.some Jvm.ClassFile.FieldType.boolean) ∈ TBg := tw_in tk_5 (i := 175) rfl rfl
set_option maxRecDepth 100000 in
theorem tw_1274 : Cond.methodLink "GreatEstate$Text" 23 yX8_step ∈ TBg := tw_in tk_5 (i := 176) rfl rfl
set_option maxRecDepth 100000 in
theorem tw_1275 : Cond.static yX8_step ∈ TBg := tw_in tk_5 (i := 177) rfl rfl
set_option maxRecDepth 100000 in
theorem tw_1276 : Cond.code yX8_step prog_10_method_5_code 7 (Option.some Jvm.ClassFile.FieldType.int) ∈ TBg := tw_in tk_5 (i := 178) rfl rfl
set_option maxRecDepth 100000 in
theorem tw_1277 : Cond.methodLink "GreatEstate$Estate" 193 yX8_get ∈ TBg := tw_in tk_5 (i := 179) rfl rfl
set_option maxRecDepth 100000 in
theorem tw_1278 : Cond.methodLink "GreatEstate$Estate" 194 yX0_priceOf ∈ TBg := tw_in tk_5 (i := 180) rfl rfl
set_option maxRecDepth 100000 in
theorem tw_1280 : Cond.methodLink "GreatEstate$Year" 174 yX10_harmOfGame ∈ TBg := tw_in tk_5 (i := 182) rfl rfl
set_option maxRecDepth 100000 in
theorem tw_1282 : Cond.instanceMethod yX10_harmOfGame ∈ TBg := tw_in tk_5 (i := 184) rfl rfl
set_option maxRecDepth 100000 in
theorem tw_1283 : Cond.code yX10_harmOfGame prog_12_method_11_code 6 (Option.some Jvm.ClassFile.FieldType.int) ∈ TBg := tw_in tk_5 (i := 185) rfl rfl
set_option maxRecDepth 100000 in
theorem tw_1284 : Cond.methodLink "GreatEstate$Year" 196 yX8_lastOf ∈ TBg := tw_in tk_5 (i := 186) rfl rfl
set_option maxRecDepth 100000 in
theorem tw_1285 : Cond.methodLink "GreatEstate$Year" 177 Lib.Math.max.name ∈ TBg := tw_in tk_5 (i := 187) rfl rfl
set_option maxRecDepth 100000 in
theorem tw_1286 : Cond.methodLink "GreatEstate$Year" 182 yX10_hundredthsPut ∈ TBg := tw_in tk_5 (i := 188) rfl rfl
set_option maxRecDepth 100000 in
theorem tw_1288 : Cond.instanceMethod yX10_hundredthsPut ∈ TBg := tw_in tk_5 (i := 190) rfl rfl
set_option maxRecDepth 100000 in
theorem tw_1289 : Cond.code yX10_hundredthsPut prog_12_method_12_code 5 (Option.some Jvm.ClassFile.FieldType.int) ∈ TBg := tw_in tk_5 (i := 191) rfl rfl
set_option maxRecDepth 100000 in
theorem tw_1290 : Cond.methodLink "GreatEstate$Year" 199 yX0_learnFactsOfTenant ∈ TBg := tw_in tk_5 (i := 192) rfl rfl
set_option maxRecDepth 100000 in
theorem tw_1291 : Cond.methodLink "GreatEstate$Year" 206 yX8_holds ∈ TBg := tw_in tk_5 (i := 193) rfl rfl
set_option maxRecDepth 100000 in
theorem tw_1292 : Cond.methodLink "GreatEstate$Year" 167 yX1_get ∈ TBg := tw_in tk_5 (i := 194) rfl rfl
set_option maxRecDepth 100000 in
theorem tw_1293 : Cond.methodLink "GreatEstate$Year" 185 yX1_set ∈ TBg := tw_in tk_5 (i := 195) rfl rfl
set_option maxRecDepth 100000 in
theorem tw_1294 : Cond.constantLong "GreatEstate$Year" 186 (100) ∈ TBg := tw_in tk_5 (i := 196) rfl rfl
set_option maxRecDepth 100000 in
theorem tw_1295 : Cond.methodLink "GreatEstate$Year" 188 Lib.MathLoose.min_long.x ∈ TBg := tw_in tk_5 (i := 197) rfl rfl
set_option maxRecDepth 100000 in
theorem tw_1297 : Cond.methodLink "GreatEstate$Year" 168 yX10_receive ∈ TBg := tw_in tk_5 (i := 199) rfl rfl
set_option maxRecDepth 100000 in
theorem tw_1299 : Cond.instanceMethod yX10_receive ∈ TBg := tw_in tk_5 (i := 201) rfl rfl
set_option maxRecDepth 100000 in
theorem tw_1300 : Cond.code yX10_receive prog_12_method_9_code 3 (Option.none : Option Jvm.ClassFile.FieldType) ∈ TBg := tw_in tk_5 (i := 202) rfl rfl
set_option maxRecDepth 100000 in
theorem tw_1301 : Cond.methodLink "GreatEstate$Year" 48 yX10_breedGame ∈ TBg := tw_in tk_5 (i := 203) rfl rfl
set_option maxRecDepth 100000 in
theorem tw_1303 : Cond.instanceMethod yX10_breedGame ∈ TBg := tw_in tk_5 (i := 205) rfl rfl
set_option maxRecDepth 100000 in
theorem tw_1304 : Cond.code yX10_breedGame prog_12_method_13_code 3 (Option.none : Option Jvm.ClassFile.FieldType) ∈ TBg := tw_in tk_5 (i := 206) rfl rfl
set_option maxRecDepth 100000 in
theorem tw_1305 : Cond.methodLink "GreatEstate$Year" 210 Lib.Math.min.name ∈ TBg := tw_in tk_5 (i := 207) rfl rfl
set_option maxRecDepth 100000 in
theorem tw_1306 : Cond.methodLink "GreatEstate$Year" 212 yX10_isBesideWood ∈ TBg := tw_in tk_5 (i := 208) rfl rfl
set_option maxRecDepth 100000 in
theorem tw_1308 : Cond.instanceMethod yX10_isBesideWood ∈ TBg := tw_in tk_5 (i := 210) rfl rfl
set_option maxRecDepth 100000 in
theorem tw_1309 : Cond.code yX10_isBesideWood prog_12_method_14_code 4 (Option.some Jvm.ClassFile.FieldType.boolean) ∈ TBg := tw_in tk_5 (i := 211) rfl rfl
set_option maxRecDepth 100000 in
theorem tw_1310 : Cond.methodLink "GreatEstate$Year" 218 yX2_beside ∈ TBg := tw_in tk_5 (i := 212) rfl rfl
set_option maxRecDepth 100000 in
theorem tw_1311 : Cond.static yX2_beside ∈ TBg := tw_in tk_5 (i := 213) rfl rfl
set_option maxRecDepth 100000 in
theorem tw_1312 : Cond.code yX2_beside prog_4_method_8_code 4 (Option.some Jvm.ClassFile.FieldType.int) ∈ TBg := tw_in tk_5 (i := 214) rfl rfl
set_option maxRecDepth 100000 in
theorem tw_1313 : Cond.methodLink "GreatEstate$Year" 215 yX2_isSold ∈ TBg := tw_in tk_5 (i := 215) rfl rfl
set_option maxRecDepth 100000 in
theorem tw_1314 : Cond.methodLink "GreatEstate$Year" 51 yX10_growOlder ∈ TBg := tw_in tk_5 (i := 216) rfl rfl
set_option maxRecDepth 100000 in
theorem tw_1316 : Cond.instanceMethod yX10_growOlder ∈ TBg := tw_in tk_5 (i := 218) rfl rfl
set_option maxRecDepth 100000 in
theorem tw_1317 : Cond.code yX10_growOlder prog_12_method_15_code 3 (Option.none : Option Jvm.ClassFile.FieldType) ∈ TBg := tw_in tk_5 (i := 219) rfl rfl
set_option maxRecDepth 100000 in
theorem tw_1318 : Cond.methodLink "GreatEstate$Year" 54 yX10_digMines ∈ TBg := tw_in tk_5 (i := 220) rfl rfl
set_option maxRecDepth 100000 in
theorem tw_1320 : Cond.instanceMethod yX10_digMines ∈ TBg := tw_in tk_5 (i := 222) rfl rfl
set_option maxRecDepth 100000 in
theorem tw_1321 : Cond.code yX10_digMines prog_12_method_16_code 2 (Option.none : Option Jvm.ClassFile.FieldType) ∈ TBg := tw_in tk_5 (i := 223) rfl rfl
set_option maxRecDepth 100000 in
theorem tw_1322 : Cond.methodLink "GreatEstate$Year" 221 yX10_dig ∈ TBg := tw_in tk_5 (i := 224) rfl rfl
set_option maxRecDepth 100000 in
theorem tw_1324 : Cond.instanceMethod yX10_dig ∈ TBg := tw_in tk_5 (i := 226) rfl rfl
set_option maxRecDepth 100000 in
theorem tw_1325 : Cond.code yX10_dig prog_12_method_17_code 7 (Option.none : Option Jvm.ClassFile.FieldType) ∈ TBg := tw_in tk_5 (i := 227) rfl rfl
set_option maxRecDepth 100000 in
theorem tw_1326 : Cond.methodLink "GreatEstate$Year" 224 yX0_takeIn ∈ TBg := tw_in tk_5 (i := 228) rfl rfl
set_option maxRecDepth 100000 in
theorem tw_1327 : Cond.instanceMethod yX0_takeIn ∈ TBg := tw_in tk_5 (i := 229) rfl rfl
set_option maxRecDepth 100000 in
theorem tw_1328 : Cond.selects "GreatEstate$Estate" yX0_takeIn yX0_takeIn ∈ TBg := tw_in tk_5 (i := 230) rfl rfl
set_option maxRecDepth 100000 in
theorem tw_1329 : Cond.code yX0_takeIn prog_2_method_23_code 5 (Option.none : Option Jvm.ClassFile.FieldType) ∈ TBg := tw_in tk_5 (i := 231) rfl rfl
set_option maxRecDepth 100000 in
theorem tw_1330 : Cond.constantLong "GreatEstate$Estate" 165 (100) ∈ TBg := tw_in tk_5 (i := 232) rfl rfl
set_option maxRecDepth 100000 in
theorem tw_1331 : Cond.methodLink "GreatEstate$Estate" 167 yX3_addCapital ∈ TBg := tw_in tk_5 (i := 233) rfl rfl
set_option maxRecDepth 100000 in
theorem tw_1332 : Cond.instanceMethod yX3_addCapital ∈ TBg := tw_in tk_5 (i := 234) rfl rfl
set_option maxRecDepth 100000 in
theorem tw_1333 : Cond.selects "GreatEstate$Ledger" yX3_addCapital yX3_addCapital ∈ TBg := tw_in tk_5 (i := 235) rfl rfl
set_option maxRecDepth 100000 in
theorem tw_1334 : Cond.code yX3_addCapital prog_5_method_4_code 3 (Option.none : Option Jvm.ClassFile.FieldType) ∈ TBg := tw_in tk_5 (i := 236) rfl rfl
set_option maxRecDepth 100000 in
theorem tw_1335 : Cond.methodLink "GreatEstate$Estate" 171 yX3_addIncome ∈ TBg := tw_in tk_5 (i := 237) rfl rfl
set_option maxRecDepth 100000 in
theorem tw_1336 : Cond.methodLink "GreatEstate$Year" 227 yX10_sink ∈ TBg := tw_in tk_5 (i := 238) rfl rfl
set_option maxRecDepth 100000 in
theorem tw_1338 : Cond.instanceMethod yX10_sink ∈ TBg := tw_in tk_6 (i := 0) rfl rfl
set_option maxRecDepth 100000 in
theorem tw_1339 : Cond.code yX10_sink prog_12_method_18_code 5 (Option.none : Option Jvm.ClassFile.FieldType) ∈ TBg := tw_in tk_6 (i := 1) rfl rfl
set_option maxRecDepth 100000 in
theorem tw_1340 : Cond.methodLink "GreatEstate$Year" 57 yX3_payLoans ∈ TBg := tw_in tk_6 (i := 2) rfl rfl
set_option maxRecDepth 100000 in
theorem tw_1341 : Cond.instanceMethod yX3_payLoans ∈ TBg := tw_in tk_6 (i := 3) rfl rfl
set_option maxRecDepth 100000 in
theorem tw_1342 : Cond.selects "GreatEstate$Ledger" yX3_payLoans yX3_payLoans ∈ TBg := tw_in tk_6 (i := 4) rfl rfl
set_option maxRecDepth 100000 in
theorem tw_1343 : Cond.code yX3_payLoans prog_5_method_12_code 5 (Option.none : Option Jvm.ClassFile.FieldType) ∈ TBg := tw_in tk_6 (i := 5) rfl rfl
set_option maxRecDepth 100000 in
theorem tw_1344 : Cond.constantLong "GreatEstate$Ledger" 72 (9999) ∈ TBg := tw_in tk_6 (i := 6) rfl rfl
set_option maxRecDepth 100000 in
theorem tw_1345 : Cond.constantLong "GreatEstate$Ledger" 74 (10000) ∈ TBg := tw_in tk_6 (i := 7) rfl rfl
set_option maxRecDepth 100000 in
theorem tw_1346 : Cond.methodLink "GreatEstate$Ledger" 76 Lib.Math.min.name ∈ TBg := tw_in tk_6 (i := 8) rfl rfl
set_option maxRecDepth 100000 in
theorem tw_1347 : Cond.methodLink "GreatEstate$Ledger" 59 yX3_addIncome ∈ TBg := tw_in tk_6 (i := 9) rfl rfl
set_option maxRecDepth 100000 in
theorem tw_1348 : Cond.methodLink "GreatEstate$Year" 62 yX0_chargesNow ∈ TBg := tw_in tk_6 (i := 10) rfl rfl
set_option maxRecDepth 100000 in
theorem tw_1349 : Cond.instanceMethod yX0_chargesNow ∈ TBg := tw_in tk_6 (i := 11) rfl rfl
set_option maxRecDepth 100000 in
theorem tw_1350 : Cond.selects "GreatEstate$Estate" yX0_chargesNow yX0_chargesNow ∈ TBg := tw_in tk_6 (i := 12) rfl rfl
set_option maxRecDepth 100000 in
theorem tw_1351 : Cond.code yX0_chargesNow prog_2_method_22_code 1 (Option.some Jvm.ClassFile.FieldType.int) ∈ TBg := tw_in tk_6 (i := 13) rfl rfl
set_option maxRecDepth 100000 in
theorem tw_1352 : Cond.methodLink "GreatEstate$Estate" 151 yX0_learnFactsOfEstate ∈ TBg := tw_in tk_6 (i := 14) rfl rfl
set_option maxRecDepth 100000 in
theorem tw_1354 : Cond.instanceMethod yX0_learnFactsOfEstate ∈ TBg := tw_in tk_6 (i := 16) rfl rfl
set_option maxRecDepth 100000 in
theorem tw_1355 : Cond.code yX0_learnFactsOfEstate prog_2_method_13_code 1 (Option.none : Option Jvm.ClassFile.FieldType) ∈ TBg := tw_in tk_6 (i := 17) rfl rfl
set_option maxRecDepth 100000 in
theorem tw_1356 : Cond.methodLink "GreatEstate$Estate" 162 yX9_sumHolding ∈ TBg := tw_in tk_6 (i := 18) rfl rfl
set_option maxRecDepth 100000 in
theorem tw_1357 : Cond.instanceMethod yX9_sumHolding ∈ TBg := tw_in tk_6 (i := 19) rfl rfl
set_option maxRecDepth 100000 in
theorem tw_1358 : Cond.selects "GreatEstate$Words" yX9_sumHolding yX9_sumHolding ∈ TBg := tw_in tk_6 (i := 20) rfl rfl
set_option maxRecDepth 100000 in
theorem tw_1359 : Cond.code yX9_sumHolding prog_11_method_10_code 8 (Option.some Jvm.ClassFile.FieldType.int) ∈ TBg := tw_in tk_6 (i := 21) rfl rfl
set_option maxRecDepth 100000 in
theorem tw_1360 : Cond.methodLink "GreatEstate$Words" 49 yX8_sumHolding ∈ TBg := tw_in tk_6 (i := 22) rfl rfl
set_option maxRecDepth 100000 in
theorem tw_1361 : Cond.methodLink "GreatEstate$Year" 66 yX3_payCharges ∈ TBg := tw_in tk_6 (i := 23) rfl rfl
set_option maxRecDepth 100000 in
theorem tw_1362 : Cond.instanceMethod yX3_payCharges ∈ TBg := tw_in tk_6 (i := 24) rfl rfl
set_option maxRecDepth 100000 in
theorem tw_1363 : Cond.selects "GreatEstate$Ledger" yX3_payCharges yX3_payCharges ∈ TBg := tw_in tk_6 (i := 25) rfl rfl
set_option maxRecDepth 100000 in
theorem tw_1364 : Cond.code yX3_payCharges prog_5_method_6_code 2 (Option.none : Option Jvm.ClassFile.FieldType) ∈ TBg := tw_in tk_6 (i := 26) rfl rfl
set_option maxRecDepth 100000 in
theorem tw_1365 : Cond.methodLink "GreatEstate$Year" 70 yX10_endLeases ∈ TBg := tw_in tk_6 (i := 27) rfl rfl
set_option maxRecDepth 100000 in
theorem tw_1367 : Cond.instanceMethod yX10_endLeases ∈ TBg := tw_in tk_6 (i := 29) rfl rfl
set_option maxRecDepth 100000 in
theorem tw_1368 : Cond.code yX10_endLeases prog_12_method_19_code 2 (Option.none : Option Jvm.ClassFile.FieldType) ∈ TBg := tw_in tk_6 (i := 30) rfl rfl
set_option maxRecDepth 100000 in
theorem tw_1369 : Cond.methodLink "GreatEstate$Year" 230 yX10_isAtItsEnd ∈ TBg := tw_in tk_6 (i := 31) rfl rfl
set_option maxRecDepth 100000 in
theorem tw_1371 : Cond.instanceMethod yX10_isAtItsEnd ∈ TBg := tw_in tk_6 (i := 33) rfl rfl
set_option maxRecDepth 100000 in
theorem tw_1372 : Cond.code yX10_isAtItsEnd prog_12_method_20_code 3 (Option.some Jvm.ClassFile.FieldType.boolean) ∈ TBg := tw_in tk_6 (i := 34) rfl rfl
set_option maxRecDepth 100000 in
theorem tw_1373 : Cond.methodLink "GreatEstate$Year" 233 yX10_goOut ∈ TBg := tw_in tk_6 (i := 35) rfl rfl
set_option maxRecDepth 100000 in
theorem tw_1375 : Cond.instanceMethod yX10_goOut ∈ TBg := tw_in tk_6 (i := 37) rfl rfl
set_option maxRecDepth 100000 in
theorem tw_1376 : Cond.code yX10_goOut prog_12_method_21_code 5 (Option.none : Option Jvm.ClassFile.FieldType) ∈ TBg := tw_in tk_6 (i := 38) rfl rfl
set_option maxRecDepth 100000 in
theorem tw_1377 : Cond.methodLink "GreatEstate$Year" 236 yX0_owedTo ∈ TBg := tw_in tk_6 (i := 39) rfl rfl
set_option maxRecDepth 100000 in
theorem tw_1378 : Cond.instanceMethod yX0_owedTo ∈ TBg := tw_in tk_6 (i := 40) rfl rfl
set_option maxRecDepth 100000 in
theorem tw_1379 : Cond.selects "GreatEstate$Estate" yX0_owedTo yX0_owedTo ∈ TBg := tw_in tk_6 (i := 41) rfl rfl
set_option maxRecDepth 100000 in
theorem tw_1380 : Cond.code yX0_owedTo prog_2_method_26_code 6 (Option.some Jvm.ClassFile.FieldType.int) ∈ TBg := tw_in tk_6 (i := 42) rfl rfl
set_option maxRecDepth 100000 in
theorem tw_1381 : Cond.methodLink "GreatEstate$Estate" 154 yX0_learnFactsOfField ∈ TBg := tw_in tk_6 (i := 43) rfl rfl
set_option maxRecDepth 100000 in
theorem tw_1383 : Cond.instanceMethod yX0_learnFactsOfField ∈ TBg := tw_in tk_6 (i := 45) rfl rfl
set_option maxRecDepth 100000 in
theorem tw_1384 : Cond.code yX0_learnFactsOfField prog_2_method_15_code 2 (Option.none : Option Jvm.ClassFile.FieldType) ∈ TBg := tw_in tk_6 (i := 46) rfl rfl
set_option maxRecDepth 100000 in
theorem tw_1385 : Cond.methodLink "GreatEstate$Estate" 201 yX0_leftOn ∈ TBg := tw_in tk_6 (i := 47) rfl rfl
set_option maxRecDepth 100000 in
theorem tw_1387 : Cond.instanceMethod yX0_leftOn ∈ TBg := tw_in tk_6 (i := 49) rfl rfl
set_option maxRecDepth 100000 in
theorem tw_1388 : Cond.code yX0_leftOn prog_2_method_27_code 7 (Option.some Jvm.ClassFile.FieldType.long) ∈ TBg := tw_in tk_6 (i := 50) rfl rfl
set_option maxRecDepth 100000 in
theorem tw_1389 : Cond.methodLink "GreatEstate$Estate" 205 Lib.Math.max.name ∈ TBg := tw_in tk_6 (i := 51) rfl rfl
set_option maxRecDepth 100000 in
theorem tw_1390 : Cond.methodLink "GreatEstate$Year" 239 Lib.MathLoose.max_long.x ∈ TBg := tw_in tk_6 (i := 52) rfl rfl
set_option maxRecDepth 100000 in
theorem tw_1391 : Cond.methodLink "GreatEstate$Year" 241 yX0_close ∈ TBg := tw_in tk_6 (i := 53) rfl rfl
set_option maxRecDepth 100000 in
theorem tw_1392 : Cond.methodLink "GreatEstateLaw" 182 yL_look ∈ TBg := tw_in tk_6 (i := 54) rfl rfl
set_option maxRecDepth 100000 in
theorem tw_1393 : Cond.static yL_look ∈ TBg := tw_in tk_6 (i := 55) rfl rfl
set_option maxRecDepth 100000 in
theorem tw_1394 : Cond.codeWith yL_look method_14_code 5 (Option.some Jvm.ClassFile.FieldType.int) [((0 : Nat), (10 : Nat), (13 : Nat), (13 : Nat)), ((0 : Nat), (10 : Nat), (17 : Nat), (60 : Nat))] ∈ TBg := tw_in tk_6 (i := 56) rfl rfl
set_option maxRecDepth 100000 in
theorem tw_1396 : Cond.methodLink "GreatEstateLaw" 56 yX11_look ∈ TBg := tw_in tk_6 (i := 58) rfl rfl
set_option maxRecDepth 100000 in
theorem tw_1397 : Cond.instanceMethod yX11_look ∈ TBg := tw_in tk_6 (i := 59) rfl rfl
set_option maxRecDepth 100000 in
theorem tw_1398 : Cond.selects "GreatEstate" yX11_look yX11_look ∈ TBg := tw_in tk_6 (i := 60) rfl rfl
set_option maxRecDepth 100000 in
theorem tw_1399 : Cond.code yX11_look prog_1_method_15_code 3 (Option.some Jvm.ClassFile.FieldType.int) ∈ TBg := tw_in tk_6 (i := 61) rfl rfl
set_option maxRecDepth 100000 in
theorem tw_1400 : Cond.methodLink "GreatEstate" 156 yX11_needKnown ∈ TBg := tw_in tk_6 (i := 62) rfl rfl
set_option maxRecDepth 100000 in
theorem tw_1401 : Cond.static yX11_needKnown ∈ TBg := tw_in tk_6 (i := 63) rfl rfl
set_option maxRecDepth 100000 in
theorem tw_1402 : Cond.code yX11_needKnown prog_1_method_48_code 1 (Option.none : Option Jvm.ClassFile.FieldType) ∈ TBg := tw_in tk_6 (i := 64) rfl rfl
set_option maxRecDepth 100000 in
theorem tw_1418 : Cond.methodLink "GreatEstate" 159 yX2_worthOf ∈ TBg := tw_in tk_6 (i := 80) rfl rfl
set_option maxRecDepth 100000 in
theorem tw_1419 : Cond.instanceMethod yX2_worthOf ∈ TBg := tw_in tk_6 (i := 81) rfl rfl
set_option maxRecDepth 100000 in
theorem tw_1420 : Cond.selects "GreatEstate$Land" yX2_worthOf yX2_worthOf ∈ TBg := tw_in tk_6 (i := 82) rfl rfl
set_option maxRecDepth 100000 in
theorem tw_1421 : Cond.code yX2_worthOf prog_4_method_12_code 4 (Option.some Jvm.ClassFile.FieldType.int) ∈ TBg := tw_in tk_6 (i := 83) rfl rfl
set_option maxRecDepth 100000 in
theorem tw_1422 : Cond.methodLink "GreatEstate$Land" 41 yX2_timberOf ∈ TBg := tw_in tk_6 (i := 84) rfl rfl
set_option maxRecDepth 100000 in
theorem tw_1423 : Cond.instanceMethod yX2_timberOf ∈ TBg := tw_in tk_6 (i := 85) rfl rfl
set_option maxRecDepth 100000 in
theorem tw_1424 : Cond.selects "GreatEstate$Land" yX2_timberOf yX2_timberOf ∈ TBg := tw_in tk_6 (i := 86) rfl rfl
set_option maxRecDepth 100000 in
theorem tw_1425 : Cond.code yX2_timberOf prog_4_method_11_code 2 (Option.some Jvm.ClassFile.FieldType.int) ∈ TBg := tw_in tk_6 (i := 87) rfl rfl
set_option maxRecDepth 100000 in
theorem tw_1426 : Cond.methodLink "GreatEstateLaw" 185 yL_led ∈ TBg := tw_in tk_6 (i := 88) rfl rfl
set_option maxRecDepth 100000 in
theorem tw_1427 : Cond.static yL_led ∈ TBg := tw_in tk_6 (i := 89) rfl rfl
set_option maxRecDepth 100000 in
theorem tw_1428 : Cond.codeWith yL_led method_15_code 5 (Option.some Jvm.ClassFile.FieldType.int) [((0 : Nat), (10 : Nat), (13 : Nat), (13 : Nat)), ((0 : Nat), (10 : Nat), (17 : Nat), (60 : Nat))] ∈ TBg := tw_in tk_6 (i := 90) rfl rfl
set_option maxRecDepth 100000 in
theorem tw_1429 : Cond.methodLink "GreatEstateLaw" 62 yX11_led ∈ TBg := tw_in tk_6 (i := 91) rfl rfl
set_option maxRecDepth 100000 in
theorem tw_1430 : Cond.instanceMethod yX11_led ∈ TBg := tw_in tk_6 (i := 92) rfl rfl
set_option maxRecDepth 100000 in
theorem tw_1431 : Cond.selects "GreatEstate" yX11_led yX11_led ∈ TBg := tw_in tk_6 (i := 93) rfl rfl
set_option maxRecDepth 100000 in
theorem tw_1432 : Cond.code yX11_led prog_1_method_16_code 3 (Option.some Jvm.ClassFile.FieldType.int) ∈ TBg := tw_in tk_6 (i := 94) rfl rfl
set_option maxRecDepth 100000 in
theorem tw_1433 : Cond.methodLink "GreatEstateLaw" 188 yL_owed ∈ TBg := tw_in tk_6 (i := 95) rfl rfl
set_option maxRecDepth 100000 in
theorem tw_1434 : Cond.static yL_owed ∈ TBg := tw_in tk_6 (i := 96) rfl rfl
set_option maxRecDepth 100000 in
theorem tw_1435 : Cond.codeWith yL_owed method_16_code 4 (Option.some Jvm.ClassFile.FieldType.int) [((0 : Nat), (9 : Nat), (12 : Nat), (13 : Nat)), ((0 : Nat), (9 : Nat), (15 : Nat), (44 : Nat))] ∈ TBg := tw_in tk_6 (i := 97) rfl rfl
set_option maxRecDepth 100000 in
theorem tw_1436 : Cond.methodLink "GreatEstateLaw" 65 yX11_owed ∈ TBg := tw_in tk_6 (i := 98) rfl rfl
set_option maxRecDepth 100000 in
theorem tw_1437 : Cond.instanceMethod yX11_owed ∈ TBg := tw_in tk_6 (i := 99) rfl rfl
set_option maxRecDepth 100000 in
theorem tw_1438 : Cond.selects "GreatEstate" yX11_owed yX11_owed ∈ TBg := tw_in tk_6 (i := 100) rfl rfl
set_option maxRecDepth 100000 in
theorem tw_1439 : Cond.code yX11_owed prog_1_method_17_code 2 (Option.some Jvm.ClassFile.FieldType.int) ∈ TBg := tw_in tk_6 (i := 101) rfl rfl
set_option maxRecDepth 100000 in
theorem tw_1440 : Cond.methodLink "GreatEstate" 162 yX0_owedTo ∈ TBg := tw_in tk_6 (i := 102) rfl rfl
set_option maxRecDepth 100000 in
theorem tw_1441 : Cond.methodLink "GreatEstateLaw" 191 yL_rent ∈ TBg := tw_in tk_6 (i := 103) rfl rfl
set_option maxRecDepth 100000 in
theorem tw_1442 : Cond.static yL_rent ∈ TBg := tw_in tk_6 (i := 104) rfl rfl
set_option maxRecDepth 100000 in
theorem tw_1443 : Cond.codeWith yL_rent method_17_code 4 (Option.some Jvm.ClassFile.FieldType.int) [((0 : Nat), (9 : Nat), (12 : Nat), (13 : Nat)), ((0 : Nat), (9 : Nat), (15 : Nat), (44 : Nat))] ∈ TBg := tw_in tk_6 (i := 105) rfl rfl
set_option maxRecDepth 100000 in
theorem tw_1444 : Cond.methodLink "GreatEstateLaw" 68 yX11_rent ∈ TBg := tw_in tk_6 (i := 106) rfl rfl
set_option maxRecDepth 100000 in
theorem tw_1445 : Cond.instanceMethod yX11_rent ∈ TBg := tw_in tk_6 (i := 107) rfl rfl
set_option maxRecDepth 100000 in
theorem tw_1446 : Cond.selects "GreatEstate" yX11_rent yX11_rent ∈ TBg := tw_in tk_6 (i := 108) rfl rfl
set_option maxRecDepth 100000 in
theorem tw_1447 : Cond.code yX11_rent prog_1_method_18_code 2 (Option.some Jvm.ClassFile.FieldType.int) ∈ TBg := tw_in tk_6 (i := 109) rfl rfl
set_option maxRecDepth 100000 in
theorem tw_1448 : Cond.methodLink "GreatEstate" 165 yX0_rentOf ∈ TBg := tw_in tk_6 (i := 110) rfl rfl
set_option maxRecDepth 100000 in
theorem tw_1449 : Cond.methodLink "GreatEstateLaw" 198 yL_words ∈ TBg := tw_in tk_6 (i := 111) rfl rfl
set_option maxRecDepth 100000 in
theorem tw_1450 : Cond.static yL_words ∈ TBg := tw_in tk_6 (i := 112) rfl rfl
set_option maxRecDepth 100000 in
theorem tw_1451 : Cond.codeWith yL_words method_18_code 4 (Option.some Jvm.ClassFile.FieldType.int) [((0 : Nat), (9 : Nat), (12 : Nat), (15 : Nat)), ((0 : Nat), (9 : Nat), (15 : Nat), (74 : Nat))] ∈ TBg := tw_in tk_6 (i := 113) rfl rfl
set_option maxRecDepth 100000 in
theorem tw_1453 : Cond.methodLink "GreatEstateLaw" 71 yX11_words ∈ TBg := tw_in tk_6 (i := 115) rfl rfl
set_option maxRecDepth 100000 in
theorem tw_1454 : Cond.instanceMethod yX11_words ∈ TBg := tw_in tk_6 (i := 116) rfl rfl
set_option maxRecDepth 100000 in
theorem tw_1455 : Cond.selects "GreatEstate" yX11_words yX11_words ∈ TBg := tw_in tk_6 (i := 117) rfl rfl
set_option maxRecDepth 100000 in
theorem tw_1456 : Cond.code yX11_words prog_1_method_20_code 3 (Option.some Jvm.ClassFile.FieldType.int) ∈ TBg := tw_in tk_6 (i := 118) rfl rfl
set_option maxRecDepth 100000 in
theorem tw_1457 : Cond.methodLink "GreatEstate" 180 yX11_needRoom ∈ TBg := tw_in tk_6 (i := 119) rfl rfl
set_option maxRecDepth 100000 in
theorem tw_1458 : Cond.static yX11_needRoom ∈ TBg := tw_in tk_6 (i := 120) rfl rfl
set_option maxRecDepth 100000 in
theorem tw_1459 : Cond.code yX11_needRoom prog_1_method_49_code 1 (Option.none : Option Jvm.ClassFile.FieldType) ∈ TBg := tw_in tk_6 (i := 121) rfl rfl
set_option maxRecDepth 100000 in
theorem tw_1476 : Cond.methodLink "GreatEstate" 183 yX9_add ∈ TBg := tw_in tk_6 (i := 138) rfl rfl
set_option maxRecDepth 100000 in
theorem tw_1477 : Cond.instanceMethod yX9_add ∈ TBg := tw_in tk_6 (i := 139) rfl rfl
set_option maxRecDepth 100000 in
theorem tw_1478 : Cond.selects "GreatEstate$Words" yX9_add yX9_add ∈ TBg := tw_in tk_6 (i := 140) rfl rfl
set_option maxRecDepth 100000 in
theorem tw_1479 : Cond.code yX9_add prog_11_method_2_code 4 (Option.none : Option Jvm.ClassFile.FieldType) ∈ TBg := tw_in tk_6 (i := 141) rfl rfl
set_option maxRecDepth 100000 in
theorem tw_1480 : Cond.methodLink "GreatEstateLaw" 205 yL_may ∈ TBg := tw_in tk_6 (i := 142) rfl rfl
set_option maxRecDepth 100000 in
theorem tw_1481 : Cond.static yL_may ∈ TBg := tw_in tk_6 (i := 143) rfl rfl
set_option maxRecDepth 100000 in
theorem tw_1482 : Cond.codeWith yL_may method_19_code 5 (Option.some Jvm.ClassFile.FieldType.int) [((0 : Nat), (10 : Nat), (13 : Nat), (13 : Nat)), ((0 : Nat), (10 : Nat), (17 : Nat), (60 : Nat))] ∈ TBg := tw_in tk_6 (i := 144) rfl rfl
set_option maxRecDepth 100000 in
theorem tw_1483 : Cond.methodLink "GreatEstateLaw" 76 yX11_may ∈ TBg := tw_in tk_6 (i := 145) rfl rfl
set_option maxRecDepth 100000 in
theorem tw_1484 : Cond.instanceMethod yX11_may ∈ TBg := tw_in tk_6 (i := 146) rfl rfl
set_option maxRecDepth 100000 in
theorem tw_1485 : Cond.selects "GreatEstate" yX11_may yX11_may ∈ TBg := tw_in tk_6 (i := 147) rfl rfl
set_option maxRecDepth 100000 in
theorem tw_1486 : Cond.code yX11_may prog_1_method_22_code 3 (Option.some Jvm.ClassFile.FieldType.int) ∈ TBg := tw_in tk_6 (i := 148) rfl rfl
set_option maxRecDepth 100000 in
theorem tw_1487 : Cond.methodLink "GreatEstate" 195 yX0_lineThatLets ∈ TBg := tw_in tk_6 (i := 149) rfl rfl
set_option maxRecDepth 100000 in
theorem tw_1488 : Cond.instanceMethod yX0_lineThatLets ∈ TBg := tw_in tk_6 (i := 150) rfl rfl
set_option maxRecDepth 100000 in
theorem tw_1489 : Cond.selects "GreatEstate$Estate" yX0_lineThatLets yX0_lineThatLets ∈ TBg := tw_in tk_6 (i := 151) rfl rfl
set_option maxRecDepth 100000 in
theorem tw_1490 : Cond.code yX0_lineThatLets prog_2_method_20_code 3 (Option.some Jvm.ClassFile.FieldType.int) ∈ TBg := tw_in tk_6 (i := 152) rfl rfl
set_option maxRecDepth 100000 in
theorem tw_1491 : Cond.methodLink "GreatEstate$Estate" 158 yX9_firstHolding ∈ TBg := tw_in tk_6 (i := 153) rfl rfl
set_option maxRecDepth 100000 in
theorem tw_1492 : Cond.instanceMethod yX9_firstHolding ∈ TBg := tw_in tk_6 (i := 154) rfl rfl
set_option maxRecDepth 100000 in
theorem tw_1493 : Cond.selects "GreatEstate$Words" yX9_firstHolding yX9_firstHolding ∈ TBg := tw_in tk_6 (i := 155) rfl rfl
set_option maxRecDepth 100000 in
theorem tw_1494 : Cond.code yX9_firstHolding prog_11_method_9_code 8 (Option.some Jvm.ClassFile.FieldType.int) ∈ TBg := tw_in tk_6 (i := 156) rfl rfl
set_option maxRecDepth 100000 in
theorem tw_1495 : Cond.methodLink "GreatEstate$Words" 45 yX8_firstHolding ∈ TBg := tw_in tk_6 (i := 157) rfl rfl
set_option maxRecDepth 100000 in
theorem tw_1496 : Cond.instanceMethod yX8_firstHolding ∈ TBg := tw_in tk_6 (i := 158) rfl rfl
set_option maxRecDepth 100000 in
theorem tw_1497 : Cond.selects "GreatEstate$Text" yX8_firstHolding yX8_firstHolding ∈ TBg := tw_in tk_6 (i := 159) rfl rfl
set_option maxRecDepth 100000 in
theorem tw_1498 : Cond.code yX8_firstHolding prog_10_method_7_code 4 (Option.some Jvm.ClassFile.FieldType.int) ∈ TBg := tw_in tk_6 (i := 160) rfl rfl
set_option maxRecDepth 100000 in
theorem tw_1499 : Cond.methodLink "GreatEstate" 198 yX0_mostBorrowed ∈ TBg := tw_in tk_6 (i := 161) rfl rfl
set_option maxRecDepth 100000 in
theorem tw_1500 : Cond.instanceMethod yX0_mostBorrowed ∈ TBg := tw_in tk_6 (i := 162) rfl rfl
set_option maxRecDepth 100000 in
theorem tw_1501 : Cond.selects "GreatEstate$Estate" yX0_mostBorrowed yX0_mostBorrowed ∈ TBg := tw_in tk_6 (i := 163) rfl rfl
set_option maxRecDepth 100000 in
theorem tw_1502 : Cond.code yX0_mostBorrowed prog_2_method_18_code 1 (Option.some Jvm.ClassFile.FieldType.int) ∈ TBg := tw_in tk_6 (i := 164) rfl rfl
set_option maxRecDepth 100000 in
theorem tw_1503 : Cond.methodLink "GreatEstate" 201 yX0_chargesNow ∈ TBg := tw_in tk_6 (i := 165) rfl rfl
set_option maxRecDepth 100000 in
theorem tw_1504 : Cond.methodLink "GreatEstate" 204 yX0_partOf ∈ TBg := tw_in tk_6 (i := 166) rfl rfl
set_option maxRecDepth 100000 in
theorem tw_1505 : Cond.instanceMethod yX0_partOf ∈ TBg := tw_in tk_6 (i := 167) rfl rfl
set_option maxRecDepth 100000 in
theorem tw_1506 : Cond.selects "GreatEstate$Estate" yX0_partOf yX0_partOf ∈ TBg := tw_in tk_6 (i := 168) rfl rfl
set_option maxRecDepth 100000 in
theorem tw_1507 : Cond.code yX0_partOf prog_2_method_19_code 2 (Option.some Jvm.ClassFile.FieldType.int) ∈ TBg := tw_in tk_6 (i := 169) rfl rfl
set_option maxRecDepth 100000 in
theorem tw_1508 : Cond.methodLink "GreatEstateLaw" 208 yL_why ∈ TBg := tw_in tk_6 (i := 170) rfl rfl
set_option maxRecDepth 100000 in
theorem tw_1509 : Cond.static yL_why ∈ TBg := tw_in tk_6 (i := 171) rfl rfl
set_option maxRecDepth 100000 in
theorem tw_1510 : Cond.codeWith yL_why method_20_code 5 (Option.some Jvm.ClassFile.FieldType.int) [((0 : Nat), (10 : Nat), (13 : Nat), (13 : Nat)), ((0 : Nat), (10 : Nat), (17 : Nat), (60 : Nat))] ∈ TBg := tw_in tk_6 (i := 172) rfl rfl
set_option maxRecDepth 100000 in
theorem tw_1511 : Cond.methodLink "GreatEstateLaw" 79 yX11_why ∈ TBg := tw_in tk_6 (i := 173) rfl rfl
set_option maxRecDepth 100000 in
theorem tw_1512 : Cond.instanceMethod yX11_why ∈ TBg := tw_in tk_6 (i := 174) rfl rfl
set_option maxRecDepth 100000 in
theorem tw_1513 : Cond.selects "GreatEstate" yX11_why yX11_why ∈ TBg := tw_in tk_6 (i := 175) rfl rfl
set_option maxRecDepth 100000 in
theorem tw_1514 : Cond.code yX11_why prog_1_method_23_code 3 (Option.some Jvm.ClassFile.FieldType.int) ∈ TBg := tw_in tk_6 (i := 176) rfl rfl
set_option maxRecDepth 100000 in
theorem tw_1515 : Cond.methodLink "GreatEstate" 207 yX0_lastLine ∈ TBg := tw_in tk_6 (i := 177) rfl rfl
set_option maxRecDepth 100000 in
theorem tw_1516 : Cond.methodLink "GreatEstate" 210 yX0_firstCharge ∈ TBg := tw_in tk_6 (i := 178) rfl rfl
set_option maxRecDepth 100000 in
theorem tw_1517 : Cond.instanceMethod yX0_firstCharge ∈ TBg := tw_in tk_6 (i := 179) rfl rfl
set_option maxRecDepth 100000 in
theorem tw_1518 : Cond.selects "GreatEstate$Estate" yX0_firstCharge yX0_firstCharge ∈ TBg := tw_in tk_6 (i := 180) rfl rfl
set_option maxRecDepth 100000 in
theorem tw_1519 : Cond.code yX0_firstCharge prog_2_method_21_code 1 (Option.some Jvm.ClassFile.FieldType.int) ∈ TBg := tw_in tk_6 (i := 181) rfl rfl
set_option maxRecDepth 100000 in
theorem tw_1520 : Cond.methodLink "GreatEstateLaw" 211 yL_cut ∈ TBg := tw_in tk_6 (i := 182) rfl rfl
set_option maxRecDepth 100000 in
theorem tw_1521 : Cond.static yL_cut ∈ TBg := tw_in tk_6 (i := 183) rfl rfl
set_option maxRecDepth 100000 in
theorem tw_1522 : Cond.codeWith yL_cut method_21_code 5 (Option.some Jvm.ClassFile.FieldType.int) [((0 : Nat), (10 : Nat), (13 : Nat), (13 : Nat)), ((0 : Nat), (10 : Nat), (17 : Nat), (44 : Nat))] ∈ TBg := tw_in tk_6 (i := 184) rfl rfl
set_option maxRecDepth 100000 in
theorem tw_1523 : Cond.methodLink "GreatEstateLaw" 82 yX11_cut ∈ TBg := tw_in tk_6 (i := 185) rfl rfl
set_option maxRecDepth 100000 in
theorem tw_1524 : Cond.instanceMethod yX11_cut ∈ TBg := tw_in tk_6 (i := 186) rfl rfl
set_option maxRecDepth 100000 in
theorem tw_1525 : Cond.selects "GreatEstate" yX11_cut yX11_cut ∈ TBg := tw_in tk_6 (i := 187) rfl rfl
set_option maxRecDepth 100000 in
theorem tw_1526 : Cond.code yX11_cut prog_1_method_24_code 5 (Option.some Jvm.ClassFile.FieldType.int) ∈ TBg := tw_in tk_6 (i := 188) rfl rfl
set_option maxRecDepth 100000 in
theorem tw_1527 : Cond.methodLink "GreatEstate" 213 yX2_timberOf ∈ TBg := tw_in tk_6 (i := 189) rfl rfl
set_option maxRecDepth 100000 in
theorem tw_1528 : Cond.methodLink "GreatEstate" 216 yX0_takeIn ∈ TBg := tw_in tk_6 (i := 190) rfl rfl
set_option maxRecDepth 100000 in
theorem tw_1529 : Cond.methodLink "GreatEstateLaw" 215 yL_loan ∈ TBg := tw_in tk_6 (i := 191) rfl rfl
set_option maxRecDepth 100000 in
theorem tw_1530 : Cond.static yL_loan ∈ TBg := tw_in tk_6 (i := 192) rfl rfl
set_option maxRecDepth 100000 in
theorem tw_1531 : Cond.codeWith yL_loan method_22_code 7 (Option.some Jvm.ClassFile.FieldType.int) [((0 : Nat), (14 : Nat), (17 : Nat), (15 : Nat)), ((0 : Nat), (14 : Nat), (21 : Nat), (74 : Nat))] ∈ TBg := tw_in tk_6 (i := 193) rfl rfl
set_option maxRecDepth 100000 in
theorem tw_1532 : Cond.methodLink "GreatEstateLaw" 86 yX11_loan ∈ TBg := tw_in tk_6 (i := 194) rfl rfl
set_option maxRecDepth 100000 in
theorem tw_1533 : Cond.instanceMethod yX11_loan ∈ TBg := tw_in tk_6 (i := 195) rfl rfl
set_option maxRecDepth 100000 in
theorem tw_1534 : Cond.selects "GreatEstate" yX11_loan yX11_loan ∈ TBg := tw_in tk_6 (i := 196) rfl rfl
set_option maxRecDepth 100000 in
theorem tw_1535 : Cond.code yX11_loan prog_1_method_25_code 6 (Option.some Jvm.ClassFile.FieldType.int) ∈ TBg := tw_in tk_6 (i := 197) rfl rfl
set_option maxRecDepth 100000 in
theorem tw_1536 : Cond.methodLink "GreatEstate" 228 yX3_owedInAll ∈ TBg := tw_in tk_6 (i := 198) rfl rfl
set_option maxRecDepth 100000 in
theorem tw_1537 : Cond.methodLink "GreatEstate" 231 yX3_lend ∈ TBg := tw_in tk_6 (i := 199) rfl rfl
set_option maxRecDepth 100000 in
theorem tw_1538 : Cond.instanceMethod yX3_lend ∈ TBg := tw_in tk_6 (i := 200) rfl rfl
set_option maxRecDepth 100000 in
theorem tw_1539 : Cond.selects "GreatEstate$Ledger" yX3_lend yX3_lend ∈ TBg := tw_in tk_6 (i := 201) rfl rfl
set_option maxRecDepth 100000 in
theorem tw_1540 : Cond.code yX3_lend prog_5_method_10_code 4 (Option.some Jvm.ClassFile.FieldType.int) ∈ TBg := tw_in tk_6 (i := 202) rfl rfl
set_option maxRecDepth 100000 in
theorem tw_1541 : Cond.methodLink "GreatEstate$Ledger" 69 yX3_addCapital ∈ TBg := tw_in tk_6 (i := 203) rfl rfl
set_option maxRecDepth 100000 in
theorem tw_1542 : Cond.methodLink "GreatEstateLaw" 219 yL_owing ∈ TBg := tw_in tk_6 (i := 204) rfl rfl
set_option maxRecDepth 100000 in
theorem tw_1543 : Cond.static yL_owing ∈ TBg := tw_in tk_6 (i := 205) rfl rfl
set_option maxRecDepth 100000 in
theorem tw_1544 : Cond.codeWith yL_owing method_23_code 4 (Option.some Jvm.ClassFile.FieldType.int) [((0 : Nat), (9 : Nat), (12 : Nat), (13 : Nat))] ∈ TBg := tw_in tk_6 (i := 206) rfl rfl
set_option maxRecDepth 100000 in
theorem tw_1545 : Cond.methodLink "GreatEstateLaw" 90 yX11_owing ∈ TBg := tw_in tk_6 (i := 207) rfl rfl
set_option maxRecDepth 100000 in
theorem tw_1546 : Cond.instanceMethod yX11_owing ∈ TBg := tw_in tk_6 (i := 208) rfl rfl
set_option maxRecDepth 100000 in
theorem tw_1547 : Cond.selects "GreatEstate" yX11_owing yX11_owing ∈ TBg := tw_in tk_6 (i := 209) rfl rfl
set_option maxRecDepth 100000 in
theorem tw_1548 : Cond.code yX11_owing prog_1_method_26_code 2 (Option.some Jvm.ClassFile.FieldType.int) ∈ TBg := tw_in tk_6 (i := 210) rfl rfl
set_option maxRecDepth 100000 in
theorem tw_1549 : Cond.methodLink "GreatEstateLaw" 222 yL_work ∈ TBg := tw_in tk_6 (i := 211) rfl rfl
set_option maxRecDepth 100000 in
theorem tw_1550 : Cond.static yL_work ∈ TBg := tw_in tk_6 (i := 212) rfl rfl
set_option maxRecDepth 100000 in
theorem tw_1551 : Cond.codeWith yL_work method_24_code 5 (Option.some Jvm.ClassFile.FieldType.int) [((0 : Nat), (17 : Nat), (20 : Nat), (13 : Nat))] ∈ TBg := tw_in tk_6 (i := 213) rfl rfl
set_option maxRecDepth 100000 in
theorem tw_1552 : Cond.methodLink "GreatEstateLaw" 93 yX11_work ∈ TBg := tw_in tk_6 (i := 214) rfl rfl
set_option maxRecDepth 100000 in
theorem tw_1553 : Cond.instanceMethod yX11_work ∈ TBg := tw_in tk_6 (i := 215) rfl rfl
set_option maxRecDepth 100000 in
theorem tw_1554 : Cond.selects "GreatEstate" yX11_work yX11_work ∈ TBg := tw_in tk_6 (i := 216) rfl rfl
set_option maxRecDepth 100000 in
theorem tw_1555 : Cond.code yX11_work prog_1_method_27_code 4 (Option.some Jvm.ClassFile.FieldType.boolean) ∈ TBg := tw_in tk_6 (i := 217) rfl rfl
set_option maxRecDepth 100000 in
theorem tw_1556 : Cond.methodLink "GreatEstate" 241 yX0_payWork ∈ TBg := tw_in tk_6 (i := 218) rfl rfl
set_option maxRecDepth 100000 in
theorem tw_1557 : Cond.instanceMethod yX0_payWork ∈ TBg := tw_in tk_6 (i := 219) rfl rfl
set_option maxRecDepth 100000 in
theorem tw_1558 : Cond.selects "GreatEstate$Estate" yX0_payWork yX0_payWork ∈ TBg := tw_in tk_6 (i := 220) rfl rfl
set_option maxRecDepth 100000 in
theorem tw_1559 : Cond.code yX0_payWork prog_2_method_24_code 5 (Option.some Jvm.ClassFile.FieldType.boolean) ∈ TBg := tw_in tk_6 (i := 221) rfl rfl
set_option maxRecDepth 100000 in
theorem tw_1560 : Cond.methodLink "GreatEstate$Estate" 174 yX0_partOf ∈ TBg := tw_in tk_6 (i := 222) rfl rfl
set_option maxRecDepth 100000 in
theorem tw_1561 : Cond.methodLink "GreatEstateLaw" 225 yL_sell ∈ TBg := tw_in tk_6 (i := 223) rfl rfl
set_option maxRecDepth 100000 in
theorem tw_1562 : Cond.static yL_sell ∈ TBg := tw_in tk_6 (i := 224) rfl rfl
set_option maxRecDepth 100000 in
theorem tw_1563 : Cond.codeWith yL_sell method_25_code 5 (Option.some Jvm.ClassFile.FieldType.int) [((0 : Nat), (10 : Nat), (13 : Nat), (13 : Nat))] ∈ TBg := tw_in tk_6 (i := 225) rfl rfl
set_option maxRecDepth 100000 in
theorem tw_1564 : Cond.methodLink "GreatEstateLaw" 97 yX11_sell ∈ TBg := tw_in tk_6 (i := 226) rfl rfl
set_option maxRecDepth 100000 in
theorem tw_1565 : Cond.instanceMethod yX11_sell ∈ TBg := tw_in tk_6 (i := 227) rfl rfl
set_option maxRecDepth 100000 in
theorem tw_1566 : Cond.selects "GreatEstate" yX11_sell yX11_sell ∈ TBg := tw_in tk_6 (i := 228) rfl rfl
set_option maxRecDepth 100000 in
theorem tw_1567 : Cond.code yX11_sell prog_1_method_28_code 5 (Option.some Jvm.ClassFile.FieldType.int) ∈ TBg := tw_in tk_6 (i := 229) rfl rfl
set_option maxRecDepth 100000 in
theorem tw_1568 : Cond.methodLink "GreatEstateLaw" 232 yL_wrong ∈ TBg := tw_in tk_6 (i := 230) rfl rfl
set_option maxRecDepth 100000 in
theorem tw_1569 : Cond.static yL_wrong ∈ TBg := tw_in tk_6 (i := 231) rfl rfl
set_option maxRecDepth 100000 in
theorem tw_1570 : Cond.codeWith yL_wrong method_26_code 5 (Option.some Jvm.ClassFile.FieldType.int) [((0 : Nat), (10 : Nat), (13 : Nat), (60 : Nat))] ∈ TBg := tw_in tk_6 (i := 232) rfl rfl
set_option maxRecDepth 100000 in
theorem tw_1571 : Cond.methodLink "GreatEstateLaw" 100 yX11_wrong ∈ TBg := tw_in tk_6 (i := 233) rfl rfl
set_option maxRecDepth 100000 in
theorem tw_1572 : Cond.instanceMethod yX11_wrong ∈ TBg := tw_in tk_6 (i := 234) rfl rfl
set_option maxRecDepth 100000 in
theorem tw_1573 : Cond.selects "GreatEstate" yX11_wrong yX11_wrong ∈ TBg := tw_in tk_6 (i := 235) rfl rfl
set_option maxRecDepth 100000 in
theorem tw_1574 : Cond.code yX11_wrong prog_1_method_30_code 3 (Option.some Jvm.ClassFile.FieldType.int) ∈ TBg := tw_in tk_6 (i := 236) rfl rfl
set_option maxRecDepth 100000 in
theorem tw_1575 : Cond.methodLink "GreatEstate" 250 Lib.Math.min.name ∈ TBg := tw_in tk_6 (i := 237) rfl rfl
set_option maxRecDepth 100000 in
theorem tw_1576 : Cond.methodLink "GreatEstate" 255 yX3_wrongNote ∈ TBg := tw_in tk_6 (i := 238) rfl rfl
set_option maxRecDepth 100000 in
theorem tw_1577 : Cond.instanceMethod yX3_wrongNote ∈ TBg := tw_in tk_6 (i := 239) rfl rfl
set_option maxRecDepth 100000 in
theorem tw_1578 : Cond.selects "GreatEstate$Ledger" yX3_wrongNote yX3_wrongNote ∈ TBg := tw_in tk_7 (i := 0) rfl rfl
set_option maxRecDepth 100000 in
theorem tw_1579 : Cond.code yX3_wrongNote prog_5_method_9_code 3 (Option.some Jvm.ClassFile.FieldType.int) ∈ TBg := tw_in tk_7 (i := 1) rfl rfl
set_option maxRecDepth 100000 in
theorem tw_1580 : Cond.methodLink "GreatEstateLaw" 235 yL_job ∈ TBg := tw_in tk_7 (i := 2) rfl rfl
set_option maxRecDepth 100000 in
theorem tw_1581 : Cond.static yL_job ∈ TBg := tw_in tk_7 (i := 3) rfl rfl
set_option maxRecDepth 100000 in
theorem tw_1582 : Cond.codeWith yL_job method_27_code 6 (Option.some Jvm.ClassFile.FieldType.int) [((0 : Nat), (12 : Nat), (15 : Nat), (15 : Nat))] ∈ TBg := tw_in tk_7 (i := 4) rfl rfl
set_option maxRecDepth 100000 in
theorem tw_1583 : Cond.methodLink "GreatEstateLaw" 103 yX11_job ∈ TBg := tw_in tk_7 (i := 5) rfl rfl
set_option maxRecDepth 100000 in
theorem tw_1584 : Cond.instanceMethod yX11_job ∈ TBg := tw_in tk_7 (i := 6) rfl rfl
set_option maxRecDepth 100000 in
theorem tw_1585 : Cond.selects "GreatEstate" yX11_job yX11_job ∈ TBg := tw_in tk_7 (i := 7) rfl rfl
set_option maxRecDepth 100000 in
theorem tw_1586 : Cond.code yX11_job prog_1_method_31_code 4 (Option.some Jvm.ClassFile.FieldType.int) ∈ TBg := tw_in tk_7 (i := 8) rfl rfl
set_option maxRecDepth 100000 in
theorem tw_1587 : Cond.methodLink "GreatEstate" 262 yX5_addJob ∈ TBg := tw_in tk_7 (i := 9) rfl rfl
set_option maxRecDepth 100000 in
theorem tw_1588 : Cond.instanceMethod yX5_addJob ∈ TBg := tw_in tk_7 (i := 10) rfl rfl
set_option maxRecDepth 100000 in
theorem tw_1589 : Cond.selects "GreatEstate$Plan" yX5_addJob yX5_addJob ∈ TBg := tw_in tk_7 (i := 11) rfl rfl
set_option maxRecDepth 100000 in
theorem tw_1590 : Cond.code yX5_addJob prog_7_method_3_code 4 (Option.some Jvm.ClassFile.FieldType.int) ∈ TBg := tw_in tk_7 (i := 12) rfl rfl
set_option maxRecDepth 100000 in
theorem tw_1591 : Cond.methodLink "GreatEstateLaw" 238 yL_trouble ∈ TBg := tw_in tk_7 (i := 13) rfl rfl
set_option maxRecDepth 100000 in
theorem tw_1592 : Cond.static yL_trouble ∈ TBg := tw_in tk_7 (i := 14) rfl rfl
set_option maxRecDepth 100000 in
theorem tw_1593 : Cond.codeWith yL_trouble method_28_code 5 (Option.some Jvm.ClassFile.FieldType.int) [((0 : Nat), (10 : Nat), (13 : Nat), (15 : Nat))] ∈ TBg := tw_in tk_7 (i := 15) rfl rfl
set_option maxRecDepth 100000 in
theorem tw_1594 : Cond.methodLink "GreatEstateLaw" 106 yX11_trouble ∈ TBg := tw_in tk_7 (i := 16) rfl rfl
set_option maxRecDepth 100000 in
theorem tw_1595 : Cond.instanceMethod yX11_trouble ∈ TBg := tw_in tk_7 (i := 17) rfl rfl
set_option maxRecDepth 100000 in
theorem tw_1596 : Cond.selects "GreatEstate" yX11_trouble yX11_trouble ∈ TBg := tw_in tk_7 (i := 18) rfl rfl
set_option maxRecDepth 100000 in
theorem tw_1597 : Cond.code yX11_trouble prog_1_method_32_code 3 (Option.some Jvm.ClassFile.FieldType.int) ∈ TBg := tw_in tk_7 (i := 19) rfl rfl
set_option maxRecDepth 100000 in
theorem tw_1598 : Cond.constant "GreatEstate" 267 (-100000) ∈ TBg := tw_in tk_7 (i := 20) rfl rfl
set_option maxRecDepth 100000 in
theorem tw_1599 : Cond.methodLink "GreatEstate" 268 yX5_addTrouble ∈ TBg := tw_in tk_7 (i := 21) rfl rfl
set_option maxRecDepth 100000 in
theorem tw_1600 : Cond.instanceMethod yX5_addTrouble ∈ TBg := tw_in tk_7 (i := 22) rfl rfl
set_option maxRecDepth 100000 in
theorem tw_1601 : Cond.selects "GreatEstate$Plan" yX5_addTrouble yX5_addTrouble ∈ TBg := tw_in tk_7 (i := 23) rfl rfl
set_option maxRecDepth 100000 in
theorem tw_1602 : Cond.code yX5_addTrouble prog_7_method_4_code 3 (Option.some Jvm.ClassFile.FieldType.int) ∈ TBg := tw_in tk_7 (i := 24) rfl rfl
set_option maxRecDepth 100000 in
theorem tw_1603 : Cond.methodLink "GreatEstateLaw" 241 yL_worth ∈ TBg := tw_in tk_7 (i := 25) rfl rfl
set_option maxRecDepth 100000 in
theorem tw_1604 : Cond.static yL_worth ∈ TBg := tw_in tk_7 (i := 26) rfl rfl
set_option maxRecDepth 100000 in
theorem tw_1605 : Cond.codeWith yL_worth method_29_code 6 (Option.some Jvm.ClassFile.FieldType.int) [((0 : Nat), (12 : Nat), (15 : Nat), (15 : Nat))] ∈ TBg := tw_in tk_7 (i := 27) rfl rfl
set_option maxRecDepth 100000 in
theorem tw_1606 : Cond.methodLink "GreatEstateLaw" 109 yX11_worth ∈ TBg := tw_in tk_7 (i := 28) rfl rfl
set_option maxRecDepth 100000 in
theorem tw_1607 : Cond.instanceMethod yX11_worth ∈ TBg := tw_in tk_7 (i := 29) rfl rfl
set_option maxRecDepth 100000 in
theorem tw_1608 : Cond.selects "GreatEstate" yX11_worth yX11_worth ∈ TBg := tw_in tk_7 (i := 30) rfl rfl
set_option maxRecDepth 100000 in
theorem tw_1609 : Cond.code yX11_worth prog_1_method_33_code 4 (Option.some Jvm.ClassFile.FieldType.int) ∈ TBg := tw_in tk_7 (i := 31) rfl rfl
set_option maxRecDepth 100000 in
theorem tw_1610 : Cond.constant "GreatEstate" 271 (1000000) ∈ TBg := tw_in tk_7 (i := 32) rfl rfl
set_option maxRecDepth 100000 in
theorem tw_1611 : Cond.methodLink "GreatEstate" 272 yX5_leastEnd ∈ TBg := tw_in tk_7 (i := 33) rfl rfl
set_option maxRecDepth 100000 in
theorem tw_1612 : Cond.instanceMethod yX5_leastEnd ∈ TBg := tw_in tk_7 (i := 34) rfl rfl
set_option maxRecDepth 100000 in
theorem tw_1613 : Cond.selects "GreatEstate$Plan" yX5_leastEnd yX5_leastEnd ∈ TBg := tw_in tk_7 (i := 35) rfl rfl
set_option maxRecDepth 100000 in
theorem tw_1614 : Cond.code yX5_leastEnd prog_7_method_5_code 6 (Option.some Jvm.ClassFile.FieldType.int) ∈ TBg := tw_in tk_7 (i := 36) rfl rfl
set_option maxRecDepth 100000 in
theorem tw_1615 : Cond.methodLink "GreatEstate$Plan" 40 yX5_endOf ∈ TBg := tw_in tk_7 (i := 37) rfl rfl
set_option maxRecDepth 100000 in
theorem tw_1617 : Cond.instanceMethod yX5_endOf ∈ TBg := tw_in tk_7 (i := 39) rfl rfl
set_option maxRecDepth 100000 in
theorem tw_1618 : Cond.code yX5_endOf prog_7_method_6_code 7 (Option.some Jvm.ClassFile.FieldType.int) ∈ TBg := tw_in tk_7 (i := 40) rfl rfl
set_option maxRecDepth 100000 in
theorem tw_1619 : Cond.methodLink "GreatEstate$Plan" 50 yX5_jobsIn ∈ TBg := tw_in tk_7 (i := 41) rfl rfl
set_option maxRecDepth 100000 in
theorem tw_1621 : Cond.instanceMethod yX5_jobsIn ∈ TBg := tw_in tk_7 (i := 43) rfl rfl
set_option maxRecDepth 100000 in
theorem tw_1622 : Cond.code yX5_jobsIn prog_7_method_7_code 5 (Option.some Jvm.ClassFile.FieldType.int) ∈ TBg := tw_in tk_7 (i := 44) rfl rfl
set_option maxRecDepth 100000 in
theorem tw_1623 : Cond.constant "GreatEstate$Plan" 53 (-1000000000) ∈ TBg := tw_in tk_7 (i := 45) rfl rfl
set_option maxRecDepth 100000 in
theorem tw_1624 : Cond.methodLink "GreatEstate$Plan" 44 Lib.Math.min.name ∈ TBg := tw_in tk_7 (i := 46) rfl rfl
set_option maxRecDepth 100000 in
theorem tw_1625 : Cond.methodLink "GreatEstateLaw" 244 yL_best ∈ TBg := tw_in tk_7 (i := 47) rfl rfl
set_option maxRecDepth 100000 in
theorem tw_1626 : Cond.static yL_best ∈ TBg := tw_in tk_7 (i := 48) rfl rfl
set_option maxRecDepth 100000 in
theorem tw_1627 : Cond.codeWith yL_best method_30_code 5 (Option.some Jvm.ClassFile.FieldType.int) [((0 : Nat), (10 : Nat), (13 : Nat), (15 : Nat))] ∈ TBg := tw_in tk_7 (i := 49) rfl rfl
set_option maxRecDepth 100000 in
theorem tw_1628 : Cond.methodLink "GreatEstateLaw" 112 yX11_best ∈ TBg := tw_in tk_7 (i := 50) rfl rfl
set_option maxRecDepth 100000 in
theorem tw_1629 : Cond.instanceMethod yX11_best ∈ TBg := tw_in tk_7 (i := 51) rfl rfl
set_option maxRecDepth 100000 in
theorem tw_1630 : Cond.selects "GreatEstate" yX11_best yX11_best ∈ TBg := tw_in tk_7 (i := 52) rfl rfl
set_option maxRecDepth 100000 in
theorem tw_1631 : Cond.code yX11_best prog_1_method_34_code 3 (Option.some Jvm.ClassFile.FieldType.int) ∈ TBg := tw_in tk_7 (i := 53) rfl rfl
set_option maxRecDepth 100000 in
theorem tw_1632 : Cond.methodLink "GreatEstate" 275 yX5_bestSet ∈ TBg := tw_in tk_7 (i := 54) rfl rfl
set_option maxRecDepth 100000 in
theorem tw_1633 : Cond.instanceMethod yX5_bestSet ∈ TBg := tw_in tk_7 (i := 55) rfl rfl
set_option maxRecDepth 100000 in
theorem tw_1634 : Cond.selects "GreatEstate$Plan" yX5_bestSet yX5_bestSet ∈ TBg := tw_in tk_7 (i := 56) rfl rfl
set_option maxRecDepth 100000 in
theorem tw_1635 : Cond.code yX5_bestSet prog_7_method_8_code 8 (Option.some Jvm.ClassFile.FieldType.int) ∈ TBg := tw_in tk_7 (i := 57) rfl rfl
set_option maxRecDepth 100000 in
theorem tw_1636 : Cond.methodLink "GreatEstate$Plan" 54 yX5_leastEnd ∈ TBg := tw_in tk_7 (i := 58) rfl rfl
set_option maxRecDepth 100000 in
theorem tw_1637 : Cond.methodLink "GreatEstate$Plan" 58 yJ6_bitCount_0f7a4 ∈ TBg := tw_in tk_7 (i := 59) rfl rfl
set_option maxRecDepth 100000 in
theorem tw_1638 : Cond.static yJ6_bitCount_0f7a4 ∈ TBg := tw_in tk_7 (i := 60) rfl rfl
set_option maxRecDepth 100000 in
theorem tw_1639 : Cond.code yJ6_bitCount_0f7a4 prog_20_method_49_code 1 (Option.some Jvm.ClassFile.FieldType.int) ∈ TBg := tw_in tk_7 (i := 61) rfl rfl
set_option maxRecDepth 100000 in
theorem tw_1640 : Cond.constant "java/lang/Integer" 265 (1431655765) ∈ TBg := tw_in tk_7 (i := 62) rfl rfl
set_option maxRecDepth 100000 in
theorem tw_1641 : Cond.constant "java/lang/Integer" 266 (858993459) ∈ TBg := tw_in tk_7 (i := 63) rfl rfl
set_option maxRecDepth 100000 in
theorem tw_1642 : Cond.constant "java/lang/Integer" 267 (252645135) ∈ TBg := tw_in tk_7 (i := 64) rfl rfl
set_option maxRecDepth 100000 in
theorem tw_1643 : Cond.methodLink "GreatEstateLaw" 247 yL_toSell ∈ TBg := tw_in tk_7 (i := 65) rfl rfl
set_option maxRecDepth 100000 in
theorem tw_1644 : Cond.static yL_toSell ∈ TBg := tw_in tk_7 (i := 66) rfl rfl
set_option maxRecDepth 100000 in
theorem tw_1645 : Cond.codeWith yL_toSell method_31_code 6 (Option.some Jvm.ClassFile.FieldType.int) [((0 : Nat), (12 : Nat), (15 : Nat), (13 : Nat)), ((0 : Nat), (12 : Nat), (19 : Nat), (15 : Nat))] ∈ TBg := tw_in tk_7 (i := 67) rfl rfl
set_option maxRecDepth 100000 in
theorem tw_1646 : Cond.methodLink "GreatEstateLaw" 115 yX11_toSell ∈ TBg := tw_in tk_7 (i := 68) rfl rfl
set_option maxRecDepth 100000 in
theorem tw_1647 : Cond.instanceMethod yX11_toSell ∈ TBg := tw_in tk_7 (i := 69) rfl rfl
set_option maxRecDepth 100000 in
theorem tw_1648 : Cond.selects "GreatEstate" yX11_toSell yX11_toSell ∈ TBg := tw_in tk_7 (i := 70) rfl rfl
set_option maxRecDepth 100000 in
theorem tw_1649 : Cond.code yX11_toSell prog_1_method_35_code 4 (Option.some Jvm.ClassFile.FieldType.int) ∈ TBg := tw_in tk_7 (i := 71) rfl rfl
set_option maxRecDepth 100000 in
theorem tw_1650 : Cond.methodLink "GreatEstate" 278 yX0_bestSale ∈ TBg := tw_in tk_7 (i := 72) rfl rfl
set_option maxRecDepth 100000 in
theorem tw_1651 : Cond.instanceMethod yX0_bestSale ∈ TBg := tw_in tk_7 (i := 73) rfl rfl
set_option maxRecDepth 100000 in
theorem tw_1652 : Cond.selects "GreatEstate$Estate" yX0_bestSale yX0_bestSale ∈ TBg := tw_in tk_7 (i := 74) rfl rfl
set_option maxRecDepth 100000 in
theorem tw_1653 : Cond.code yX0_bestSale prog_2_method_28_code 11 (Option.some Jvm.ClassFile.FieldType.int) ∈ TBg := tw_in tk_7 (i := 75) rfl rfl
set_option maxRecDepth 100000 in
theorem tw_1654 : Cond.methodLink "GreatEstate$Estate" 210 yX0_lineThatLets ∈ TBg := tw_in tk_7 (i := 76) rfl rfl
set_option maxRecDepth 100000 in
theorem tw_1655 : Cond.methodLink "GreatEstate$Estate" 213 yX0_worthTogether ∈ TBg := tw_in tk_7 (i := 77) rfl rfl
set_option maxRecDepth 100000 in
theorem tw_1657 : Cond.instanceMethod yX0_worthTogether ∈ TBg := tw_in tk_7 (i := 79) rfl rfl
set_option maxRecDepth 100000 in
theorem tw_1658 : Cond.code yX0_worthTogether prog_2_method_30_code 5 (Option.some Jvm.ClassFile.FieldType.int) ∈ TBg := tw_in tk_7 (i := 80) rfl rfl
set_option maxRecDepth 100000 in
theorem tw_1659 : Cond.methodLink "GreatEstate$Estate" 219 yX0_isIn ∈ TBg := tw_in tk_7 (i := 81) rfl rfl
set_option maxRecDepth 100000 in
theorem tw_1660 : Cond.static yX0_isIn ∈ TBg := tw_in tk_7 (i := 82) rfl rfl
set_option maxRecDepth 100000 in
theorem tw_1661 : Cond.code yX0_isIn prog_2_method_29_code 4 (Option.some Jvm.ClassFile.FieldType.boolean) ∈ TBg := tw_in tk_7 (i := 83) rfl rfl
set_option maxRecDepth 100000 in
theorem tw_1662 : Cond.methodLink "GreatEstate$Estate" 222 yX2_worthOf ∈ TBg := tw_in tk_7 (i := 84) rfl rfl
set_option maxRecDepth 100000 in
theorem tw_1663 : Cond.methodLink "GreatEstate$Estate" 216 yX0_partedPairs ∈ TBg := tw_in tk_7 (i := 85) rfl rfl
set_option maxRecDepth 100000 in
theorem tw_1665 : Cond.instanceMethod yX0_partedPairs ∈ TBg := tw_in tk_7 (i := 87) rfl rfl
set_option maxRecDepth 100000 in
theorem tw_1666 : Cond.code yX0_partedPairs prog_2_method_31_code 7 (Option.some Jvm.ClassFile.FieldType.int) ∈ TBg := tw_in tk_7 (i := 88) rfl rfl
set_option maxRecDepth 100000 in
theorem tw_1667 : Cond.methodLink "GreatEstate$Estate" 225 yX2_beside ∈ TBg := tw_in tk_7 (i := 89) rfl rfl
set_option maxRecDepth 100000 in
theorem tw_1668 : Cond.methodLink "GreatEstateLaw" 250 yL_row ∈ TBg := tw_in tk_7 (i := 90) rfl rfl
set_option maxRecDepth 100000 in
theorem tw_1669 : Cond.static yL_row ∈ TBg := tw_in tk_7 (i := 91) rfl rfl
set_option maxRecDepth 100000 in
theorem tw_1670 : Cond.codeWith yL_row method_32_code 5 (Option.some Jvm.ClassFile.FieldType.int) [((0 : Nat), (10 : Nat), (13 : Nat), (13 : Nat)), ((0 : Nat), (10 : Nat), (17 : Nat), (60 : Nat))] ∈ TBg := tw_in tk_7 (i := 92) rfl rfl
set_option maxRecDepth 100000 in
theorem tw_1671 : Cond.methodLink "GreatEstateLaw" 118 yX11_row ∈ TBg := tw_in tk_7 (i := 93) rfl rfl
set_option maxRecDepth 100000 in
theorem tw_1672 : Cond.instanceMethod yX11_row ∈ TBg := tw_in tk_7 (i := 94) rfl rfl
set_option maxRecDepth 100000 in
theorem tw_1673 : Cond.selects "GreatEstate" yX11_row yX11_row ∈ TBg := tw_in tk_7 (i := 95) rfl rfl
set_option maxRecDepth 100000 in
theorem tw_1674 : Cond.code yX11_row prog_1_method_36_code 3 (Option.some Jvm.ClassFile.FieldType.int) ∈ TBg := tw_in tk_7 (i := 96) rfl rfl
set_option maxRecDepth 100000 in
theorem tw_1675 : Cond.methodLink "GreatEstateLaw" 253 yL_tear ∈ TBg := tw_in tk_7 (i := 97) rfl rfl
set_option maxRecDepth 100000 in
theorem tw_1676 : Cond.static yL_tear ∈ TBg := tw_in tk_7 (i := 98) rfl rfl
set_option maxRecDepth 100000 in
theorem tw_1677 : Cond.codeWith yL_tear method_33_code 6 (Option.some Jvm.ClassFile.FieldType.int) [((0 : Nat), (12 : Nat), (15 : Nat), (13 : Nat)), ((0 : Nat), (12 : Nat), (19 : Nat), (60 : Nat))] ∈ TBg := tw_in tk_7 (i := 99) rfl rfl
set_option maxRecDepth 100000 in
theorem tw_1678 : Cond.methodLink "GreatEstateLaw" 121 yX11_tear ∈ TBg := tw_in tk_7 (i := 100) rfl rfl
set_option maxRecDepth 100000 in
theorem tw_1679 : Cond.instanceMethod yX11_tear ∈ TBg := tw_in tk_7 (i := 101) rfl rfl
set_option maxRecDepth 100000 in
theorem tw_1680 : Cond.selects "GreatEstate" yX11_tear yX11_tear ∈ TBg := tw_in tk_7 (i := 102) rfl rfl
set_option maxRecDepth 100000 in
theorem tw_1681 : Cond.code yX11_tear prog_1_method_37_code 4 (Option.some Jvm.ClassFile.FieldType.int) ∈ TBg := tw_in tk_7 (i := 103) rfl rfl
set_option maxRecDepth 100000 in
theorem tw_1682 : Cond.methodLink "GreatEstateLaw" 142 yX12_thrown ∈ TBg := tw_in tk_7 (i := 104) rfl rfl
set_option maxRecDepth 100000 in
theorem tw_1683 : Cond.instanceMethod yX12_thrown ∈ TBg := tw_in tk_7 (i := 105) rfl rfl
set_option maxRecDepth 100000 in
theorem tw_1684 : Cond.selects "GreatEstateModel" yX12_thrown yX12_thrown ∈ TBg := tw_in tk_7 (i := 106) rfl rfl
set_option maxRecDepth 100000 in
theorem tw_1685 : Cond.code yX12_thrown prog_14_method_1_code 1 (Option.some Jvm.ClassFile.FieldType.int) ∈ TBg := tw_in tk_7 (i := 107) rfl rfl
set_option maxRecDepth 100000 in
theorem tw_1686 : Cond.classLink "GreatEstateLaw" 125 "GreatEstateModel" ∈ TBg := tw_in tk_7 (i := 108) rfl rfl
set_option maxRecDepth 100000 in
theorem tw_1687 : Cond.instantiable "GreatEstateModel" 18 ∈ TBg := tw_in tk_7 (i := 109) rfl rfl
set_option maxRecDepth 100000 in
theorem tw_1688 : Cond.methodLink "GreatEstateLaw" 127 yX12_init ∈ TBg := tw_in tk_7 (i := 110) rfl rfl
set_option maxRecDepth 100000 in
theorem tw_1689 : Cond.instanceMethod yX12_init ∈ TBg := tw_in tk_7 (i := 111) rfl rfl
set_option maxRecDepth 100000 in
theorem tw_1690 : Cond.code yX12_init prog_14_method_5_code 2 (Option.none : Option Jvm.ClassFile.FieldType) ∈ TBg := tw_in tk_7 (i := 112) rfl rfl
set_option maxRecDepth 100000 in
theorem tw_1691 : Cond.methodLink "GreatEstateModel" 20 objectInit ∈ TBg := tw_in tk_7 (i := 113) rfl rfl
set_option maxRecDepth 100000 in
theorem tw_1692 : Cond.constant "GreatEstateModel" 26 (35877) ∈ TBg := tw_in tk_7 (i := 114) rfl rfl
set_option maxRecDepth 100000 in
theorem tw_1693 : Cond.constant "GreatEstateModel" 31 (34979) ∈ TBg := tw_in tk_7 (i := 115) rfl rfl
set_option maxRecDepth 100000 in
theorem tw_1694 : Cond.methodLink "GreatEstateModel" 59 yX12_at ∈ TBg := tw_in tk_7 (i := 116) rfl rfl
set_option maxRecDepth 100000 in
theorem tw_1695 : Cond.static yX12_at ∈ TBg := tw_in tk_7 (i := 117) rfl rfl
set_option maxRecDepth 100000 in
theorem tw_1696 : Cond.code yX12_at prog_14_method_8_code 2 (Option.some Jvm.ClassFile.FieldType.int) ∈ TBg := tw_in tk_7 (i := 118) rfl rfl
set_option maxRecDepth 100000 in
theorem tw_1697 : Cond.fieldLink "GreatEstateModel" 3 "GreatEstateModel" "thrown" "I" ∈ TBg := tw_in tk_7 (i := 119) rfl rfl
set_option maxRecDepth 100000 in
theorem tw_1698 : Cond.fieldLink "GreatEstateModel" 27 "GreatEstateModel" "world" "[I" ∈ TBg := tw_in tk_7 (i := 120) rfl rfl
set_option maxRecDepth 100000 in
theorem tw_1699 : Cond.fieldLink "GreatEstateModel" 32 "GreatEstateModel" "image" "[I" ∈ TBg := tw_in tk_7 (i := 121) rfl rfl
set_option maxRecDepth 100000 in
theorem tw_1700 : Cond.fieldLink "GreatEstateModel" 67 "GreatEstateModel" "hasImage" "Z" ∈ TBg := tw_in tk_7 (i := 122) rfl rfl
set_option maxRecDepth 100000 in
theorem tw_1701 : Cond.fieldLink "GreatEstateModel" 35 "GreatEstateModel" "tape" "[B" ∈ TBg := tw_in tk_7 (i := 123) rfl rfl
set_option maxRecDepth 100000 in
theorem tw_1702 : Cond.fieldLink "GreatEstateModel" 105 "GreatEstateModel" "taped" "I" ∈ TBg := tw_in tk_7 (i := 124) rfl rfl
set_option maxRecDepth 100000 in
theorem tw_1703 : Cond.fieldLink "GreatEstateModel" 108 "GreatEstateModel" "point" "I" ∈ TBg := tw_in tk_7 (i := 125) rfl rfl
set_option maxRecDepth 100000 in
theorem tw_1704 : Cond.fieldLink "GreatEstateModel" 111 "GreatEstateModel" "end" "I" ∈ TBg := tw_in tk_7 (i := 126) rfl rfl
set_option maxRecDepth 100000 in
theorem tw_1705 : Cond.fieldLink "GreatEstateModel" 118 "GreatEstateModel" "begin" "I" ∈ TBg := tw_in tk_7 (i := 127) rfl rfl
set_option maxRecDepth 100000 in
theorem tw_1706 : Cond.fieldLink "GreatEstateModel" 186 "GreatEstateModel" "deep" "I" ∈ TBg := tw_in tk_7 (i := 128) rfl rfl
set_option maxRecDepth 100000 in
theorem tw_1707 : Cond.fieldLink "GreatEstateModel" 39 "GreatEstateModel" "faultAt" "I" ∈ TBg := tw_in tk_7 (i := 129) rfl rfl
set_option maxRecDepth 100000 in
theorem tw_1708 : Cond.fieldLink "GreatEstateModel" 42 "GreatEstateModel" "five" "[I" ∈ TBg := tw_in tk_7 (i := 130) rfl rfl
set_option maxRecDepth 100000 in
theorem tw_1709 : Cond.fieldLink "GreatEstateModel" 143 "GreatEstateModel" "steps" "I" ∈ TBg := tw_in tk_7 (i := 131) rfl rfl
set_option maxRecDepth 100000 in
theorem tw_1710 : Cond.fieldLink "GreatEstateModel" 45 "GreatEstateModel" "value" "[J" ∈ TBg := tw_in tk_7 (i := 132) rfl rfl
set_option maxRecDepth 100000 in
theorem tw_1711 : Cond.fieldLink "GreatEstateModel" 49 "GreatEstateModel" "facts" "[J" ∈ TBg := tw_in tk_7 (i := 133) rfl rfl
set_option maxRecDepth 100000 in
theorem tw_1712 : Cond.fieldLink "GreatEstateModel" 52 "GreatEstateModel" "order" "[I" ∈ TBg := tw_in tk_7 (i := 134) rfl rfl
set_option maxRecDepth 100000 in
theorem tw_1713 : Cond.fieldLink "GreatEstateModel" 296 "GreatEstateModel" "inForce" "I" ∈ TBg := tw_in tk_7 (i := 135) rfl rfl
set_option maxRecDepth 100000 in
theorem tw_1714 : Cond.fieldLink "GreatEstateModel" 55 "GreatEstateModel" "isTold" "[Z" ∈ TBg := tw_in tk_7 (i := 136) rfl rfl
set_option maxRecDepth 100000 in
theorem tw_1752 : Cond.arrayClass .boolean ∈ TBg := tw_in tk_7 (i := 174) rfl rfl
set_option maxRecDepth 100000 in
theorem tw_1753 : Cond.methodLink "GreatEstateLaw" 263 yX12_image ∈ TBg := tw_in tk_7 (i := 175) rfl rfl
set_option maxRecDepth 100000 in
theorem tw_1754 : Cond.instanceMethod yX12_image ∈ TBg := tw_in tk_7 (i := 176) rfl rfl
set_option maxRecDepth 100000 in
theorem tw_1755 : Cond.selects "GreatEstateModel" yX12_image yX12_image ∈ TBg := tw_in tk_7 (i := 177) rfl rfl
set_option maxRecDepth 100000 in
theorem tw_1756 : Cond.code yX12_image prog_14_method_12_code 2 (Option.none : Option Jvm.ClassFile.FieldType) ∈ TBg := tw_in tk_7 (i := 178) rfl rfl
set_option maxRecDepth 100000 in
theorem tw_1757 : Cond.methodLink "GreatEstateLaw" 268 yX12_back ∈ TBg := tw_in tk_7 (i := 179) rfl rfl
set_option maxRecDepth 100000 in
theorem tw_1758 : Cond.instanceMethod yX12_back ∈ TBg := tw_in tk_7 (i := 180) rfl rfl
set_option maxRecDepth 100000 in
theorem tw_1759 : Cond.selects "GreatEstateModel" yX12_back yX12_back ∈ TBg := tw_in tk_7 (i := 181) rfl rfl
set_option maxRecDepth 100000 in
theorem tw_1760 : Cond.code yX12_back prog_14_method_13_code 2 (Option.some Jvm.ClassFile.FieldType.boolean) ∈ TBg := tw_in tk_7 (i := 182) rfl rfl
set_option maxRecDepth 100000 in
theorem tw_1761 : Cond.methodLink "GreatEstateLaw" 141 yX12_field ∈ TBg := tw_in tk_7 (i := 183) rfl rfl
set_option maxRecDepth 100000 in
theorem tw_1762 : Cond.instanceMethod yX12_field ∈ TBg := tw_in tk_7 (i := 184) rfl rfl
set_option maxRecDepth 100000 in
theorem tw_1763 : Cond.selects "GreatEstateModel" yX12_field yX12_field ∈ TBg := tw_in tk_7 (i := 185) rfl rfl
set_option maxRecDepth 100000 in
theorem tw_1764 : Cond.code yX12_field prog_14_method_14_code 7 (Option.some Jvm.ClassFile.FieldType.boolean) ∈ TBg := tw_in tk_7 (i := 186) rfl rfl
set_option maxRecDepth 100000 in
theorem tw_1765 : Cond.methodLink "GreatEstateModel" 71 yX12_noField ∈ TBg := tw_in tk_7 (i := 187) rfl rfl
set_option maxRecDepth 100000 in
theorem tw_1766 : Cond.static yX12_noField ∈ TBg := tw_in tk_7 (i := 188) rfl rfl
set_option maxRecDepth 100000 in
theorem tw_1767 : Cond.code yX12_noField prog_14_method_10_code 1 (Option.some Jvm.ClassFile.FieldType.boolean) ∈ TBg := tw_in tk_7 (i := 189) rfl rfl
set_option maxRecDepth 100000 in
theorem tw_1768 : Cond.methodLink "GreatEstateModel" 63 yX12_in ∈ TBg := tw_in tk_7 (i := 190) rfl rfl
set_option maxRecDepth 100000 in
theorem tw_1769 : Cond.static yX12_in ∈ TBg := tw_in tk_7 (i := 191) rfl rfl
set_option maxRecDepth 100000 in
theorem tw_1770 : Cond.code yX12_in prog_14_method_3_code 3 (Option.some Jvm.ClassFile.FieldType.boolean) ∈ TBg := tw_in tk_7 (i := 192) rfl rfl
set_option maxRecDepth 100000 in
theorem tw_1771 : Cond.methodLink "GreatEstateModel" 75 yX12_throwsIf ∈ TBg := tw_in tk_7 (i := 193) rfl rfl
set_option maxRecDepth 100000 in
theorem tw_1773 : Cond.instanceMethod yX12_throwsIf ∈ TBg := tw_in tk_7 (i := 195) rfl rfl
set_option maxRecDepth 100000 in
theorem tw_1774 : Cond.code yX12_throwsIf prog_14_method_2_code 3 (Option.some Jvm.ClassFile.FieldType.boolean) ∈ TBg := tw_in tk_7 (i := 196) rfl rfl
set_option maxRecDepth 100000 in
theorem tw_1775 : Cond.methodLink "GreatEstateModel" 79 yX12_of ∈ TBg := tw_in tk_7 (i := 197) rfl rfl
set_option maxRecDepth 100000 in
theorem tw_1777 : Cond.instanceMethod yX12_of ∈ TBg := tw_in tk_7 (i := 199) rfl rfl
set_option maxRecDepth 100000 in
theorem tw_1778 : Cond.code yX12_of prog_14_method_9_code 3 (Option.some Jvm.ClassFile.FieldType.int) ∈ TBg := tw_in tk_7 (i := 200) rfl rfl
set_option maxRecDepth 100000 in
theorem tw_1779 : Cond.methodLink "GreatEstateLaw" 149 yX12_rain ∈ TBg := tw_in tk_7 (i := 201) rfl rfl
set_option maxRecDepth 100000 in
theorem tw_1780 : Cond.instanceMethod yX12_rain ∈ TBg := tw_in tk_7 (i := 202) rfl rfl
set_option maxRecDepth 100000 in
theorem tw_1781 : Cond.selects "GreatEstateModel" yX12_rain yX12_rain ∈ TBg := tw_in tk_7 (i := 203) rfl rfl
set_option maxRecDepth 100000 in
theorem tw_1782 : Cond.code yX12_rain prog_14_method_15_code 4 (Option.none : Option Jvm.ClassFile.FieldType) ∈ TBg := tw_in tk_7 (i := 204) rfl rfl
set_option maxRecDepth 100000 in
theorem tw_1783 : Cond.methodLink "GreatEstateLaw" 153 yX12_fell ∈ TBg := tw_in tk_7 (i := 205) rfl rfl
set_option maxRecDepth 100000 in
theorem tw_1784 : Cond.instanceMethod yX12_fell ∈ TBg := tw_in tk_7 (i := 206) rfl rfl
set_option maxRecDepth 100000 in
theorem tw_1785 : Cond.selects "GreatEstateModel" yX12_fell yX12_fell ∈ TBg := tw_in tk_7 (i := 207) rfl rfl
set_option maxRecDepth 100000 in
theorem tw_1786 : Cond.code yX12_fell prog_14_method_18_code 2 (Option.some Jvm.ClassFile.FieldType.int) ∈ TBg := tw_in tk_7 (i := 208) rfl rfl
set_option maxRecDepth 100000 in
theorem tw_1787 : Cond.methodLink "GreatEstateModel" 86 yX12_rainOf ∈ TBg := tw_in tk_7 (i := 209) rfl rfl
set_option maxRecDepth 100000 in
theorem tw_1789 : Cond.instanceMethod yX12_rainOf ∈ TBg := tw_in tk_7 (i := 211) rfl rfl
set_option maxRecDepth 100000 in
theorem tw_1790 : Cond.code yX12_rainOf prog_14_method_17_code 2 (Option.some Jvm.ClassFile.FieldType.int) ∈ TBg := tw_in tk_7 (i := 212) rfl rfl
set_option maxRecDepth 100000 in
theorem tw_1791 : Cond.methodLink "GreatEstateModel" 82 yX12_rainTold ∈ TBg := tw_in tk_7 (i := 213) rfl rfl
set_option maxRecDepth 100000 in
theorem tw_1793 : Cond.instanceMethod yX12_rainTold ∈ TBg := tw_in tk_7 (i := 215) rfl rfl
set_option maxRecDepth 100000 in
theorem tw_1794 : Cond.code yX12_rainTold prog_14_method_16_code 2 (Option.some Jvm.ClassFile.FieldType.int) ∈ TBg := tw_in tk_7 (i := 216) rfl rfl
set_option maxRecDepth 100000 in
theorem tw_1795 : Cond.methodLink "GreatEstateLaw" 157 yX12_price ∈ TBg := tw_in tk_7 (i := 217) rfl rfl
set_option maxRecDepth 100000 in
theorem tw_1796 : Cond.instanceMethod yX12_price ∈ TBg := tw_in tk_7 (i := 218) rfl rfl
set_option maxRecDepth 100000 in
theorem tw_1797 : Cond.selects "GreatEstateModel" yX12_price yX12_price ∈ TBg := tw_in tk_7 (i := 219) rfl rfl
set_option maxRecDepth 100000 in
theorem tw_1798 : Cond.code yX12_price prog_14_method_19_code 5 (Option.some Jvm.ClassFile.FieldType.int) ∈ TBg := tw_in tk_7 (i := 220) rfl rfl
set_option maxRecDepth 100000 in
theorem tw_1799 : Cond.methodLink "GreatEstateModel" 89 yX12_season ∈ TBg := tw_in tk_7 (i := 221) rfl rfl
set_option maxRecDepth 100000 in
theorem tw_1801 : Cond.instanceMethod yX12_season ∈ TBg := tw_in tk_7 (i := 223) rfl rfl
set_option maxRecDepth 100000 in
theorem tw_1802 : Cond.code yX12_season prog_14_method_6_code 1 (Option.some Jvm.ClassFile.FieldType.int) ∈ TBg := tw_in tk_7 (i := 224) rfl rfl
set_option maxRecDepth 100000 in
theorem tw_1803 : Cond.methodLink "GreatEstateLaw" 160 yX12_known ∈ TBg := tw_in tk_7 (i := 225) rfl rfl
set_option maxRecDepth 100000 in
theorem tw_1804 : Cond.instanceMethod yX12_known ∈ TBg := tw_in tk_7 (i := 226) rfl rfl
set_option maxRecDepth 100000 in
theorem tw_1805 : Cond.selects "GreatEstateModel" yX12_known yX12_known ∈ TBg := tw_in tk_7 (i := 227) rfl rfl
set_option maxRecDepth 100000 in
theorem tw_1806 : Cond.code yX12_known prog_14_method_21_code 4 (Option.some Jvm.ClassFile.FieldType.int) ∈ TBg := tw_in tk_7 (i := 228) rfl rfl
set_option maxRecDepth 100000 in
theorem tw_1807 : Cond.methodLink "GreatEstateModel" 93 yX12_knownOf ∈ TBg := tw_in tk_7 (i := 229) rfl rfl
set_option maxRecDepth 100000 in
theorem tw_1809 : Cond.instanceMethod yX12_knownOf ∈ TBg := tw_in tk_7 (i := 231) rfl rfl
set_option maxRecDepth 100000 in
theorem tw_1810 : Cond.code yX12_knownOf prog_14_method_20_code 6 (Option.some Jvm.ClassFile.FieldType.int) ∈ TBg := tw_in tk_7 (i := 232) rfl rfl
set_option maxRecDepth 100000 in
theorem tw_1811 : Cond.methodLink "GreatEstateLaw" 184 yX12_look ∈ TBg := tw_in tk_7 (i := 233) rfl rfl
set_option maxRecDepth 100000 in
theorem tw_1812 : Cond.instanceMethod yX12_look ∈ TBg := tw_in tk_7 (i := 234) rfl rfl
set_option maxRecDepth 100000 in
theorem tw_1813 : Cond.selects "GreatEstateModel" yX12_look yX12_look ∈ TBg := tw_in tk_7 (i := 235) rfl rfl
set_option maxRecDepth 100000 in
theorem tw_1814 : Cond.code yX12_look prog_14_method_24_code 3 (Option.some Jvm.ClassFile.FieldType.int) ∈ TBg := tw_in tk_7 (i := 236) rfl rfl
set_option maxRecDepth 100000 in
theorem tw_1815 : Cond.methodLink "GreatEstateModel" 102 yX12_worthOf ∈ TBg := tw_in tk_7 (i := 237) rfl rfl
set_option maxRecDepth 100000 in
theorem tw_1817 : Cond.instanceMethod yX12_worthOf ∈ TBg := tw_in tk_7 (i := 239) rfl rfl
set_option maxRecDepth 100000 in
theorem tw_1818 : Cond.code yX12_worthOf prog_14_method_23_code 3 (Option.some Jvm.ClassFile.FieldType.int) ∈ TBg := tw_in tk_8 (i := 0) rfl rfl
set_option maxRecDepth 100000 in
theorem tw_1819 : Cond.methodLink "GreatEstateModel" 100 Lib.Math.max.name ∈ TBg := tw_in tk_8 (i := 1) rfl rfl
set_option maxRecDepth 100000 in
theorem tw_1820 : Cond.methodLink "GreatEstateLaw" 131 yX12_feed ∈ TBg := tw_in tk_8 (i := 2) rfl rfl
set_option maxRecDepth 100000 in
theorem tw_1821 : Cond.instanceMethod yX12_feed ∈ TBg := tw_in tk_8 (i := 3) rfl rfl
set_option maxRecDepth 100000 in
theorem tw_1822 : Cond.selects "GreatEstateModel" yX12_feed yX12_feed ∈ TBg := tw_in tk_8 (i := 4) rfl rfl
set_option maxRecDepth 100000 in
theorem tw_1823 : Cond.code yX12_feed prog_14_method_25_code 7 (Option.some Jvm.ClassFile.FieldType.int) ∈ TBg := tw_in tk_8 (i := 5) rfl rfl
set_option maxRecDepth 100000 in
theorem tw_1824 : Cond.methodLink "GreatEstateLaw" 135 yX12_end ∈ TBg := tw_in tk_8 (i := 6) rfl rfl
set_option maxRecDepth 100000 in
theorem tw_1825 : Cond.instanceMethod yX12_end ∈ TBg := tw_in tk_8 (i := 7) rfl rfl
set_option maxRecDepth 100000 in
theorem tw_1826 : Cond.selects "GreatEstateModel" yX12_end yX12_end ∈ TBg := tw_in tk_8 (i := 8) rfl rfl
set_option maxRecDepth 100000 in
theorem tw_1827 : Cond.code yX12_end prog_14_method_26_code 2 (Option.some Jvm.ClassFile.FieldType.boolean) ∈ TBg := tw_in tk_8 (i := 9) rfl rfl
set_option maxRecDepth 100000 in
theorem tw_1828 : Cond.methodLink "GreatEstateLaw" 204 yX12_fault ∈ TBg := tw_in tk_8 (i := 10) rfl rfl
set_option maxRecDepth 100000 in
theorem tw_1829 : Cond.instanceMethod yX12_fault ∈ TBg := tw_in tk_8 (i := 11) rfl rfl
set_option maxRecDepth 100000 in
theorem tw_1830 : Cond.selects "GreatEstateModel" yX12_fault yX12_fault ∈ TBg := tw_in tk_8 (i := 12) rfl rfl
set_option maxRecDepth 100000 in
theorem tw_1831 : Cond.code yX12_fault prog_14_method_35_code 1 (Option.some Jvm.ClassFile.FieldType.int) ∈ TBg := tw_in tk_8 (i := 13) rfl rfl
set_option maxRecDepth 100000 in
theorem tw_1832 : Cond.methodLink "GreatEstateLaw" 200 yX12_words ∈ TBg := tw_in tk_8 (i := 14) rfl rfl
set_option maxRecDepth 100000 in
theorem tw_1833 : Cond.instanceMethod yX12_words ∈ TBg := tw_in tk_8 (i := 15) rfl rfl
set_option maxRecDepth 100000 in
theorem tw_1834 : Cond.selects "GreatEstateModel" yX12_words yX12_words ∈ TBg := tw_in tk_8 (i := 16) rfl rfl
set_option maxRecDepth 100000 in
theorem tw_1835 : Cond.code yX12_words prog_14_method_70_code 4 (Option.some Jvm.ClassFile.FieldType.int) ∈ TBg := tw_in tk_8 (i := 17) rfl rfl
set_option maxRecDepth 100000 in
theorem tw_1836 : Cond.methodLink "GreatEstateModel" 323 yX12_uses ∈ TBg := tw_in tk_8 (i := 18) rfl rfl
set_option maxRecDepth 100000 in
theorem tw_1838 : Cond.instanceMethod yX12_uses ∈ TBg := tw_in tk_8 (i := 20) rfl rfl
set_option maxRecDepth 100000 in
theorem tw_1839 : Cond.code yX12_uses prog_14_method_54_code 1 (Option.none : Option Jvm.ClassFile.FieldType) ∈ TBg := tw_in tk_8 (i := 21) rfl rfl
set_option maxRecDepth 100000 in
theorem tw_1840 : Cond.methodLink "GreatEstateModel" 326 yX12_reads ∈ TBg := tw_in tk_8 (i := 22) rfl rfl
set_option maxRecDepth 100000 in
theorem tw_1842 : Cond.instanceMethod yX12_reads ∈ TBg := tw_in tk_8 (i := 24) rfl rfl
set_option maxRecDepth 100000 in
theorem tw_1843 : Cond.code yX12_reads prog_14_method_55_code 3 (Option.some Jvm.ClassFile.FieldType.int) ∈ TBg := tw_in tk_8 (i := 25) rfl rfl
set_option maxRecDepth 100000 in
theorem tw_1844 : Cond.methodLink "GreatEstateModel" 287 yX12_readAll ∈ TBg := tw_in tk_8 (i := 26) rfl rfl
set_option maxRecDepth 100000 in
theorem tw_1846 : Cond.instanceMethod yX12_readAll ∈ TBg := tw_in tk_8 (i := 28) rfl rfl
set_option maxRecDepth 100000 in
theorem tw_1847 : Cond.code yX12_readAll prog_14_method_53_code 3 (Option.some Jvm.ClassFile.FieldType.int) ∈ TBg := tw_in tk_8 (i := 29) rfl rfl
set_option maxRecDepth 100000 in
theorem tw_1848 : Cond.methodLink "GreatEstateModel" 121 yX12_blanks ∈ TBg := tw_in tk_8 (i := 30) rfl rfl
set_option maxRecDepth 100000 in
theorem tw_1850 : Cond.instanceMethod yX12_blanks ∈ TBg := tw_in tk_8 (i := 32) rfl rfl
set_option maxRecDepth 100000 in
theorem tw_1851 : Cond.code yX12_blanks prog_14_method_28_code 1 (Option.none : Option Jvm.ClassFile.FieldType) ∈ TBg := tw_in tk_8 (i := 33) rfl rfl
set_option maxRecDepth 100000 in
theorem tw_1852 : Cond.methodLink "GreatEstateModel" 114 yX12_isAt ∈ TBg := tw_in tk_8 (i := 34) rfl rfl
set_option maxRecDepth 100000 in
theorem tw_1854 : Cond.instanceMethod yX12_isAt ∈ TBg := tw_in tk_8 (i := 36) rfl rfl
set_option maxRecDepth 100000 in
theorem tw_1855 : Cond.code yX12_isAt prog_14_method_27_code 3 (Option.some Jvm.ClassFile.FieldType.boolean) ∈ TBg := tw_in tk_8 (i := 37) rfl rfl
set_option maxRecDepth 100000 in
theorem tw_1856 : Cond.methodLink "GreatEstateModel" 284 yX12_readLine ∈ TBg := tw_in tk_8 (i := 38) rfl rfl
set_option maxRecDepth 100000 in
theorem tw_1858 : Cond.instanceMethod yX12_readLine ∈ TBg := tw_in tk_8 (i := 40) rfl rfl
set_option maxRecDepth 100000 in
theorem tw_1859 : Cond.code yX12_readLine prog_14_method_52_code 5 (Option.some Jvm.ClassFile.FieldType.boolean) ∈ TBg := tw_in tk_8 (i := 41) rfl rfl
set_option maxRecDepth 100000 in
theorem tw_1860 : Cond.methodLink "GreatEstateModel" 133 yX12_word ∈ TBg := tw_in tk_8 (i := 42) rfl rfl
set_option maxRecDepth 100000 in
theorem tw_1862 : Cond.instanceMethod yX12_word ∈ TBg := tw_in tk_8 (i := 44) rfl rfl
set_option maxRecDepth 100000 in
theorem tw_1863 : Cond.code yX12_word prog_14_method_29_code 1 (Option.none : Option Jvm.ClassFile.FieldType) ∈ TBg := tw_in tk_8 (i := 45) rfl rfl
set_option maxRecDepth 100000 in
theorem tw_1864 : Cond.methodLink "GreatEstateModel" 275 yX12_lineAt ∈ TBg := tw_in tk_8 (i := 46) rfl rfl
set_option maxRecDepth 100000 in
theorem tw_1865 : Cond.static yX12_lineAt ∈ TBg := tw_in tk_8 (i := 47) rfl rfl
set_option maxRecDepth 100000 in
theorem tw_1866 : Cond.code yX12_lineAt prog_14_method_37_code 2 (Option.some Jvm.ClassFile.FieldType.int) ∈ TBg := tw_in tk_8 (i := 48) rfl rfl
set_option maxRecDepth 100000 in
theorem tw_1867 : Cond.methodLink "GreatEstateModel" 140 yX12_textAt ∈ TBg := tw_in tk_8 (i := 49) rfl rfl
set_option maxRecDepth 100000 in
theorem tw_1868 : Cond.static yX12_textAt ∈ TBg := tw_in tk_8 (i := 50) rfl rfl
set_option maxRecDepth 100000 in
theorem tw_1869 : Cond.code yX12_textAt prog_14_method_36_code 1 (Option.some Jvm.ClassFile.FieldType.int) ∈ TBg := tw_in tk_8 (i := 51) rfl rfl
set_option maxRecDepth 100000 in
theorem tw_1870 : Cond.methodLink "GreatEstateModel" 278 yX12_sortOf ∈ TBg := tw_in tk_8 (i := 52) rfl rfl
set_option maxRecDepth 100000 in
theorem tw_1872 : Cond.instanceMethod yX12_sortOf ∈ TBg := tw_in tk_8 (i := 54) rfl rfl
set_option maxRecDepth 100000 in
theorem tw_1873 : Cond.code yX12_sortOf prog_14_method_47_code 3 (Option.some Jvm.ClassFile.FieldType.int) ∈ TBg := tw_in tk_8 (i := 55) rfl rfl
set_option maxRecDepth 100000 in
theorem tw_1875 : Cond.methodLink "GreatEstateModel" 136 yX12_isWord ∈ TBg := tw_in tk_8 (i := 57) rfl rfl
set_option maxRecDepth 100000 in
theorem tw_1877 : Cond.instanceMethod yX12_isWord ∈ TBg := tw_in tk_8 (i := 59) rfl rfl
set_option maxRecDepth 100000 in
theorem tw_1878 : Cond.code yX12_isWord prog_14_method_30_code 4 (Option.some Jvm.ClassFile.FieldType.boolean) ∈ TBg := tw_in tk_8 (i := 60) rfl rfl
set_option maxRecDepth 100000 in
theorem tw_1879 : Cond.methodLink "GreatEstateModel" 124 yJ0_length_8abf5 ∈ TBg := tw_in tk_8 (i := 61) rfl rfl
set_option maxRecDepth 100000 in
theorem tw_1880 : Cond.methodLink "GreatEstateModel" 129 yJ0_charAt_5068e ∈ TBg := tw_in tk_8 (i := 62) rfl rfl
set_option maxRecDepth 100000 in
theorem tw_1887 : Cond.methodLink "GreatEstateModel" 236 yX12_wordOf ∈ TBg := tw_in tk_8 (i := 69) rfl rfl
set_option maxRecDepth 100000 in
theorem tw_1889 : Cond.instanceMethod yX12_wordOf ∈ TBg := tw_in tk_8 (i := 71) rfl rfl
set_option maxRecDepth 100000 in
theorem tw_1890 : Cond.code yX12_wordOf prog_14_method_48_code 1 (Option.some Jvm.ClassFile.FieldType.int) ∈ TBg := tw_in tk_8 (i := 72) rfl rfl
set_option maxRecDepth 100000 in
theorem tw_1898 : Cond.methodLink "GreatEstateModel" 281 yX12_readRest ∈ TBg := tw_in tk_8 (i := 80) rfl rfl
set_option maxRecDepth 100000 in
theorem tw_1900 : Cond.instanceMethod yX12_readRest ∈ TBg := tw_in tk_8 (i := 82) rfl rfl
set_option maxRecDepth 100000 in
theorem tw_1901 : Cond.code yX12_readRest prog_14_method_51_code 3 (Option.some Jvm.ClassFile.FieldType.boolean) ∈ TBg := tw_in tk_8 (i := 83) rfl rfl
set_option maxRecDepth 100000 in
theorem tw_1902 : Cond.constant "GreatEstateModel" 175 (999999) ∈ TBg := tw_in tk_8 (i := 84) rfl rfl
set_option maxRecDepth 100000 in
theorem tw_1903 : Cond.methodLink "GreatEstateModel" 255 yX12_tells ∈ TBg := tw_in tk_8 (i := 85) rfl rfl
set_option maxRecDepth 100000 in
theorem tw_1905 : Cond.instanceMethod yX12_tells ∈ TBg := tw_in tk_8 (i := 87) rfl rfl
set_option maxRecDepth 100000 in
theorem tw_1906 : Cond.code yX12_tells prog_14_method_49_code 3 (Option.some Jvm.ClassFile.FieldType.boolean) ∈ TBg := tw_in tk_8 (i := 88) rfl rfl
set_option maxRecDepth 100000 in
theorem tw_1907 : Cond.methodLink "GreatEstateModel" 176 yX12_number ∈ TBg := tw_in tk_8 (i := 89) rfl rfl
set_option maxRecDepth 100000 in
theorem tw_1909 : Cond.instanceMethod yX12_number ∈ TBg := tw_in tk_8 (i := 91) rfl rfl
set_option maxRecDepth 100000 in
theorem tw_1910 : Cond.code yX12_number prog_14_method_34_code 3 (Option.some Jvm.ClassFile.FieldType.int) ∈ TBg := tw_in tk_8 (i := 92) rfl rfl
set_option maxRecDepth 100000 in
theorem tw_1912 : Cond.methodLink "GreatEstateModel" 259 yX12_needs ∈ TBg := tw_in tk_8 (i := 94) rfl rfl
set_option maxRecDepth 100000 in
theorem tw_1914 : Cond.instanceMethod yX12_needs ∈ TBg := tw_in tk_8 (i := 96) rfl rfl
set_option maxRecDepth 100000 in
theorem tw_1915 : Cond.code yX12_needs prog_14_method_32_code 2 (Option.some Jvm.ClassFile.FieldType.boolean) ∈ TBg := tw_in tk_8 (i := 97) rfl rfl
set_option maxRecDepth 100000 in
theorem tw_1916 : Cond.methodLink "GreatEstateModel" 262 yX12_readCrop ∈ TBg := tw_in tk_8 (i := 98) rfl rfl
set_option maxRecDepth 100000 in
theorem tw_1918 : Cond.instanceMethod yX12_readCrop ∈ TBg := tw_in tk_8 (i := 100) rfl rfl
set_option maxRecDepth 100000 in
theorem tw_1919 : Cond.code yX12_readCrop prog_14_method_45_code 1 (Option.some Jvm.ClassFile.FieldType.int) ∈ TBg := tw_in tk_8 (i := 101) rfl rfl
set_option maxRecDepth 100000 in
theorem tw_1926 : Cond.methodLink "GreatEstateModel" 267 yX12_readThing ∈ TBg := tw_in tk_8 (i := 108) rfl rfl
set_option maxRecDepth 100000 in
theorem tw_1928 : Cond.instanceMethod yX12_readThing ∈ TBg := tw_in tk_8 (i := 110) rfl rfl
set_option maxRecDepth 100000 in
theorem tw_1929 : Cond.code yX12_readThing prog_14_method_46_code 3 (Option.some Jvm.ClassFile.FieldType.int) ∈ TBg := tw_in tk_8 (i := 111) rfl rfl
set_option maxRecDepth 100000 in
theorem tw_1935 : Cond.methodLink "GreatEstateModel" 271 yX12_readIf ∈ TBg := tw_in tk_8 (i := 117) rfl rfl
set_option maxRecDepth 100000 in
theorem tw_1937 : Cond.instanceMethod yX12_readIf ∈ TBg := tw_in tk_8 (i := 119) rfl rfl
set_option maxRecDepth 100000 in
theorem tw_1938 : Cond.code yX12_readIf prog_14_method_50_code 3 (Option.some Jvm.ClassFile.FieldType.boolean) ∈ TBg := tw_in tk_8 (i := 120) rfl rfl
set_option maxRecDepth 100000 in
theorem tw_1940 : Cond.methodLink "GreatEstateModel" 194 yX12_passes ∈ TBg := tw_in tk_8 (i := 122) rfl rfl
set_option maxRecDepth 100000 in
theorem tw_1942 : Cond.instanceMethod yX12_passes ∈ TBg := tw_in tk_8 (i := 124) rfl rfl
set_option maxRecDepth 100000 in
theorem tw_1943 : Cond.code yX12_passes prog_14_method_31_code 2 (Option.some Jvm.ClassFile.FieldType.boolean) ∈ TBg := tw_in tk_8 (i := 125) rfl rfl
set_option maxRecDepth 100000 in
theorem tw_1944 : Cond.methodLink "GreatEstateModel" 189 yX12_readCond ∈ TBg := tw_in tk_8 (i := 126) rfl rfl
set_option maxRecDepth 100000 in
theorem tw_1946 : Cond.instanceMethod yX12_readCond ∈ TBg := tw_in tk_8 (i := 128) rfl rfl
set_option maxRecDepth 100000 in
theorem tw_1947 : Cond.code yX12_readCond prog_14_method_44_code 1 (Option.some Jvm.ClassFile.FieldType.boolean) ∈ TBg := tw_in tk_8 (i := 129) rfl rfl
set_option maxRecDepth 100000 in
theorem tw_1948 : Cond.methodLink "GreatEstateModel" 205 yX12_readAllOf ∈ TBg := tw_in tk_8 (i := 130) rfl rfl
set_option maxRecDepth 100000 in
theorem tw_1950 : Cond.instanceMethod yX12_readAllOf ∈ TBg := tw_in tk_8 (i := 132) rfl rfl
set_option maxRecDepth 100000 in
theorem tw_1951 : Cond.code yX12_readAllOf prog_14_method_43_code 1 (Option.some Jvm.ClassFile.FieldType.boolean) ∈ TBg := tw_in tk_8 (i := 133) rfl rfl
set_option maxRecDepth 100000 in
theorem tw_1952 : Cond.methodLink "GreatEstateModel" 197 yX12_readAtom ∈ TBg := tw_in tk_8 (i := 134) rfl rfl
set_option maxRecDepth 100000 in
theorem tw_1954 : Cond.instanceMethod yX12_readAtom ∈ TBg := tw_in tk_8 (i := 136) rfl rfl
set_option maxRecDepth 100000 in
theorem tw_1955 : Cond.code yX12_readAtom prog_14_method_42_code 2 (Option.some Jvm.ClassFile.FieldType.boolean) ∈ TBg := tw_in tk_8 (i := 137) rfl rfl
set_option maxRecDepth 100000 in
theorem tw_1956 : Cond.methodLink "GreatEstateModel" 183 yX12_sign ∈ TBg := tw_in tk_8 (i := 138) rfl rfl
set_option maxRecDepth 100000 in
theorem tw_1958 : Cond.instanceMethod yX12_sign ∈ TBg := tw_in tk_8 (i := 140) rfl rfl
set_option maxRecDepth 100000 in
theorem tw_1959 : Cond.code yX12_sign prog_14_method_33_code 2 (Option.some Jvm.ClassFile.FieldType.boolean) ∈ TBg := tw_in tk_8 (i := 141) rfl rfl
set_option maxRecDepth 100000 in
theorem tw_1961 : Cond.methodLink "GreatEstateModel" 171 yX12_adds ∈ TBg := tw_in tk_8 (i := 143) rfl rfl
set_option maxRecDepth 100000 in
theorem tw_1963 : Cond.instanceMethod yX12_adds ∈ TBg := tw_in tk_8 (i := 145) rfl rfl
set_option maxRecDepth 100000 in
theorem tw_1964 : Cond.code yX12_adds prog_14_method_38_code 4 (Option.none : Option Jvm.ClassFile.FieldType) ∈ TBg := tw_in tk_8 (i := 146) rfl rfl
set_option maxRecDepth 100000 in
theorem tw_1965 : Cond.methodLink "GreatEstateModel" 200 yX12_readSum ∈ TBg := tw_in tk_8 (i := 147) rfl rfl
set_option maxRecDepth 100000 in
theorem tw_1967 : Cond.instanceMethod yX12_readSum ∈ TBg := tw_in tk_8 (i := 149) rfl rfl
set_option maxRecDepth 100000 in
theorem tw_1968 : Cond.code yX12_readSum prog_14_method_41_code 1 (Option.some Jvm.ClassFile.FieldType.boolean) ∈ TBg := tw_in tk_8 (i := 150) rfl rfl
set_option maxRecDepth 100000 in
theorem tw_1969 : Cond.methodLink "GreatEstateModel" 179 yX12_readPart ∈ TBg := tw_in tk_8 (i := 151) rfl rfl
set_option maxRecDepth 100000 in
theorem tw_1971 : Cond.instanceMethod yX12_readPart ∈ TBg := tw_in tk_8 (i := 153) rfl rfl
set_option maxRecDepth 100000 in
theorem tw_1972 : Cond.code yX12_readPart prog_14_method_40_code 2 (Option.some Jvm.ClassFile.FieldType.boolean) ∈ TBg := tw_in tk_8 (i := 154) rfl rfl
set_option maxRecDepth 100000 in
theorem tw_1973 : Cond.methodLink "GreatEstateModel" 167 yX12_fact ∈ TBg := tw_in tk_8 (i := 155) rfl rfl
set_option maxRecDepth 100000 in
theorem tw_1974 : Cond.static yX12_fact ∈ TBg := tw_in tk_8 (i := 156) rfl rfl
set_option maxRecDepth 100000 in
theorem tw_1975 : Cond.code yX12_fact prog_14_method_39_code 1 (Option.some (Jvm.ClassFile.FieldType.object "java/lang/String")) ∈ TBg := tw_in tk_8 (i := 157) rfl rfl
set_option maxRecDepth 100000 in
theorem tw_1985 : Cond.methodLink "GreatEstateModel" 329 yX12_copies ∈ TBg := tw_in tk_8 (i := 167) rfl rfl
set_option maxRecDepth 100000 in
theorem tw_1987 : Cond.instanceMethod yX12_copies ∈ TBg := tw_in tk_8 (i := 169) rfl rfl
set_option maxRecDepth 100000 in
theorem tw_1988 : Cond.code yX12_copies prog_14_method_56_code 3 (Option.none : Option Jvm.ClassFile.FieldType) ∈ TBg := tw_in tk_8 (i := 170) rfl rfl
set_option maxRecDepth 100000 in
theorem tw_1989 : Cond.methodLink "GreatEstateLaw" 207 yX12_may ∈ TBg := tw_in tk_8 (i := 171) rfl rfl
set_option maxRecDepth 100000 in
theorem tw_1990 : Cond.instanceMethod yX12_may ∈ TBg := tw_in tk_8 (i := 172) rfl rfl
set_option maxRecDepth 100000 in
theorem tw_1991 : Cond.selects "GreatEstateModel" yX12_may yX12_may ∈ TBg := tw_in tk_8 (i := 173) rfl rfl
set_option maxRecDepth 100000 in
theorem tw_1992 : Cond.code yX12_may prog_14_method_71_code 3 (Option.some Jvm.ClassFile.FieldType.int) ∈ TBg := tw_in tk_8 (i := 174) rfl rfl
set_option maxRecDepth 100000 in
theorem tw_1993 : Cond.methodLink "GreatEstateModel" 333 yX12_mostOf ∈ TBg := tw_in tk_8 (i := 175) rfl rfl
set_option maxRecDepth 100000 in
theorem tw_1995 : Cond.instanceMethod yX12_mostOf ∈ TBg := tw_in tk_8 (i := 177) rfl rfl
set_option maxRecDepth 100000 in
theorem tw_1996 : Cond.code yX12_mostOf prog_14_method_65_code 2 (Option.some Jvm.ClassFile.FieldType.int) ∈ TBg := tw_in tk_8 (i := 178) rfl rfl
set_option maxRecDepth 100000 in
theorem tw_1997 : Cond.methodLink "GreatEstateModel" 311 yX12_lastLine ∈ TBg := tw_in tk_8 (i := 179) rfl rfl
set_option maxRecDepth 100000 in
theorem tw_1999 : Cond.instanceMethod yX12_lastLine ∈ TBg := tw_in tk_8 (i := 181) rfl rfl
set_option maxRecDepth 100000 in
theorem tw_2000 : Cond.code yX12_lastLine prog_14_method_63_code 6 (Option.some Jvm.ClassFile.FieldType.int) ∈ TBg := tw_in tk_8 (i := 182) rfl rfl
set_option maxRecDepth 100000 in
theorem tw_2001 : Cond.methodLink "GreatEstateModel" 305 yX12_orders ∈ TBg := tw_in tk_8 (i := 183) rfl rfl
set_option maxRecDepth 100000 in
theorem tw_2003 : Cond.instanceMethod yX12_orders ∈ TBg := tw_in tk_8 (i := 185) rfl rfl
set_option maxRecDepth 100000 in
theorem tw_2004 : Cond.code yX12_orders prog_14_method_60_code 3 (Option.none : Option Jvm.ClassFile.FieldType) ∈ TBg := tw_in tk_8 (i := 186) rfl rfl
set_option maxRecDepth 100000 in
theorem tw_2005 : Cond.methodLink "GreatEstateModel" 299 yX12_linesOf ∈ TBg := tw_in tk_8 (i := 187) rfl rfl
set_option maxRecDepth 100000 in
theorem tw_2007 : Cond.instanceMethod yX12_linesOf ∈ TBg := tw_in tk_8 (i := 189) rfl rfl
set_option maxRecDepth 100000 in
theorem tw_2008 : Cond.code yX12_linesOf prog_14_method_57_code 2 (Option.some Jvm.ClassFile.FieldType.int) ∈ TBg := tw_in tk_8 (i := 190) rfl rfl
set_option maxRecDepth 100000 in
theorem tw_2009 : Cond.methodLink "GreatEstateModel" 308 yX12_isLine ∈ TBg := tw_in tk_8 (i := 191) rfl rfl
set_option maxRecDepth 100000 in
theorem tw_2011 : Cond.instanceMethod yX12_isLine ∈ TBg := tw_in tk_8 (i := 193) rfl rfl
set_option maxRecDepth 100000 in
theorem tw_2012 : Cond.code yX12_isLine prog_14_method_62_code 4 (Option.some Jvm.ClassFile.FieldType.boolean) ∈ TBg := tw_in tk_8 (i := 194) rfl rfl
set_option maxRecDepth 100000 in
theorem tw_2013 : Cond.methodLink "GreatEstateModel" 302 yX12_isStruck ∈ TBg := tw_in tk_8 (i := 195) rfl rfl
set_option maxRecDepth 100000 in
theorem tw_2015 : Cond.instanceMethod yX12_isStruck ∈ TBg := tw_in tk_8 (i := 197) rfl rfl
set_option maxRecDepth 100000 in
theorem tw_2016 : Cond.code yX12_isStruck prog_14_method_61_code 6 (Option.some Jvm.ClassFile.FieldType.boolean) ∈ TBg := tw_in tk_8 (i := 198) rfl rfl
set_option maxRecDepth 100000 in
theorem tw_2017 : Cond.methodLink "GreatEstateModel" 314 yX12_numberOf ∈ TBg := tw_in tk_8 (i := 199) rfl rfl
set_option maxRecDepth 100000 in
theorem tw_2019 : Cond.instanceMethod yX12_numberOf ∈ TBg := tw_in tk_8 (i := 201) rfl rfl
set_option maxRecDepth 100000 in
theorem tw_2020 : Cond.code yX12_numberOf prog_14_method_64_code 2 (Option.some Jvm.ClassFile.FieldType.int) ∈ TBg := tw_in tk_8 (i := 202) rfl rfl
set_option maxRecDepth 100000 in
theorem tw_2021 : Cond.methodLink "GreatEstateModel" 336 yX12_firstLine ∈ TBg := tw_in tk_8 (i := 203) rfl rfl
set_option maxRecDepth 100000 in
theorem tw_2023 : Cond.instanceMethod yX12_firstLine ∈ TBg := tw_in tk_8 (i := 205) rfl rfl
set_option maxRecDepth 100000 in
theorem tw_2024 : Cond.code yX12_firstLine prog_14_method_67_code 5 (Option.some Jvm.ClassFile.FieldType.int) ∈ TBg := tw_in tk_8 (i := 206) rfl rfl
set_option maxRecDepth 100000 in
theorem tw_2025 : Cond.methodLink "GreatEstateModel" 317 yX12_looks ∈ TBg := tw_in tk_8 (i := 207) rfl rfl
set_option maxRecDepth 100000 in
theorem tw_2027 : Cond.instanceMethod yX12_looks ∈ TBg := tw_in tk_8 (i := 209) rfl rfl
set_option maxRecDepth 100000 in
theorem tw_2028 : Cond.code yX12_looks prog_14_method_58_code 4 (Option.none : Option Jvm.ClassFile.FieldType) ∈ TBg := tw_in tk_8 (i := 210) rfl rfl
set_option maxRecDepth 100000 in
theorem tw_2029 : Cond.methodLink "GreatEstateModel" 97 yX12_year ∈ TBg := tw_in tk_8 (i := 211) rfl rfl
set_option maxRecDepth 100000 in
theorem tw_2031 : Cond.instanceMethod yX12_year ∈ TBg := tw_in tk_8 (i := 213) rfl rfl
set_option maxRecDepth 100000 in
theorem tw_2032 : Cond.code yX12_year prog_14_method_7_code 1 (Option.some Jvm.ClassFile.FieldType.int) ∈ TBg := tw_in tk_8 (i := 214) rfl rfl
set_option maxRecDepth 100000 in
theorem tw_2033 : Cond.methodLink "GreatEstateModel" 290 yX12_priceOf ∈ TBg := tw_in tk_8 (i := 215) rfl rfl
set_option maxRecDepth 100000 in
theorem tw_2035 : Cond.instanceMethod yX12_priceOf ∈ TBg := tw_in tk_8 (i := 217) rfl rfl
set_option maxRecDepth 100000 in
theorem tw_2036 : Cond.code yX12_priceOf prog_14_method_22_code 2 (Option.some Jvm.ClassFile.FieldType.int) ∈ TBg := tw_in tk_8 (i := 218) rfl rfl
set_option maxRecDepth 100000 in
theorem tw_2037 : Cond.methodLink "GreatEstateModel" 293 yX12_its ∈ TBg := tw_in tk_8 (i := 219) rfl rfl
set_option maxRecDepth 100000 in
theorem tw_2039 : Cond.instanceMethod yX12_its ∈ TBg := tw_in tk_8 (i := 221) rfl rfl
set_option maxRecDepth 100000 in
theorem tw_2040 : Cond.code yX12_its prog_14_method_79_code 3 (Option.some Jvm.ClassFile.FieldType.int) ∈ TBg := tw_in tk_8 (i := 222) rfl rfl
set_option maxRecDepth 100000 in
theorem tw_2041 : Cond.methodLink "GreatEstateModel" 360 yX12_holdingAt ∈ TBg := tw_in tk_8 (i := 223) rfl rfl
set_option maxRecDepth 100000 in
theorem tw_2042 : Cond.static yX12_holdingAt ∈ TBg := tw_in tk_8 (i := 224) rfl rfl
set_option maxRecDepth 100000 in
theorem tw_2043 : Cond.code yX12_holdingAt prog_14_method_78_code 2 (Option.some Jvm.ClassFile.FieldType.int) ∈ TBg := tw_in tk_8 (i := 225) rfl rfl
set_option maxRecDepth 100000 in
theorem tw_2044 : Cond.methodLink "GreatEstateModel" 320 yX12_holds ∈ TBg := tw_in tk_8 (i := 226) rfl rfl
set_option maxRecDepth 100000 in
theorem tw_2046 : Cond.instanceMethod yX12_holds ∈ TBg := tw_in tk_8 (i := 228) rfl rfl
set_option maxRecDepth 100000 in
theorem tw_2047 : Cond.code yX12_holds prog_14_method_59_code 11 (Option.some Jvm.ClassFile.FieldType.boolean) ∈ TBg := tw_in tk_8 (i := 229) rfl rfl
set_option maxRecDepth 100000 in
theorem tw_2048 : Cond.methodLink "GreatEstateModel" 17 Lib.MathLoose.max_long.x ∈ TBg := tw_in tk_8 (i := 230) rfl rfl
set_option maxRecDepth 100000 in
theorem tw_2049 : Cond.methodLink "GreatEstateModel" 339 yX12_charges ∈ TBg := tw_in tk_8 (i := 231) rfl rfl
set_option maxRecDepth 100000 in
theorem tw_2051 : Cond.instanceMethod yX12_charges ∈ TBg := tw_in tk_8 (i := 233) rfl rfl
set_option maxRecDepth 100000 in
theorem tw_2052 : Cond.code yX12_charges prog_14_method_68_code 4 (Option.some Jvm.ClassFile.FieldType.int) ∈ TBg := tw_in tk_8 (i := 234) rfl rfl
set_option maxRecDepth 100000 in
theorem tw_2053 : Cond.methodLink "GreatEstateModel" 342 yX12_partOf ∈ TBg := tw_in tk_8 (i := 235) rfl rfl
set_option maxRecDepth 100000 in
theorem tw_2055 : Cond.instanceMethod yX12_partOf ∈ TBg := tw_in tk_8 (i := 237) rfl rfl
set_option maxRecDepth 100000 in
theorem tw_2056 : Cond.code yX12_partOf prog_14_method_66_code 2 (Option.some Jvm.ClassFile.FieldType.int) ∈ TBg := tw_in tk_8 (i := 238) rfl rfl
set_option maxRecDepth 100000 in
theorem tw_2057 : Cond.methodLink "GreatEstateLaw" 210 yX12_why ∈ TBg := tw_in tk_8 (i := 239) rfl rfl
set_option maxRecDepth 100000 in
theorem tw_2058 : Cond.instanceMethod yX12_why ∈ TBg := tw_in tk_9 (i := 0) rfl rfl
set_option maxRecDepth 100000 in
theorem tw_2059 : Cond.selects "GreatEstateModel" yX12_why yX12_why ∈ TBg := tw_in tk_9 (i := 1) rfl rfl
set_option maxRecDepth 100000 in
theorem tw_2060 : Cond.code yX12_why prog_14_method_72_code 3 (Option.some Jvm.ClassFile.FieldType.int) ∈ TBg := tw_in tk_9 (i := 2) rfl rfl
set_option maxRecDepth 100000 in
theorem tw_2061 : Cond.methodLink "GreatEstateLaw" 234 yX12_wrong ∈ TBg := tw_in tk_9 (i := 3) rfl rfl
set_option maxRecDepth 100000 in
theorem tw_2062 : Cond.instanceMethod yX12_wrong ∈ TBg := tw_in tk_9 (i := 4) rfl rfl
set_option maxRecDepth 100000 in
theorem tw_2063 : Cond.selects "GreatEstateModel" yX12_wrong yX12_wrong ∈ TBg := tw_in tk_9 (i := 5) rfl rfl
set_option maxRecDepth 100000 in
theorem tw_2064 : Cond.code yX12_wrong prog_14_method_77_code 3 (Option.some Jvm.ClassFile.FieldType.int) ∈ TBg := tw_in tk_9 (i := 6) rfl rfl
set_option maxRecDepth 100000 in
theorem tw_2065 : Cond.methodLink "GreatEstateModel" 358 Lib.Math.min.name ∈ TBg := tw_in tk_9 (i := 7) rfl rfl
set_option maxRecDepth 100000 in
theorem tw_2066 : Cond.methodLink "GreatEstateLaw" 164 yX12_let ∈ TBg := tw_in tk_9 (i := 8) rfl rfl
set_option maxRecDepth 100000 in
theorem tw_2067 : Cond.instanceMethod yX12_let ∈ TBg := tw_in tk_9 (i := 9) rfl rfl
set_option maxRecDepth 100000 in
theorem tw_2068 : Cond.selects "GreatEstateModel" yX12_let yX12_let ∈ TBg := tw_in tk_9 (i := 10) rfl rfl
set_option maxRecDepth 100000 in
theorem tw_2069 : Cond.code yX12_let prog_14_method_87_code 10 (Option.some Jvm.ClassFile.FieldType.int) ∈ TBg := tw_in tk_9 (i := 11) rfl rfl
set_option maxRecDepth 100000 in
theorem tw_2070 : Cond.constant "GreatEstateModel" 366 (100000) ∈ TBg := tw_in tk_9 (i := 12) rfl rfl
set_option maxRecDepth 100000 in
theorem tw_2071 : Cond.methodLink "GreatEstateModel" 367 yX12_areFree ∈ TBg := tw_in tk_9 (i := 13) rfl rfl
set_option maxRecDepth 100000 in
theorem tw_2073 : Cond.instanceMethod yX12_areFree ∈ TBg := tw_in tk_9 (i := 15) rfl rfl
set_option maxRecDepth 100000 in
theorem tw_2074 : Cond.code yX12_areFree prog_14_method_85_code 5 (Option.some Jvm.ClassFile.FieldType.boolean) ∈ TBg := tw_in tk_9 (i := 16) rfl rfl
set_option maxRecDepth 100000 in
theorem tw_2075 : Cond.methodLink "GreatEstateModel" 363 yX12_isIn ∈ TBg := tw_in tk_9 (i := 17) rfl rfl
set_option maxRecDepth 100000 in
theorem tw_2076 : Cond.static yX12_isIn ∈ TBg := tw_in tk_9 (i := 18) rfl rfl
set_option maxRecDepth 100000 in
theorem tw_2077 : Cond.code yX12_isIn prog_14_method_84_code 5 (Option.some Jvm.ClassFile.FieldType.boolean) ∈ TBg := tw_in tk_9 (i := 19) rfl rfl
set_option maxRecDepth 100000 in
theorem tw_2078 : Cond.methodLink "GreatEstateModel" 370 yX12_begins ∈ TBg := tw_in tk_9 (i := 20) rfl rfl
set_option maxRecDepth 100000 in
theorem tw_2080 : Cond.instanceMethod yX12_begins ∈ TBg := tw_in tk_9 (i := 22) rfl rfl
set_option maxRecDepth 100000 in
theorem tw_2081 : Cond.code yX12_begins prog_14_method_86_code 6 (Option.some Jvm.ClassFile.FieldType.int) ∈ TBg := tw_in tk_9 (i := 23) rfl rfl
set_option maxRecDepth 100000 in
theorem tw_2082 : Cond.methodLink "GreatEstateModel" 373 yX12_sets ∈ TBg := tw_in tk_9 (i := 24) rfl rfl
set_option maxRecDepth 100000 in
theorem tw_2084 : Cond.instanceMethod yX12_sets ∈ TBg := tw_in tk_9 (i := 26) rfl rfl
set_option maxRecDepth 100000 in
theorem tw_2085 : Cond.code yX12_sets prog_14_method_80_code 5 (Option.none : Option Jvm.ClassFile.FieldType) ∈ TBg := tw_in tk_9 (i := 27) rfl rfl
set_option maxRecDepth 100000 in
theorem tw_2086 : Cond.methodLink "GreatEstateModel" 345 yX12_kept ∈ TBg := tw_in tk_9 (i := 28) rfl rfl
set_option maxRecDepth 100000 in
theorem tw_2087 : Cond.static yX12_kept ∈ TBg := tw_in tk_9 (i := 29) rfl rfl
set_option maxRecDepth 100000 in
theorem tw_2088 : Cond.code yX12_kept prog_14_method_4_code 2 (Option.some Jvm.ClassFile.FieldType.int) ∈ TBg := tw_in tk_9 (i := 30) rfl rfl
set_option maxRecDepth 100000 in
theorem tw_2089 : Cond.constantLong "GreatEstateModel" 7 (-2000000000) ∈ TBg := tw_in tk_9 (i := 31) rfl rfl
set_option maxRecDepth 100000 in
theorem tw_2090 : Cond.constantLong "GreatEstateModel" 9 (2000000000) ∈ TBg := tw_in tk_9 (i := 32) rfl rfl
set_option maxRecDepth 100000 in
theorem tw_2091 : Cond.methodLink "GreatEstateModel" 11 Lib.MathLoose.min_long.x ∈ TBg := tw_in tk_9 (i := 33) rfl rfl
set_option maxRecDepth 100000 in
theorem tw_2092 : Cond.methodLink "GreatEstateModel" 377 yX12_errs ∈ TBg := tw_in tk_9 (i := 34) rfl rfl
set_option maxRecDepth 100000 in
theorem tw_2094 : Cond.instanceMethod yX12_errs ∈ TBg := tw_in tk_9 (i := 36) rfl rfl
set_option maxRecDepth 100000 in
theorem tw_2095 : Cond.code yX12_errs prog_14_method_76_code 4 (Option.none : Option Jvm.ClassFile.FieldType) ∈ TBg := tw_in tk_9 (i := 37) rfl rfl
set_option maxRecDepth 100000 in
theorem tw_2096 : Cond.methodLink "GreatEstateLaw" 168 yX12_keep ∈ TBg := tw_in tk_9 (i := 38) rfl rfl
set_option maxRecDepth 100000 in
theorem tw_2097 : Cond.instanceMethod yX12_keep ∈ TBg := tw_in tk_9 (i := 39) rfl rfl
set_option maxRecDepth 100000 in
theorem tw_2098 : Cond.selects "GreatEstateModel" yX12_keep yX12_keep ∈ TBg := tw_in tk_9 (i := 40) rfl rfl
set_option maxRecDepth 100000 in
theorem tw_2099 : Cond.code yX12_keep prog_14_method_88_code 8 (Option.some Jvm.ClassFile.FieldType.int) ∈ TBg := tw_in tk_9 (i := 41) rfl rfl
set_option maxRecDepth 100000 in
theorem tw_2100 : Cond.methodLink "GreatEstateLaw" 172 yX12_sow ∈ TBg := tw_in tk_9 (i := 42) rfl rfl
set_option maxRecDepth 100000 in
theorem tw_2101 : Cond.instanceMethod yX12_sow ∈ TBg := tw_in tk_9 (i := 43) rfl rfl
set_option maxRecDepth 100000 in
theorem tw_2102 : Cond.selects "GreatEstateModel" yX12_sow yX12_sow ∈ TBg := tw_in tk_9 (i := 44) rfl rfl
set_option maxRecDepth 100000 in
theorem tw_2103 : Cond.code yX12_sow prog_14_method_90_code 4 (Option.some Jvm.ClassFile.FieldType.boolean) ∈ TBg := tw_in tk_9 (i := 45) rfl rfl
set_option maxRecDepth 100000 in
theorem tw_2104 : Cond.methodLink "GreatEstateModel" 380 yX12_kindOf ∈ TBg := tw_in tk_9 (i := 46) rfl rfl
set_option maxRecDepth 100000 in
theorem tw_2106 : Cond.instanceMethod yX12_kindOf ∈ TBg := tw_in tk_9 (i := 48) rfl rfl
set_option maxRecDepth 100000 in
theorem tw_2107 : Cond.code yX12_kindOf prog_14_method_89_code 2 (Option.some Jvm.ClassFile.FieldType.int) ∈ TBg := tw_in tk_9 (i := 49) rfl rfl
set_option maxRecDepth 100000 in
theorem tw_2108 : Cond.methodLink "GreatEstateLaw" 175 yX12_notice ∈ TBg := tw_in tk_9 (i := 50) rfl rfl
set_option maxRecDepth 100000 in
theorem tw_2109 : Cond.instanceMethod yX12_notice ∈ TBg := tw_in tk_9 (i := 51) rfl rfl
set_option maxRecDepth 100000 in
theorem tw_2110 : Cond.selects "GreatEstateModel" yX12_notice yX12_notice ∈ TBg := tw_in tk_9 (i := 52) rfl rfl
set_option maxRecDepth 100000 in
theorem tw_2111 : Cond.code yX12_notice prog_14_method_91_code 2 (Option.some Jvm.ClassFile.FieldType.boolean) ∈ TBg := tw_in tk_9 (i := 53) rfl rfl
set_option maxRecDepth 100000 in
theorem tw_2112 : Cond.methodLink "GreatEstateModel" 383 yX12_noHolding ∈ TBg := tw_in tk_9 (i := 54) rfl rfl
set_option maxRecDepth 100000 in
theorem tw_2114 : Cond.instanceMethod yX12_noHolding ∈ TBg := tw_in tk_9 (i := 56) rfl rfl
set_option maxRecDepth 100000 in
theorem tw_2115 : Cond.code yX12_noHolding prog_14_method_81_code 2 (Option.some Jvm.ClassFile.FieldType.boolean) ∈ TBg := tw_in tk_9 (i := 57) rfl rfl
set_option maxRecDepth 100000 in
theorem tw_2116 : Cond.methodLink "GreatEstateModel" 386 yX12_fieldsOf ∈ TBg := tw_in tk_9 (i := 58) rfl rfl
set_option maxRecDepth 100000 in
theorem tw_2118 : Cond.instanceMethod yX12_fieldsOf ∈ TBg := tw_in tk_9 (i := 60) rfl rfl
set_option maxRecDepth 100000 in
theorem tw_2119 : Cond.code yX12_fieldsOf prog_14_method_83_code 4 (Option.some Jvm.ClassFile.FieldType.int) ∈ TBg := tw_in tk_9 (i := 61) rfl rfl
set_option maxRecDepth 100000 in
theorem tw_2120 : Cond.methodLink "GreatEstateLaw" 178 yX12_give ∈ TBg := tw_in tk_9 (i := 62) rfl rfl
set_option maxRecDepth 100000 in
theorem tw_2121 : Cond.instanceMethod yX12_give ∈ TBg := tw_in tk_9 (i := 63) rfl rfl
set_option maxRecDepth 100000 in
theorem tw_2122 : Cond.selects "GreatEstateModel" yX12_give yX12_give ∈ TBg := tw_in tk_9 (i := 64) rfl rfl
set_option maxRecDepth 100000 in
theorem tw_2123 : Cond.code yX12_give prog_14_method_93_code 2 (Option.some Jvm.ClassFile.FieldType.int) ∈ TBg := tw_in tk_9 (i := 65) rfl rfl
set_option maxRecDepth 100000 in
theorem tw_2124 : Cond.methodLink "GreatEstateModel" 389 yX12_isLet ∈ TBg := tw_in tk_9 (i := 66) rfl rfl
set_option maxRecDepth 100000 in
theorem tw_2126 : Cond.instanceMethod yX12_isLet ∈ TBg := tw_in tk_9 (i := 68) rfl rfl
set_option maxRecDepth 100000 in
theorem tw_2127 : Cond.code yX12_isLet prog_14_method_82_code 2 (Option.some Jvm.ClassFile.FieldType.boolean) ∈ TBg := tw_in tk_9 (i := 69) rfl rfl
set_option maxRecDepth 100000 in
theorem tw_2128 : Cond.methodLink "GreatEstateModel" 392 yX12_leaves ∈ TBg := tw_in tk_9 (i := 70) rfl rfl
set_option maxRecDepth 100000 in
theorem tw_2130 : Cond.instanceMethod yX12_leaves ∈ TBg := tw_in tk_9 (i := 72) rfl rfl
set_option maxRecDepth 100000 in
theorem tw_2131 : Cond.code yX12_leaves prog_14_method_92_code 4 (Option.some Jvm.ClassFile.FieldType.int) ∈ TBg := tw_in tk_9 (i := 73) rfl rfl
set_option maxRecDepth 100000 in
theorem tw_2132 : Cond.methodLink "GreatEstateLaw" 187 yX12_led ∈ TBg := tw_in tk_9 (i := 74) rfl rfl
set_option maxRecDepth 100000 in
theorem tw_2133 : Cond.instanceMethod yX12_led ∈ TBg := tw_in tk_9 (i := 75) rfl rfl
set_option maxRecDepth 100000 in
theorem tw_2134 : Cond.selects "GreatEstateModel" yX12_led yX12_led ∈ TBg := tw_in tk_9 (i := 76) rfl rfl
set_option maxRecDepth 100000 in
theorem tw_2135 : Cond.code yX12_led prog_14_method_94_code 3 (Option.some Jvm.ClassFile.FieldType.int) ∈ TBg := tw_in tk_9 (i := 77) rfl rfl
set_option maxRecDepth 100000 in
theorem tw_2136 : Cond.methodLink "GreatEstateLaw" 193 yX12_rent ∈ TBg := tw_in tk_9 (i := 78) rfl rfl
set_option maxRecDepth 100000 in
theorem tw_2137 : Cond.instanceMethod yX12_rent ∈ TBg := tw_in tk_9 (i := 79) rfl rfl
set_option maxRecDepth 100000 in
theorem tw_2138 : Cond.selects "GreatEstateModel" yX12_rent yX12_rent ∈ TBg := tw_in tk_9 (i := 80) rfl rfl
set_option maxRecDepth 100000 in
theorem tw_2139 : Cond.code yX12_rent prog_14_method_96_code 2 (Option.some Jvm.ClassFile.FieldType.int) ∈ TBg := tw_in tk_9 (i := 81) rfl rfl
set_option maxRecDepth 100000 in
theorem tw_2140 : Cond.methodLink "GreatEstateModel" 395 yX12_rentOf ∈ TBg := tw_in tk_9 (i := 82) rfl rfl
set_option maxRecDepth 100000 in
theorem tw_2142 : Cond.instanceMethod yX12_rentOf ∈ TBg := tw_in tk_9 (i := 84) rfl rfl
set_option maxRecDepth 100000 in
theorem tw_2143 : Cond.code yX12_rentOf prog_14_method_95_code 6 (Option.some Jvm.ClassFile.FieldType.int) ∈ TBg := tw_in tk_9 (i := 85) rfl rfl
set_option maxRecDepth 100000 in
theorem tw_2144 : Cond.methodLink "GreatEstateLaw" 190 yX12_owed ∈ TBg := tw_in tk_9 (i := 86) rfl rfl
set_option maxRecDepth 100000 in
theorem tw_2145 : Cond.instanceMethod yX12_owed ∈ TBg := tw_in tk_9 (i := 87) rfl rfl
set_option maxRecDepth 100000 in
theorem tw_2146 : Cond.selects "GreatEstateModel" yX12_owed yX12_owed ∈ TBg := tw_in tk_9 (i := 88) rfl rfl
set_option maxRecDepth 100000 in
theorem tw_2147 : Cond.code yX12_owed prog_14_method_98_code 2 (Option.some Jvm.ClassFile.FieldType.int) ∈ TBg := tw_in tk_9 (i := 89) rfl rfl
set_option maxRecDepth 100000 in
theorem tw_2148 : Cond.methodLink "GreatEstateModel" 398 yX12_owedTo ∈ TBg := tw_in tk_9 (i := 90) rfl rfl
set_option maxRecDepth 100000 in
theorem tw_2150 : Cond.instanceMethod yX12_owedTo ∈ TBg := tw_in tk_9 (i := 92) rfl rfl
set_option maxRecDepth 100000 in
theorem tw_2151 : Cond.code yX12_owedTo prog_14_method_97_code 7 (Option.some Jvm.ClassFile.FieldType.int) ∈ TBg := tw_in tk_9 (i := 93) rfl rfl
set_option maxRecDepth 100000 in
theorem tw_2152 : Cond.methodLink "GreatEstateLaw" 197 yX12_arrears ∈ TBg := tw_in tk_9 (i := 94) rfl rfl
set_option maxRecDepth 100000 in
theorem tw_2153 : Cond.instanceMethod yX12_arrears ∈ TBg := tw_in tk_9 (i := 95) rfl rfl
set_option maxRecDepth 100000 in
theorem tw_2154 : Cond.selects "GreatEstateModel" yX12_arrears yX12_arrears ∈ TBg := tw_in tk_9 (i := 96) rfl rfl
set_option maxRecDepth 100000 in
theorem tw_2155 : Cond.code yX12_arrears prog_14_method_100_code 5 (Option.some Jvm.ClassFile.FieldType.int) ∈ TBg := tw_in tk_9 (i := 97) rfl rfl
set_option maxRecDepth 100000 in
theorem tw_2156 : Cond.methodLink "GreatEstateLaw" 181 yX12_seasons ∈ TBg := tw_in tk_9 (i := 98) rfl rfl
set_option maxRecDepth 100000 in
theorem tw_2157 : Cond.instanceMethod yX12_seasons ∈ TBg := tw_in tk_9 (i := 99) rfl rfl
set_option maxRecDepth 100000 in
theorem tw_2158 : Cond.selects "GreatEstateModel" yX12_seasons yX12_seasons ∈ TBg := tw_in tk_9 (i := 100) rfl rfl
set_option maxRecDepth 100000 in
theorem tw_2159 : Cond.code yX12_seasons prog_14_method_113_code 3 (Option.some Jvm.ClassFile.FieldType.int) ∈ TBg := tw_in tk_9 (i := 101) rfl rfl
set_option maxRecDepth 100000 in
theorem tw_2160 : Cond.methodLink "GreatEstateModel" 437 yX12_spring ∈ TBg := tw_in tk_9 (i := 102) rfl rfl
set_option maxRecDepth 100000 in
theorem tw_2162 : Cond.instanceMethod yX12_spring ∈ TBg := tw_in tk_9 (i := 104) rfl rfl
set_option maxRecDepth 100000 in
theorem tw_2163 : Cond.code yX12_spring prog_14_method_102_code 7 (Option.none : Option Jvm.ClassFile.FieldType) ∈ TBg := tw_in tk_9 (i := 105) rfl rfl
set_option maxRecDepth 100000 in
theorem tw_2164 : Cond.methodLink "GreatEstateModel" 401 yX12_isBarred ∈ TBg := tw_in tk_9 (i := 106) rfl rfl
set_option maxRecDepth 100000 in
theorem tw_2166 : Cond.instanceMethod yX12_isBarred ∈ TBg := tw_in tk_9 (i := 108) rfl rfl
set_option maxRecDepth 100000 in
theorem tw_2167 : Cond.code yX12_isBarred prog_14_method_99_code 7 (Option.some Jvm.ClassFile.FieldType.boolean) ∈ TBg := tw_in tk_9 (i := 109) rfl rfl
set_option maxRecDepth 100000 in
theorem tw_2168 : Cond.methodLink "GreatEstateModel" 404 yX12_yieldOf ∈ TBg := tw_in tk_9 (i := 110) rfl rfl
set_option maxRecDepth 100000 in
theorem tw_2170 : Cond.instanceMethod yX12_yieldOf ∈ TBg := tw_in tk_9 (i := 112) rfl rfl
set_option maxRecDepth 100000 in
theorem tw_2171 : Cond.code yX12_yieldOf prog_14_method_101_code 5 (Option.some Jvm.ClassFile.FieldType.int) ∈ TBg := tw_in tk_9 (i := 113) rfl rfl
set_option maxRecDepth 100000 in
theorem tw_2172 : Cond.methodLink "GreatEstateModel" 440 yX12_summer ∈ TBg := tw_in tk_9 (i := 114) rfl rfl
set_option maxRecDepth 100000 in
theorem tw_2174 : Cond.instanceMethod yX12_summer ∈ TBg := tw_in tk_9 (i := 116) rfl rfl
set_option maxRecDepth 100000 in
theorem tw_2175 : Cond.code yX12_summer prog_14_method_103_code 9 (Option.none : Option Jvm.ClassFile.FieldType) ∈ TBg := tw_in tk_9 (i := 117) rfl rfl
set_option maxRecDepth 100000 in
theorem tw_2176 : Cond.methodLink "GreatEstateModel" 355 yX12_income ∈ TBg := tw_in tk_9 (i := 118) rfl rfl
set_option maxRecDepth 100000 in
theorem tw_2178 : Cond.instanceMethod yX12_income ∈ TBg := tw_in tk_9 (i := 120) rfl rfl
set_option maxRecDepth 100000 in
theorem tw_2179 : Cond.code yX12_income prog_14_method_73_code 3 (Option.none : Option Jvm.ClassFile.FieldType) ∈ TBg := tw_in tk_9 (i := 121) rfl rfl
set_option maxRecDepth 100000 in
theorem tw_2180 : Cond.methodLink "GreatEstateModel" 407 yX12_writesRow ∈ TBg := tw_in tk_9 (i := 122) rfl rfl
set_option maxRecDepth 100000 in
theorem tw_2182 : Cond.instanceMethod yX12_writesRow ∈ TBg := tw_in tk_9 (i := 124) rfl rfl
set_option maxRecDepth 100000 in
theorem tw_2183 : Cond.code yX12_writesRow prog_14_method_104_code 2 (Option.none : Option Jvm.ClassFile.FieldType) ∈ TBg := tw_in tk_9 (i := 125) rfl rfl
set_option maxRecDepth 100000 in
theorem tw_2184 : Cond.methodLink "GreatEstateModel" 443 yX12_autumn ∈ TBg := tw_in tk_9 (i := 126) rfl rfl
set_option maxRecDepth 100000 in
theorem tw_2186 : Cond.instanceMethod yX12_autumn ∈ TBg := tw_in tk_9 (i := 128) rfl rfl
set_option maxRecDepth 100000 in
theorem tw_2187 : Cond.code yX12_autumn prog_14_method_107_code 2 (Option.none : Option Jvm.ClassFile.FieldType) ∈ TBg := tw_in tk_9 (i := 129) rfl rfl
set_option maxRecDepth 100000 in
theorem tw_2188 : Cond.methodLink "GreatEstateModel" 413 yX12_paysRent ∈ TBg := tw_in tk_9 (i := 130) rfl rfl
set_option maxRecDepth 100000 in
theorem tw_2190 : Cond.instanceMethod yX12_paysRent ∈ TBg := tw_in tk_9 (i := 132) rfl rfl
set_option maxRecDepth 100000 in
theorem tw_2191 : Cond.code yX12_paysRent prog_14_method_106_code 7 (Option.none : Option Jvm.ClassFile.FieldType) ∈ TBg := tw_in tk_9 (i := 133) rfl rfl
set_option maxRecDepth 100000 in
theorem tw_2192 : Cond.methodLink "GreatEstateModel" 410 yX12_rentLess ∈ TBg := tw_in tk_9 (i := 134) rfl rfl
set_option maxRecDepth 100000 in
theorem tw_2194 : Cond.instanceMethod yX12_rentLess ∈ TBg := tw_in tk_9 (i := 136) rfl rfl
set_option maxRecDepth 100000 in
theorem tw_2195 : Cond.code yX12_rentLess prog_14_method_105_code 6 (Option.some Jvm.ClassFile.FieldType.int) ∈ TBg := tw_in tk_9 (i := 137) rfl rfl
set_option maxRecDepth 100000 in
theorem tw_2196 : Cond.constantLong "GreatEstateModel" 349 (100) ∈ TBg := tw_in tk_9 (i := 138) rfl rfl
set_option maxRecDepth 100000 in
theorem tw_2197 : Cond.methodLink "GreatEstateModel" 446 yX12_winter ∈ TBg := tw_in tk_9 (i := 139) rfl rfl
set_option maxRecDepth 100000 in
theorem tw_2199 : Cond.instanceMethod yX12_winter ∈ TBg := tw_in tk_9 (i := 141) rfl rfl
set_option maxRecDepth 100000 in
theorem tw_2200 : Cond.code yX12_winter prog_14_method_112_code 3 (Option.none : Option Jvm.ClassFile.FieldType) ∈ TBg := tw_in tk_9 (i := 142) rfl rfl
set_option maxRecDepth 100000 in
theorem tw_2201 : Cond.methodLink "GreatEstateModel" 425 yX12_grows ∈ TBg := tw_in tk_9 (i := 143) rfl rfl
set_option maxRecDepth 100000 in
theorem tw_2203 : Cond.instanceMethod yX12_grows ∈ TBg := tw_in tk_9 (i := 145) rfl rfl
set_option maxRecDepth 100000 in
theorem tw_2204 : Cond.code yX12_grows prog_14_method_109_code 3 (Option.none : Option Jvm.ClassFile.FieldType) ∈ TBg := tw_in tk_9 (i := 146) rfl rfl
set_option maxRecDepth 100000 in
theorem tw_2205 : Cond.methodLink "GreatEstateModel" 419 yX12_isNearWood ∈ TBg := tw_in tk_9 (i := 147) rfl rfl
set_option maxRecDepth 100000 in
theorem tw_2207 : Cond.instanceMethod yX12_isNearWood ∈ TBg := tw_in tk_9 (i := 149) rfl rfl
set_option maxRecDepth 100000 in
theorem tw_2208 : Cond.code yX12_isNearWood prog_14_method_108_code 4 (Option.some Jvm.ClassFile.FieldType.boolean) ∈ TBg := tw_in tk_9 (i := 150) rfl rfl
set_option maxRecDepth 100000 in
theorem tw_2209 : Cond.methodLink "GreatEstateModel" 416 yX12_beside ∈ TBg := tw_in tk_9 (i := 151) rfl rfl
set_option maxRecDepth 100000 in
theorem tw_2210 : Cond.static yX12_beside ∈ TBg := tw_in tk_9 (i := 152) rfl rfl
set_option maxRecDepth 100000 in
theorem tw_2211 : Cond.code yX12_beside prog_14_method_11_code 2 (Option.some Jvm.ClassFile.FieldType.int) ∈ TBg := tw_in tk_9 (i := 153) rfl rfl
set_option maxRecDepth 100000 in
theorem tw_2212 : Cond.methodLink "GreatEstateModel" 428 yX12_digs ∈ TBg := tw_in tk_9 (i := 154) rfl rfl
set_option maxRecDepth 100000 in
theorem tw_2214 : Cond.instanceMethod yX12_digs ∈ TBg := tw_in tk_9 (i := 156) rfl rfl
set_option maxRecDepth 100000 in
theorem tw_2215 : Cond.code yX12_digs prog_14_method_110_code 8 (Option.none : Option Jvm.ClassFile.FieldType) ∈ TBg := tw_in tk_9 (i := 157) rfl rfl
set_option maxRecDepth 100000 in
theorem tw_2216 : Cond.methodLink "GreatEstateModel" 422 yX12_comes ∈ TBg := tw_in tk_9 (i := 158) rfl rfl
set_option maxRecDepth 100000 in
theorem tw_2218 : Cond.instanceMethod yX12_comes ∈ TBg := tw_in tk_9 (i := 160) rfl rfl
set_option maxRecDepth 100000 in
theorem tw_2219 : Cond.code yX12_comes prog_14_method_75_code 4 (Option.none : Option Jvm.ClassFile.FieldType) ∈ TBg := tw_in tk_9 (i := 161) rfl rfl
set_option maxRecDepth 100000 in
theorem tw_2220 : Cond.methodLink "GreatEstateModel" 351 yX12_capital ∈ TBg := tw_in tk_9 (i := 162) rfl rfl
set_option maxRecDepth 100000 in
theorem tw_2222 : Cond.instanceMethod yX12_capital ∈ TBg := tw_in tk_9 (i := 164) rfl rfl
set_option maxRecDepth 100000 in
theorem tw_2223 : Cond.code yX12_capital prog_14_method_74_code 3 (Option.none : Option Jvm.ClassFile.FieldType) ∈ TBg := tw_in tk_9 (i := 165) rfl rfl
set_option maxRecDepth 100000 in
theorem tw_2224 : Cond.methodLink "GreatEstateModel" 431 yX12_paysLoan ∈ TBg := tw_in tk_9 (i := 166) rfl rfl
set_option maxRecDepth 100000 in
theorem tw_2226 : Cond.instanceMethod yX12_paysLoan ∈ TBg := tw_in tk_9 (i := 168) rfl rfl
set_option maxRecDepth 100000 in
theorem tw_2227 : Cond.code yX12_paysLoan prog_14_method_117_code 4 (Option.none : Option Jvm.ClassFile.FieldType) ∈ TBg := tw_in tk_9 (i := 169) rfl rfl
set_option maxRecDepth 100000 in
theorem tw_2228 : Cond.constantLong "GreatEstateModel" 452 (9999) ∈ TBg := tw_in tk_9 (i := 170) rfl rfl
set_option maxRecDepth 100000 in
theorem tw_2229 : Cond.constantLong "GreatEstateModel" 454 (10000) ∈ TBg := tw_in tk_9 (i := 171) rfl rfl
set_option maxRecDepth 100000 in
theorem tw_2230 : Cond.methodLink "GreatEstateModel" 434 yX12_goesOut ∈ TBg := tw_in tk_9 (i := 172) rfl rfl
set_option maxRecDepth 100000 in
theorem tw_2232 : Cond.instanceMethod yX12_goesOut ∈ TBg := tw_in tk_9 (i := 174) rfl rfl
set_option maxRecDepth 100000 in
theorem tw_2233 : Cond.code yX12_goesOut prog_14_method_111_code 6 (Option.none : Option Jvm.ClassFile.FieldType) ∈ TBg := tw_in tk_9 (i := 175) rfl rfl
set_option maxRecDepth 100000 in
theorem tw_2234 : Cond.methodLink "GreatEstateLaw" 214 yX12_cut ∈ TBg := tw_in tk_9 (i := 176) rfl rfl
set_option maxRecDepth 100000 in
theorem tw_2235 : Cond.instanceMethod yX12_cut ∈ TBg := tw_in tk_9 (i := 177) rfl rfl
set_option maxRecDepth 100000 in
theorem tw_2236 : Cond.selects "GreatEstateModel" yX12_cut yX12_cut ∈ TBg := tw_in tk_9 (i := 178) rfl rfl
set_option maxRecDepth 100000 in
theorem tw_2237 : Cond.code yX12_cut prog_14_method_114_code 5 (Option.some Jvm.ClassFile.FieldType.int) ∈ TBg := tw_in tk_9 (i := 179) rfl rfl
set_option maxRecDepth 100000 in
theorem tw_2238 : Cond.methodLink "GreatEstateLaw" 218 yX12_loan ∈ TBg := tw_in tk_9 (i := 180) rfl rfl
set_option maxRecDepth 100000 in
theorem tw_2239 : Cond.instanceMethod yX12_loan ∈ TBg := tw_in tk_9 (i := 181) rfl rfl
set_option maxRecDepth 100000 in
theorem tw_2240 : Cond.selects "GreatEstateModel" yX12_loan yX12_loan ∈ TBg := tw_in tk_9 (i := 182) rfl rfl
set_option maxRecDepth 100000 in
theorem tw_2241 : Cond.code yX12_loan prog_14_method_116_code 7 (Option.some Jvm.ClassFile.FieldType.int) ∈ TBg := tw_in tk_9 (i := 183) rfl rfl
set_option maxRecDepth 100000 in
theorem tw_2242 : Cond.methodLink "GreatEstateModel" 449 yX12_owedOnLoans ∈ TBg := tw_in tk_9 (i := 184) rfl rfl
set_option maxRecDepth 100000 in
theorem tw_2244 : Cond.instanceMethod yX12_owedOnLoans ∈ TBg := tw_in tk_9 (i := 186) rfl rfl
set_option maxRecDepth 100000 in
theorem tw_2245 : Cond.code yX12_owedOnLoans prog_14_method_115_code 4 (Option.some Jvm.ClassFile.FieldType.int) ∈ TBg := tw_in tk_9 (i := 187) rfl rfl
set_option maxRecDepth 100000 in
theorem tw_2246 : Cond.methodLink "GreatEstateLaw" 221 yX12_owing ∈ TBg := tw_in tk_9 (i := 188) rfl rfl
set_option maxRecDepth 100000 in
theorem tw_2247 : Cond.instanceMethod yX12_owing ∈ TBg := tw_in tk_9 (i := 189) rfl rfl
set_option maxRecDepth 100000 in
theorem tw_2248 : Cond.selects "GreatEstateModel" yX12_owing yX12_owing ∈ TBg := tw_in tk_9 (i := 190) rfl rfl
set_option maxRecDepth 100000 in
theorem tw_2249 : Cond.code yX12_owing prog_14_method_118_code 2 (Option.some Jvm.ClassFile.FieldType.int) ∈ TBg := tw_in tk_9 (i := 191) rfl rfl
set_option maxRecDepth 100000 in
theorem tw_2250 : Cond.methodLink "GreatEstateLaw" 224 yX12_work ∈ TBg := tw_in tk_9 (i := 192) rfl rfl
set_option maxRecDepth 100000 in
theorem tw_2251 : Cond.instanceMethod yX12_work ∈ TBg := tw_in tk_9 (i := 193) rfl rfl
set_option maxRecDepth 100000 in
theorem tw_2252 : Cond.selects "GreatEstateModel" yX12_work yX12_work ∈ TBg := tw_in tk_9 (i := 194) rfl rfl
set_option maxRecDepth 100000 in
theorem tw_2253 : Cond.code yX12_work prog_14_method_119_code 6 (Option.some Jvm.ClassFile.FieldType.boolean) ∈ TBg := tw_in tk_9 (i := 195) rfl rfl
set_option maxRecDepth 100000 in
theorem tw_2254 : Cond.methodLink "GreatEstateLaw" 227 yX12_sell ∈ TBg := tw_in tk_9 (i := 196) rfl rfl
set_option maxRecDepth 100000 in
theorem tw_2255 : Cond.instanceMethod yX12_sell ∈ TBg := tw_in tk_9 (i := 197) rfl rfl
set_option maxRecDepth 100000 in
theorem tw_2256 : Cond.selects "GreatEstateModel" yX12_sell yX12_sell ∈ TBg := tw_in tk_9 (i := 198) rfl rfl
set_option maxRecDepth 100000 in
theorem tw_2257 : Cond.code yX12_sell prog_14_method_120_code 5 (Option.some Jvm.ClassFile.FieldType.int) ∈ TBg := tw_in tk_9 (i := 199) rfl rfl
set_option maxRecDepth 100000 in
theorem tw_2258 : Cond.methodLink "GreatEstateLaw" 231 yX12_heir ∈ TBg := tw_in tk_9 (i := 200) rfl rfl
set_option maxRecDepth 100000 in
theorem tw_2259 : Cond.instanceMethod yX12_heir ∈ TBg := tw_in tk_9 (i := 201) rfl rfl
set_option maxRecDepth 100000 in
theorem tw_2260 : Cond.selects "GreatEstateModel" yX12_heir yX12_heir ∈ TBg := tw_in tk_9 (i := 202) rfl rfl
set_option maxRecDepth 100000 in
theorem tw_2261 : Cond.code yX12_heir prog_14_method_121_code 2 (Option.some Jvm.ClassFile.FieldType.int) ∈ TBg := tw_in tk_9 (i := 203) rfl rfl
set_option maxRecDepth 100000 in
theorem tw_2262 : Cond.methodLink "GreatEstateLaw" 237 yX12_job ∈ TBg := tw_in tk_9 (i := 204) rfl rfl
set_option maxRecDepth 100000 in
theorem tw_2263 : Cond.instanceMethod yX12_job ∈ TBg := tw_in tk_9 (i := 205) rfl rfl
set_option maxRecDepth 100000 in
theorem tw_2264 : Cond.selects "GreatEstateModel" yX12_job yX12_job ∈ TBg := tw_in tk_9 (i := 206) rfl rfl
set_option maxRecDepth 100000 in
theorem tw_2265 : Cond.code yX12_job prog_14_method_122_code 5 (Option.some Jvm.ClassFile.FieldType.int) ∈ TBg := tw_in tk_9 (i := 207) rfl rfl
set_option maxRecDepth 100000 in
theorem tw_2266 : Cond.methodLink "GreatEstateLaw" 240 yX12_trouble ∈ TBg := tw_in tk_9 (i := 208) rfl rfl
set_option maxRecDepth 100000 in
theorem tw_2267 : Cond.instanceMethod yX12_trouble ∈ TBg := tw_in tk_9 (i := 209) rfl rfl
set_option maxRecDepth 100000 in
theorem tw_2268 : Cond.selects "GreatEstateModel" yX12_trouble yX12_trouble ∈ TBg := tw_in tk_9 (i := 210) rfl rfl
set_option maxRecDepth 100000 in
theorem tw_2269 : Cond.code yX12_trouble prog_14_method_123_code 4 (Option.some Jvm.ClassFile.FieldType.int) ∈ TBg := tw_in tk_9 (i := 211) rfl rfl
set_option maxRecDepth 100000 in
theorem tw_2270 : Cond.constant "GreatEstateModel" 456 (-100000) ∈ TBg := tw_in tk_9 (i := 212) rfl rfl
set_option maxRecDepth 100000 in
theorem tw_2271 : Cond.methodLink "GreatEstateLaw" 243 yX12_worth ∈ TBg := tw_in tk_9 (i := 213) rfl rfl
set_option maxRecDepth 100000 in
theorem tw_2272 : Cond.instanceMethod yX12_worth ∈ TBg := tw_in tk_9 (i := 214) rfl rfl
set_option maxRecDepth 100000 in
theorem tw_2273 : Cond.selects "GreatEstateModel" yX12_worth yX12_worth ∈ TBg := tw_in tk_9 (i := 215) rfl rfl
set_option maxRecDepth 100000 in
theorem tw_2274 : Cond.code yX12_worth prog_14_method_127_code 4 (Option.some Jvm.ClassFile.FieldType.int) ∈ TBg := tw_in tk_9 (i := 216) rfl rfl
set_option maxRecDepth 100000 in
theorem tw_2275 : Cond.methodLink "GreatEstateModel" 464 yX12_noPlan ∈ TBg := tw_in tk_9 (i := 217) rfl rfl
set_option maxRecDepth 100000 in
theorem tw_2277 : Cond.instanceMethod yX12_noPlan ∈ TBg := tw_in tk_9 (i := 219) rfl rfl
set_option maxRecDepth 100000 in
theorem tw_2278 : Cond.code yX12_noPlan prog_14_method_126_code 3 (Option.some Jvm.ClassFile.FieldType.boolean) ∈ TBg := tw_in tk_9 (i := 220) rfl rfl
set_option maxRecDepth 100000 in
theorem tw_2279 : Cond.constant "GreatEstateModel" 463 (1000000) ∈ TBg := tw_in tk_9 (i := 221) rfl rfl
set_option maxRecDepth 100000 in
theorem tw_2280 : Cond.methodLink "GreatEstateModel" 467 yX12_worthOfSet ∈ TBg := tw_in tk_9 (i := 222) rfl rfl
set_option maxRecDepth 100000 in
theorem tw_2282 : Cond.instanceMethod yX12_worthOfSet ∈ TBg := tw_in tk_9 (i := 224) rfl rfl
set_option maxRecDepth 100000 in
theorem tw_2283 : Cond.code yX12_worthOfSet prog_14_method_125_code 6 (Option.some Jvm.ClassFile.FieldType.int) ∈ TBg := tw_in tk_9 (i := 225) rfl rfl
set_option maxRecDepth 100000 in
theorem tw_2284 : Cond.methodLink "GreatEstateModel" 458 yX12_endsWith ∈ TBg := tw_in tk_9 (i := 226) rfl rfl
set_option maxRecDepth 100000 in
theorem tw_2286 : Cond.instanceMethod yX12_endsWith ∈ TBg := tw_in tk_9 (i := 228) rfl rfl
set_option maxRecDepth 100000 in
theorem tw_2287 : Cond.code yX12_endsWith prog_14_method_124_code 10 (Option.some Jvm.ClassFile.FieldType.int) ∈ TBg := tw_in tk_9 (i := 229) rfl rfl
set_option maxRecDepth 100000 in
theorem tw_2288 : Cond.constant "GreatEstateModel" 457 (-1000000000) ∈ TBg := tw_in tk_9 (i := 230) rfl rfl
set_option maxRecDepth 100000 in
theorem tw_2289 : Cond.constant "GreatEstateModel" 462 (2000000000) ∈ TBg := tw_in tk_9 (i := 231) rfl rfl
set_option maxRecDepth 100000 in
theorem tw_2290 : Cond.methodLink "GreatEstateLaw" 246 yX12_best ∈ TBg := tw_in tk_9 (i := 232) rfl rfl
set_option maxRecDepth 100000 in
theorem tw_2291 : Cond.instanceMethod yX12_best ∈ TBg := tw_in tk_9 (i := 233) rfl rfl
set_option maxRecDepth 100000 in
theorem tw_2292 : Cond.selects "GreatEstateModel" yX12_best yX12_best ∈ TBg := tw_in tk_9 (i := 234) rfl rfl
set_option maxRecDepth 100000 in
theorem tw_2293 : Cond.code yX12_best prog_14_method_128_code 7 (Option.some Jvm.ClassFile.FieldType.int) ∈ TBg := tw_in tk_9 (i := 235) rfl rfl
set_option maxRecDepth 100000 in
theorem tw_2294 : Cond.methodLink "GreatEstateModel" 470 yJ6_bitCount_0f7a4 ∈ TBg := tw_in tk_9 (i := 236) rfl rfl
set_option maxRecDepth 100000 in
theorem tw_2295 : Cond.methodLink "GreatEstateLaw" 249 yX12_toSell ∈ TBg := tw_in tk_9 (i := 237) rfl rfl
set_option maxRecDepth 100000 in
theorem tw_2296 : Cond.instanceMethod yX12_toSell ∈ TBg := tw_in tk_9 (i := 238) rfl rfl
set_option maxRecDepth 100000 in
theorem tw_2297 : Cond.selects "GreatEstateModel" yX12_toSell yX12_toSell ∈ TBg := tw_in tk_9 (i := 239) rfl rfl
set_option maxRecDepth 100000 in
theorem tw_2298 : Cond.code yX12_toSell prog_14_method_131_code 11 (Option.some Jvm.ClassFile.FieldType.int) ∈ TBg := tw_in tk_10 (i := 0) rfl rfl
set_option maxRecDepth 100000 in
theorem tw_2299 : Cond.methodLink "GreatEstateModel" 479 yX12_parted ∈ TBg := tw_in tk_10 (i := 1) rfl rfl
set_option maxRecDepth 100000 in
theorem tw_2301 : Cond.instanceMethod yX12_parted ∈ TBg := tw_in tk_10 (i := 3) rfl rfl
set_option maxRecDepth 100000 in
theorem tw_2302 : Cond.code yX12_parted prog_14_method_130_code 8 (Option.some Jvm.ClassFile.FieldType.int) ∈ TBg := tw_in tk_10 (i := 4) rfl rfl
set_option maxRecDepth 100000 in
theorem tw_2303 : Cond.methodLink "GreatEstateModel" 475 yX12_isOf ∈ TBg := tw_in tk_10 (i := 5) rfl rfl
set_option maxRecDepth 100000 in
theorem tw_2304 : Cond.static yX12_isOf ∈ TBg := tw_in tk_10 (i := 6) rfl rfl
set_option maxRecDepth 100000 in
theorem tw_2305 : Cond.code yX12_isOf prog_14_method_129_code 4 (Option.some Jvm.ClassFile.FieldType.boolean) ∈ TBg := tw_in tk_10 (i := 7) rfl rfl
set_option maxRecDepth 100000 in
theorem tw_2306 : Cond.methodLink "GreatEstateLaw" 252 yX12_row ∈ TBg := tw_in tk_10 (i := 8) rfl rfl
set_option maxRecDepth 100000 in
theorem tw_2307 : Cond.instanceMethod yX12_row ∈ TBg := tw_in tk_10 (i := 9) rfl rfl
set_option maxRecDepth 100000 in
theorem tw_2308 : Cond.selects "GreatEstateModel" yX12_row yX12_row ∈ TBg := tw_in tk_10 (i := 10) rfl rfl
set_option maxRecDepth 100000 in
theorem tw_2309 : Cond.code yX12_row prog_14_method_133_code 3 (Option.some Jvm.ClassFile.FieldType.int) ∈ TBg := tw_in tk_10 (i := 11) rfl rfl
set_option maxRecDepth 100000 in
theorem tw_2310 : Cond.methodLink "GreatEstateModel" 482 yX12_noRow ∈ TBg := tw_in tk_10 (i := 12) rfl rfl
set_option maxRecDepth 100000 in
theorem tw_2312 : Cond.instanceMethod yX12_noRow ∈ TBg := tw_in tk_10 (i := 14) rfl rfl
set_option maxRecDepth 100000 in
theorem tw_2313 : Cond.code yX12_noRow prog_14_method_132_code 2 (Option.some Jvm.ClassFile.FieldType.boolean) ∈ TBg := tw_in tk_10 (i := 15) rfl rfl
set_option maxRecDepth 100000 in
theorem tw_2314 : Cond.methodLink "GreatEstateLaw" 255 yX12_tear ∈ TBg := tw_in tk_10 (i := 16) rfl rfl
set_option maxRecDepth 100000 in
theorem tw_2315 : Cond.instanceMethod yX12_tear ∈ TBg := tw_in tk_10 (i := 17) rfl rfl
set_option maxRecDepth 100000 in
theorem tw_2316 : Cond.selects "GreatEstateModel" yX12_tear yX12_tear ∈ TBg := tw_in tk_10 (i := 18) rfl rfl
set_option maxRecDepth 100000 in
theorem tw_2317 : Cond.code yX12_tear prog_14_method_134_code 4 (Option.some Jvm.ClassFile.FieldType.int) ∈ TBg := tw_in tk_10 (i := 19) rfl rfl
set_option maxRecDepth 100000 in
theorem tw_2318 : Cond.methodLink "GreatEstateLaw" 259 yX12_check ∈ TBg := tw_in tk_10 (i := 20) rfl rfl
set_option maxRecDepth 100000 in
theorem tw_2319 : Cond.instanceMethod yX12_check ∈ TBg := tw_in tk_10 (i := 21) rfl rfl
set_option maxRecDepth 100000 in
theorem tw_2320 : Cond.selects "GreatEstateModel" yX12_check yX12_check ∈ TBg := tw_in tk_10 (i := 22) rfl rfl
set_option maxRecDepth 100000 in
theorem tw_2321 : Cond.code yX12_check prog_14_method_135_code 2 (Option.some Jvm.ClassFile.FieldType.int) ∈ TBg := tw_in tk_10 (i := 23) rfl rfl
set_option maxRecDepth 100000 in
theorem tw_2322 : Cond.methodLink "GreatEstateLaw" 272 yX12_count ∈ TBg := tw_in tk_10 (i := 24) rfl rfl
set_option maxRecDepth 100000 in
theorem tw_2323 : Cond.instanceMethod yX12_count ∈ TBg := tw_in tk_10 (i := 25) rfl rfl
set_option maxRecDepth 100000 in
theorem tw_2324 : Cond.selects "GreatEstateModel" yX12_count yX12_count ∈ TBg := tw_in tk_10 (i := 26) rfl rfl
set_option maxRecDepth 100000 in
theorem tw_2325 : Cond.code yX12_count prog_14_method_137_code 4 (Option.some Jvm.ClassFile.FieldType.int) ∈ TBg := tw_in tk_10 (i := 27) rfl rfl
set_option maxRecDepth 100000 in
theorem tw_2326 : Cond.methodLink "GreatEstateModel" 485 yX12_sumOf ∈ TBg := tw_in tk_10 (i := 28) rfl rfl
set_option maxRecDepth 100000 in
theorem tw_2328 : Cond.instanceMethod yX12_sumOf ∈ TBg := tw_in tk_10 (i := 30) rfl rfl
set_option maxRecDepth 100000 in
theorem tw_2329 : Cond.code yX12_sumOf prog_14_method_136_code 5 (Option.some Jvm.ClassFile.FieldType.int) ∈ TBg := tw_in tk_10 (i := 31) rfl rfl
set_option maxRecDepth 100000 in
theorem tw_2330 : Cond.methodLink "GreatEstateModel" 488 yX12_linesInForce ∈ TBg := tw_in tk_10 (i := 32) rfl rfl
set_option maxRecDepth 100000 in
theorem tw_2332 : Cond.instanceMethod yX12_linesInForce ∈ TBg := tw_in tk_10 (i := 34) rfl rfl
set_option maxRecDepth 100000 in
theorem tw_2333 : Cond.code yX12_linesInForce prog_14_method_69_code 4 (Option.some Jvm.ClassFile.FieldType.int) ∈ TBg := tw_in tk_10 (i := 35) rfl rfl
set_option maxRecDepth 100000 in
theorem tw_2357 : Cond.fieldLink "java/lang/String" 9 "java/lang/String" "value" "[B" ∈ TBg := tw_in tk_10 (i := 59) rfl rfl
set_option maxRecDepth 100000 in
theorem tw_2358 : Cond.fieldLink "java/lang/String" 15 "java/lang/String" "coder" "B" ∈ TBg := tw_in tk_10 (i := 60) rfl rfl
