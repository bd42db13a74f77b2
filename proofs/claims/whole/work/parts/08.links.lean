/-! methods, links -/
theorem mTb_in {w : Cond} (h : w ∈ lw_tbl) (hg : goodWord w = true) : w ∈ mTb := List.mem_filter.mpr ⟨h, hg⟩
theorem tin_1 {w : Cond} (h : w ∈ tables_1_1) : w ∈ lw_tbl := List.mem_append_right _ (List.mem_append_left _ h)
theorem tin_2 {w : Cond} (h : w ∈ tables_1_2) : w ∈ lw_tbl := List.mem_append_right _ (List.mem_append_right _ (List.mem_append_left _ h))
theorem tin_3 {w : Cond} (h : w ∈ tables_1_3) : w ∈ lw_tbl := List.mem_append_right _ (List.mem_append_right _ (List.mem_append_right _ (List.mem_append_left _ h)))
theorem tin_4 {w : Cond} (h : w ∈ tables_1_4) : w ∈ lw_tbl := List.mem_append_right _ (List.mem_append_right _ (List.mem_append_right _ (List.mem_append_right _ (List.mem_append_left _ h))))
theorem tin_5 {w : Cond} (h : w ∈ tables_1_5) : w ∈ lw_tbl := List.mem_append_right _ (List.mem_append_right _ (List.mem_append_right _ (List.mem_append_right _ (List.mem_append_right _ (List.mem_append_left _ h)))))
theorem tin_6 {w : Cond} (h : w ∈ tables_1_6) : w ∈ lw_tbl := List.mem_append_right _ (List.mem_append_right _ (List.mem_append_right _ (List.mem_append_right _ (List.mem_append_right _ (List.mem_append_right _ (List.mem_append_left _ h))))))
theorem tin_7 {w : Cond} (h : w ∈ tables_1_7) : w ∈ lw_tbl := List.mem_append_right _ (List.mem_append_right _ (List.mem_append_right _ (List.mem_append_right _ (List.mem_append_right _ (List.mem_append_right _ (List.mem_append_right _ (List.mem_append_left _ h)))))))
theorem tin_8 {w : Cond} (h : w ∈ tables_1_8) : w ∈ lw_tbl := List.mem_append_right _ (List.mem_append_right _ (List.mem_append_right _ (List.mem_append_right _ (List.mem_append_right _ (List.mem_append_right _ (List.mem_append_right _ (List.mem_append_right _ (h))))))))
def m0_init : mMeth := (⟨mN0, "<init>", "()V"⟩, prog_2_method_1_code, 1, none)
def m0_copyFrom : mMeth := (⟨mN0, "copyFrom", "(LWeepingPiano$Cast;)V"⟩, prog_2_method_2_code, 2, none)
def m0_isGrade : mMeth := (⟨mN0, "isGrade", "(I)Z"⟩, prog_2_method_3_code, 1, (some .boolean))
def m0_hasPiece : mMeth := (⟨mN0, "hasPiece", "(I)Z"⟩, prog_2_method_4_code, 2, (some .boolean))
def m0_hasPlayer : mMeth := (⟨mN0, "hasPlayer", "(I)Z"⟩, prog_2_method_5_code, 2, (some .boolean))
def m0_knows : mMeth := (⟨mN0, "knows", "(II)Z"⟩, prog_2_method_6_code, 3, (some .boolean))
def m0_allPieces : mMeth := (⟨mN0, "allPieces", "()I"⟩, prog_2_method_7_code, 1, (some .int))
def m0_addPiece : mMeth := (⟨mN0, "addPiece", "(III)I"⟩, prog_2_method_8_code, 4, (some .int))
def m0_addPlayer : mMeth := (⟨mN0, "addPlayer", "(II)I"⟩, prog_2_method_9_code, 3, (some .int))
def m0_change : mMeth := (⟨mN0, "change", "(III)Z"⟩, prog_2_method_10_code, 5, (some .boolean))
def m0_giveRoom : mMeth := (⟨mN0, "giveRoom", "(I)V"⟩, prog_2_method_11_code, 3, none)
def m0_mostHad : mMeth := (⟨mN0, "mostHad", "(I)I"⟩, prog_2_method_12_code, 2, (some .int))
def m0_mostHadFrom : mMeth := (⟨mN0, "mostHadFrom", "(I)I"⟩, prog_2_method_13_code, 7, (some .int))
def m0_holderOf : mMeth := (⟨mN0, "holderOf", "(II)I"⟩, prog_2_method_14_code, 6, (some .int))
def m0_firstHolder : mMeth := (⟨mN0, "firstHolder", "(II)I"⟩, prog_2_method_15_code, 4, (some .int))
def m1_init : mMeth := (⟨mN1, "<init>", "()V"⟩, prog_3_method_1_code, 1, none)
def m1_copyFrom : mMeth := (⟨mN1, "copyFrom", "(LWeepingPiano$Desk;)V"⟩, prog_3_method_2_code, 2, none)
def m1_addTone : mMeth := (⟨mN1, "addTone", "(I)I"⟩, prog_3_method_3_code, 2, (some .int))
def m1_goAlike : mMeth := (⟨mN1, "goAlike", "(II)I"⟩, prog_3_method_4_code, 4, (some .int))
def m1_twiceLength : mMeth := (⟨mN1, "twiceLength", "()I"⟩, prog_3_method_5_code, 4, (some .int))
def m1_twicePlace : mMeth := (⟨mN1, "twicePlace", "()I"⟩, prog_3_method_6_code, 6, (some .int))
def m1_longestRise : mMeth := (⟨mN1, "longestRise", "()I"⟩, prog_3_method_7_code, 4, (some .int))
def m1_sweetPlaces : mMeth := (⟨mN1, "sweetPlaces", "(II)I"⟩, prog_3_method_8_code, 6, (some .int))
def m1_stepCost : mMeth := (⟨mN1, "stepCost", "(III)I"⟩, prog_3_method_9_code, 6, (some .int))
def m1_costFrom : mMeth := (⟨mN1, "costFrom", "(II)I"⟩, prog_3_method_10_code, 5, (some .int))
def m1_reckonFingers : mMeth := (⟨mN1, "reckonFingers", "()V"⟩, prog_3_method_11_code, 3, none)
def m1_fingersCost : mMeth := (⟨mN1, "fingersCost", "()I"⟩, prog_3_method_12_code, 1, (some .int))
def m1_cheapestFirst : mMeth := (⟨mN1, "cheapestFirst", "()I"⟩, prog_3_method_13_code, 3, (some .int))
def m1_fingerOf : mMeth := (⟨mN1, "fingerOf", "(I)I"⟩, prog_3_method_14_code, 6, (some .int))
def m1_commonMultiple : mMeth := (⟨mN1, "commonMultiple", "(JJ)J"⟩, prog_3_method_15_code, 11, (some .long))
def m1_allBeats : mMeth := (⟨mN1, "allBeats", "()I"⟩, prog_3_method_16_code, 4, (some .int))
def m1_addHeld : mMeth := (⟨mN1, "addHeld", "(III)I"⟩, prog_3_method_17_code, 4, (some .int))
def m1_soundingAt : mMeth := (⟨mN1, "soundingAt", "(I)I"⟩, prog_3_method_18_code, 4, (some .int))
def m1_muddiest : mMeth := (⟨mN1, "muddiest", "()I"⟩, prog_3_method_19_code, 5, (some .int))
def m1_clashes : mMeth := (⟨mN1, "clashes", "()I"⟩, prog_3_method_20_code, 6, (some .int))
def m2_init : mMeth := (⟨mN2, "<init>", "()V"⟩, prog_4_method_1_code, 1, none)
def m2_isChord : mMeth := (⟨mN2, "isChord", "(I)Z"⟩, prog_4_method_2_code, 1, (some .boolean))
def m2_movedBy : mMeth := (⟨mN2, "movedBy", "(II)I"⟩, prog_4_method_3_code, 2, (some .int))
def m2_turnedOver : mMeth := (⟨mN2, "turnedOver", "(I)I"⟩, prog_4_method_4_code, 3, (some .int))
def m2_movedTo : mMeth := (⟨mN2, "movedTo", "(II)I"⟩, prog_4_method_5_code, 3, (some .int))
def m2_heldBy : mMeth := (⟨mN2, "heldBy", "(II)I"⟩, prog_4_method_6_code, 2, (some .int))
def m2_bestHold : mMeth := (⟨mN2, "bestHold", "(I)I"⟩, prog_4_method_7_code, 3, (some .int))
def m2_spanOf : mMeth := (⟨mN2, "spanOf", "(I)I"⟩, prog_4_method_8_code, 3, (some .int))
def m2_highestOf : mMeth := (⟨mN2, "highestOf", "(I)I"⟩, prog_4_method_9_code, 3, (some .int))
def m2_fillings : mMeth := (⟨mN2, "fillings", "(IIZ)I"⟩, prog_4_method_10_code, 10, (some .int))
def m2_pagesTurnedBy : mMeth := (⟨mN2, "pagesTurnedBy", "(IIII)I"⟩, prog_4_method_11_code, 7, (some .int))
def m3_init : mMeth := (⟨mN3, "<init>", "()V"⟩, prog_5_method_1_code, 2, none)
def m3_keep : mMeth := (⟨mN3, "keep", "(LWeepingPiano$Stage;)V"⟩, prog_5_method_2_code, 3, none)
def m3_goBack : mMeth := (⟨mN3, "goBack", "(LWeepingPiano$Stage;)Z"⟩, prog_5_method_3_code, 3, (some .boolean))
def m3_forget : mMeth := (⟨mN3, "forget", "()V"⟩, prog_5_method_4_code, 1, none)
def m4_init : mMeth := (⟨mN4, "<init>", "()V"⟩, prog_6_method_1_code, 1, none)
def m4_hasRoomFor : mMeth := (⟨mN4, "hasRoomFor", "(I)Z"⟩, prog_6_method_2_code, 2, (some .boolean))
def m4_takeNumber : mMeth := (⟨mN4, "takeNumber", "(I)V"⟩, prog_6_method_3_code, 3, none)
def m4_cutTo : mMeth := (⟨mN4, "cutTo", "(I)Z"⟩, prog_6_method_4_code, 2, (some .boolean))
def m4_readScript : mMeth := (⟨mN4, "readScript", "(ILWeepingPiano$Cast;)I"⟩, prog_6_method_5_code, 4, (some .int))
def m4_mayBegin : mMeth := (⟨mN4, "mayBegin", "(I)Z"⟩, prog_6_method_6_code, 4, (some .boolean))
def m4_lawLine : mMeth := (⟨mN4, "lawLine", "()Z"⟩, prog_6_method_7_code, 1, (some .boolean))
def m4_condition : mMeth := (⟨mN4, "condition", "()Z"⟩, prog_6_method_8_code, 5, (some .boolean))
def m4_single : mMeth := (⟨mN4, "single", "()Z"⟩, prog_6_method_9_code, 2, (some .boolean))
def m4_enclosed : mMeth := (⟨mN4, "enclosed", "(I)Z"⟩, prog_6_method_10_code, 3, (some .boolean))
def m4_expression : mMeth := (⟨mN4, "expression", "()Z"⟩, prog_6_method_11_code, 5, (some .boolean))
def m4_isReckoning : mMeth := (⟨mN4, "isReckoning", "(I)Z"⟩, prog_6_method_12_code, 1, (some .boolean))
def m4_unit : mMeth := (⟨mN4, "unit", "()Z"⟩, prog_6_method_13_code, 2, (some .boolean))
def m4_part : mMeth := (⟨mN4, "part", "()Z"⟩, prog_6_method_14_code, 1, (some .boolean))
def m4_programmeLine : mMeth := (⟨mN4, "programmeLine", "()Z"⟩, prog_6_method_15_code, 1, (some .boolean))
def m4_row : mMeth := (⟨mN4, "row", "()Z"⟩, prog_6_method_16_code, 3, (some .boolean))
def m4_careLine : mMeth := (⟨mN4, "careLine", "()Z"⟩, prog_6_method_17_code, 3, (some .boolean))
def m4_likenessLine : mMeth := (⟨mN4, "likenessLine", "()Z"⟩, prog_6_method_18_code, 1, (some .boolean))
def m4_number : mMeth := (⟨mN4, "number", "(III)Z"⟩, prog_6_method_19_code, 4, (some .boolean))
def m4_pass : mMeth := (⟨mN4, "pass", "(I)Z"⟩, prog_6_method_20_code, 2, (some .boolean))
def m4_kind : mMeth := (⟨mN4, "kind", "()I"⟩, prog_6_method_21_code, 1, (some .int))
def m4_step : mMeth := (⟨mN4, "step", "()V"⟩, prog_6_method_22_code, 1, none)
def m4_blame : mMeth := (⟨mN4, "blame", "(I)Z"⟩, prog_6_method_23_code, 2, (some .boolean))
def m4_splitTape : mMeth := (⟨mN4, "splitTape", "()V"⟩, prog_6_method_24_code, 4, none)
def m4_addToken : mMeth := (⟨mN4, "addToken", "(III)V"⟩, prog_6_method_25_code, 4, none)
def m4_isLetter : mMeth := (⟨mN4, "isLetter", "(I)Z"⟩, prog_6_method_26_code, 1, (some .boolean))
def m4_isDigit : mMeth := (⟨mN4, "isDigit", "(I)Z"⟩, prog_6_method_27_code, 1, (some .boolean))
def m4_endOfLetters : mMeth := (⟨mN4, "endOfLetters", "(I)I"⟩, prog_6_method_28_code, 3, (some .int))
def m4_endOfDigits : mMeth := (⟨mN4, "endOfDigits", "(I)I"⟩, prog_6_method_29_code, 3, (some .int))
def m4_valueOf : mMeth := (⟨mN4, "valueOf", "(II)I"⟩, prog_6_method_30_code, 5, (some .int))
def m4_wordKind : mMeth := (⟨mN4, "wordKind", "(II)I"⟩, prog_6_method_31_code, 8, (some .int))
def m5_init : mMeth := (⟨mN5, "<init>", "()V"⟩, prog_7_method_1_code, 1, none)
def m5_wake : mMeth := (⟨mN5, "wake", "()V"⟩, prog_7_method_2_code, 1, none)
def m5_fallAsleep : mMeth := (⟨mN5, "fallAsleep", "()LWeepingPiano$Stage;"⟩, prog_7_method_3_code, 1, (some (.object "WeepingPiano$Stage")))
def m5_passDay : mMeth := (⟨mN5, "passDay", "()I"⟩, prog_7_method_4_code, 5, (some .int))
def m5_takeCare : mMeth := (⟨mN5, "takeCare", "(II)V"⟩, prog_7_method_5_code, 3, none)
def m5_note : mMeth := (⟨mN5, "note", "(III)V"⟩, prog_7_method_6_code, 4, none)
def m5_tuneString : mMeth := (⟨mN5, "tuneString", "(I)V"⟩, prog_7_method_7_code, 2, none)
def m5_emptyDrawer : mMeth := (⟨mN5, "emptyDrawer", "()V"⟩, prog_7_method_8_code, 1, none)
def m5_bringChild : mMeth := (⟨mN5, "bringChild", "(I)V"⟩, prog_7_method_9_code, 3, none)
def m5_playLine : mMeth := (⟨mN5, "playLine", "(I)V"⟩, prog_7_method_10_code, 6, none)
def m5_perform : mMeth := (⟨mN5, "perform", "(IIZ)I"⟩, prog_7_method_11_code, 8, (some .int))
def m5_seat : mMeth := (⟨mN5, "seat", "(II)V"⟩, prog_7_method_12_code, 3, none)
def m5_dampStrings : mMeth := (⟨mN5, "dampStrings", "()V"⟩, prog_7_method_13_code, 4, none)
def m5_waitBehind : mMeth := (⟨mN5, "waitBehind", "(I)I"⟩, prog_7_method_14_code, 3, (some .int))
def m5_askNow : mMeth := (⟨mN5, "askNow", "(IIII)I"⟩, prog_7_method_15_code, 5, (some .int))
def m5_ask : mMeth := (⟨mN5, "ask", "(I)I"⟩, prog_7_method_16_code, 8, (some .int))
def m5_withoutLaw : mMeth := (⟨mN5, "withoutLaw", "(I)I"⟩, prog_7_method_17_code, 2, (some .int))
def m5_run : mMeth := (⟨mN5, "run", "(II)I"⟩, prog_7_method_18_code, 8, (some .int))
def m5_join : mMeth := (⟨mN5, "join", "(III)I"⟩, prog_7_method_19_code, 3, (some .int))
def m5_shortestOf : mMeth := (⟨mN5, "shortestOf", "(II)I"⟩, prog_7_method_20_code, 5, (some .int))
def m5_tryOrders : mMeth := (⟨mN5, "tryOrders", "(IIII)V"⟩, prog_7_method_21_code, 10, none)
def m6_init : mMeth := (⟨mN6, "<init>", "(I)V"⟩, prog_8_method_1_code, 2, none)
def m6_copyFrom : mMeth := (⟨mN6, "copyFrom", "(LWeepingPiano$Script;)V"⟩, prog_8_method_2_code, 2, none)
def m6_clear : mMeth := (⟨mN6, "clear", "()V"⟩, prog_8_method_3_code, 1, none)
def m6_cell : mMeth := (⟨mN6, "cell", "(II)I"⟩, prog_8_method_4_code, 4, (some .int))
def m6_write : mMeth := (⟨mN6, "write", "(II)V"⟩, prog_8_method_5_code, 4, none)
def m6_emit : mMeth := (⟨mN6, "emit", "(II)V"⟩, prog_8_method_6_code, 3, none)
def m7_init : mMeth := (⟨mN7, "<init>", "()V"⟩, prog_9_method_1_code, 1, none)
def m7_copyFrom : mMeth := (⟨mN7, "copyFrom", "(LWeepingPiano$Stage;)V"⟩, prog_9_method_2_code, 2, none)
def m7_change : mMeth := (⟨mN7, "change", "(III)Z"⟩, prog_9_method_3_code, 4, (some .boolean))
def m7_drawBelow : mMeth := (⟨mN7, "drawBelow", "(I)I"⟩, prog_9_method_4_code, 2, (some .int))
def m7_addWater : mMeth := (⟨mN7, "addWater", "(I)V"⟩, prog_9_method_5_code, 2, none)
def m7_dryUp : mMeth := (⟨mN7, "dryUp", "(I)V"⟩, prog_9_method_6_code, 2, none)
def m7_flatten : mMeth := (⟨mN7, "flatten", "(I)V"⟩, prog_9_method_7_code, 2, none)
def m7_flatOfAll : mMeth := (⟨mN7, "flatOfAll", "()I"⟩, prog_9_method_8_code, 3, (some .int))
def m7_worthOfAll : mMeth := (⟨mN7, "worthOfAll", "()I"⟩, prog_9_method_9_code, 3, (some .int))
def m7_goodString : mMeth := (⟨mN7, "goodString", "()I"⟩, prog_9_method_10_code, 2, (some .int))
def m7_goodTake : mMeth := (⟨mN7, "goodTake", "(I)I"⟩, prog_9_method_11_code, 4, (some .int))
def m8_init : mMeth := (⟨mN8, "<init>", "()V"⟩, prog_10_method_1_code, 1, none)
def m8_copyFrom : mMeth := (⟨mN8, "copyFrom", "(LWeepingPiano$World;)V"⟩, prog_10_method_2_code, 2, none)
def m8_script : mMeth := (⟨mN8, "script", "(I)LWeepingPiano$Script;"⟩, prog_10_method_3_code, 2, (some (.object "WeepingPiano$Script")))
def m8_note : mMeth := (⟨mN8, "note", "(III)V"⟩, prog_10_method_4_code, 5, none)
def m8_setsThatWept : mMeth := (⟨mN8, "setsThatWept", "(II)I"⟩, prog_10_method_5_code, 10, (some .int))
def m8_likeOf : mMeth := (⟨mN8, "likeOf", "(I)I"⟩, prog_10_method_6_code, 6, (some .int))
def m8_groupOf : mMeth := (⟨mN8, "groupOf", "(I)I"⟩, prog_10_method_7_code, 6, (some .int))
def m8_groups : mMeth := (⟨mN8, "groups", "()I"⟩, prog_10_method_8_code, 4, (some .int))
def m9_init : mMeth := (⟨mN9, "<init>", "()V"⟩, prog_1_method_1_code, 1, none)
def m9_state : mMeth := (⟨mN9, "state", "(I)I"⟩, prog_1_method_2_code, 3, (some .int))
def m9_piece : mMeth := (⟨mN9, "piece", "(III)I"⟩, prog_1_method_3_code, 5, (some .int))
def m9_player : mMeth := (⟨mN9, "player", "(II)I"⟩, prog_1_method_4_code, 4, (some .int))
def m9_set : mMeth := (⟨mN9, "set", "(III)Z"⟩, prog_1_method_5_code, 5, (some .boolean))
def m9_play : mMeth := (⟨mN9, "play", "(II)I"⟩, prog_1_method_6_code, 3, (some .int))
def m9_act : mMeth := (⟨mN9, "act", "(II)Z"⟩, prog_1_method_7_code, 7, (some .boolean))
def m9_days : mMeth := (⟨mN9, "days", "(I)I"⟩, prog_1_method_8_code, 4, (some .int))
def m9_feed : mMeth := (⟨mN9, "feed", "(IIIII)I"⟩, prog_1_method_9_code, 6, (some .int))
def m9_end : mMeth := (⟨mN9, "end", "(I)Z"⟩, prog_1_method_10_code, 2, (some .boolean))
def m9_text : mMeth := (⟨mN9, "text", "(I)I"⟩, prog_1_method_11_code, 4, (some .int))
def m9_fault : mMeth := (⟨mN9, "fault", "(I)I"⟩, prog_1_method_12_code, 2, (some .int))
def m9_of : mMeth := (⟨mN9, "of", "(II)I"⟩, prog_1_method_13_code, 3, (some .int))
def m9_who : mMeth := (⟨mN9, "who", "(II)I"⟩, prog_1_method_14_code, 3, (some .int))
def m9_string : mMeth := (⟨mN9, "string", "(II)I"⟩, prog_1_method_15_code, 3, (some .int))
def m9_damps : mMeth := (⟨mN9, "damps", "(III)I"⟩, prog_1_method_16_code, 4, (some .int))
def m9_settles : mMeth := (⟨mN9, "settles", "(II)I"⟩, prog_1_method_17_code, 3, (some .int))
def m9_book : mMeth := (⟨mN9, "book", "(II)I"⟩, prog_1_method_18_code, 3, (some .int))
def m9_goes : mMeth := (⟨mN9, "goes", "(II)I"⟩, prog_1_method_19_code, 5, (some .int))
def m9_lasts : mMeth := (⟨mN9, "lasts", "(III)I"⟩, prog_1_method_20_code, 6, (some .int))
def m9_chords : mMeth := (⟨mN9, "chords", "(III)I"⟩, prog_1_method_21_code, 4, (some .int))
def m9_tone : mMeth := (⟨mN9, "tone", "(I)I"⟩, prog_1_method_22_code, 2, (some .int))
def m9_tune : mMeth := (⟨mN9, "tune", "(I)I"⟩, prog_1_method_23_code, 3, (some .int))
def m9_canon : mMeth := (⟨mN9, "canon", "(III)I"⟩, prog_1_method_24_code, 4, (some .int))
def m9_bar : mMeth := (⟨mN9, "bar", "(III)I"⟩, prog_1_method_25_code, 4, (some .int))
def m9_period : mMeth := (⟨mN9, "period", "(II)Z"⟩, prog_1_method_26_code, 3, (some .boolean))
def m9_beats : mMeth := (⟨mN9, "beats", "(II)I"⟩, prog_1_method_27_code, 3, (some .int))
def m9_pedal : mMeth := (⟨mN9, "pedal", "(III)I"⟩, prog_1_method_28_code, 4, (some .int))
def m9_mud : mMeth := (⟨mN9, "mud", "(I)I"⟩, prog_1_method_29_code, 2, (some .int))
def m9_whose : mMeth := (⟨mN9, "whose", "(II)I"⟩, prog_1_method_30_code, 3, (some .int))
def m9_have : mMeth := (⟨mN9, "have", "(II)I"⟩, prog_1_method_31_code, 3, (some .int))
def m9_alike : mMeth := (⟨mN9, "alike", "(I)I"⟩, prog_1_method_32_code, 2, (some .int))
def m9_pages : mMeth := (⟨mN9, "pages", "(IIII)I"⟩, prog_1_method_33_code, 5, (some .int))
def m9_game : mMeth := (⟨mN9, "game", "(I)I"⟩, prog_1_method_34_code, 3, (some .int))
def m9_undo : mMeth := (⟨mN9, "undo", "()Z"⟩, prog_1_method_35_code, 1, (some .boolean))
def m9_image : mMeth := (⟨mN9, "image", "(Z)Z"⟩, prog_1_method_36_code, 2, (some .boolean))
def m9_look : mMeth := (⟨mN9, "look", "(I)I"⟩, prog_1_method_37_code, 3, (some .int))
def m10_init : mMeth := (⟨mN10, "<init>", "()V"⟩, prog_12_method_1_code, 1, none)
def m10_isIn : mMeth := (⟨mN10, "isIn", "(III)Z"⟩, prog_12_method_3_code, 4, (some .boolean))
def m10_held : mMeth := (⟨mN10, "held", "(III)I"⟩, prog_12_method_4_code, 4, (some .int))
def m10_greater : mMeth := (⟨mN10, "greater", "(II)I"⟩, prog_12_method_5_code, 3, (some .int))
def m10_lesser : mMeth := (⟨mN10, "lesser", "(II)I"⟩, prog_12_method_6_code, 3, (some .int))
def m10_apart : mMeth := (⟨mN10, "apart", "(II)I"⟩, prog_12_method_7_code, 3, (some .int))
def m10_added : mMeth := (⟨mN10, "added", "(II)I"⟩, prog_12_method_8_code, 3, (some .int))
def m10_onesOf : mMeth := (⟨mN10, "onesOf", "(I)I"⟩, prog_12_method_9_code, 4, (some .int))
def m10_has : mMeth := (⟨mN10, "has", "(II)Z"⟩, prog_12_method_10_code, 3, (some .boolean))
def m10_keepsAhead : mMeth := (⟨mN10, "keepsAhead", "()V"⟩, prog_12_method_11_code, 2, none)
def m10_undo : mMeth := (⟨mN10, "undo", "()Z"⟩, prog_12_method_12_code, 2, (some .boolean))
def m10_thinks : mMeth := (⟨mN10, "thinks", "()V"⟩, prog_12_method_13_code, 2, none)
def m10_endsThought : mMeth := (⟨mN10, "endsThought", "()V"⟩, prog_12_method_14_code, 2, none)
def m10_state : mMeth := (⟨mN10, "state", "(I)I"⟩, prog_12_method_15_code, 3, (some .int))
def m10_draw : mMeth := (⟨mN10, "draw", "(I)I"⟩, prog_12_method_16_code, 2, (some .int))
def m10_isPiece : mMeth := (⟨mN10, "isPiece", "(I)Z"⟩, prog_12_method_17_code, 2, (some .boolean))
def m10_isPlayer : mMeth := (⟨mN10, "isPlayer", "(I)Z"⟩, prog_12_method_18_code, 2, (some .boolean))
def m10_isString : mMeth := (⟨mN10, "isString", "(I)Z"⟩, prog_12_method_19_code, 2, (some .boolean))
def m10_dry : mMeth := (⟨mN10, "dry", "()I"⟩, prog_12_method_20_code, 1, (some .int))
def m10_piece : mMeth := (⟨mN10, "piece", "(III)I"⟩, prog_12_method_21_code, 4, (some .int))
def m10_player : mMeth := (⟨mN10, "player", "(II)I"⟩, prog_12_method_22_code, 3, (some .int))
def m10_canSet : mMeth := (⟨mN10, "canSet", "(III)Z"⟩, prog_12_method_23_code, 4, (some .boolean))
def m10_set : mMeth := (⟨mN10, "set", "(III)Z"⟩, prog_12_method_24_code, 4, (some .boolean))
def m10_types : mMeth := (⟨mN10, "types", "(I)V"⟩, prog_12_method_25_code, 3, none)
def m10_feed : mMeth := (⟨mN10, "feed", "(IIIII)I"⟩, prog_12_method_26_code, 6, (some .int))
def m10_end : mMeth := (⟨mN10, "end", "(I)Z"⟩, prog_12_method_27_code, 2, (some .boolean))
def m10_raw : mMeth := (⟨mN10, "raw", "(I)I"⟩, prog_12_method_28_code, 2, (some .int))
def m10_isLetter : mMeth := (⟨mN10, "isLetter", "(I)Z"⟩, prog_12_method_29_code, 2, (some .boolean))
def m10_isDigit : mMeth := (⟨mN10, "isDigit", "(I)Z"⟩, prog_12_method_30_code, 2, (some .boolean))
def m10_isMarkSign : mMeth := (⟨mN10, "isMarkSign", "(I)Z"⟩, prog_12_method_31_code, 2, (some .boolean))
def m10_wordAt : mMeth := (⟨mN10, "wordAt", "(II)I"⟩, prog_12_method_32_code, 6, (some .int))
def m10_reads : mMeth := (⟨mN10, "reads", "()V"⟩, prog_12_method_33_code, 2, none)
def m10_errs : mMeth := (⟨mN10, "errs", "(I)I"⟩, prog_12_method_34_code, 2, (some .int))
def m10_isWord : mMeth := (⟨mN10, "isWord", "(I)Z"⟩, prog_12_method_35_code, 2, (some .boolean))
def m10_isSign : mMeth := (⟨mN10, "isSign", "(I)Z"⟩, prog_12_method_36_code, 2, (some .boolean))
def m10_emits : mMeth := (⟨mN10, "emits", "(II)V"⟩, prog_12_method_37_code, 3, none)
def m10_canAsk : mMeth := (⟨mN10, "canAsk", "(I)Z"⟩, prog_12_method_38_code, 2, (some .boolean))
def m10_readUnit : mMeth := (⟨mN10, "readUnit", "()I"⟩, prog_12_method_39_code, 2, (some .int))
def m10_readProduct : mMeth := (⟨mN10, "readProduct", "()I"⟩, prog_12_method_40_code, 2, (some .int))
def m10_readSum : mMeth := (⟨mN10, "readSum", "()I"⟩, prog_12_method_41_code, 2, (some .int))
def m10_readCompared : mMeth := (⟨mN10, "readCompared", "()I"⟩, prog_12_method_42_code, 2, (some .int))
def m10_waits0 : mMeth := (⟨mN10, "waits", "(I)V"⟩, prog_12_method_43_code, 2, none)
def m10_settles0 : mMeth := (⟨mN10, "settles", "(I)V"⟩, prog_12_method_44_code, 2, none)
def m10_readAny : mMeth := (⟨mN10, "readAny", "()I"⟩, prog_12_method_45_code, 4, (some .int))
def m10_isLineWord : mMeth := (⟨mN10, "isLineWord", "()Z"⟩, prog_12_method_46_code, 1, (some .boolean))
def m10_readLaw : mMeth := (⟨mN10, "readLaw", "()I"⟩, prog_12_method_47_code, 3, (some .int))
def m10_takesLaw : mMeth := (⟨mN10, "takesLaw", "(I)V"⟩, prog_12_method_48_code, 3, none)
def m10_readNumber : mMeth := (⟨mN10, "readNumber", "(II)I"⟩, prog_12_method_49_code, 4, (some .int))
def m10_readMark : mMeth := (⟨mN10, "readMark", "(I)I"⟩, prog_12_method_50_code, 2, (some .int))
def m10_readTold : mMeth := (⟨mN10, "readTold", "(III)I"⟩, prog_12_method_51_code, 4, (some .int))
def m10_readPieces : mMeth := (⟨mN10, "readPieces", "(I)I"⟩, prog_12_method_52_code, 4, (some .int))
def m10_readEvening : mMeth := (⟨mN10, "readEvening", "(I)I"⟩, prog_12_method_53_code, 2, (some .int))
def m10_readProgramme : mMeth := (⟨mN10, "readProgramme", "()I"⟩, prog_12_method_54_code, 2, (some .int))
def m10_kindOfDeed : mMeth := (⟨mN10, "kindOfDeed", "()I"⟩, prog_12_method_55_code, 1, (some .int))
def m10_readDeedMore : mMeth := (⟨mN10, "readDeedMore", "(I)I"⟩, prog_12_method_56_code, 2, (some .int))
def m10_readDeed : mMeth := (⟨mN10, "readDeed", "(I)I"⟩, prog_12_method_57_code, 3, (some .int))
def m10_readCare : mMeth := (⟨mN10, "readCare", "()I"⟩, prog_12_method_58_code, 2, (some .int))
def m10_readLike : mMeth := (⟨mN10, "readLike", "()I"⟩, prog_12_method_59_code, 3, (some .int))
def m10_readLikeness : mMeth := (⟨mN10, "readLikeness", "()I"⟩, prog_12_method_60_code, 2, (some .int))
def m10_readsText : mMeth := (⟨mN10, "readsText", "(I)I"⟩, prog_12_method_61_code, 2, (some .int))
def m10_takesOther : mMeth := (⟨mN10, "takesOther", "(II)V"⟩, prog_12_method_62_code, 4, none)
def m10_text : mMeth := (⟨mN10, "text", "(I)I"⟩, prog_12_method_63_code, 3, (some .int))
def m10_fault : mMeth := (⟨mN10, "fault", "(I)I"⟩, prog_12_method_64_code, 2, (some .int))
def m10_twoOf : mMeth := (⟨mN10, "twoOf", "(III)I"⟩, prog_12_method_65_code, 4, (some .int))
def m10_runs : mMeth := (⟨mN10, "runs", "(III)I"⟩, prog_12_method_66_code, 6, (some .int))
def m10_lineOf : mMeth := (⟨mN10, "lineOf", "(I)I"⟩, prog_12_method_67_code, 3, (some .int))
def m10_asks : mMeth := (⟨mN10, "asks", "(IIII)V"⟩, prog_12_method_68_code, 5, none)
def m10_lawTells : mMeth := (⟨mN10, "lawTells", "(III)I"⟩, prog_12_method_69_code, 5, (some .int))
def m10_weepsOf : mMeth := (⟨mN10, "weepsOf", "(III)I"⟩, prog_12_method_70_code, 4, (some .int))
def m10_dampsOf : mMeth := (⟨mN10, "dampsOf", "(IIII)I"⟩, prog_12_method_71_code, 5, (some .int))
def m10_settlesOf : mMeth := (⟨mN10, "settlesOf", "(III)I"⟩, prog_12_method_72_code, 4, (some .int))
def m10_notes : mMeth := (⟨mN10, "notes", "(III)V"⟩, prog_12_method_73_code, 5, none)
def m10_goesFlat : mMeth := (⟨mN10, "goesFlat", "(IIII)V"⟩, prog_12_method_74_code, 7, none)
def m10_plays : mMeth := (⟨mN10, "plays", "(II)I"⟩, prog_12_method_75_code, 7, (some .int))
def m10_salted : mMeth := (⟨mN10, "salted", "(I)V"⟩, prog_12_method_76_code, 2, none)
def m10_waits1 : mMeth := (⟨mN10, "waits", "(II)V"⟩, prog_12_method_77_code, 5, none)
def m10_play : mMeth := (⟨mN10, "play", "(II)I"⟩, prog_12_method_78_code, 3, (some .int))
def m10_tunes : mMeth := (⟨mN10, "tunes", "(I)V"⟩, prog_12_method_79_code, 2, none)
def m10_empties : mMeth := (⟨mN10, "empties", "()V"⟩, prog_12_method_80_code, 1, none)
def m10_isKeptIn : mMeth := (⟨mN10, "isKeptIn", "(I)V"⟩, prog_12_method_81_code, 3, none)
def m10_canAct : mMeth := (⟨mN10, "canAct", "(II)Z"⟩, prog_12_method_82_code, 3, (some .boolean))
def m10_act : mMeth := (⟨mN10, "act", "(II)Z"⟩, prog_12_method_83_code, 3, (some .boolean))
def m10_does : mMeth := (⟨mN10, "does", "(I)V"⟩, prog_12_method_84_code, 4, none)
def m10_recital : mMeth := (⟨mN10, "recital", "(I)I"⟩, prog_12_method_85_code, 4, (some .int))
def m10_goesBy : mMeth := (⟨mN10, "goesBy", "()I"⟩, prog_12_method_86_code, 3, (some .int))
def m10_days : mMeth := (⟨mN10, "days", "(I)I"⟩, prog_12_method_87_code, 4, (some .int))
def m10_of : mMeth := (⟨mN10, "of", "(II)I"⟩, prog_12_method_88_code, 3, (some .int))
def m10_who : mMeth := (⟨mN10, "who", "(II)I"⟩, prog_12_method_89_code, 3, (some .int))
def m10_string : mMeth := (⟨mN10, "string", "(II)I"⟩, prog_12_method_90_code, 3, (some .int))
def m10_damps : mMeth := (⟨mN10, "damps", "(III)I"⟩, prog_12_method_91_code, 4, (some .int))
def m10_settles1 : mMeth := (⟨mN10, "settles", "(II)I"⟩, prog_12_method_92_code, 3, (some .int))
def m10_book : mMeth := (⟨mN10, "book", "(II)I"⟩, prog_12_method_93_code, 3, (some .int))
def m10_flatOfAll : mMeth := (⟨mN10, "flatOfAll", "()I"⟩, prog_12_method_94_code, 3, (some .int))
def m10_goes : mMeth := (⟨mN10, "goes", "(II)I"⟩, prog_12_method_95_code, 4, (some .int))
def m10_goesToNextOrder : mMeth := (⟨mN10, "goesToNextOrder", "()Z"⟩, prog_12_method_96_code, 6, (some .boolean))
def m10_minutesOf : mMeth := (⟨mN10, "minutesOf", "(I)I"⟩, prog_12_method_97_code, 4, (some .int))
def m10_lasts : mMeth := (⟨mN10, "lasts", "(III)I"⟩, prog_12_method_98_code, 8, (some .int))
def m10_movedUp : mMeth := (⟨mN10, "movedUp", "(II)I"⟩, prog_12_method_99_code, 3, (some .int))
def m10_turnedOver : mMeth := (⟨mN10, "turnedOver", "(I)I"⟩, prog_12_method_100_code, 4, (some .int))
def m10_stepsUp : mMeth := (⟨mN10, "stepsUp", "(II)I"⟩, prog_12_method_101_code, 4, (some .int))
def m10_mostHeld : mMeth := (⟨mN10, "mostHeld", "(I)I"⟩, prog_12_method_102_code, 4, (some .int))
def m10_spanOf : mMeth := (⟨mN10, "spanOf", "(I)I"⟩, prog_12_method_103_code, 6, (some .int))
def m10_chords : mMeth := (⟨mN10, "chords", "(III)I"⟩, prog_12_method_104_code, 4, (some .int))
def m10_tone : mMeth := (⟨mN10, "tone", "(I)I"⟩, prog_12_method_105_code, 2, (some .int))
def m10_alikeFrom : mMeth := (⟨mN10, "alikeFrom", "(II)I"⟩, prog_12_method_106_code, 4, (some .int))
def m10_twice : mMeth := (⟨mN10, "twice", "(Z)I"⟩, prog_12_method_107_code, 6, (some .int))
def m10_rises : mMeth := (⟨mN10, "rises", "()I"⟩, prog_12_method_108_code, 4, (some .int))
def m10_stepCost : mMeth := (⟨mN10, "stepCost", "(III)I"⟩, prog_12_method_109_code, 5, (some .int))
def m10_findsFingers : mMeth := (⟨mN10, "findsFingers", "()V"⟩, prog_12_method_110_code, 5, none)
def m10_firstFinger : mMeth := (⟨mN10, "firstFinger", "()I"⟩, prog_12_method_111_code, 3, (some .int))
def m10_fingerOf : mMeth := (⟨mN10, "fingerOf", "(I)I"⟩, prog_12_method_112_code, 5, (some .int))
def m10_tune : mMeth := (⟨mN10, "tune", "(I)I"⟩, prog_12_method_113_code, 2, (some .int))
def m10_isSweet : mMeth := (⟨mN10, "isSweet", "(I)Z"⟩, prog_12_method_114_code, 2, (some .boolean))
def m10_canon : mMeth := (⟨mN10, "canon", "(III)I"⟩, prog_12_method_115_code, 6, (some .int))
def m10_bar : mMeth := (⟨mN10, "bar", "(III)I"⟩, prog_12_method_116_code, 8, (some .int))
def m10_period : mMeth := (⟨mN10, "period", "(II)Z"⟩, prog_12_method_117_code, 3, (some .boolean))
def m10_common : mMeth := (⟨mN10, "common", "(II)I"⟩, prog_12_method_118_code, 6, (some .int))
def m10_times : mMeth := (⟨mN10, "times", "(II)I"⟩, prog_12_method_119_code, 5, (some .int))
def m10_allBeat : mMeth := (⟨mN10, "allBeat", "()I"⟩, prog_12_method_120_code, 6, (some .int))
def m10_beats : mMeth := (⟨mN10, "beats", "(II)I"⟩, prog_12_method_121_code, 5, (some .int))
def m10_pedal : mMeth := (⟨mN10, "pedal", "(III)I"⟩, prog_12_method_122_code, 4, (some .int))
def m10_soundsAt : mMeth := (⟨mN10, "soundsAt", "(I)I"⟩, prog_12_method_123_code, 4, (some .int))
def m10_doClash : mMeth := (⟨mN10, "doClash", "(II)Z"⟩, prog_12_method_124_code, 4, (some .boolean))
def m10_mud : mMeth := (⟨mN10, "mud", "(I)I"⟩, prog_12_method_125_code, 5, (some .int))
def m10_whose : mMeth := (⟨mN10, "whose", "(II)I"⟩, prog_12_method_126_code, 9, (some .int))
def m10_roomFor : mMeth := (⟨mN10, "roomFor", "(I)I"⟩, prog_12_method_127_code, 4, (some .int))
def m10_mostHad : mMeth := (⟨mN10, "mostHad", "(I)I"⟩, prog_12_method_128_code, 5, (some .int))
def m10_playerFor : mMeth := (⟨mN10, "playerFor", "(II)I"⟩, prog_12_method_129_code, 4, (some .int))
def m10_have : mMeth := (⟨mN10, "have", "(II)I"⟩, prog_12_method_130_code, 6, (some .int))
def m10_groupOf : mMeth := (⟨mN10, "groupOf", "(I)I"⟩, prog_12_method_131_code, 5, (some .int))
def m10_alike : mMeth := (⟨mN10, "alike", "(I)I"⟩, prog_12_method_132_code, 5, (some .int))
def m10_pages : mMeth := (⟨mN10, "pages", "(IIII)I"⟩, prog_12_method_133_code, 8, (some .int))
def m10_game : mMeth := (⟨mN10, "game", "(I)I"⟩, prog_12_method_134_code, 7, (some .int))
def m10_keeps : mMeth := (⟨mN10, "keeps", "(I)I"⟩, prog_12_method_135_code, 2, (some .int))
def m10_keepsLaw : mMeth := (⟨mN10, "keepsLaw", "()V"⟩, prog_12_method_136_code, 2, none)
def m10_keepsMany : mMeth := (⟨mN10, "keepsMany", "()V"⟩, prog_12_method_137_code, 1, none)
def m10_keepsTold : mMeth := (⟨mN10, "keepsTold", "()V"⟩, prog_12_method_138_code, 2, none)
def m10_image : mMeth := (⟨mN10, "image", "(Z)Z"⟩, prog_12_method_139_code, 3, (some .boolean))
def m10_look : mMeth := (⟨mN10, "look", "(I)I"⟩, prog_12_method_140_code, 2, (some .int))
def mJ11_isValidCodePoint : mMeth := (⟨"java/lang/Character", "isValidCodePoint", "(I)Z"⟩, prog_13_method_11_code, 2, (some .boolean))
def mJ11_highSurrogate : mMeth := (⟨"java/lang/Character", "highSurrogate", "(I)C"⟩, prog_13_method_28_code, 1, (some .char))
def mJ11_lowSurrogate : mMeth := (⟨"java/lang/Character", "lowSurrogate", "(I)C"⟩, prog_13_method_29_code, 1, (some .char))
def mJ6_bitCount : mMeth := (⟨"java/lang/Integer", "bitCount", "(I)I"⟩, prog_14_method_49_code, 1, (some .int))
def mJ9_floorMod : mMeth := (⟨"java/lang/Math", "floorMod", "(II)I"⟩, prog_15_method_50_code, 3, (some .int))
def mJ9_abs : mMeth := (⟨"java/lang/Math", "abs", "(I)I"⟩, prog_15_method_59_code, 1, (some .int))
def mJ9_max : mMeth := (⟨"java/lang/Math", "max", "(II)I"⟩, prog_15_method_65_code, 2, (some .int))
def mJ9_min : mMeth := (⟨"java/lang/Math", "min", "(II)I"⟩, prog_15_method_69_code, 2, (some .int))
def mJ0_length : mMeth := (⟨"java/lang/String", "length", "()I"⟩, prog_16_method_54_code, 1, (some .int))
def mJ0_charAt : mMeth := (⟨"java/lang/String", "charAt", "(I)C"⟩, prog_16_method_56_code, 2, (some .char))
def mJ0_indexOf0 : mMeth := (⟨"java/lang/String", "indexOf", "(I)I"⟩, prog_16_method_79_code, 2, (some .int))
def mJ0_indexOf1 : mMeth := (⟨"java/lang/String", "indexOf", "(II)I"⟩, prog_16_method_80_code, 3, (some .int))
def mJ0_coder : mMeth := (⟨"java/lang/String", "coder", "()B"⟩, prog_16_method_152_code, 1, (some .byte))
def mJ0_isLatin1 : mMeth := (⟨"java/lang/String", "isLatin1", "()Z"⟩, prog_16_method_154_code, 1, (some .boolean))
def mJ0_checkIndex : mMeth := (⟨"java/lang/String", "checkIndex", "(II)V"⟩, prog_16_method_155_code, 2, none)
def mJ0_checkBoundsBeginEnd : mMeth := (⟨"java/lang/String", "checkBoundsBeginEnd", "(III)V"⟩, prog_16_method_158_code, 3, none)
def mJ1_charAt : mMeth := (⟨"java/lang/StringLatin1", "charAt", "([BI)C"⟩, prog_17_method_2_code, 2, (some .char))
def mJ1_canEncode : mMeth := (⟨"java/lang/StringLatin1", "canEncode", "(I)Z"⟩, prog_17_method_4_code, 1, (some .boolean))
def mJ1_indexOf : mMeth := (⟨"java/lang/StringLatin1", "indexOf", "([BIII)I"⟩, prog_17_method_22_code, 4, (some .int))
def mJ1_indexOfChar : mMeth := (⟨"java/lang/StringLatin1", "indexOfChar", "([BIII)I"⟩, prog_17_method_23_code, 6, (some .int))
def mJ2_getChar : mMeth := (⟨"java/lang/StringUTF16", "getChar", "([BI)C"⟩, prog_18_method_5_code, 2, (some .char))
def mJ2_length : mMeth := (⟨"java/lang/StringUTF16", "length", "([B)I"⟩, prog_18_method_6_code, 1, (some .int))
def mJ2_indexOf : mMeth := (⟨"java/lang/StringUTF16", "indexOf", "([BIII)I"⟩, prog_18_method_40_code, 4, (some .int))
def mJ2_indexOfChar : mMeth := (⟨"java/lang/StringUTF16", "indexOfChar", "([BIII)I"⟩, prog_18_method_47_code, 4, (some .int))
def mJ2_indexOfCharUnsafe : mMeth := (⟨"java/lang/StringUTF16", "indexOfCharUnsafe", "([BIII)I"⟩, prog_18_method_48_code, 5, (some .int))
def mJ2_indexOfSupplementary : mMeth := (⟨"java/lang/StringUTF16", "indexOfSupplementary", "([BIII)I"⟩, prog_18_method_49_code, 7, (some .int))
def mJ2_charAt : mMeth := (⟨"java/lang/StringUTF16", "charAt", "([BI)C"⟩, prog_18_method_83_code, 2, (some .char))
def mJ2_checkIndex : mMeth := (⟨"java/lang/StringUTF16", "checkIndex", "(I[B)V"⟩, prog_18_method_91_code, 2, none)
def mJ2_checkBoundsBeginEnd : mMeth := (⟨"java/lang/StringUTF16", "checkBoundsBeginEnd", "(II[B)V"⟩, prog_18_method_93_code, 3, none)
def mJ3_checkIndex : mMeth := (⟨"jdk/internal/util/Preconditions", "checkIndex", "(IILjava/util/function/BiFunction;)I"⟩, prog_20_method_11_code, 3, (some .int))
def mJ3_checkFromToIndex : mMeth := (⟨"jdk/internal/util/Preconditions", "checkFromToIndex", "(IIILjava/util/function/BiFunction;)I"⟩, prog_20_method_12_code, 4, (some .int))
def mL_law : mMeth := (⟨"WeepingPianoLaw", "law", "([I)Z"⟩, code, 4, (some .boolean))
theorem mlL_9 : Cond.methodLink "WeepingPianoLaw" 9 m9_init.1 ∈ mTb := mTb_in (tin_1 (List.mem_of_getElem? (i := 22) (by decide +kernel))) rfl
theorem fl7_9 : Cond.fieldLink mN7 9 (mT7 0).1 (mT7 0).2.1 (mT7 0).2.2.1 ∈ mTb := mTb_of 190 (by decide +kernel) rfl
theorem fl5_160 : Cond.fieldLink mN5 160 (mT7 0).1 (mT7 0).2.1 (mT7 0).2.2.1 ∈ mTb := mTb_of 191 (by decide +kernel) rfl
theorem fl9_179 : Cond.fieldLink mN9 179 (mT7 0).1 (mT7 0).2.1 (mT7 0).2.2.1 ∈ mTb := mTb_of 192 (by decide +kernel) rfl
theorem fl7_15 : Cond.fieldLink mN7 15 (mT7 1).1 (mT7 1).2.1 (mT7 1).2.2.1 ∈ mTb := mTb_of 193 (by decide +kernel) rfl
theorem fl8_97 : Cond.fieldLink mN8 97 (mT7 1).1 (mT7 1).2.1 (mT7 1).2.2.1 ∈ mTb := mTb_of 194 (by decide +kernel) rfl
theorem fl5_154 : Cond.fieldLink mN5 154 (mT7 1).1 (mT7 1).2.1 (mT7 1).2.2.1 ∈ mTb := mTb_of 195 (by decide +kernel) rfl
theorem fl9_182 : Cond.fieldLink mN9 182 (mT7 1).1 (mT7 1).2.1 (mT7 1).2.2.1 ∈ mTb := mTb_of 196 (by decide +kernel) rfl
theorem fl7_18 : Cond.fieldLink mN7 18 (mT7 2).1 (mT7 2).2.1 (mT7 2).2.2.1 ∈ mTb := mTb_of 197 (by decide +kernel) rfl
theorem fl5_157 : Cond.fieldLink mN5 157 (mT7 2).1 (mT7 2).2.1 (mT7 2).2.2.1 ∈ mTb := mTb_of 198 (by decide +kernel) rfl
theorem fl9_195 : Cond.fieldLink mN9 195 (mT7 2).1 (mT7 2).2.1 (mT7 2).2.2.1 ∈ mTb := mTb_of 199 (by decide +kernel) rfl
theorem fl7_21 : Cond.fieldLink mN7 21 (mT7 3).1 (mT7 3).2.1 (mT7 3).2.2.1 ∈ mTb := mTb_of 200 (by decide +kernel) rfl
theorem fl5_111 : Cond.fieldLink mN5 111 (mT7 3).1 (mT7 3).2.1 (mT7 3).2.2.1 ∈ mTb := mTb_of 201 (by decide +kernel) rfl
theorem fl9_99 : Cond.fieldLink mN9 99 (mT7 3).1 (mT7 3).2.1 (mT7 3).2.2.1 ∈ mTb := mTb_of 202 (by decide +kernel) rfl
theorem fl7_24 : Cond.fieldLink mN7 24 (mT7 4).1 (mT7 4).2.1 (mT7 4).2.2.1 ∈ mTb := mTb_of 203 (by decide +kernel) rfl
theorem fl5_81 : Cond.fieldLink mN5 81 (mT7 4).1 (mT7 4).2.1 (mT7 4).2.2.1 ∈ mTb := mTb_of 204 (by decide +kernel) rfl
theorem fl9_217 : Cond.fieldLink mN9 217 (mT7 4).1 (mT7 4).2.1 (mT7 4).2.2.1 ∈ mTb := mTb_of 205 (by decide +kernel) rfl
theorem fl7_28 : Cond.fieldLink mN7 28 (mT7 5).1 (mT7 5).2.1 (mT7 5).2.2.1 ∈ mTb := mTb_of 206 (by decide +kernel) rfl
theorem fl9_103 : Cond.fieldLink mN9 103 (mT7 5).1 (mT7 5).2.1 (mT7 5).2.2.1 ∈ mTb := mTb_of 207 (by decide +kernel) rfl
theorem fl5_115 : Cond.fieldLink mN5 115 (mT7 5).1 (mT7 5).2.1 (mT7 5).2.2.1 ∈ mTb := mTb_of 208 (by decide +kernel) rfl
theorem fl7_31 : Cond.fieldLink mN7 31 (mT7 6).1 (mT7 6).2.1 (mT7 6).2.2.1 ∈ mTb := mTb_of 209 (by decide +kernel) rfl
theorem fl5_104 : Cond.fieldLink mN5 104 (mT7 6).1 (mT7 6).2.1 (mT7 6).2.2.1 ∈ mTb := mTb_of 210 (by decide +kernel) rfl
theorem fl9_346 : Cond.fieldLink mN9 346 (mT7 6).1 (mT7 6).2.1 (mT7 6).2.2.1 ∈ mTb := mTb_of 211 (by decide +kernel) rfl
theorem fl7_34 : Cond.fieldLink mN7 34 (mT7 7).1 (mT7 7).2.1 (mT7 7).2.2.1 ∈ mTb := mTb_of 212 (by decide +kernel) rfl
theorem fl5_87 : Cond.fieldLink mN5 87 (mT7 7).1 (mT7 7).2.1 (mT7 7).2.2.1 ∈ mTb := mTb_of 213 (by decide +kernel) rfl
theorem fl9_349 : Cond.fieldLink mN9 349 (mT7 7).1 (mT7 7).2.1 (mT7 7).2.2.1 ∈ mTb := mTb_of 214 (by decide +kernel) rfl
theorem fl7_37 : Cond.fieldLink mN7 37 (mT7 8).1 (mT7 8).2.1 (mT7 8).2.2.1 ∈ mTb := mTb_of 215 (by decide +kernel) rfl
theorem fl5_163 : Cond.fieldLink mN5 163 (mT7 8).1 (mT7 8).2.1 (mT7 8).2.2.1 ∈ mTb := mTb_of 216 (by decide +kernel) rfl
theorem fl9_352 : Cond.fieldLink mN9 352 (mT7 8).1 (mT7 8).2.1 (mT7 8).2.2.1 ∈ mTb := mTb_of 217 (by decide +kernel) rfl
theorem fl7_40 : Cond.fieldLink mN7 40 (mT7 9).1 (mT7 9).2.1 (mT7 9).2.2.1 ∈ mTb := mTb_of 218 (by decide +kernel) rfl
theorem fl5_188 : Cond.fieldLink mN5 188 (mT7 9).1 (mT7 9).2.1 (mT7 9).2.2.1 ∈ mTb := mTb_of 219 (by decide +kernel) rfl
theorem fl9_223 : Cond.fieldLink mN9 223 (mT7 9).1 (mT7 9).2.1 (mT7 9).2.2.1 ∈ mTb := mTb_of 220 (by decide +kernel) rfl
theorem fl7_43 : Cond.fieldLink mN7 43 (mT7 10).1 (mT7 10).2.1 (mT7 10).2.2.1 ∈ mTb := mTb_of 221 (by decide +kernel) rfl
theorem fl5_67 : Cond.fieldLink mN5 67 (mT7 10).1 (mT7 10).2.1 (mT7 10).2.2.1 ∈ mTb := mTb_of 222 (by decide +kernel) rfl
theorem fl8_77 : Cond.fieldLink mN8 77 (mT7 10).1 (mT7 10).2.1 (mT7 10).2.2.1 ∈ mTb := mTb_of 223 (by decide +kernel) rfl
theorem fl9_116 : Cond.fieldLink mN9 116 (mT7 10).1 (mT7 10).2.1 (mT7 10).2.2.1 ∈ mTb := mTb_of 224 (by decide +kernel) rfl
theorem fl7_46 : Cond.fieldLink mN7 46 (mT7 11).1 (mT7 11).2.1 (mT7 11).2.2.1 ∈ mTb := mTb_of 225 (by decide +kernel) rfl
theorem fl9_56 : Cond.fieldLink mN9 56 (mT7 11).1 (mT7 11).2.1 (mT7 11).2.2.1 ∈ mTb := mTb_of 226 (by decide +kernel) rfl
theorem fl7_49 : Cond.fieldLink mN7 49 (mT7 12).1 (mT7 12).2.1 (mT7 12).2.2.1 ∈ mTb := mTb_of 227 (by decide +kernel) rfl
theorem fl8_73 : Cond.fieldLink mN8 73 (mT7 12).1 (mT7 12).2.1 (mT7 12).2.2.1 ∈ mTb := mTb_of 228 (by decide +kernel) rfl
theorem fl9_207 : Cond.fieldLink mN9 207 (mT7 12).1 (mT7 12).2.1 (mT7 12).2.2.1 ∈ mTb := mTb_of 229 (by decide +kernel) rfl
theorem fl0_9 : Cond.fieldLink mN0 9 (mT0 0).1 (mT0 0).2.1 (mT0 0).2.2.1 ∈ mTb := mTb_of 264 (by decide +kernel) rfl
theorem fl5_142 : Cond.fieldLink mN5 142 (mT0 0).1 (mT0 0).2.1 (mT0 0).2.2.1 ∈ mTb := mTb_of 265 (by decide +kernel) rfl
theorem fl9_170 : Cond.fieldLink mN9 170 (mT0 0).1 (mT0 0).2.1 (mT0 0).2.2.1 ∈ mTb := mTb_of 266 (by decide +kernel) rfl
theorem fl0_15 : Cond.fieldLink mN0 15 (mT0 1).1 (mT0 1).2.1 (mT0 1).2.2.1 ∈ mTb := mTb_of 267 (by decide +kernel) rfl
theorem fl5_166 : Cond.fieldLink mN5 166 (mT0 1).1 (mT0 1).2.1 (mT0 1).2.2.1 ∈ mTb := mTb_of 268 (by decide +kernel) rfl
theorem fl9_173 : Cond.fieldLink mN9 173 (mT0 1).1 (mT0 1).2.1 (mT0 1).2.2.1 ∈ mTb := mTb_of 269 (by decide +kernel) rfl
theorem fl0_18 : Cond.fieldLink mN0 18 (mT0 2).1 (mT0 2).2.1 (mT0 2).2.2.1 ∈ mTb := mTb_of 270 (by decide +kernel) rfl
theorem fl5_169 : Cond.fieldLink mN5 169 (mT0 2).1 (mT0 2).2.1 (mT0 2).2.2.1 ∈ mTb := mTb_of 271 (by decide +kernel) rfl
theorem fl9_176 : Cond.fieldLink mN9 176 (mT0 2).1 (mT0 2).2.1 (mT0 2).2.2.1 ∈ mTb := mTb_of 272 (by decide +kernel) rfl
theorem fl0_21 : Cond.fieldLink mN0 21 (mT0 3).1 (mT0 3).2.1 (mT0 3).2.2.1 ∈ mTb := mTb_of 273 (by decide +kernel) rfl
theorem fl5_172 : Cond.fieldLink mN5 172 (mT0 3).1 (mT0 3).2.1 (mT0 3).2.2.1 ∈ mTb := mTb_of 274 (by decide +kernel) rfl
theorem fl9_189 : Cond.fieldLink mN9 189 (mT0 3).1 (mT0 3).2.1 (mT0 3).2.2.1 ∈ mTb := mTb_of 275 (by decide +kernel) rfl
theorem fl0_24 : Cond.fieldLink mN0 24 (mT0 4).1 (mT0 4).2.1 (mT0 4).2.2.1 ∈ mTb := mTb_of 276 (by decide +kernel) rfl
theorem fl5_175 : Cond.fieldLink mN5 175 (mT0 4).1 (mT0 4).2.1 (mT0 4).2.2.1 ∈ mTb := mTb_of 277 (by decide +kernel) rfl
theorem fl9_192 : Cond.fieldLink mN9 192 (mT0 4).1 (mT0 4).2.1 (mT0 4).2.2.1 ∈ mTb := mTb_of 278 (by decide +kernel) rfl
theorem fl0_27 : Cond.fieldLink mN0 27 (mT0 5).1 (mT0 5).2.1 (mT0 5).2.2.1 ∈ mTb := mTb_of 279 (by decide +kernel) rfl
theorem fl0_30 : Cond.fieldLink mN0 30 (mT0 6).1 (mT0 6).2.1 (mT0 6).2.2.1 ∈ mTb := mTb_of 280 (by decide +kernel) rfl
theorem fl4_58 : Cond.fieldLink mN4 58 (mT0 6).1 (mT0 6).2.1 (mT0 6).2.2.1 ∈ mTb := mTb_of 281 (by decide +kernel) rfl
theorem fl8_104 : Cond.fieldLink mN8 104 (mT0 6).1 (mT0 6).2.1 (mT0 6).2.2.1 ∈ mTb := mTb_of 282 (by decide +kernel) rfl
theorem fl9_340 : Cond.fieldLink mN9 340 (mT0 6).1 (mT0 6).2.1 (mT0 6).2.2.1 ∈ mTb := mTb_of 283 (by decide +kernel) rfl
theorem fl0_34 : Cond.fieldLink mN0 34 (mT0 7).1 (mT0 7).2.1 (mT0 7).2.2.1 ∈ mTb := mTb_of 284 (by decide +kernel) rfl
theorem fl4_61 : Cond.fieldLink mN4 61 (mT0 7).1 (mT0 7).2.1 (mT0 7).2.2.1 ∈ mTb := mTb_of 285 (by decide +kernel) rfl
theorem fl9_343 : Cond.fieldLink mN9 343 (mT0 7).1 (mT0 7).2.1 (mT0 7).2.2.1 ∈ mTb := mTb_of 286 (by decide +kernel) rfl
theorem ml8_27 : Cond.methodLink mN8 27 m6_init.1 ∈ mTb := mTb_in (tin_1 (List.mem_of_getElem? (i := 162) (by decide +kernel))) rfl
theorem ml6_22 : Cond.methodLink mN6 22 mJ9_max.1 ∈ mTb := mTb_in (tin_1 (List.mem_of_getElem? (i := 166) (by decide +kernel))) rfl
theorem fl6_11 : Cond.fieldLink mN6 11 (mT6 0).1 (mT6 0).2.1 (mT6 0).2.2.1 ∈ mTb := mTb_of 313 (by decide +kernel) rfl
theorem fl6_28 : Cond.fieldLink mN6 28 (mT6 1).1 (mT6 1).2.1 (mT6 1).2.2.1 ∈ mTb := mTb_of 314 (by decide +kernel) rfl
theorem fl5_206 : Cond.fieldLink mN5 206 (mT6 1).1 (mT6 1).2.1 (mT6 1).2.2.1 ∈ mTb := mTb_of 315 (by decide +kernel) rfl
theorem fl6_15 : Cond.fieldLink mN6 15 (mT6 2).1 (mT6 2).2.1 (mT6 2).2.2.1 ∈ mTb := mTb_of 316 (by decide +kernel) rfl
theorem fl5_58 : Cond.fieldLink mN5 58 (mT6 2).1 (mT6 2).2.1 (mT6 2).2.2.1 ∈ mTb := mTb_of 317 (by decide +kernel) rfl
theorem fl4_72 : Cond.fieldLink mN4 72 (mT6 2).1 (mT6 2).2.1 (mT6 2).2.2.1 ∈ mTb := mTb_of 318 (by decide +kernel) rfl
theorem fl8_100 : Cond.fieldLink mN8 100 (mT6 2).1 (mT6 2).2.1 (mT6 2).2.2.1 ∈ mTb := mTb_of 319 (by decide +kernel) rfl
theorem fl9_358 : Cond.fieldLink mN9 358 (mT6 2).1 (mT6 2).2.1 (mT6 2).2.2.1 ∈ mTb := mTb_of 320 (by decide +kernel) rfl
theorem fl6_19 : Cond.fieldLink mN6 19 (mT6 3).1 (mT6 3).2.1 (mT6 3).2.2.1 ∈ mTb := mTb_of 321 (by decide +kernel) rfl
theorem fl4_102 : Cond.fieldLink mN4 102 (mT6 3).1 (mT6 3).2.1 (mT6 3).2.2.1 ∈ mTb := mTb_of 322 (by decide +kernel) rfl
theorem fl5_203 : Cond.fieldLink mN5 203 (mT6 3).1 (mT6 3).2.1 (mT6 3).2.2.1 ∈ mTb := mTb_of 323 (by decide +kernel) rfl
theorem fl1_11 : Cond.fieldLink mN1 11 (mT1 0).1 (mT1 0).2.1 (mT1 0).2.2.1 ∈ mTb := mTb_of 339 (by decide +kernel) rfl
theorem fl1_15 : Cond.fieldLink mN1 15 (mT1 1).1 (mT1 1).2.1 (mT1 1).2.2.1 ∈ mTb := mTb_of 340 (by decide +kernel) rfl
theorem fl9_202 : Cond.fieldLink mN9 202 (mT1 1).1 (mT1 1).2.1 (mT1 1).2.2.1 ∈ mTb := mTb_of 341 (by decide +kernel) rfl
theorem fl1_18 : Cond.fieldLink mN1 18 (mT1 2).1 (mT1 2).2.1 (mT1 2).2.2.1 ∈ mTb := mTb_of 342 (by decide +kernel) rfl
theorem fl1_21 : Cond.fieldLink mN1 21 (mT1 3).1 (mT1 3).2.1 (mT1 3).2.2.1 ∈ mTb := mTb_of 343 (by decide +kernel) rfl
theorem fl1_24 : Cond.fieldLink mN1 24 (mT1 4).1 (mT1 4).2.1 (mT1 4).2.2.1 ∈ mTb := mTb_of 344 (by decide +kernel) rfl
theorem fl1_27 : Cond.fieldLink mN1 27 (mT1 5).1 (mT1 5).2.1 (mT1 5).2.2.1 ∈ mTb := mTb_of 345 (by decide +kernel) rfl
theorem fl9_273 : Cond.fieldLink mN9 273 (mT1 5).1 (mT1 5).2.1 (mT1 5).2.2.1 ∈ mTb := mTb_of 346 (by decide +kernel) rfl
theorem fl1_31 : Cond.fieldLink mN1 31 (mT1 6).1 (mT1 6).2.1 (mT1 6).2.2.1 ∈ mTb := mTb_of 347 (by decide +kernel) rfl
theorem fl1_34 : Cond.fieldLink mN1 34 (mT1 7).1 (mT1 7).2.1 (mT1 7).2.2.1 ∈ mTb := mTb_of 348 (by decide +kernel) rfl
theorem fl8_12 : Cond.fieldLink mN8 12 (mT8 0).1 (mT8 0).2.1 (mT8 0).2.2.1 ∈ mTb := mTb_of 366 (by decide +kernel) rfl
theorem fl5_25 : Cond.fieldLink mN5 25 (mT8 0).1 (mT8 0).2.1 (mT8 0).2.2.1 ∈ mTb := mTb_of 367 (by decide +kernel) rfl
theorem fl9_52 : Cond.fieldLink mN9 52 (mT8 0).1 (mT8 0).2.1 (mT8 0).2.2.1 ∈ mTb := mTb_of 368 (by decide +kernel) rfl
theorem fl8_21 : Cond.fieldLink mN8 21 (mT8 1).1 (mT8 1).2.1 (mT8 1).2.2.1 ∈ mTb := mTb_of 369 (by decide +kernel) rfl
theorem fl9_65 : Cond.fieldLink mN9 65 (mT8 1).1 (mT8 1).2.1 (mT8 1).2.2.1 ∈ mTb := mTb_of 370 (by decide +kernel) rfl
theorem fl5_129 : Cond.fieldLink mN5 129 (mT8 1).1 (mT8 1).2.1 (mT8 1).2.2.1 ∈ mTb := mTb_of 371 (by decide +kernel) rfl
theorem fl8_30 : Cond.fieldLink mN8 30 (mT8 2).1 (mT8 2).2.1 (mT8 2).2.2.1 ∈ mTb := mTb_of 372 (by decide +kernel) rfl
theorem fl5_194 : Cond.fieldLink mN5 194 (mT8 2).1 (mT8 2).2.1 (mT8 2).2.2.1 ∈ mTb := mTb_of 373 (by decide +kernel) rfl
theorem fl9_355 : Cond.fieldLink mN9 355 (mT8 2).1 (mT8 2).2.1 (mT8 2).2.2.1 ∈ mTb := mTb_of 374 (by decide +kernel) rfl
theorem fl8_34 : Cond.fieldLink mN8 34 (mT8 3).1 (mT8 3).2.1 (mT8 3).2.2.1 ∈ mTb := mTb_of 375 (by decide +kernel) rfl
theorem fl5_74 : Cond.fieldLink mN5 74 (mT8 3).1 (mT8 3).2.1 (mT8 3).2.2.1 ∈ mTb := mTb_of 376 (by decide +kernel) rfl
theorem fl9_359 : Cond.fieldLink mN9 359 (mT8 3).1 (mT8 3).2.1 (mT8 3).2.2.1 ∈ mTb := mTb_of 377 (by decide +kernel) rfl
theorem fl8_37 : Cond.fieldLink mN8 37 (mT8 4).1 (mT8 4).2.1 (mT8 4).2.2.1 ∈ mTb := mTb_of 378 (by decide +kernel) rfl
theorem fl5_54 : Cond.fieldLink mN5 54 (mT8 4).1 (mT8 4).2.1 (mT8 4).2.2.1 ∈ mTb := mTb_of 379 (by decide +kernel) rfl
theorem fl9_362 : Cond.fieldLink mN9 362 (mT8 4).1 (mT8 4).2.1 (mT8 4).2.2.1 ∈ mTb := mTb_of 380 (by decide +kernel) rfl
theorem fl8_40 : Cond.fieldLink mN8 40 (mT8 5).1 (mT8 5).2.1 (mT8 5).2.2.1 ∈ mTb := mTb_of 381 (by decide +kernel) rfl
theorem fl9_365 : Cond.fieldLink mN9 365 (mT8 5).1 (mT8 5).2.1 (mT8 5).2.2.1 ∈ mTb := mTb_of 382 (by decide +kernel) rfl
theorem fl8_46 : Cond.fieldLink mN8 46 (mT8 6).1 (mT8 6).2.1 (mT8 6).2.2.1 ∈ mTb := mTb_of 383 (by decide +kernel) rfl
theorem fl9_198 : Cond.fieldLink mN9 198 (mT8 6).1 (mT8 6).2.1 (mT8 6).2.2.1 ∈ mTb := mTb_of 384 (by decide +kernel) rfl
theorem fl8_50 : Cond.fieldLink mN8 50 (mT8 7).1 (mT8 7).2.1 (mT8 7).2.2.1 ∈ mTb := mTb_of 385 (by decide +kernel) rfl
theorem fl9_210 : Cond.fieldLink mN9 210 (mT8 7).1 (mT8 7).2.1 (mT8 7).2.2.1 ∈ mTb := mTb_of 386 (by decide +kernel) rfl
theorem fl5_12 : Cond.fieldLink mN5 12 (mT5 0).1 (mT5 0).2.1 (mT5 0).2.2.1 ∈ mTb := mTb_of 406 (by decide +kernel) rfl
theorem fl9_16 : Cond.fieldLink mN9 16 (mT5 0).1 (mT5 0).2.1 (mT5 0).2.2.1 ∈ mTb := mTb_of 407 (by decide +kernel) rfl
theorem fl5_21 : Cond.fieldLink mN5 21 (mT5 1).1 (mT5 1).2.1 (mT5 1).2.2.1 ∈ mTb := mTb_of 408 (by decide +kernel) rfl
theorem fl5_28 : Cond.fieldLink mN5 28 (mT5 2).1 (mT5 2).2.1 (mT5 2).2.2.1 ∈ mTb := mTb_of 409 (by decide +kernel) rfl
theorem fl5_29 : Cond.fieldLink mN5 29 (mT5 3).1 (mT5 3).2.1 (mT5 3).2.2.1 ∈ mTb := mTb_of 410 (by decide +kernel) rfl
theorem fl5_33 : Cond.fieldLink mN5 33 (mT5 4).1 (mT5 4).2.1 (mT5 4).2.2.1 ∈ mTb := mTb_of 411 (by decide +kernel) rfl
theorem fl5_37 : Cond.fieldLink mN5 37 (mT5 5).1 (mT5 5).2.1 (mT5 5).2.2.1 ∈ mTb := mTb_of 412 (by decide +kernel) rfl
theorem fl5_40 : Cond.fieldLink mN5 40 (mT5 6).1 (mT5 6).2.1 (mT5 6).2.2.1 ∈ mTb := mTb_of 413 (by decide +kernel) rfl
theorem fl5_43 : Cond.fieldLink mN5 43 (mT5 7).1 (mT5 7).2.1 (mT5 7).2.2.1 ∈ mTb := mTb_of 414 (by decide +kernel) rfl
theorem fl9_237 : Cond.fieldLink mN9 237 (mT5 7).1 (mT5 7).2.1 (mT5 7).2.2.1 ∈ mTb := mTb_of 415 (by decide +kernel) rfl
theorem fl5_46 : Cond.fieldLink mN5 46 (mT5 8).1 (mT5 8).2.1 (mT5 8).2.2.1 ∈ mTb := mTb_of 416 (by decide +kernel) rfl
theorem ml9_33 : Cond.methodLink mN9 33 m3_init.1 ∈ mTb := mTb_in (tin_2 (List.mem_of_getElem? (i := 56) (by decide +kernel))) rfl
theorem fl3_11 : Cond.fieldLink mN3 11 (mT3 0).1 (mT3 0).2.1 (mT3 0).2.2.1 ∈ mTb := mTb_of 447 (by decide +kernel) rfl
theorem fl3_15 : Cond.fieldLink mN3 15 (mT3 1).1 (mT3 1).2.1 (mT3 1).2.2.1 ∈ mTb := mTb_of 448 (by decide +kernel) rfl
theorem fl3_19 : Cond.fieldLink mN3 19 (mT3 2).1 (mT3 2).2.1 (mT3 2).2.2.1 ∈ mTb := mTb_of 449 (by decide +kernel) rfl
theorem fl9_368 : Cond.fieldLink mN9 368 (mT3 2).1 (mT3 2).2.1 (mT3 2).2.2.1 ∈ mTb := mTb_of 450 (by decide +kernel) rfl
theorem ml4_45 : Cond.methodLink mN4 45 m6_init.1 ∈ mTb := mTb_in (tin_2 (List.mem_of_getElem? (i := 81) (by decide +kernel))) rfl
theorem fl4_9 : Cond.fieldLink mN4 9 (mT4 0).1 (mT4 0).2.1 (mT4 0).2.2.1 ∈ mTb := mTb_of 466 (by decide +kernel) rfl
theorem fl4_15 : Cond.fieldLink mN4 15 (mT4 1).1 (mT4 1).2.1 (mT4 1).2.2.1 ∈ mTb := mTb_of 467 (by decide +kernel) rfl
theorem fl9_130 : Cond.fieldLink mN9 130 (mT4 1).1 (mT4 1).2.1 (mT4 1).2.2.1 ∈ mTb := mTb_of 468 (by decide +kernel) rfl
theorem fl4_19 : Cond.fieldLink mN4 19 (mT4 2).1 (mT4 2).2.1 (mT4 2).2.2.1 ∈ mTb := mTb_of 469 (by decide +kernel) rfl
theorem fl4_22 : Cond.fieldLink mN4 22 (mT4 3).1 (mT4 3).2.1 (mT4 3).2.2.1 ∈ mTb := mTb_of 470 (by decide +kernel) rfl
theorem fl4_25 : Cond.fieldLink mN4 25 (mT4 4).1 (mT4 4).2.1 (mT4 4).2.2.1 ∈ mTb := mTb_of 471 (by decide +kernel) rfl
theorem fl4_28 : Cond.fieldLink mN4 28 (mT4 5).1 (mT4 5).2.1 (mT4 5).2.2.1 ∈ mTb := mTb_of 472 (by decide +kernel) rfl
theorem fl4_31 : Cond.fieldLink mN4 31 (mT4 6).1 (mT4 6).2.1 (mT4 6).2.2.1 ∈ mTb := mTb_of 473 (by decide +kernel) rfl
theorem fl4_34 : Cond.fieldLink mN4 34 (mT4 7).1 (mT4 7).2.1 (mT4 7).2.2.1 ∈ mTb := mTb_of 474 (by decide +kernel) rfl
theorem fl4_37 : Cond.fieldLink mN4 37 (mT4 8).1 (mT4 8).2.1 (mT4 8).2.2.1 ∈ mTb := mTb_of 475 (by decide +kernel) rfl
theorem fl4_40 : Cond.fieldLink mN4 40 (mT4 9).1 (mT4 9).2.1 (mT4 9).2.2.1 ∈ mTb := mTb_of 476 (by decide +kernel) rfl
theorem fl4_48 : Cond.fieldLink mN4 48 (mT4 10).1 (mT4 10).2.1 (mT4 10).2.2.1 ∈ mTb := mTb_of 477 (by decide +kernel) rfl
theorem fl9_144 : Cond.fieldLink mN9 144 (mT4 10).1 (mT4 10).2.1 (mT4 10).2.2.1 ∈ mTb := mTb_of 478 (by decide +kernel) rfl
theorem fl4_52 : Cond.fieldLink mN4 52 (mT4 11).1 (mT4 11).2.1 (mT4 11).2.2.1 ∈ mTb := mTb_of 479 (by decide +kernel) rfl
theorem fl9_154 : Cond.fieldLink mN9 154 (mT4 11).1 (mT4 11).2.1 (mT4 11).2.2.1 ∈ mTb := mTb_of 480 (by decide +kernel) rfl
theorem fl4_55 : Cond.fieldLink mN4 55 (mT4 12).1 (mT4 12).2.1 (mT4 12).2.2.1 ∈ mTb := mTb_of 481 (by decide +kernel) rfl
theorem fl9_157 : Cond.fieldLink mN9 157 (mT4 12).1 (mT4 12).2.1 (mT4 12).2.2.1 ∈ mTb := mTb_of 482 (by decide +kernel) rfl
theorem fl2_11 : Cond.fieldLink mN2 11 (mT2 0).1 (mT2 0).2.1 (mT2 0).2.2.1 ∈ mTb := mTb_of 516 (by decide +kernel) rfl
theorem fl9_10 : Cond.fieldLink mN9 10 (mT9 0).1 (mT9 0).2.1 (mT9 0).2.2.1 ∈ mTb := mTb_of 520 (by decide +kernel) rfl
theorem fl9_20 : Cond.fieldLink mN9 20 (mT9 1).1 (mT9 1).2.1 (mT9 1).2.2.1 ∈ mTb := mTb_of 521 (by decide +kernel) rfl
theorem fl9_24 : Cond.fieldLink mN9 24 (mT9 2).1 (mT9 2).2.1 (mT9 2).2.2.1 ∈ mTb := mTb_of 522 (by decide +kernel) rfl
theorem fl9_27 : Cond.fieldLink mN9 27 (mT9 3).1 (mT9 3).2.1 (mT9 3).2.2.1 ∈ mTb := mTb_of 523 (by decide +kernel) rfl
theorem fl9_34 : Cond.fieldLink mN9 34 (mT9 4).1 (mT9 4).2.1 (mT9 4).2.2.1 ∈ mTb := mTb_of 524 (by decide +kernel) rfl
theorem fl9_41 : Cond.fieldLink mN9 41 (mT9 5).1 (mT9 5).2.1 (mT9 5).2.2.1 ∈ mTb := mTb_of 525 (by decide +kernel) rfl
theorem fl9_48 : Cond.fieldLink mN9 48 (mT9 6).1 (mT9 6).2.1 (mT9 6).2.2.1 ∈ mTb := mTb_of 526 (by decide +kernel) rfl
theorem mlL_13 : Cond.methodLink "WeepingPianoLaw" 13 m9_state.1 ∈ mTb := mTb_in (tin_2 (List.mem_of_getElem? (i := 158) (by decide +kernel))) rfl
theorem ml9_62 : Cond.methodLink mN9 62 m3_forget.1 ∈ mTb := mTb_in (tin_2 (List.mem_of_getElem? (i := 162) (by decide +kernel))) rfl
theorem mlL_18 : Cond.methodLink "WeepingPianoLaw" 18 m9_piece.1 ∈ mTb := mTb_in (tin_2 (List.mem_of_getElem? (i := 166) (by decide +kernel))) rfl
theorem ml9_69 : Cond.methodLink mN9 69 m0_addPiece.1 ∈ mTb := mTb_in (tin_2 (List.mem_of_getElem? (i := 170) (by decide +kernel))) rfl
theorem ml0_50 : Cond.methodLink mN0 50 m0_isGrade.1 ∈ mTb := mTb_in (tin_2 (List.mem_of_getElem? (i := 174) (by decide +kernel))) rfl
theorem mlL_23 : Cond.methodLink "WeepingPianoLaw" 23 m9_player.1 ∈ mTb := mTb_in (tin_2 (List.mem_of_getElem? (i := 177) (by decide +kernel))) rfl
theorem ml9_75 : Cond.methodLink mN9 75 m0_addPlayer.1 ∈ mTb := mTb_in (tin_2 (List.mem_of_getElem? (i := 181) (by decide +kernel))) rfl
theorem mlL_28 : Cond.methodLink "WeepingPianoLaw" 28 m9_set.1 ∈ mTb := mTb_in (tin_2 (List.mem_of_getElem? (i := 185) (by decide +kernel))) rfl
theorem ml9_79 : Cond.methodLink mN9 79 m0_change.1 ∈ mTb := mTb_in (tin_2 (List.mem_of_getElem? (i := 189) (by decide +kernel))) rfl
theorem ml0_47 : Cond.methodLink mN0 47 m0_hasPiece.1 ∈ mTb := mTb_in (tin_2 (List.mem_of_getElem? (i := 193) (by decide +kernel))) rfl
theorem ml0_43 : Cond.methodLink mN0 43 m0_hasPlayer.1 ∈ mTb := mTb_in (tin_2 (List.mem_of_getElem? (i := 197) (by decide +kernel))) rfl
theorem ml9_83 : Cond.methodLink mN9 83 m7_change.1 ∈ mTb := mTb_in (tin_2 (List.mem_of_getElem? (i := 201) (by decide +kernel))) rfl
theorem mlL_33 : Cond.methodLink "WeepingPianoLaw" 33 m9_play.1 ∈ mTb := mTb_in (tin_2 (List.mem_of_getElem? (i := 205) (by decide +kernel))) rfl
theorem ml9_84 : Cond.methodLink mN9 84 m0_knows.1 ∈ mTb := mTb_in (tin_2 (List.mem_of_getElem? (i := 209) (by decide +kernel))) rfl
theorem ml9_88 : Cond.methodLink mN9 88 m3_keep.1 ∈ mTb := mTb_in (tin_2 (List.mem_of_getElem? (i := 213) (by decide +kernel))) rfl
theorem ml3_23 : Cond.methodLink mN3 23 m7_copyFrom.1 ∈ mTb := mTb_in (tin_2 (List.mem_of_getElem? (i := 217) (by decide +kernel))) rfl
theorem ml9_92 : Cond.methodLink mN9 92 m5_wake.1 ∈ mTb := mTb_in (tin_2 (List.mem_of_getElem? (i := 224) (by decide +kernel))) rfl
theorem ml9_95 : Cond.methodLink mN9 95 m5_perform.1 ∈ mTb := mTb_in (tin_2 (List.mem_of_getElem? (i := 228) (by decide +kernel))) rfl
theorem ml5_133 : Cond.methodLink mN5 133 m0_knows.1 ∈ mTb := mTb_in (tin_2 (List.mem_of_getElem? (i := 232) (by decide +kernel))) rfl
theorem ml5_139 : Cond.methodLink mN5 139 m5_seat.1 ∈ mTb := mTb_in (tin_2 (List.mem_of_getElem? (i := 233) (by decide +kernel))) rfl
theorem ml5_145 : Cond.methodLink mN5 145 m5_ask.1 ∈ mTb := mTb_in (tin_2 (List.mem_of_getElem? (i := 237) (by decide +kernel))) rfl
theorem ml5_63 : Cond.methodLink mN5 63 m6_cell.1 ∈ mTb := mTb_in (tin_3 (List.mem_of_getElem? (i := 1) (by decide +kernel))) rfl
theorem ml5_197 : Cond.methodLink mN5 197 m5_run.1 ∈ mTb := mTb_in (tin_3 (List.mem_of_getElem? (i := 5) (by decide +kernel))) rfl
theorem ml5_90 : Cond.methodLink mN5 90 mJ9_max.1 ∈ mTb := mTb_in (tin_3 (List.mem_of_getElem? (i := 9) (by decide +kernel))) rfl
theorem ml5_209 : Cond.methodLink mN5 209 m5_join.1 ∈ mTb := mTb_in (tin_3 (List.mem_of_getElem? (i := 10) (by decide +kernel))) rfl
theorem ml5_200 : Cond.methodLink mN5 200 m5_withoutLaw.1 ∈ mTb := mTb_in (tin_3 (List.mem_of_getElem? (i := 13) (by decide +kernel))) rfl
theorem ml5_118 : Cond.methodLink mN5 118 mJ9_min.1 ∈ mTb := mTb_in (tin_3 (List.mem_of_getElem? (i := 17) (by decide +kernel))) rfl
theorem ml5_148 : Cond.methodLink mN5 148 m7_addWater.1 ∈ mTb := mTb_in (tin_3 (List.mem_of_getElem? (i := 20) (by decide +kernel))) rfl
theorem ml7_60 : Cond.methodLink mN7 60 mJ9_min.1 ∈ mTb := mTb_in (tin_3 (List.mem_of_getElem? (i := 24) (by decide +kernel))) rfl
theorem ml5_151 : Cond.methodLink mN5 151 m5_dampStrings.1 ∈ mTb := mTb_in (tin_3 (List.mem_of_getElem? (i := 25) (by decide +kernel))) rfl
theorem ml5_178 : Cond.methodLink mN5 178 m7_drawBelow.1 ∈ mTb := mTb_in (tin_3 (List.mem_of_getElem? (i := 29) (by decide +kernel))) rfl
theorem ml5_181 : Cond.methodLink mN5 181 m7_flatten.1 ∈ mTb := mTb_in (tin_3 (List.mem_of_getElem? (i := 35) (by decide +kernel))) rfl
theorem ml5_114 : Cond.methodLink mN5 114 m5_note.1 ∈ mTb := mTb_in (tin_3 (List.mem_of_getElem? (i := 39) (by decide +kernel))) rfl
theorem ml5_107 : Cond.methodLink mN5 107 m8_note.1 ∈ mTb := mTb_in (tin_3 (List.mem_of_getElem? (i := 43) (by decide +kernel))) rfl
theorem mlL_37 : Cond.methodLink "WeepingPianoLaw" 37 m9_act.1 ∈ mTb := mTb_in (tin_3 (List.mem_of_getElem? (i := 47) (by decide +kernel))) rfl
theorem ml9_106 : Cond.methodLink mN9 106 m5_tuneString.1 ∈ mTb := mTb_in (tin_3 (List.mem_of_getElem? (i := 51) (by decide +kernel))) rfl
theorem ml9_110 : Cond.methodLink mN9 110 m5_emptyDrawer.1 ∈ mTb := mTb_in (tin_3 (List.mem_of_getElem? (i := 55) (by decide +kernel))) rfl
theorem ml9_113 : Cond.methodLink mN9 113 m5_bringChild.1 ∈ mTb := mTb_in (tin_3 (List.mem_of_getElem? (i := 59) (by decide +kernel))) rfl
theorem mlL_42 : Cond.methodLink "WeepingPianoLaw" 42 m9_days.1 ∈ mTb := mTb_in (tin_3 (List.mem_of_getElem? (i := 63) (by decide +kernel))) rfl
theorem ml9_119 : Cond.methodLink mN9 119 m5_passDay.1 ∈ mTb := mTb_in (tin_3 (List.mem_of_getElem? (i := 67) (by decide +kernel))) rfl
theorem ml5_70 : Cond.methodLink mN5 70 m5_takeCare.1 ∈ mTb := mTb_in (tin_3 (List.mem_of_getElem? (i := 71) (by decide +kernel))) rfl
theorem ml5_95 : Cond.methodLink mN5 95 m5_tuneString.1 ∈ mTb := mTb_in (tin_3 (List.mem_of_getElem? (i := 75) (by decide +kernel))) rfl
theorem ml5_98 : Cond.methodLink mN5 98 m5_emptyDrawer.1 ∈ mTb := mTb_in (tin_3 (List.mem_of_getElem? (i := 76) (by decide +kernel))) rfl
theorem ml5_101 : Cond.methodLink mN5 101 m5_bringChild.1 ∈ mTb := mTb_in (tin_3 (List.mem_of_getElem? (i := 77) (by decide +kernel))) rfl
theorem ml5_77 : Cond.methodLink mN5 77 m5_playLine.1 ∈ mTb := mTb_in (tin_3 (List.mem_of_getElem? (i := 78) (by decide +kernel))) rfl
theorem ml5_121 : Cond.methodLink mN5 121 m5_perform.1 ∈ mTb := mTb_in (tin_3 (List.mem_of_getElem? (i := 82) (by decide +kernel))) rfl
theorem ml5_125 : Cond.methodLink mN5 125 m5_waitBehind.1 ∈ mTb := mTb_in (tin_3 (List.mem_of_getElem? (i := 83) (by decide +kernel))) rfl
theorem ml5_184 : Cond.methodLink mN5 184 m0_hasPiece.1 ∈ mTb := mTb_in (tin_3 (List.mem_of_getElem? (i := 87) (by decide +kernel))) rfl
theorem ml5_84 : Cond.methodLink mN5 84 m7_dryUp.1 ∈ mTb := mTb_in (tin_3 (List.mem_of_getElem? (i := 88) (by decide +kernel))) rfl
theorem mlL_46 : Cond.methodLink "WeepingPianoLaw" 46 m9_feed.1 ∈ mTb := mTb_in (tin_3 (List.mem_of_getElem? (i := 92) (by decide +kernel))) rfl
theorem ml9_123 : Cond.methodLink mN9 123 m4_hasRoomFor.1 ∈ mTb := mTb_in (tin_3 (List.mem_of_getElem? (i := 96) (by decide +kernel))) rfl
theorem ml9_127 : Cond.methodLink mN9 127 m4_takeNumber.1 ∈ mTb := mTb_in (tin_3 (List.mem_of_getElem? (i := 100) (by decide +kernel))) rfl
theorem mlL_51 : Cond.methodLink "WeepingPianoLaw" 51 m9_end.1 ∈ mTb := mTb_in (tin_3 (List.mem_of_getElem? (i := 104) (by decide +kernel))) rfl
theorem ml9_133 : Cond.methodLink mN9 133 m4_cutTo.1 ∈ mTb := mTb_in (tin_3 (List.mem_of_getElem? (i := 108) (by decide +kernel))) rfl
theorem mlL_56 : Cond.methodLink "WeepingPianoLaw" 56 m9_text.1 ∈ mTb := mTb_in (tin_3 (List.mem_of_getElem? (i := 112) (by decide +kernel))) rfl
theorem ml9_136 : Cond.methodLink mN9 136 m4_readScript.1 ∈ mTb := mTb_in (tin_3 (List.mem_of_getElem? (i := 116) (by decide +kernel))) rfl
theorem ml4_62 : Cond.methodLink mN4 62 m6_clear.1 ∈ mTb := mTb_in (tin_3 (List.mem_of_getElem? (i := 120) (by decide +kernel))) rfl
theorem ml4_65 : Cond.methodLink mN4 65 m4_splitTape.1 ∈ mTb := mTb_in (tin_3 (List.mem_of_getElem? (i := 124) (by decide +kernel))) rfl
theorem ml4_145 : Cond.methodLink mN4 145 m4_isLetter.1 ∈ mTb := mTb_in (tin_3 (List.mem_of_getElem? (i := 128) (by decide +kernel))) rfl
theorem ml4_148 : Cond.methodLink mN4 148 m4_endOfLetters.1 ∈ mTb := mTb_in (tin_3 (List.mem_of_getElem? (i := 131) (by decide +kernel))) rfl
theorem ml4_152 : Cond.methodLink mN4 152 m4_wordKind.1 ∈ mTb := mTb_in (tin_3 (List.mem_of_getElem? (i := 135) (by decide +kernel))) rfl
theorem ml4_182 : Cond.methodLink mN4 182 mJ0_length.1 ∈ mTb := mTb_in (tin_3 (List.mem_of_getElem? (i := 140) (by decide +kernel))) rfl
theorem mlJ0_335 : Cond.methodLink "java/lang/String" 335 mJ0_coder.1 ∈ mTb := mTb_in (tin_3 (List.mem_of_getElem? (i := 144) (by decide +kernel))) rfl
theorem ml4_184 : Cond.methodLink mN4 184 mJ0_charAt.1 ∈ mTb := mTb_in (tin_3 (List.mem_of_getElem? (i := 150) (by decide +kernel))) rfl
theorem mlJ0_492 : Cond.methodLink "java/lang/String" 492 mJ0_isLatin1.1 ∈ mTb := mTb_in (tin_3 (List.mem_of_getElem? (i := 154) (by decide +kernel))) rfl
theorem mlJ0_495 : Cond.methodLink "java/lang/String" 495 mJ1_charAt.1 ∈ mTb := mTb_in (tin_3 (List.mem_of_getElem? (i := 158) (by decide +kernel))) rfl
theorem mlJ1_9 : Cond.methodLink "java/lang/StringLatin1" 9 mJ0_checkIndex.1 ∈ mTb := mTb_in (tin_3 (List.mem_of_getElem? (i := 161) (by decide +kernel))) rfl
theorem mlJ0_1059 : Cond.methodLink "java/lang/String" 1059 mJ3_checkIndex.1 ∈ mTb := mTb_in (tin_3 (List.mem_of_getElem? (i := 166) (by decide +kernel))) rfl
theorem mlJ0_498 : Cond.methodLink "java/lang/String" 498 mJ2_charAt.1 ∈ mTb := mTb_in (tin_3 (List.mem_of_getElem? (i := 169) (by decide +kernel))) rfl
theorem mlJ2_67 : Cond.methodLink "java/lang/StringUTF16" 67 mJ2_checkIndex.1 ∈ mTb := mTb_in (tin_3 (List.mem_of_getElem? (i := 172) (by decide +kernel))) rfl
theorem mlJ2_48 : Cond.methodLink "java/lang/StringUTF16" 48 mJ2_length.1 ∈ mTb := mTb_in (tin_3 (List.mem_of_getElem? (i := 175) (by decide +kernel))) rfl
theorem mlJ2_414 : Cond.methodLink "java/lang/StringUTF16" 414 mJ0_checkIndex.1 ∈ mTb := mTb_in (tin_3 (List.mem_of_getElem? (i := 178) (by decide +kernel))) rfl
theorem mlJ2_71 : Cond.methodLink "java/lang/StringUTF16" 71 mJ2_getChar.1 ∈ mTb := mTb_in (tin_3 (List.mem_of_getElem? (i := 179) (by decide +kernel))) rfl
theorem ml4_155 : Cond.methodLink mN4 155 m4_addToken.1 ∈ mTb := mTb_in (tin_3 (List.mem_of_getElem? (i := 188) (by decide +kernel))) rfl
theorem ml4_159 : Cond.methodLink mN4 159 m4_isDigit.1 ∈ mTb := mTb_in (tin_3 (List.mem_of_getElem? (i := 192) (by decide +kernel))) rfl
theorem ml4_162 : Cond.methodLink mN4 162 m4_endOfDigits.1 ∈ mTb := mTb_in (tin_3 (List.mem_of_getElem? (i := 195) (by decide +kernel))) rfl
theorem ml4_165 : Cond.methodLink mN4 165 m4_valueOf.1 ∈ mTb := mTb_in (tin_3 (List.mem_of_getElem? (i := 199) (by decide +kernel))) rfl
theorem ml4_170 : Cond.methodLink mN4 170 mJ0_indexOf0.1 ∈ mTb := mTb_in (tin_3 (List.mem_of_getElem? (i := 204) (by decide +kernel))) rfl
theorem mlJ0_633 : Cond.methodLink "java/lang/String" 633 mJ0_indexOf1.1 ∈ mTb := mTb_in (tin_3 (List.mem_of_getElem? (i := 208) (by decide +kernel))) rfl
theorem mlJ0_505 : Cond.methodLink "java/lang/String" 505 mJ0_length.1 ∈ mTb := mTb_in (tin_3 (List.mem_of_getElem? (i := 212) (by decide +kernel))) rfl
theorem mlJ0_637 : Cond.methodLink "java/lang/String" 637 mJ1_indexOf.1 ∈ mTb := mTb_in (tin_3 (List.mem_of_getElem? (i := 213) (by decide +kernel))) rfl
theorem mlJ1_88 : Cond.methodLink "java/lang/StringLatin1" 88 mJ1_canEncode.1 ∈ mTb := mTb_in (tin_3 (List.mem_of_getElem? (i := 216) (by decide +kernel))) rfl
theorem mlJ1_92 : Cond.methodLink "java/lang/StringLatin1" 92 mJ9_max.1 ∈ mTb := mTb_in (tin_3 (List.mem_of_getElem? (i := 219) (by decide +kernel))) rfl
theorem mlJ1_38 : Cond.methodLink "java/lang/StringLatin1" 38 mJ9_min.1 ∈ mTb := mTb_in (tin_3 (List.mem_of_getElem? (i := 220) (by decide +kernel))) rfl
theorem mlJ1_95 : Cond.methodLink "java/lang/StringLatin1" 95 mJ1_indexOfChar.1 ∈ mTb := mTb_in (tin_3 (List.mem_of_getElem? (i := 221) (by decide +kernel))) rfl
theorem mlJ0_640 : Cond.methodLink "java/lang/String" 640 mJ2_indexOf.1 ∈ mTb := mTb_in (tin_3 (List.mem_of_getElem? (i := 224) (by decide +kernel))) rfl
theorem mlJ2_224 : Cond.methodLink "java/lang/StringUTF16" 224 mJ9_max.1 ∈ mTb := mTb_in (tin_3 (List.mem_of_getElem? (i := 227) (by decide +kernel))) rfl
theorem mlJ2_183 : Cond.methodLink "java/lang/StringUTF16" 183 mJ9_min.1 ∈ mTb := mTb_in (tin_3 (List.mem_of_getElem? (i := 228) (by decide +kernel))) rfl
theorem mlJ2_228 : Cond.methodLink "java/lang/StringUTF16" 228 mJ2_indexOfChar.1 ∈ mTb := mTb_in (tin_3 (List.mem_of_getElem? (i := 230) (by decide +kernel))) rfl
theorem mlJ2_96 : Cond.methodLink "java/lang/StringUTF16" 96 mJ2_checkBoundsBeginEnd.1 ∈ mTb := mTb_in (tin_3 (List.mem_of_getElem? (i := 233) (by decide +kernel))) rfl
theorem mlJ2_241 : Cond.methodLink "java/lang/StringUTF16" 241 mJ0_checkBoundsBeginEnd.1 ∈ mTb := mTb_in (tin_3 (List.mem_of_getElem? (i := 236) (by decide +kernel))) rfl
theorem mlJ0_1062 : Cond.methodLink "java/lang/String" 1062 mJ3_checkFromToIndex.1 ∈ mTb := mTb_in (tin_3 (List.mem_of_getElem? (i := 239) (by decide +kernel))) rfl
theorem mlJ2_244 : Cond.methodLink "java/lang/StringUTF16" 244 mJ2_indexOfCharUnsafe.1 ∈ mTb := mTb_in (tin_4 (List.mem_of_getElem? (i := 2) (by decide +kernel))) rfl
theorem mlJ2_232 : Cond.methodLink "java/lang/StringUTF16" 232 mJ2_indexOfSupplementary.1 ∈ mTb := mTb_in (tin_4 (List.mem_of_getElem? (i := 5) (by decide +kernel))) rfl
theorem mlJ2_164 : Cond.methodLink "java/lang/StringUTF16" 164 mJ11_isValidCodePoint.1 ∈ mTb := mTb_in (tin_4 (List.mem_of_getElem? (i := 8) (by decide +kernel))) rfl
theorem mlJ2_157 : Cond.methodLink "java/lang/StringUTF16" 157 mJ11_highSurrogate.1 ∈ mTb := mTb_in (tin_4 (List.mem_of_getElem? (i := 11) (by decide +kernel))) rfl
theorem mlJ2_161 : Cond.methodLink "java/lang/StringUTF16" 161 mJ11_lowSurrogate.1 ∈ mTb := mTb_in (tin_4 (List.mem_of_getElem? (i := 15) (by decide +kernel))) rfl
theorem ml4_175 : Cond.methodLink mN4 175 mJ9_max.1 ∈ mTb := mTb_in (tin_4 (List.mem_of_getElem? (i := 19) (by decide +kernel))) rfl
theorem ml4_68 : Cond.methodLink mN4 68 m4_kind.1 ∈ mTb := mTb_in (tin_4 (List.mem_of_getElem? (i := 20) (by decide +kernel))) rfl
theorem ml4_75 : Cond.methodLink mN4 75 m4_mayBegin.1 ∈ mTb := mTb_in (tin_4 (List.mem_of_getElem? (i := 24) (by decide +kernel))) rfl
theorem ml4_92 : Cond.methodLink mN4 92 m4_blame.1 ∈ mTb := mTb_in (tin_4 (List.mem_of_getElem? (i := 28) (by decide +kernel))) rfl
theorem ml4_79 : Cond.methodLink mN4 79 m4_lawLine.1 ∈ mTb := mTb_in (tin_4 (List.mem_of_getElem? (i := 32) (by decide +kernel))) rfl
theorem ml4_95 : Cond.methodLink mN4 95 m6_write.1 ∈ mTb := mTb_in (tin_4 (List.mem_of_getElem? (i := 36) (by decide +kernel))) rfl
theorem ml4_99 : Cond.methodLink mN4 99 m4_step.1 ∈ mTb := mTb_in (tin_4 (List.mem_of_getElem? (i := 40) (by decide +kernel))) rfl
theorem ml4_105 : Cond.methodLink mN4 105 m4_expression.1 ∈ mTb := mTb_in (tin_4 (List.mem_of_getElem? (i := 44) (by decide +kernel))) rfl
theorem ml4_125 : Cond.methodLink mN4 125 m4_unit.1 ∈ mTb := mTb_in (tin_4 (List.mem_of_getElem? (i := 48) (by decide +kernel))) rfl
theorem ml4_119 : Cond.methodLink mN4 119 m6_emit.1 ∈ mTb := mTb_in (tin_4 (List.mem_of_getElem? (i := 52) (by decide +kernel))) rfl
theorem ml4_128 : Cond.methodLink mN4 128 m4_isReckoning.1 ∈ mTb := mTb_in (tin_4 (List.mem_of_getElem? (i := 56) (by decide +kernel))) rfl
theorem ml4_131 : Cond.methodLink mN4 131 m4_part.1 ∈ mTb := mTb_in (tin_4 (List.mem_of_getElem? (i := 59) (by decide +kernel))) rfl
theorem ml4_108 : Cond.methodLink mN4 108 m4_condition.1 ∈ mTb := mTb_in (tin_4 (List.mem_of_getElem? (i := 63) (by decide +kernel))) rfl
theorem ml4_114 : Cond.methodLink mN4 114 m4_single.1 ∈ mTb := mTb_in (tin_4 (List.mem_of_getElem? (i := 67) (by decide +kernel))) rfl
theorem ml4_122 : Cond.methodLink mN4 122 m4_enclosed.1 ∈ mTb := mTb_in (tin_4 (List.mem_of_getElem? (i := 71) (by decide +kernel))) rfl
theorem ml4_111 : Cond.methodLink mN4 111 m4_pass.1 ∈ mTb := mTb_in (tin_4 (List.mem_of_getElem? (i := 75) (by decide +kernel))) rfl
theorem ml4_83 : Cond.methodLink mN4 83 m4_programmeLine.1 ∈ mTb := mTb_in (tin_4 (List.mem_of_getElem? (i := 79) (by decide +kernel))) rfl
theorem ml4_134 : Cond.methodLink mN4 134 m4_number.1 ∈ mTb := mTb_in (tin_4 (List.mem_of_getElem? (i := 83) (by decide +kernel))) rfl
theorem ml4_138 : Cond.methodLink mN4 138 m4_row.1 ∈ mTb := mTb_in (tin_4 (List.mem_of_getElem? (i := 87) (by decide +kernel))) rfl
theorem ml4_86 : Cond.methodLink mN4 86 m4_careLine.1 ∈ mTb := mTb_in (tin_4 (List.mem_of_getElem? (i := 91) (by decide +kernel))) rfl
theorem ml4_89 : Cond.methodLink mN4 89 m4_likenessLine.1 ∈ mTb := mTb_in (tin_4 (List.mem_of_getElem? (i := 95) (by decide +kernel))) rfl
theorem ml4_141 : Cond.methodLink mN4 141 m6_cell.1 ∈ mTb := mTb_in (tin_4 (List.mem_of_getElem? (i := 99) (by decide +kernel))) rfl
theorem ml9_140 : Cond.methodLink mN9 140 m8_script.1 ∈ mTb := mTb_in (tin_4 (List.mem_of_getElem? (i := 100) (by decide +kernel))) rfl
theorem ml9_148 : Cond.methodLink mN9 148 m6_copyFrom.1 ∈ mTb := mTb_in (tin_4 (List.mem_of_getElem? (i := 104) (by decide +kernel))) rfl
theorem ml6_37 : Cond.methodLink mN6 37 mJ9_min.1 ∈ mTb := mTb_in (tin_4 (List.mem_of_getElem? (i := 109) (by decide +kernel))) rfl
theorem mlL_60 : Cond.methodLink "WeepingPianoLaw" 60 m9_fault.1 ∈ mTb := mTb_in (tin_4 (List.mem_of_getElem? (i := 111) (by decide +kernel))) rfl
theorem mlL_64 : Cond.methodLink "WeepingPianoLaw" 64 m9_of.1 ∈ mTb := mTb_in (tin_4 (List.mem_of_getElem? (i := 115) (by decide +kernel))) rfl
theorem ml9_160 : Cond.methodLink mN9 160 m0_hasPiece.1 ∈ mTb := mTb_in (tin_4 (List.mem_of_getElem? (i := 119) (by decide +kernel))) rfl
theorem ml9_163 : Cond.methodLink mN9 163 m0_hasPlayer.1 ∈ mTb := mTb_in (tin_4 (List.mem_of_getElem? (i := 120) (by decide +kernel))) rfl
theorem ml9_166 : Cond.methodLink mN9 166 m5_askNow.1 ∈ mTb := mTb_in (tin_4 (List.mem_of_getElem? (i := 121) (by decide +kernel))) rfl
theorem ml5_191 : Cond.methodLink mN5 191 m5_wake.1 ∈ mTb := mTb_in (tin_4 (List.mem_of_getElem? (i := 125) (by decide +kernel))) rfl
theorem ml9_185 : Cond.methodLink mN9 185 m8_likeOf.1 ∈ mTb := mTb_in (tin_4 (List.mem_of_getElem? (i := 126) (by decide +kernel))) rfl
theorem ml8_101 : Cond.methodLink mN8 101 m6_cell.1 ∈ mTb := mTb_in (tin_4 (List.mem_of_getElem? (i := 130) (by decide +kernel))) rfl
theorem mlL_68 : Cond.methodLink "WeepingPianoLaw" 68 m9_who.1 ∈ mTb := mTb_in (tin_4 (List.mem_of_getElem? (i := 131) (by decide +kernel))) rfl
theorem mlL_72 : Cond.methodLink "WeepingPianoLaw" 72 m9_string.1 ∈ mTb := mTb_in (tin_4 (List.mem_of_getElem? (i := 135) (by decide +kernel))) rfl
theorem mlL_76 : Cond.methodLink "WeepingPianoLaw" 76 m9_damps.1 ∈ mTb := mTb_in (tin_4 (List.mem_of_getElem? (i := 139) (by decide +kernel))) rfl
theorem mlL_80 : Cond.methodLink "WeepingPianoLaw" 80 m9_settles.1 ∈ mTb := mTb_in (tin_4 (List.mem_of_getElem? (i := 143) (by decide +kernel))) rfl
theorem mlL_84 : Cond.methodLink "WeepingPianoLaw" 84 m9_book.1 ∈ mTb := mTb_in (tin_4 (List.mem_of_getElem? (i := 147) (by decide +kernel))) rfl
theorem mlL_88 : Cond.methodLink "WeepingPianoLaw" 88 m9_goes.1 ∈ mTb := mTb_in (tin_4 (List.mem_of_getElem? (i := 151) (by decide +kernel))) rfl
theorem ml9_213 : Cond.methodLink mN9 213 m5_fallAsleep.1 ∈ mTb := mTb_in (tin_4 (List.mem_of_getElem? (i := 155) (by decide +kernel))) rfl
theorem ml5_50 : Cond.methodLink mN5 50 m7_copyFrom.1 ∈ mTb := mTb_in (tin_4 (List.mem_of_getElem? (i := 159) (by decide +kernel))) rfl
theorem ml9_220 : Cond.methodLink mN9 220 m7_flatOfAll.1 ∈ mTb := mTb_in (tin_4 (List.mem_of_getElem? (i := 160) (by decide +kernel))) rfl
theorem mlL_92 : Cond.methodLink "WeepingPianoLaw" 92 m9_lasts.1 ∈ mTb := mTb_in (tin_4 (List.mem_of_getElem? (i := 164) (by decide +kernel))) rfl
theorem ml9_226 : Cond.methodLink mN9 226 mJ6_bitCount.1 ∈ mTb := mTb_in (tin_4 (List.mem_of_getElem? (i := 168) (by decide +kernel))) rfl
theorem ml9_231 : Cond.methodLink mN9 231 m0_allPieces.1 ∈ mTb := mTb_in (tin_4 (List.mem_of_getElem? (i := 174) (by decide +kernel))) rfl
theorem ml9_234 : Cond.methodLink mN9 234 m5_shortestOf.1 ∈ mTb := mTb_in (tin_4 (List.mem_of_getElem? (i := 178) (by decide +kernel))) rfl
theorem ml5_213 : Cond.methodLink mN5 213 m5_fallAsleep.1 ∈ mTb := mTb_in (tin_4 (List.mem_of_getElem? (i := 182) (by decide +kernel))) rfl
theorem ml5_217 : Cond.methodLink mN5 217 m5_tryOrders.1 ∈ mTb := mTb_in (tin_4 (List.mem_of_getElem? (i := 183) (by decide +kernel))) rfl
theorem mlL_96 : Cond.methodLink "WeepingPianoLaw" 96 m9_chords.1 ∈ mTb := mTb_in (tin_4 (List.mem_of_getElem? (i := 188) (by decide +kernel))) rfl
theorem ml9_240 : Cond.methodLink mN9 240 m2_isChord.1 ∈ mTb := mTb_in (tin_4 (List.mem_of_getElem? (i := 192) (by decide +kernel))) rfl
theorem ml9_243 : Cond.methodLink mN9 243 m2_movedTo.1 ∈ mTb := mTb_in (tin_4 (List.mem_of_getElem? (i := 195) (by decide +kernel))) rfl
theorem ml2_15 : Cond.methodLink mN2 15 m2_movedBy.1 ∈ mTb := mTb_in (tin_4 (List.mem_of_getElem? (i := 198) (by decide +kernel))) rfl
theorem ml9_246 : Cond.methodLink mN9 246 m2_turnedOver.1 ∈ mTb := mTb_in (tin_4 (List.mem_of_getElem? (i := 201) (by decide +kernel))) rfl
theorem ml9_249 : Cond.methodLink mN9 249 m2_bestHold.1 ∈ mTb := mTb_in (tin_4 (List.mem_of_getElem? (i := 204) (by decide +kernel))) rfl
theorem ml2_25 : Cond.methodLink mN2 25 m2_heldBy.1 ∈ mTb := mTb_in (tin_4 (List.mem_of_getElem? (i := 207) (by decide +kernel))) rfl
theorem ml2_19 : Cond.methodLink mN2 19 mJ6_bitCount.1 ∈ mTb := mTb_in (tin_4 (List.mem_of_getElem? (i := 210) (by decide +kernel))) rfl
theorem ml9_252 : Cond.methodLink mN9 252 m2_heldBy.1 ∈ mTb := mTb_in (tin_4 (List.mem_of_getElem? (i := 211) (by decide +kernel))) rfl
theorem ml9_255 : Cond.methodLink mN9 255 m2_spanOf.1 ∈ mTb := mTb_in (tin_4 (List.mem_of_getElem? (i := 212) (by decide +kernel))) rfl
theorem ml2_28 : Cond.methodLink mN2 28 m2_highestOf.1 ∈ mTb := mTb_in (tin_4 (List.mem_of_getElem? (i := 215) (by decide +kernel))) rfl
theorem ml2_31 : Cond.methodLink mN2 31 mJ9_min.1 ∈ mTb := mTb_in (tin_4 (List.mem_of_getElem? (i := 218) (by decide +kernel))) rfl
theorem mlL_100 : Cond.methodLink "WeepingPianoLaw" 100 m9_tone.1 ∈ mTb := mTb_in (tin_4 (List.mem_of_getElem? (i := 219) (by decide +kernel))) rfl
theorem ml9_258 : Cond.methodLink mN9 258 m1_addTone.1 ∈ mTb := mTb_in (tin_4 (List.mem_of_getElem? (i := 223) (by decide +kernel))) rfl
theorem mlL_104 : Cond.methodLink "WeepingPianoLaw" 104 m9_tune.1 ∈ mTb := mTb_in (tin_4 (List.mem_of_getElem? (i := 227) (by decide +kernel))) rfl
theorem ml9_261 : Cond.methodLink mN9 261 m1_twiceLength.1 ∈ mTb := mTb_in (tin_4 (List.mem_of_getElem? (i := 231) (by decide +kernel))) rfl
theorem ml1_43 : Cond.methodLink mN1 43 m1_goAlike.1 ∈ mTb := mTb_in (tin_4 (List.mem_of_getElem? (i := 235) (by decide +kernel))) rfl
theorem ml1_47 : Cond.methodLink mN1 47 mJ9_max.1 ∈ mTb := mTb_in (tin_4 (List.mem_of_getElem? (i := 239) (by decide +kernel))) rfl
theorem ml9_264 : Cond.methodLink mN9 264 m1_twicePlace.1 ∈ mTb := mTb_in (tin_5 (List.mem_of_getElem? (i := 0) (by decide +kernel))) rfl
theorem ml9_267 : Cond.methodLink mN9 267 m1_longestRise.1 ∈ mTb := mTb_in (tin_5 (List.mem_of_getElem? (i := 4) (by decide +kernel))) rfl
theorem ml9_270 : Cond.methodLink mN9 270 m1_fingersCost.1 ∈ mTb := mTb_in (tin_5 (List.mem_of_getElem? (i := 8) (by decide +kernel))) rfl
theorem ml1_67 : Cond.methodLink mN1 67 m1_reckonFingers.1 ∈ mTb := mTb_in (tin_5 (List.mem_of_getElem? (i := 12) (by decide +kernel))) rfl
theorem ml1_64 : Cond.methodLink mN1 64 m1_costFrom.1 ∈ mTb := mTb_in (tin_5 (List.mem_of_getElem? (i := 16) (by decide +kernel))) rfl
theorem ml1_57 : Cond.methodLink mN1 57 m1_stepCost.1 ∈ mTb := mTb_in (tin_5 (List.mem_of_getElem? (i := 21) (by decide +kernel))) rfl
theorem ml1_52 : Cond.methodLink mN1 52 mJ9_abs.1 ∈ mTb := mTb_in (tin_5 (List.mem_of_getElem? (i := 25) (by decide +kernel))) rfl
theorem ml1_61 : Cond.methodLink mN1 61 mJ9_min.1 ∈ mTb := mTb_in (tin_5 (List.mem_of_getElem? (i := 28) (by decide +kernel))) rfl
theorem ml1_70 : Cond.methodLink mN1 70 m1_cheapestFirst.1 ∈ mTb := mTb_in (tin_5 (List.mem_of_getElem? (i := 29) (by decide +kernel))) rfl
theorem ml9_276 : Cond.methodLink mN9 276 m1_fingerOf.1 ∈ mTb := mTb_in (tin_5 (List.mem_of_getElem? (i := 33) (by decide +kernel))) rfl
theorem mlL_108 : Cond.methodLink "WeepingPianoLaw" 108 m9_canon.1 ∈ mTb := mTb_in (tin_5 (List.mem_of_getElem? (i := 37) (by decide +kernel))) rfl
theorem ml9_279 : Cond.methodLink mN9 279 mJ9_max.1 ∈ mTb := mTb_in (tin_5 (List.mem_of_getElem? (i := 41) (by decide +kernel))) rfl
theorem ml9_284 : Cond.methodLink mN9 284 m1_sweetPlaces.1 ∈ mTb := mTb_in (tin_5 (List.mem_of_getElem? (i := 42) (by decide +kernel))) rfl
theorem mlL_112 : Cond.methodLink "WeepingPianoLaw" 112 m9_bar.1 ∈ mTb := mTb_in (tin_5 (List.mem_of_getElem? (i := 46) (by decide +kernel))) rfl
theorem ml9_287 : Cond.methodLink mN9 287 m2_fillings.1 ∈ mTb := mTb_in (tin_5 (List.mem_of_getElem? (i := 50) (by decide +kernel))) rfl
theorem ml2_37 : Cond.methodLink mN2 37 mJ9_floorMod.1 ∈ mTb := mTb_in (tin_5 (List.mem_of_getElem? (i := 55) (by decide +kernel))) rfl
theorem mlL_116 : Cond.methodLink "WeepingPianoLaw" 116 m9_period.1 ∈ mTb := mTb_in (tin_5 (List.mem_of_getElem? (i := 59) (by decide +kernel))) rfl
theorem mlL_120 : Cond.methodLink "WeepingPianoLaw" 120 m9_beats.1 ∈ mTb := mTb_in (tin_5 (List.mem_of_getElem? (i := 63) (by decide +kernel))) rfl
theorem ml9_290 : Cond.methodLink mN9 290 m1_allBeats.1 ∈ mTb := mTb_in (tin_5 (List.mem_of_getElem? (i := 67) (by decide +kernel))) rfl
theorem ml1_74 : Cond.methodLink mN1 74 m1_commonMultiple.1 ∈ mTb := mTb_in (tin_5 (List.mem_of_getElem? (i := 71) (by decide +kernel))) rfl
theorem ml9_293 : Cond.methodLink mN9 293 m1_commonMultiple.1 ∈ mTb := mTb_in (tin_5 (List.mem_of_getElem? (i := 75) (by decide +kernel))) rfl
theorem mlL_124 : Cond.methodLink "WeepingPianoLaw" 124 m9_pedal.1 ∈ mTb := mTb_in (tin_5 (List.mem_of_getElem? (i := 76) (by decide +kernel))) rfl
theorem ml9_297 : Cond.methodLink mN9 297 m1_addHeld.1 ∈ mTb := mTb_in (tin_5 (List.mem_of_getElem? (i := 80) (by decide +kernel))) rfl
theorem mlL_128 : Cond.methodLink "WeepingPianoLaw" 128 m9_mud.1 ∈ mTb := mTb_in (tin_5 (List.mem_of_getElem? (i := 84) (by decide +kernel))) rfl
theorem ml9_300 : Cond.methodLink mN9 300 m1_muddiest.1 ∈ mTb := mTb_in (tin_5 (List.mem_of_getElem? (i := 88) (by decide +kernel))) rfl
theorem ml1_80 : Cond.methodLink mN1 80 m1_soundingAt.1 ∈ mTb := mTb_in (tin_5 (List.mem_of_getElem? (i := 92) (by decide +kernel))) rfl
theorem ml9_303 : Cond.methodLink mN9 303 m1_soundingAt.1 ∈ mTb := mTb_in (tin_5 (List.mem_of_getElem? (i := 96) (by decide +kernel))) rfl
theorem ml9_306 : Cond.methodLink mN9 306 m1_clashes.1 ∈ mTb := mTb_in (tin_5 (List.mem_of_getElem? (i := 97) (by decide +kernel))) rfl
theorem mlL_132 : Cond.methodLink "WeepingPianoLaw" 132 m9_whose.1 ∈ mTb := mTb_in (tin_5 (List.mem_of_getElem? (i := 101) (by decide +kernel))) rfl
theorem ml9_309 : Cond.methodLink mN9 309 m8_setsThatWept.1 ∈ mTb := mTb_in (tin_5 (List.mem_of_getElem? (i := 105) (by decide +kernel))) rfl
theorem ml8_81 : Cond.methodLink mN8 81 m0_allPieces.1 ∈ mTb := mTb_in (tin_5 (List.mem_of_getElem? (i := 110) (by decide +kernel))) rfl
theorem ml8_85 : Cond.methodLink mN8 85 mJ6_bitCount.1 ∈ mTb := mTb_in (tin_5 (List.mem_of_getElem? (i := 111) (by decide +kernel))) rfl
theorem ml8_91 : Cond.methodLink mN8 91 mJ9_min.1 ∈ mTb := mTb_in (tin_5 (List.mem_of_getElem? (i := 112) (by decide +kernel))) rfl
theorem mlL_136 : Cond.methodLink "WeepingPianoLaw" 136 m9_have.1 ∈ mTb := mTb_in (tin_5 (List.mem_of_getElem? (i := 113) (by decide +kernel))) rfl
theorem ml9_312 : Cond.methodLink mN9 312 m0_mostHad.1 ∈ mTb := mTb_in (tin_5 (List.mem_of_getElem? (i := 117) (by decide +kernel))) rfl
theorem ml0_53 : Cond.methodLink mN0 53 m0_giveRoom.1 ∈ mTb := mTb_in (tin_5 (List.mem_of_getElem? (i := 121) (by decide +kernel))) rfl
theorem ml0_57 : Cond.methodLink mN0 57 m0_mostHadFrom.1 ∈ mTb := mTb_in (tin_5 (List.mem_of_getElem? (i := 125) (by decide +kernel))) rfl
theorem ml0_61 : Cond.methodLink mN0 61 mJ9_min.1 ∈ mTb := mTb_in (tin_5 (List.mem_of_getElem? (i := 129) (by decide +kernel))) rfl
theorem ml9_315 : Cond.methodLink mN9 315 m0_holderOf.1 ∈ mTb := mTb_in (tin_5 (List.mem_of_getElem? (i := 130) (by decide +kernel))) rfl
theorem ml0_67 : Cond.methodLink mN0 67 m0_firstHolder.1 ∈ mTb := mTb_in (tin_5 (List.mem_of_getElem? (i := 134) (by decide +kernel))) rfl
theorem mlL_140 : Cond.methodLink "WeepingPianoLaw" 140 m9_alike.1 ∈ mTb := mTb_in (tin_5 (List.mem_of_getElem? (i := 138) (by decide +kernel))) rfl
theorem ml9_318 : Cond.methodLink mN9 318 m8_groups.1 ∈ mTb := mTb_in (tin_5 (List.mem_of_getElem? (i := 142) (by decide +kernel))) rfl
theorem ml8_107 : Cond.methodLink mN8 107 m8_groupOf.1 ∈ mTb := mTb_in (tin_5 (List.mem_of_getElem? (i := 146) (by decide +kernel))) rfl
theorem ml9_321 : Cond.methodLink mN9 321 m8_groupOf.1 ∈ mTb := mTb_in (tin_5 (List.mem_of_getElem? (i := 150) (by decide +kernel))) rfl
theorem mlL_144 : Cond.methodLink "WeepingPianoLaw" 144 m9_pages.1 ∈ mTb := mTb_in (tin_5 (List.mem_of_getElem? (i := 151) (by decide +kernel))) rfl
theorem ml9_324 : Cond.methodLink mN9 324 m2_pagesTurnedBy.1 ∈ mTb := mTb_in (tin_5 (List.mem_of_getElem? (i := 155) (by decide +kernel))) rfl
theorem mlL_149 : Cond.methodLink "WeepingPianoLaw" 149 m9_game.1 ∈ mTb := mTb_in (tin_5 (List.mem_of_getElem? (i := 158) (by decide +kernel))) rfl
theorem ml9_327 : Cond.methodLink mN9 327 m7_goodString.1 ∈ mTb := mTb_in (tin_5 (List.mem_of_getElem? (i := 162) (by decide +kernel))) rfl
theorem ml7_66 : Cond.methodLink mN7 66 m7_worthOfAll.1 ∈ mTb := mTb_in (tin_5 (List.mem_of_getElem? (i := 166) (by decide +kernel))) rfl
theorem ml7_70 : Cond.methodLink mN7 70 m7_goodTake.1 ∈ mTb := mTb_in (tin_5 (List.mem_of_getElem? (i := 170) (by decide +kernel))) rfl
theorem ml9_330 : Cond.methodLink mN9 330 m7_goodTake.1 ∈ mTb := mTb_in (tin_5 (List.mem_of_getElem? (i := 174) (by decide +kernel))) rfl
theorem mlL_153 : Cond.methodLink "WeepingPianoLaw" 153 m9_undo.1 ∈ mTb := mTb_in (tin_5 (List.mem_of_getElem? (i := 175) (by decide +kernel))) rfl
theorem ml9_333 : Cond.methodLink mN9 333 m3_goBack.1 ∈ mTb := mTb_in (tin_5 (List.mem_of_getElem? (i := 179) (by decide +kernel))) rfl
theorem mlL_158 : Cond.methodLink "WeepingPianoLaw" 158 m9_image.1 ∈ mTb := mTb_in (tin_5 (List.mem_of_getElem? (i := 183) (by decide +kernel))) rfl
theorem ml9_337 : Cond.methodLink mN9 337 m8_copyFrom.1 ∈ mTb := mTb_in (tin_5 (List.mem_of_getElem? (i := 187) (by decide +kernel))) rfl
theorem ml8_54 : Cond.methodLink mN8 54 m7_copyFrom.1 ∈ mTb := mTb_in (tin_5 (List.mem_of_getElem? (i := 191) (by decide +kernel))) rfl
theorem ml8_58 : Cond.methodLink mN8 58 m0_copyFrom.1 ∈ mTb := mTb_in (tin_5 (List.mem_of_getElem? (i := 192) (by decide +kernel))) rfl
theorem ml8_61 : Cond.methodLink mN8 61 m6_copyFrom.1 ∈ mTb := mTb_in (tin_5 (List.mem_of_getElem? (i := 197) (by decide +kernel))) rfl
theorem ml8_64 : Cond.methodLink mN8 64 m1_copyFrom.1 ∈ mTb := mTb_in (tin_5 (List.mem_of_getElem? (i := 198) (by decide +kernel))) rfl
theorem mlL_163 : Cond.methodLink "WeepingPianoLaw" 163 m9_look.1 ∈ mTb := mTb_in (tin_5 (List.mem_of_getElem? (i := 204) (by decide +kernel))) rfl
theorem mlL_12 : Cond.methodLink "WeepingPianoLaw" 12 m10_init.1 ∈ mTb := mTb_in (tin_5 (List.mem_of_getElem? (i := 210) (by decide +kernel))) rfl
theorem fl10_119 : Cond.fieldLink mN10 119 (mT10 0).1 (mT10 0).2.1 (mT10 0).2.2.1 ∈ mTb := mTb_of 1318 (by decide +kernel) rfl
theorem fl10_7 : Cond.fieldLink mN10 7 (mT10 1).1 (mT10 1).2.1 (mT10 1).2.2.1 ∈ mTb := mTb_of 1319 (by decide +kernel) rfl
theorem fl10_13 : Cond.fieldLink mN10 13 (mT10 2).1 (mT10 2).2.1 (mT10 2).2.2.1 ∈ mTb := mTb_of 1320 (by decide +kernel) rfl
theorem fl10_123 : Cond.fieldLink mN10 123 (mT10 3).1 (mT10 3).2.1 (mT10 3).2.2.1 ∈ mTb := mTb_of 1321 (by decide +kernel) rfl
theorem fl10_16 : Cond.fieldLink mN10 16 (mT10 4).1 (mT10 4).2.1 (mT10 4).2.2.1 ∈ mTb := mTb_of 1322 (by decide +kernel) rfl
theorem fl10_126 : Cond.fieldLink mN10 126 (mT10 5).1 (mT10 5).2.1 (mT10 5).2.2.1 ∈ mTb := mTb_of 1323 (by decide +kernel) rfl
theorem fl10_132 : Cond.fieldLink mN10 132 (mT10 6).1 (mT10 6).2.1 (mT10 6).2.2.1 ∈ mTb := mTb_of 1324 (by decide +kernel) rfl
theorem fl10_135 : Cond.fieldLink mN10 135 (mT10 7).1 (mT10 7).2.1 (mT10 7).2.2.1 ∈ mTb := mTb_of 1325 (by decide +kernel) rfl
theorem fl10_19 : Cond.fieldLink mN10 19 (mT10 8).1 (mT10 8).2.1 (mT10 8).2.2.1 ∈ mTb := mTb_of 1326 (by decide +kernel) rfl
theorem fl10_22 : Cond.fieldLink mN10 22 (mT10 9).1 (mT10 9).2.1 (mT10 9).2.2.1 ∈ mTb := mTb_of 1327 (by decide +kernel) rfl
theorem fl10_25 : Cond.fieldLink mN10 25 (mT10 10).1 (mT10 10).2.1 (mT10 10).2.2.1 ∈ mTb := mTb_of 1328 (by decide +kernel) rfl
theorem fl10_28 : Cond.fieldLink mN10 28 (mT10 11).1 (mT10 11).2.1 (mT10 11).2.2.1 ∈ mTb := mTb_of 1329 (by decide +kernel) rfl
theorem fl10_31 : Cond.fieldLink mN10 31 (mT10 12).1 (mT10 12).2.1 (mT10 12).2.2.1 ∈ mTb := mTb_of 1330 (by decide +kernel) rfl
theorem fl10_34 : Cond.fieldLink mN10 34 (mT10 13).1 (mT10 13).2.1 (mT10 13).2.2.1 ∈ mTb := mTb_of 1331 (by decide +kernel) rfl
theorem fl10_37 : Cond.fieldLink mN10 37 (mT10 14).1 (mT10 14).2.1 (mT10 14).2.2.1 ∈ mTb := mTb_of 1332 (by decide +kernel) rfl
theorem fl10_155 : Cond.fieldLink mN10 155 (mT10 15).1 (mT10 15).2.1 (mT10 15).2.2.1 ∈ mTb := mTb_of 1333 (by decide +kernel) rfl
theorem fl10_162 : Cond.fieldLink mN10 162 (mT10 16).1 (mT10 16).2.1 (mT10 16).2.2.1 ∈ mTb := mTb_of 1334 (by decide +kernel) rfl
theorem fl10_169 : Cond.fieldLink mN10 169 (mT10 17).1 (mT10 17).2.1 (mT10 17).2.2.1 ∈ mTb := mTb_of 1335 (by decide +kernel) rfl
theorem fl10_172 : Cond.fieldLink mN10 172 (mT10 18).1 (mT10 18).2.1 (mT10 18).2.2.1 ∈ mTb := mTb_of 1336 (by decide +kernel) rfl
theorem fl10_175 : Cond.fieldLink mN10 175 (mT10 19).1 (mT10 19).2.1 (mT10 19).2.2.1 ∈ mTb := mTb_of 1337 (by decide +kernel) rfl
theorem fl10_40 : Cond.fieldLink mN10 40 (mT10 20).1 (mT10 20).2.1 (mT10 20).2.2.1 ∈ mTb := mTb_of 1338 (by decide +kernel) rfl
theorem fl10_43 : Cond.fieldLink mN10 43 (mT10 21).1 (mT10 21).2.1 (mT10 21).2.2.1 ∈ mTb := mTb_of 1339 (by decide +kernel) rfl
theorem fl10_46 : Cond.fieldLink mN10 46 (mT10 22).1 (mT10 22).2.1 (mT10 22).2.2.1 ∈ mTb := mTb_of 1340 (by decide +kernel) rfl
theorem fl10_49 : Cond.fieldLink mN10 49 (mT10 23).1 (mT10 23).2.1 (mT10 23).2.2.1 ∈ mTb := mTb_of 1341 (by decide +kernel) rfl
theorem fl10_52 : Cond.fieldLink mN10 52 (mT10 24).1 (mT10 24).2.1 (mT10 24).2.2.1 ∈ mTb := mTb_of 1342 (by decide +kernel) rfl
theorem fl10_55 : Cond.fieldLink mN10 55 (mT10 25).1 (mT10 25).2.1 (mT10 25).2.2.1 ∈ mTb := mTb_of 1343 (by decide +kernel) rfl
theorem fl10_58 : Cond.fieldLink mN10 58 (mT10 26).1 (mT10 26).2.1 (mT10 26).2.2.1 ∈ mTb := mTb_of 1344 (by decide +kernel) rfl
theorem fl10_61 : Cond.fieldLink mN10 61 (mT10 27).1 (mT10 27).2.1 (mT10 27).2.2.1 ∈ mTb := mTb_of 1345 (by decide +kernel) rfl
theorem fl10_251 : Cond.fieldLink mN10 251 (mT10 28).1 (mT10 28).2.1 (mT10 28).2.2.1 ∈ mTb := mTb_of 1346 (by decide +kernel) rfl
theorem fl10_197 : Cond.fieldLink mN10 197 (mT10 29).1 (mT10 29).2.1 (mT10 29).2.2.1 ∈ mTb := mTb_of 1347 (by decide +kernel) rfl
theorem fl10_229 : Cond.fieldLink mN10 229 (mT10 30).1 (mT10 30).2.1 (mT10 30).2.2.1 ∈ mTb := mTb_of 1348 (by decide +kernel) rfl
theorem fl10_64 : Cond.fieldLink mN10 64 (mT10 31).1 (mT10 31).2.1 (mT10 31).2.2.1 ∈ mTb := mTb_of 1349 (by decide +kernel) rfl
theorem fl10_226 : Cond.fieldLink mN10 226 (mT10 32).1 (mT10 32).2.1 (mT10 32).2.2.1 ∈ mTb := mTb_of 1350 (by decide +kernel) rfl
theorem fl10_191 : Cond.fieldLink mN10 191 (mT10 33).1 (mT10 33).2.1 (mT10 33).2.2.1 ∈ mTb := mTb_of 1351 (by decide +kernel) rfl
theorem fl10_194 : Cond.fieldLink mN10 194 (mT10 34).1 (mT10 34).2.1 (mT10 34).2.2.1 ∈ mTb := mTb_of 1352 (by decide +kernel) rfl
theorem fl10_303 : Cond.fieldLink mN10 303 (mT10 35).1 (mT10 35).2.1 (mT10 35).2.2.1 ∈ mTb := mTb_of 1353 (by decide +kernel) rfl
theorem fl10_67 : Cond.fieldLink mN10 67 (mT10 36).1 (mT10 36).2.1 (mT10 36).2.2.1 ∈ mTb := mTb_of 1354 (by decide +kernel) rfl
theorem fl10_297 : Cond.fieldLink mN10 297 (mT10 37).1 (mT10 37).2.1 (mT10 37).2.2.1 ∈ mTb := mTb_of 1355 (by decide +kernel) rfl
theorem fl10_71 : Cond.fieldLink mN10 71 (mT10 38).1 (mT10 38).2.1 (mT10 38).2.2.1 ∈ mTb := mTb_of 1356 (by decide +kernel) rfl
theorem fl10_300 : Cond.fieldLink mN10 300 (mT10 39).1 (mT10 39).2.1 (mT10 39).2.2.1 ∈ mTb := mTb_of 1357 (by decide +kernel) rfl
theorem fl10_74 : Cond.fieldLink mN10 74 (mT10 40).1 (mT10 40).2.1 (mT10 40).2.2.1 ∈ mTb := mTb_of 1358 (by decide +kernel) rfl
theorem fl10_294 : Cond.fieldLink mN10 294 (mT10 41).1 (mT10 41).2.1 (mT10 41).2.2.1 ∈ mTb := mTb_of 1359 (by decide +kernel) rfl
theorem fl10_77 : Cond.fieldLink mN10 77 (mT10 42).1 (mT10 42).2.1 (mT10 42).2.2.1 ∈ mTb := mTb_of 1360 (by decide +kernel) rfl
theorem fl10_80 : Cond.fieldLink mN10 80 (mT10 43).1 (mT10 43).2.1 (mT10 43).2.2.1 ∈ mTb := mTb_of 1361 (by decide +kernel) rfl
theorem fl10_83 : Cond.fieldLink mN10 83 (mT10 44).1 (mT10 44).2.1 (mT10 44).2.2.1 ∈ mTb := mTb_of 1362 (by decide +kernel) rfl
theorem fl10_405 : Cond.fieldLink mN10 405 (mT10 45).1 (mT10 45).2.1 (mT10 45).2.2.1 ∈ mTb := mTb_of 1363 (by decide +kernel) rfl
theorem fl10_86 : Cond.fieldLink mN10 86 (mT10 46).1 (mT10 46).2.1 (mT10 46).2.2.1 ∈ mTb := mTb_of 1364 (by decide +kernel) rfl
theorem fl10_89 : Cond.fieldLink mN10 89 (mT10 47).1 (mT10 47).2.1 (mT10 47).2.2.1 ∈ mTb := mTb_of 1365 (by decide +kernel) rfl
theorem fl10_436 : Cond.fieldLink mN10 436 (mT10 48).1 (mT10 48).2.1 (mT10 48).2.2.1 ∈ mTb := mTb_of 1366 (by decide +kernel) rfl
theorem fl10_92 : Cond.fieldLink mN10 92 (mT10 49).1 (mT10 49).2.1 (mT10 49).2.2.1 ∈ mTb := mTb_of 1367 (by decide +kernel) rfl
theorem fl10_95 : Cond.fieldLink mN10 95 (mT10 50).1 (mT10 50).2.1 (mT10 50).2.2.1 ∈ mTb := mTb_of 1368 (by decide +kernel) rfl
theorem fl10_98 : Cond.fieldLink mN10 98 (mT10 51).1 (mT10 51).2.1 (mT10 51).2.2.1 ∈ mTb := mTb_of 1369 (by decide +kernel) rfl
theorem fl10_101 : Cond.fieldLink mN10 101 (mT10 52).1 (mT10 52).2.1 (mT10 52).2.2.1 ∈ mTb := mTb_of 1370 (by decide +kernel) rfl
theorem fl10_479 : Cond.fieldLink mN10 479 (mT10 53).1 (mT10 53).2.1 (mT10 53).2.2.1 ∈ mTb := mTb_of 1371 (by decide +kernel) rfl
theorem fl10_104 : Cond.fieldLink mN10 104 (mT10 54).1 (mT10 54).2.1 (mT10 54).2.2.1 ∈ mTb := mTb_of 1372 (by decide +kernel) rfl
theorem fl10_107 : Cond.fieldLink mN10 107 (mT10 55).1 (mT10 55).2.1 (mT10 55).2.2.1 ∈ mTb := mTb_of 1373 (by decide +kernel) rfl
theorem fl10_110 : Cond.fieldLink mN10 110 (mT10 56).1 (mT10 56).2.1 (mT10 56).2.2.1 ∈ mTb := mTb_of 1374 (by decide +kernel) rfl
theorem fl10_113 : Cond.fieldLink mN10 113 (mT10 57).1 (mT10 57).2.1 (mT10 57).2.2.1 ∈ mTb := mTb_of 1375 (by decide +kernel) rfl
theorem fl10_503 : Cond.fieldLink mN10 503 (mT10 58).1 (mT10 58).2.1 (mT10 58).2.2.1 ∈ mTb := mTb_of 1376 (by decide +kernel) rfl
theorem fl10_509 : Cond.fieldLink mN10 509 (mT10 59).1 (mT10 59).2.1 (mT10 59).2.2.1 ∈ mTb := mTb_of 1377 (by decide +kernel) rfl
theorem fl10_500 : Cond.fieldLink mN10 500 (mT10 60).1 (mT10 60).2.1 (mT10 60).2.2.1 ∈ mTb := mTb_of 1378 (by decide +kernel) rfl
theorem fl10_116 : Cond.fieldLink mN10 116 (mT10 61).1 (mT10 61).2.1 (mT10 61).2.2.1 ∈ mTb := mTb_of 1379 (by decide +kernel) rfl
theorem mlL_157 : Cond.methodLink "WeepingPianoLaw" 157 m10_undo.1 ∈ mTb := mTb_in (tin_6 (List.mem_of_getElem? (i := 161) (by decide +kernel))) rfl
theorem mlL_17 : Cond.methodLink "WeepingPianoLaw" 17 m10_state.1 ∈ mTb := mTb_in (tin_6 (List.mem_of_getElem? (i := 165) (by decide +kernel))) rfl
theorem mlL_22 : Cond.methodLink "WeepingPianoLaw" 22 m10_piece.1 ∈ mTb := mTb_in (tin_6 (List.mem_of_getElem? (i := 169) (by decide +kernel))) rfl
theorem ml10_138 : Cond.methodLink mN10 138 m10_isIn.1 ∈ mTb := mTb_in (tin_6 (List.mem_of_getElem? (i := 173) (by decide +kernel))) rfl
theorem mlL_27 : Cond.methodLink "WeepingPianoLaw" 27 m10_player.1 ∈ mTb := mTb_in (tin_6 (List.mem_of_getElem? (i := 177) (by decide +kernel))) rfl
theorem mlL_32 : Cond.methodLink "WeepingPianoLaw" 32 m10_set.1 ∈ mTb := mTb_in (tin_6 (List.mem_of_getElem? (i := 181) (by decide +kernel))) rfl
theorem ml10_152 : Cond.methodLink mN10 152 m10_canSet.1 ∈ mTb := mTb_in (tin_6 (List.mem_of_getElem? (i := 185) (by decide +kernel))) rfl
theorem ml10_142 : Cond.methodLink mN10 142 m10_isPiece.1 ∈ mTb := mTb_in (tin_6 (List.mem_of_getElem? (i := 189) (by decide +kernel))) rfl
theorem ml10_146 : Cond.methodLink mN10 146 m10_isPlayer.1 ∈ mTb := mTb_in (tin_6 (List.mem_of_getElem? (i := 193) (by decide +kernel))) rfl
theorem ml10_149 : Cond.methodLink mN10 149 m10_isString.1 ∈ mTb := mTb_in (tin_6 (List.mem_of_getElem? (i := 197) (by decide +kernel))) rfl
theorem mlL_50 : Cond.methodLink "WeepingPianoLaw" 50 m10_feed.1 ∈ mTb := mTb_in (tin_6 (List.mem_of_getElem? (i := 201) (by decide +kernel))) rfl
theorem ml10_158 : Cond.methodLink mN10 158 m10_types.1 ∈ mTb := mTb_in (tin_6 (List.mem_of_getElem? (i := 205) (by decide +kernel))) rfl
theorem mlL_55 : Cond.methodLink "WeepingPianoLaw" 55 m10_end.1 ∈ mTb := mTb_in (tin_6 (List.mem_of_getElem? (i := 209) (by decide +kernel))) rfl
theorem mlL_59 : Cond.methodLink "WeepingPianoLaw" 59 m10_text.1 ∈ mTb := mTb_in (tin_6 (List.mem_of_getElem? (i := 213) (by decide +kernel))) rfl
theorem ml10_306 : Cond.methodLink mN10 306 m10_readsText.1 ∈ mTb := mTb_in (tin_6 (List.mem_of_getElem? (i := 217) (by decide +kernel))) rfl
theorem ml10_210 : Cond.methodLink mN10 210 m10_reads.1 ∈ mTb := mTb_in (tin_6 (List.mem_of_getElem? (i := 221) (by decide +kernel))) rfl
theorem ml10_165 : Cond.methodLink mN10 165 m10_raw.1 ∈ mTb := mTb_in (tin_6 (List.mem_of_getElem? (i := 225) (by decide +kernel))) rfl
theorem ml10_178 : Cond.methodLink mN10 178 m10_isLetter.1 ∈ mTb := mTb_in (tin_6 (List.mem_of_getElem? (i := 229) (by decide +kernel))) rfl
theorem ml10_181 : Cond.methodLink mN10 181 m10_wordAt.1 ∈ mTb := mTb_in (tin_6 (List.mem_of_getElem? (i := 233) (by decide +kernel))) rfl
theorem ml10_185 : Cond.methodLink mN10 185 m10_isDigit.1 ∈ mTb := mTb_in (tin_6 (List.mem_of_getElem? (i := 237) (by decide +kernel))) rfl
theorem ml10_188 : Cond.methodLink mN10 188 m10_isMarkSign.1 ∈ mTb := mTb_in (tin_7 (List.mem_of_getElem? (i := 1) (by decide +kernel))) rfl
theorem ml10_282 : Cond.methodLink mN10 282 m10_readProgramme.1 ∈ mTb := mTb_in (tin_7 (List.mem_of_getElem? (i := 5) (by decide +kernel))) rfl
theorem ml10_232 : Cond.methodLink mN10 232 m10_isWord.1 ∈ mTb := mTb_in (tin_7 (List.mem_of_getElem? (i := 9) (by decide +kernel))) rfl
theorem ml10_203 : Cond.methodLink mN10 203 m10_errs.1 ∈ mTb := mTb_in (tin_7 (List.mem_of_getElem? (i := 13) (by decide +kernel))) rfl
theorem ml10_267 : Cond.methodLink mN10 267 m10_readEvening.1 ∈ mTb := mTb_in (tin_7 (List.mem_of_getElem? (i := 17) (by decide +kernel))) rfl
theorem ml10_257 : Cond.methodLink mN10 257 m10_readTold.1 ∈ mTb := mTb_in (tin_7 (List.mem_of_getElem? (i := 21) (by decide +kernel))) rfl
theorem ml10_254 : Cond.methodLink mN10 254 m10_readNumber.1 ∈ mTb := mTb_in (tin_7 (List.mem_of_getElem? (i := 25) (by decide +kernel))) rfl
theorem ml10_261 : Cond.methodLink mN10 261 m10_readPieces.1 ∈ mTb := mTb_in (tin_7 (List.mem_of_getElem? (i := 29) (by decide +kernel))) rfl
theorem ml10_264 : Cond.methodLink mN10 264 m10_readMark.1 ∈ mTb := mTb_in (tin_7 (List.mem_of_getElem? (i := 33) (by decide +kernel))) rfl
theorem ml10_217 : Cond.methodLink mN10 217 m10_isSign.1 ∈ mTb := mTb_in (tin_7 (List.mem_of_getElem? (i := 37) (by decide +kernel))) rfl
theorem ml10_285 : Cond.methodLink mN10 285 m10_readCare.1 ∈ mTb := mTb_in (tin_7 (List.mem_of_getElem? (i := 41) (by decide +kernel))) rfl
theorem ml10_276 : Cond.methodLink mN10 276 m10_readDeed.1 ∈ mTb := mTb_in (tin_7 (List.mem_of_getElem? (i := 45) (by decide +kernel))) rfl
theorem ml10_270 : Cond.methodLink mN10 270 m10_kindOfDeed.1 ∈ mTb := mTb_in (tin_7 (List.mem_of_getElem? (i := 49) (by decide +kernel))) rfl
theorem ml10_273 : Cond.methodLink mN10 273 m10_readDeedMore.1 ∈ mTb := mTb_in (tin_7 (List.mem_of_getElem? (i := 53) (by decide +kernel))) rfl
theorem ml10_288 : Cond.methodLink mN10 288 m10_readLikeness.1 ∈ mTb := mTb_in (tin_7 (List.mem_of_getElem? (i := 57) (by decide +kernel))) rfl
theorem ml10_279 : Cond.methodLink mN10 279 m10_readLike.1 ∈ mTb := mTb_in (tin_7 (List.mem_of_getElem? (i := 61) (by decide +kernel))) rfl
theorem ml10_291 : Cond.methodLink mN10 291 m10_readLaw.1 ∈ mTb := mTb_in (tin_7 (List.mem_of_getElem? (i := 65) (by decide +kernel))) rfl
theorem ml10_244 : Cond.methodLink mN10 244 m10_isLineWord.1 ∈ mTb := mTb_in (tin_7 (List.mem_of_getElem? (i := 69) (by decide +kernel))) rfl
theorem ml10_223 : Cond.methodLink mN10 223 m10_readSum.1 ∈ mTb := mTb_in (tin_7 (List.mem_of_getElem? (i := 73) (by decide +kernel))) rfl
theorem ml10_220 : Cond.methodLink mN10 220 m10_readProduct.1 ∈ mTb := mTb_in (tin_7 (List.mem_of_getElem? (i := 77) (by decide +kernel))) rfl
theorem ml10_213 : Cond.methodLink mN10 213 m10_readUnit.1 ∈ mTb := mTb_in (tin_7 (List.mem_of_getElem? (i := 81) (by decide +kernel))) rfl
theorem ml10_200 : Cond.methodLink mN10 200 m10_canAsk.1 ∈ mTb := mTb_in (tin_7 (List.mem_of_getElem? (i := 85) (by decide +kernel))) rfl
theorem ml10_206 : Cond.methodLink mN10 206 m10_emits.1 ∈ mTb := mTb_in (tin_7 (List.mem_of_getElem? (i := 89) (by decide +kernel))) rfl
theorem ml10_248 : Cond.methodLink mN10 248 m10_readAny.1 ∈ mTb := mTb_in (tin_7 (List.mem_of_getElem? (i := 93) (by decide +kernel))) rfl
theorem ml10_235 : Cond.methodLink mN10 235 m10_waits0.1 ∈ mTb := mTb_in (tin_7 (List.mem_of_getElem? (i := 97) (by decide +kernel))) rfl
theorem ml10_238 : Cond.methodLink mN10 238 m10_readCompared.1 ∈ mTb := mTb_in (tin_7 (List.mem_of_getElem? (i := 101) (by decide +kernel))) rfl
theorem ml10_241 : Cond.methodLink mN10 241 m10_settles0.1 ∈ mTb := mTb_in (tin_7 (List.mem_of_getElem? (i := 105) (by decide +kernel))) rfl
theorem ml10_309 : Cond.methodLink mN10 309 m10_takesLaw.1 ∈ mTb := mTb_in (tin_7 (List.mem_of_getElem? (i := 109) (by decide +kernel))) rfl
theorem ml10_312 : Cond.methodLink mN10 312 m10_takesOther.1 ∈ mTb := mTb_in (tin_7 (List.mem_of_getElem? (i := 113) (by decide +kernel))) rfl
theorem mlL_63 : Cond.methodLink "WeepingPianoLaw" 63 m10_fault.1 ∈ mTb := mTb_in (tin_7 (List.mem_of_getElem? (i := 117) (by decide +kernel))) rfl
theorem mlL_36 : Cond.methodLink "WeepingPianoLaw" 36 m10_play.1 ∈ mTb := mTb_in (tin_7 (List.mem_of_getElem? (i := 121) (by decide +kernel))) rfl
theorem ml10_363 : Cond.methodLink mN10 363 m10_keepsAhead.1 ∈ mTb := mTb_in (tin_7 (List.mem_of_getElem? (i := 125) (by decide +kernel))) rfl
theorem ml10_366 : Cond.methodLink mN10 366 m10_plays.1 ∈ mTb := mTb_in (tin_7 (List.mem_of_getElem? (i := 129) (by decide +kernel))) rfl
theorem ml10_344 : Cond.methodLink mN10 344 m10_weepsOf.1 ∈ mTb := mTb_in (tin_7 (List.mem_of_getElem? (i := 133) (by decide +kernel))) rfl
theorem ml10_327 : Cond.methodLink mN10 327 m10_asks.1 ∈ mTb := mTb_in (tin_7 (List.mem_of_getElem? (i := 137) (by decide +kernel))) rfl
theorem ml10_331 : Cond.methodLink mN10 331 m10_lawTells.1 ∈ mTb := mTb_in (tin_7 (List.mem_of_getElem? (i := 141) (by decide +kernel))) rfl
theorem ml10_321 : Cond.methodLink mN10 321 m10_lineOf.1 ∈ mTb := mTb_in (tin_7 (List.mem_of_getElem? (i := 145) (by decide +kernel))) rfl
theorem ml10_318 : Cond.methodLink mN10 318 m10_runs.1 ∈ mTb := mTb_in (tin_7 (List.mem_of_getElem? (i := 149) (by decide +kernel))) rfl
theorem ml10_315 : Cond.methodLink mN10 315 m10_twoOf.1 ∈ mTb := mTb_in (tin_7 (List.mem_of_getElem? (i := 153) (by decide +kernel))) rfl
theorem ml10_324 : Cond.methodLink mN10 324 m10_held.1 ∈ mTb := mTb_in (tin_7 (List.mem_of_getElem? (i := 157) (by decide +kernel))) rfl
theorem ml10_341 : Cond.methodLink mN10 341 m10_lesser.1 ∈ mTb := mTb_in (tin_7 (List.mem_of_getElem? (i := 161) (by decide +kernel))) rfl
theorem ml10_347 : Cond.methodLink mN10 347 m10_goesFlat.1 ∈ mTb := mTb_in (tin_7 (List.mem_of_getElem? (i := 165) (by decide +kernel))) rfl
theorem ml10_334 : Cond.methodLink mN10 334 m10_dampsOf.1 ∈ mTb := mTb_in (tin_7 (List.mem_of_getElem? (i := 169) (by decide +kernel))) rfl
theorem ml10_338 : Cond.methodLink mN10 338 m10_draw.1 ∈ mTb := mTb_in (tin_7 (List.mem_of_getElem? (i := 173) (by decide +kernel))) rfl
theorem ml10_350 : Cond.methodLink mN10 350 m10_notes.1 ∈ mTb := mTb_in (tin_7 (List.mem_of_getElem? (i := 179) (by decide +kernel))) rfl
theorem mlL_41 : Cond.methodLink "WeepingPianoLaw" 41 m10_act.1 ∈ mTb := mTb_in (tin_7 (List.mem_of_getElem? (i := 183) (by decide +kernel))) rfl
theorem ml10_369 : Cond.methodLink mN10 369 m10_canAct.1 ∈ mTb := mTb_in (tin_7 (List.mem_of_getElem? (i := 187) (by decide +kernel))) rfl
theorem ml10_373 : Cond.methodLink mN10 373 m10_tunes.1 ∈ mTb := mTb_in (tin_7 (List.mem_of_getElem? (i := 191) (by decide +kernel))) rfl
theorem ml10_376 : Cond.methodLink mN10 376 m10_empties.1 ∈ mTb := mTb_in (tin_7 (List.mem_of_getElem? (i := 195) (by decide +kernel))) rfl
theorem ml10_379 : Cond.methodLink mN10 379 m10_isKeptIn.1 ∈ mTb := mTb_in (tin_7 (List.mem_of_getElem? (i := 199) (by decide +kernel))) rfl
theorem mlL_45 : Cond.methodLink "WeepingPianoLaw" 45 m10_days.1 ∈ mTb := mTb_in (tin_7 (List.mem_of_getElem? (i := 203) (by decide +kernel))) rfl
theorem ml10_393 : Cond.methodLink mN10 393 m10_goesBy.1 ∈ mTb := mTb_in (tin_7 (List.mem_of_getElem? (i := 207) (by decide +kernel))) rfl
theorem ml10_384 : Cond.methodLink mN10 384 m10_does.1 ∈ mTb := mTb_in (tin_7 (List.mem_of_getElem? (i := 211) (by decide +kernel))) rfl
theorem ml10_387 : Cond.methodLink mN10 387 m10_recital.1 ∈ mTb := mTb_in (tin_7 (List.mem_of_getElem? (i := 215) (by decide +kernel))) rfl
theorem ml10_382 : Cond.methodLink mN10 382 m10_waits1.1 ∈ mTb := mTb_in (tin_7 (List.mem_of_getElem? (i := 219) (by decide +kernel))) rfl
theorem ml10_354 : Cond.methodLink mN10 354 m10_dry.1 ∈ mTb := mTb_in (tin_7 (List.mem_of_getElem? (i := 223) (by decide +kernel))) rfl
theorem ml10_357 : Cond.methodLink mN10 357 m10_settlesOf.1 ∈ mTb := mTb_in (tin_7 (List.mem_of_getElem? (i := 227) (by decide +kernel))) rfl
theorem ml10_360 : Cond.methodLink mN10 360 m10_salted.1 ∈ mTb := mTb_in (tin_7 (List.mem_of_getElem? (i := 231) (by decide +kernel))) rfl
theorem ml10_390 : Cond.methodLink mN10 390 m10_greater.1 ∈ mTb := mTb_in (tin_7 (List.mem_of_getElem? (i := 235) (by decide +kernel))) rfl
theorem mlL_67 : Cond.methodLink "WeepingPianoLaw" 67 m10_of.1 ∈ mTb := mTb_in (tin_7 (List.mem_of_getElem? (i := 239) (by decide +kernel))) rfl
theorem mlL_71 : Cond.methodLink "WeepingPianoLaw" 71 m10_who.1 ∈ mTb := mTb_in (tin_8 (List.mem_of_getElem? (i := 3) (by decide +kernel))) rfl
theorem mlL_75 : Cond.methodLink "WeepingPianoLaw" 75 m10_string.1 ∈ mTb := mTb_in (tin_8 (List.mem_of_getElem? (i := 7) (by decide +kernel))) rfl
theorem mlL_79 : Cond.methodLink "WeepingPianoLaw" 79 m10_damps.1 ∈ mTb := mTb_in (tin_8 (List.mem_of_getElem? (i := 11) (by decide +kernel))) rfl
theorem mlL_83 : Cond.methodLink "WeepingPianoLaw" 83 m10_settles1.1 ∈ mTb := mTb_in (tin_8 (List.mem_of_getElem? (i := 15) (by decide +kernel))) rfl
theorem mlL_87 : Cond.methodLink "WeepingPianoLaw" 87 m10_book.1 ∈ mTb := mTb_in (tin_8 (List.mem_of_getElem? (i := 19) (by decide +kernel))) rfl
theorem mlL_91 : Cond.methodLink "WeepingPianoLaw" 91 m10_goes.1 ∈ mTb := mTb_in (tin_8 (List.mem_of_getElem? (i := 23) (by decide +kernel))) rfl
theorem ml10_396 : Cond.methodLink mN10 396 m10_thinks.1 ∈ mTb := mTb_in (tin_8 (List.mem_of_getElem? (i := 27) (by decide +kernel))) rfl
theorem ml10_399 : Cond.methodLink mN10 399 m10_flatOfAll.1 ∈ mTb := mTb_in (tin_8 (List.mem_of_getElem? (i := 31) (by decide +kernel))) rfl
theorem ml10_402 : Cond.methodLink mN10 402 m10_endsThought.1 ∈ mTb := mTb_in (tin_8 (List.mem_of_getElem? (i := 35) (by decide +kernel))) rfl
theorem mlL_95 : Cond.methodLink "WeepingPianoLaw" 95 m10_lasts.1 ∈ mTb := mTb_in (tin_8 (List.mem_of_getElem? (i := 39) (by decide +kernel))) rfl
theorem ml10_408 : Cond.methodLink mN10 408 m10_onesOf.1 ∈ mTb := mTb_in (tin_8 (List.mem_of_getElem? (i := 43) (by decide +kernel))) rfl
theorem ml10_411 : Cond.methodLink mN10 411 m10_has.1 ∈ mTb := mTb_in (tin_8 (List.mem_of_getElem? (i := 47) (by decide +kernel))) rfl
theorem ml10_415 : Cond.methodLink mN10 415 m10_minutesOf.1 ∈ mTb := mTb_in (tin_8 (List.mem_of_getElem? (i := 52) (by decide +kernel))) rfl
theorem ml10_418 : Cond.methodLink mN10 418 m10_goesToNextOrder.1 ∈ mTb := mTb_in (tin_8 (List.mem_of_getElem? (i := 56) (by decide +kernel))) rfl
theorem mlL_99 : Cond.methodLink "WeepingPianoLaw" 99 m10_chords.1 ∈ mTb := mTb_in (tin_8 (List.mem_of_getElem? (i := 60) (by decide +kernel))) rfl
theorem ml10_424 : Cond.methodLink mN10 424 m10_turnedOver.1 ∈ mTb := mTb_in (tin_8 (List.mem_of_getElem? (i := 64) (by decide +kernel))) rfl
theorem ml10_427 : Cond.methodLink mN10 427 m10_stepsUp.1 ∈ mTb := mTb_in (tin_8 (List.mem_of_getElem? (i := 68) (by decide +kernel))) rfl
theorem ml10_421 : Cond.methodLink mN10 421 m10_movedUp.1 ∈ mTb := mTb_in (tin_8 (List.mem_of_getElem? (i := 72) (by decide +kernel))) rfl
theorem ml10_430 : Cond.methodLink mN10 430 m10_mostHeld.1 ∈ mTb := mTb_in (tin_8 (List.mem_of_getElem? (i := 76) (by decide +kernel))) rfl
theorem ml10_433 : Cond.methodLink mN10 433 m10_spanOf.1 ∈ mTb := mTb_in (tin_8 (List.mem_of_getElem? (i := 80) (by decide +kernel))) rfl
theorem mlL_103 : Cond.methodLink "WeepingPianoLaw" 103 m10_tone.1 ∈ mTb := mTb_in (tin_8 (List.mem_of_getElem? (i := 84) (by decide +kernel))) rfl
theorem mlL_107 : Cond.methodLink "WeepingPianoLaw" 107 m10_tune.1 ∈ mTb := mTb_in (tin_8 (List.mem_of_getElem? (i := 88) (by decide +kernel))) rfl
theorem ml10_451 : Cond.methodLink mN10 451 m10_twice.1 ∈ mTb := mTb_in (tin_8 (List.mem_of_getElem? (i := 92) (by decide +kernel))) rfl
theorem ml10_439 : Cond.methodLink mN10 439 m10_alikeFrom.1 ∈ mTb := mTb_in (tin_8 (List.mem_of_getElem? (i := 96) (by decide +kernel))) rfl
theorem ml10_455 : Cond.methodLink mN10 455 m10_rises.1 ∈ mTb := mTb_in (tin_8 (List.mem_of_getElem? (i := 100) (by decide +kernel))) rfl
theorem ml10_458 : Cond.methodLink mN10 458 m10_findsFingers.1 ∈ mTb := mTb_in (tin_8 (List.mem_of_getElem? (i := 104) (by decide +kernel))) rfl
theorem ml10_445 : Cond.methodLink mN10 445 m10_stepCost.1 ∈ mTb := mTb_in (tin_8 (List.mem_of_getElem? (i := 108) (by decide +kernel))) rfl
theorem ml10_442 : Cond.methodLink mN10 442 m10_apart.1 ∈ mTb := mTb_in (tin_8 (List.mem_of_getElem? (i := 112) (by decide +kernel))) rfl
theorem ml10_461 : Cond.methodLink mN10 461 m10_fingerOf.1 ∈ mTb := mTb_in (tin_8 (List.mem_of_getElem? (i := 116) (by decide +kernel))) rfl
theorem ml10_448 : Cond.methodLink mN10 448 m10_firstFinger.1 ∈ mTb := mTb_in (tin_8 (List.mem_of_getElem? (i := 120) (by decide +kernel))) rfl
theorem mlL_111 : Cond.methodLink "WeepingPianoLaw" 111 m10_canon.1 ∈ mTb := mTb_in (tin_8 (List.mem_of_getElem? (i := 124) (by decide +kernel))) rfl
theorem ml10_464 : Cond.methodLink mN10 464 m10_isSweet.1 ∈ mTb := mTb_in (tin_8 (List.mem_of_getElem? (i := 128) (by decide +kernel))) rfl
theorem mlL_115 : Cond.methodLink "WeepingPianoLaw" 115 m10_bar.1 ∈ mTb := mTb_in (tin_8 (List.mem_of_getElem? (i := 132) (by decide +kernel))) rfl
theorem ml10_467 : Cond.methodLink mN10 467 m10_added.1 ∈ mTb := mTb_in (tin_8 (List.mem_of_getElem? (i := 136) (by decide +kernel))) rfl
theorem mlL_119 : Cond.methodLink "WeepingPianoLaw" 119 m10_period.1 ∈ mTb := mTb_in (tin_8 (List.mem_of_getElem? (i := 141) (by decide +kernel))) rfl
theorem mlL_123 : Cond.methodLink "WeepingPianoLaw" 123 m10_beats.1 ∈ mTb := mTb_in (tin_8 (List.mem_of_getElem? (i := 145) (by decide +kernel))) rfl
theorem ml10_473 : Cond.methodLink mN10 473 m10_allBeat.1 ∈ mTb := mTb_in (tin_8 (List.mem_of_getElem? (i := 149) (by decide +kernel))) rfl
theorem ml10_470 : Cond.methodLink mN10 470 m10_times.1 ∈ mTb := mTb_in (tin_8 (List.mem_of_getElem? (i := 153) (by decide +kernel))) rfl
theorem ml10_476 : Cond.methodLink mN10 476 m10_common.1 ∈ mTb := mTb_in (tin_8 (List.mem_of_getElem? (i := 157) (by decide +kernel))) rfl
theorem mlL_127 : Cond.methodLink "WeepingPianoLaw" 127 m10_pedal.1 ∈ mTb := mTb_in (tin_8 (List.mem_of_getElem? (i := 161) (by decide +kernel))) rfl
theorem mlL_131 : Cond.methodLink "WeepingPianoLaw" 131 m10_mud.1 ∈ mTb := mTb_in (tin_8 (List.mem_of_getElem? (i := 165) (by decide +kernel))) rfl
theorem ml10_482 : Cond.methodLink mN10 482 m10_doClash.1 ∈ mTb := mTb_in (tin_8 (List.mem_of_getElem? (i := 169) (by decide +kernel))) rfl
theorem ml10_485 : Cond.methodLink mN10 485 m10_soundsAt.1 ∈ mTb := mTb_in (tin_8 (List.mem_of_getElem? (i := 173) (by decide +kernel))) rfl
theorem mlL_135 : Cond.methodLink "WeepingPianoLaw" 135 m10_whose.1 ∈ mTb := mTb_in (tin_8 (List.mem_of_getElem? (i := 177) (by decide +kernel))) rfl
theorem mlL_139 : Cond.methodLink "WeepingPianoLaw" 139 m10_have.1 ∈ mTb := mTb_in (tin_8 (List.mem_of_getElem? (i := 181) (by decide +kernel))) rfl
theorem ml10_491 : Cond.methodLink mN10 491 m10_mostHad.1 ∈ mTb := mTb_in (tin_8 (List.mem_of_getElem? (i := 185) (by decide +kernel))) rfl
theorem ml10_488 : Cond.methodLink mN10 488 m10_roomFor.1 ∈ mTb := mTb_in (tin_8 (List.mem_of_getElem? (i := 189) (by decide +kernel))) rfl
theorem ml10_494 : Cond.methodLink mN10 494 m10_playerFor.1 ∈ mTb := mTb_in (tin_8 (List.mem_of_getElem? (i := 193) (by decide +kernel))) rfl
theorem mlL_143 : Cond.methodLink "WeepingPianoLaw" 143 m10_alike.1 ∈ mTb := mTb_in (tin_8 (List.mem_of_getElem? (i := 197) (by decide +kernel))) rfl
theorem ml10_497 : Cond.methodLink mN10 497 m10_groupOf.1 ∈ mTb := mTb_in (tin_8 (List.mem_of_getElem? (i := 201) (by decide +kernel))) rfl
theorem mlL_148 : Cond.methodLink "WeepingPianoLaw" 148 m10_pages.1 ∈ mTb := mTb_in (tin_8 (List.mem_of_getElem? (i := 205) (by decide +kernel))) rfl
theorem mlL_152 : Cond.methodLink "WeepingPianoLaw" 152 m10_game.1 ∈ mTb := mTb_in (tin_8 (List.mem_of_getElem? (i := 209) (by decide +kernel))) rfl
theorem mlL_162 : Cond.methodLink "WeepingPianoLaw" 162 m10_image.1 ∈ mTb := mTb_in (tin_8 (List.mem_of_getElem? (i := 213) (by decide +kernel))) rfl
theorem ml10_506 : Cond.methodLink mN10 506 m10_keeps.1 ∈ mTb := mTb_in (tin_8 (List.mem_of_getElem? (i := 217) (by decide +kernel))) rfl
theorem ml10_512 : Cond.methodLink mN10 512 m10_keepsMany.1 ∈ mTb := mTb_in (tin_8 (List.mem_of_getElem? (i := 221) (by decide +kernel))) rfl
theorem ml10_515 : Cond.methodLink mN10 515 m10_keepsTold.1 ∈ mTb := mTb_in (tin_8 (List.mem_of_getElem? (i := 225) (by decide +kernel))) rfl
theorem ml10_518 : Cond.methodLink mN10 518 m10_keepsLaw.1 ∈ mTb := mTb_in (tin_8 (List.mem_of_getElem? (i := 229) (by decide +kernel))) rfl
theorem mlL_166 : Cond.methodLink "WeepingPianoLaw" 166 m10_look.1 ∈ mTb := mTb_in (tin_8 (List.mem_of_getElem? (i := 233) (by decide +kernel))) rfl
