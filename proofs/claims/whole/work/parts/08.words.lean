/-! names of methods; the words of the tables by their places -/
theorem tb_1 {w : Cond} (h : w ∈ tables_1_1) : w ∈ lw_tbl := List.mem_append_right _ (List.mem_append_left _ h)
theorem tb_2 {w : Cond} (h : w ∈ tables_1_2) : w ∈ lw_tbl := List.mem_append_right _ (List.mem_append_right _ (List.mem_append_left _ h))
theorem tb_3 {w : Cond} (h : w ∈ tables_1_3) : w ∈ lw_tbl := List.mem_append_right _ (List.mem_append_right _ (List.mem_append_right _ (List.mem_append_left _ h)))
theorem tb_4 {w : Cond} (h : w ∈ tables_1_4) : w ∈ lw_tbl := List.mem_append_right _ (List.mem_append_right _ (List.mem_append_right _ (List.mem_append_right _ (List.mem_append_left _ h))))
theorem tb_5 {w : Cond} (h : w ∈ tables_1_5) : w ∈ lw_tbl := List.mem_append_right _ (List.mem_append_right _ (List.mem_append_right _ (List.mem_append_right _ (List.mem_append_right _ (List.mem_append_left _ h)))))
theorem tb_6 {w : Cond} (h : w ∈ tables_1_6) : w ∈ lw_tbl := List.mem_append_right _ (List.mem_append_right _ (List.mem_append_right _ (List.mem_append_right _ (List.mem_append_right _ (List.mem_append_right _ (List.mem_append_left _ h))))))
theorem tb_7 {w : Cond} (h : w ∈ tables_1_7) : w ∈ lw_tbl := List.mem_append_right _ (List.mem_append_right _ (List.mem_append_right _ (List.mem_append_right _ (List.mem_append_right _ (List.mem_append_right _ (List.mem_append_right _ (List.mem_append_left _ h)))))))
theorem tb_8 {w : Cond} (h : w ∈ tables_1_8) : w ∈ lw_tbl := List.mem_append_right _ (List.mem_append_right _ (List.mem_append_right _ (List.mem_append_right _ (List.mem_append_right _ (List.mem_append_right _ (List.mem_append_right _ (List.mem_append_right _ (h))))))))
abbrev cJ0_isLatin1_aae02 : ByteArray := prog_16_method_154_code
def yJ0_isLatin1_aae02 : MethodName := ⟨"java/lang/String", "isLatin1", "()Z"⟩
abbrev cJ3_checkIndex_8e157 : ByteArray := prog_21_method_11_code
def yJ3_checkIndex_8e157 : MethodName := ⟨"jdk/internal/util/Preconditions", "checkIndex", "(IILjava/util/function/BiFunction;)I"⟩
abbrev cJ0_checkIndex_df160 : ByteArray := prog_16_method_155_code
def yJ0_checkIndex_df160 : MethodName := ⟨"java/lang/String", "checkIndex", "(II)V"⟩
abbrev cJ1_charAt_3b067 : ByteArray := prog_17_method_2_code
def yJ1_charAt_3b067 : MethodName := ⟨"java/lang/StringLatin1", "charAt", "([BI)C"⟩
abbrev cJ0_charAt_5068e : ByteArray := prog_16_method_56_code
def yJ0_charAt_5068e : MethodName := ⟨"java/lang/String", "charAt", "(I)C"⟩
abbrev cJ0_coder_7d493 : ByteArray := prog_16_method_152_code
def yJ0_coder_7d493 : MethodName := ⟨"java/lang/String", "coder", "()B"⟩
abbrev cJ0_length_8abf5 : ByteArray := prog_16_method_54_code
def yJ0_length_8abf5 : MethodName := ⟨"java/lang/String", "length", "()I"⟩
abbrev cJ6_bitCount_0f7a4 : ByteArray := prog_14_method_49_code
def yJ6_bitCount_0f7a4 : MethodName := ⟨"java/lang/Integer", "bitCount", "(I)I"⟩
abbrev cJ7_fill_53178 : ByteArray := prog_20_method_103_code
def yJ7_fill_53178 : MethodName := ⟨"java/util/Arrays", "fill", "([II)V"⟩
abbrev cJ7_fill_d0a16 : ByteArray := prog_20_method_101_code
def yJ7_fill_d0a16 : MethodName := ⟨"java/util/Arrays", "fill", "([JJ)V"⟩
abbrev cX0_clashWithPlaced : ByteArray := prog_2_method_5_code
def yX0_clashWithPlaced : MethodName := ⟨"TwoWells$Homes", "clashWithPlaced", "(LTwoWells$Land;I)I"⟩
abbrev cX0_countRopes : ByteArray := prog_2_method_3_code
def yX0_countRopes : MethodName := ⟨"TwoWells$Homes", "countRopes", "(LTwoWells$Land;)V"⟩
abbrev cX0_init : ByteArray := prog_2_method_1_code
def yX0_init : MethodName := ⟨"TwoWells$Homes", "<init>", "()V"⟩
abbrev cX0_place : ByteArray := prog_2_method_4_code
def yX0_place : MethodName := ⟨"TwoWells$Homes", "place", "(LTwoWells$Land;IIII)V"⟩
abbrev cX0_settle : ByteArray := prog_2_method_2_code
def yX0_settle : MethodName := ⟨"TwoWells$Homes", "settle", "(LTwoWells$Land;)V"⟩
abbrev cX1_hasHouse : ByteArray := prog_3_method_8_code
def yX1_hasHouse : MethodName := ⟨"TwoWells$Land", "hasHouse", "(I)Z"⟩
abbrev cX1_hasRope : ByteArray := prog_3_method_9_code
def yX1_hasRope : MethodName := ⟨"TwoWells$Land", "hasRope", "(I)Z"⟩
abbrev cX1_hangs : ByteArray := prog_3_method_10_code
def yX1_hangs : MethodName := ⟨"TwoWells$Land", "hangs", "(II)Z"⟩
abbrev cX1_hangsOpen : ByteArray := prog_3_method_11_code
def yX1_hangsOpen : MethodName := ⟨"TwoWells$Land", "hangsOpen", "(II)Z"⟩
abbrev cX1_openCount : ByteArray := prog_3_method_13_code
def yX1_openCount : MethodName := ⟨"TwoWells$Land", "openCount", "(I)I"⟩
abbrev cX1_takeMoved : ByteArray := prog_3_method_7_code
def yX1_takeMoved : MethodName := ⟨"TwoWells$Land", "takeMoved", "(LTwoWells$Land;)V"⟩
abbrev cX1_takeAll : ByteArray := prog_3_method_6_code
def yX1_takeAll : MethodName := ⟨"TwoWells$Land", "takeAll", "(LTwoWells$Land;)V"⟩
abbrev cX1_had : ByteArray := prog_3_method_15_code
def yX1_had : MethodName := ⟨"TwoWells$Land", "had", "(I)I"⟩
abbrev cX2_keepIfMore : ByteArray := prog_4_method_5_code
def yX2_keepIfMore : MethodName := ⟨"TwoWells$Lonely", "keepIfMore", "(I)V"⟩
abbrev cX2_mostToCome : ByteArray := prog_4_method_7_code
def yX2_mostToCome : MethodName := ⟨"TwoWells$Lonely", "mostToCome", "(LTwoWells$Land;I)I"⟩
abbrev cX1_emptyWeight : ByteArray := prog_3_method_22_code
def yX1_emptyWeight : MethodName := ⟨"TwoWells$Land", "emptyWeight", "(I)I"⟩
abbrev cX1_weight : ByteArray := prog_3_method_23_code
def yX1_weight : MethodName := ⟨"TwoWells$Land", "weight", "(I)I"⟩
abbrev cX1_pullLean : ByteArray := prog_3_method_25_code
def yX1_pullLean : MethodName := ⟨"TwoWells$Land", "pullLean", "(IZZ)I"⟩
abbrev cX1_depthFrom : ByteArray := prog_3_method_26_code
def yX1_depthFrom : MethodName := ⟨"TwoWells$Land", "depthFrom", "(III)I"⟩
abbrev cX1_depthBehind : ByteArray := prog_3_method_24_code
def yX1_depthBehind : MethodName := ⟨"TwoWells$Land", "depthBehind", "(IZZ)I"⟩
abbrev cX1_depthOf : ByteArray := prog_3_method_21_code
def yX1_depthOf : MethodName := ⟨"TwoWells$Land", "depthOf", "(I)I"⟩
abbrev cX1_fill : ByteArray := prog_3_method_29_code
def yX1_fill : MethodName := ⟨"TwoWells$Land", "fill", "()V"⟩
abbrev cX1_thirstsNow : ByteArray := prog_3_method_20_code
def yX1_thirstsNow : MethodName := ⟨"TwoWells$Land", "thirstsNow", "(I)Z"⟩
abbrev cX1_drink : ByteArray := prog_3_method_30_code
def yX1_drink : MethodName := ⟨"TwoWells$Land", "drink", "()I"⟩
abbrev cX1_goOn : ByteArray := prog_3_method_28_code
def yX1_goOn : MethodName := ⟨"TwoWells$Land", "goOn", "([I)I"⟩
abbrev cX2_seekPull : ByteArray := prog_4_method_4_code
def yX2_seekPull : MethodName := ⟨"TwoWells$Lonely", "seekPull", "(II)V"⟩
abbrev cX2_pullMatters : ByteArray := prog_4_method_6_code
def yX2_pullMatters : MethodName := ⟨"TwoWells$Lonely", "pullMatters", "(LTwoWells$Land;I)Z"⟩
abbrev cX2_seekFrom : ByteArray := prog_4_method_3_code
def yX2_seekFrom : MethodName := ⟨"TwoWells$Lonely", "seekFrom", "(I)V"⟩
abbrev cX2_seek : ByteArray := prog_4_method_2_code
def yX2_seek : MethodName := ⟨"TwoWells$Lonely", "seek", "(LTwoWells$Land;II)V"⟩
abbrev cX10_alone : ByteArray := prog_1_method_30_code
def yX10_alone : MethodName := ⟨"TwoWells", "alone", "(III)I"⟩
abbrev cX1_restBits : ByteArray := prog_3_method_27_code
def yX1_restBits : MethodName := ⟨"TwoWells$Land", "restBits", "()I"⟩
abbrev cX7_clearPulls : ByteArray := prog_9_method_3_code
def yX7_clearPulls : MethodName := ⟨"TwoWells$Tally", "clearPulls", "()V"⟩
abbrev cX7_begin : ByteArray := prog_9_method_2_code
def yX7_begin : MethodName := ⟨"TwoWells$Tally", "begin", "()V"⟩
abbrev cX7_addPull : ByteArray := prog_9_method_4_code
def yX7_addPull : MethodName := ⟨"TwoWells$Tally", "addPull", "(II)V"⟩
abbrev cX7_endHour : ByteArray := prog_9_method_6_code
def yX7_endHour : MethodName := ⟨"TwoWells$Tally", "endHour", "(LTwoWells$Land;)V"⟩
abbrev cX7_doHour : ByteArray := prog_9_method_5_code
def yX7_doHour : MethodName := ⟨"TwoWells$Tally", "doHour", "(LTwoWells$Land;II)V"⟩
abbrev cX10_calm : ByteArray := prog_1_method_18_code
def yX10_calm : MethodName := ⟨"TwoWells", "calm", "()I"⟩
abbrev cX6_init : ByteArray := prog_8_method_1_code
def yX6_init : MethodName := ⟨"TwoWells$StateSet", "<init>", "()V"⟩
abbrev cX4_init : ByteArray := prog_6_method_1_code
def yX4_init : MethodName := ⟨"TwoWells$Search", "<init>", "(LTwoWells$Land;)V"⟩
abbrev cX10_searcher : ByteArray := prog_1_method_29_code
def yX10_searcher : MethodName := ⟨"TwoWells", "searcher", "()LTwoWells$Search;"⟩
abbrev cX4_listFrom : ByteArray := prog_6_method_6_code
def yX4_listFrom : MethodName := ⟨"TwoWells$Search", "listFrom", "(III)V"⟩
abbrev cX4_listChoices : ByteArray := prog_6_method_5_code
def yX4_listChoices : MethodName := ⟨"TwoWells$Search", "listChoices", "()V"⟩
abbrev cX4_prepare : ByteArray := prog_6_method_4_code
def yX4_prepare : MethodName := ⟨"TwoWells$Search", "prepare", "(III)Z"⟩
abbrev cX6_clear : ByteArray := prog_8_method_2_code
def yX6_clear : MethodName := ⟨"TwoWells$StateSet", "clear", "()V"⟩
abbrev cX4_stateNow : ByteArray := prog_6_method_7_code
def yX4_stateNow : MethodName := ⟨"TwoWells$Search", "stateNow", "()J"⟩
abbrev cX6_overflows : ByteArray := prog_8_method_3_code
def yX6_overflows : MethodName := ⟨"TwoWells$StateSet", "overflows", "()Z"⟩
abbrev cX6_add : ByteArray := prog_8_method_4_code
def yX6_add : MethodName := ⟨"TwoWells$StateSet", "add", "(JI)V"⟩
abbrev cX4_weightIn : ByteArray := prog_6_method_10_code
def yX4_weightIn : MethodName := ⟨"TwoWells$Search", "weightIn", "(JII)I"⟩
abbrev cX4_firstLike : ByteArray := prog_6_method_11_code
def yX4_firstLike : MethodName := ⟨"TwoWells$Search", "firstLike", "(II)I"⟩
abbrev cX4_lookAhead : ByteArray := prog_6_method_9_code
def yX4_lookAhead : MethodName := ⟨"TwoWells$Search", "lookAhead", "(J)V"⟩
abbrev cX4_likeChoice : ByteArray := prog_6_method_12_code
def yX4_likeChoice : MethodName := ⟨"TwoWells$Search", "likeChoice", "(I)I"⟩
abbrev cX4_behindHour : ByteArray := prog_6_method_13_code
def yX4_behindHour : MethodName := ⟨"TwoWells$Search", "behindHour", "(JI)J"⟩
abbrev cX4_spread : ByteArray := prog_6_method_8_code
def yX4_spread : MethodName := ⟨"TwoWells$Search", "spread", "(JILTwoWells$StateSet;)V"⟩
abbrev cX4_fewestPulls : ByteArray := prog_6_method_3_code
def yX4_fewestPulls : MethodName := ⟨"TwoWells$Search", "fewestPulls", "(II)I"⟩
abbrev cX10_cheapest : ByteArray := prog_1_method_28_code
def yX10_cheapest : MethodName := ⟨"TwoWells", "cheapest", "(II)I"⟩
abbrev cX1_sharedThirst : ByteArray := prog_3_method_19_code
def yX1_sharedThirst : MethodName := ⟨"TwoWells$Land", "sharedThirst", "(I)I"⟩
abbrev cX10_clash : ByteArray := prog_1_method_33_code
def yX10_clash : MethodName := ⟨"TwoWells", "clash", "(I)I"⟩
abbrev cX10_isRow : ByteArray := prog_1_method_40_code
def yX10_isRow : MethodName := ⟨"TwoWells", "isRow", "(I)Z"⟩
abbrev cX3_isMissing : ByteArray := prog_5_method_2_code
def yX3_isMissing : MethodName := ⟨"TwoWells$NumberRow", "isMissing", "()Z"⟩
abbrev cX3_cutToSort : ByteArray := prog_5_method_6_code
def yX3_cutToSort : MethodName := ⟨"TwoWells$NumberRow", "cutToSort", "(J)J"⟩
abbrev cX3_put : ByteArray := prog_5_method_5_code
def yX3_put : MethodName := ⟨"TwoWells$NumberRow", "put", "(IJ)J"⟩
abbrev cX10_copy : ByteArray := prog_1_method_39_code
def yX10_copy : MethodName := ⟨"TwoWells", "copy", "(I)I"⟩
abbrev cX1_allStock : ByteArray := prog_3_method_17_code
def yX1_allStock : MethodName := ⟨"TwoWells$Land", "allStock", "()I"⟩
abbrev cX1_fullBuckets : ByteArray := prog_3_method_18_code
def yX1_fullBuckets : MethodName := ⟨"TwoWells$Land", "fullBuckets", "()I"⟩
abbrev cX10_count : ByteArray := prog_1_method_43_code
def yX10_count : MethodName := ⟨"TwoWells", "count", "(I)I"⟩
abbrev cX10_customRefusal : ByteArray := prog_1_method_13_code
def yX10_customRefusal : MethodName := ⟨"TwoWells", "customRefusal", "(I)I"⟩
abbrev cX7_firstToLift : ByteArray := prog_9_method_11_code
def yX7_firstToLift : MethodName := ⟨"TwoWells$Tally", "firstToLift", "(LTwoWells$Land;I)I"⟩
abbrev cX7_countBoth : ByteArray := prog_9_method_12_code
def yX7_countBoth : MethodName := ⟨"TwoWells$Tally", "countBoth", "(LTwoWells$Land;)V"⟩
abbrev cX7_doCustom : ByteArray := prog_9_method_10_code
def yX7_doCustom : MethodName := ⟨"TwoWells$Tally", "doCustom", "(LTwoWells$Land;I)V"⟩
abbrev cX1_allQuenched : ByteArray := prog_3_method_16_code
def yX1_allQuenched : MethodName := ⟨"TwoWells$Land", "allQuenched", "()I"⟩
abbrev cX10_custom : ByteArray := prog_1_method_11_code
def yX10_custom : MethodName := ⟨"TwoWells", "custom", "(II)I"⟩
abbrev cX10_cut : ByteArray := prog_1_method_15_code
def yX10_cut : MethodName := ⟨"TwoWells", "cut", "(I)I"⟩
abbrev cX1_openRope : ByteArray := prog_3_method_14_code
def yX1_openRope : MethodName := ⟨"TwoWells$Land", "openRope", "(II)I"⟩
abbrev cX7_doDrawn : ByteArray := prog_9_method_13_code
def yX7_doDrawn : MethodName := ⟨"TwoWells$Tally", "doDrawn", "(LTwoWells$Land;II)V"⟩
abbrev cX10_drought : ByteArray := prog_1_method_14_code
def yX10_drought : MethodName := ⟨"TwoWells", "drought", "(II)I"⟩
abbrev cX10_dwellings : ByteArray := prog_1_method_32_code
def yX10_dwellings : MethodName := ⟨"TwoWells", "dwellings", "(I)I"⟩
abbrev cX10_even : ByteArray := prog_1_method_19_code
def yX10_even : MethodName := ⟨"TwoWells", "even", "()I"⟩
abbrev cX10_fault : ByteArray := prog_1_method_4_code
def yX10_fault : MethodName := ⟨"TwoWells", "fault", "(I)I"⟩
abbrev cX8_addInt : ByteArray := prog_10_method_2_code
def yX8_addInt : MethodName := ⟨"TwoWells$Tape", "addInt", "(I)V"⟩
abbrev cX10_feed : ByteArray := prog_1_method_2_code
def yX10_feed : MethodName := ⟨"TwoWells", "feed", "(IIIII)I"⟩
abbrev cX1_ropeBits : ByteArray := prog_3_method_12_code
def yX1_ropeBits : MethodName := ⟨"TwoWells$Land", "ropeBits", "(I)I"⟩
abbrev cX10_house : ByteArray := prog_1_method_5_code
def yX10_house : MethodName := ⟨"TwoWells", "house", "(II)I"⟩
abbrev cX10_image : ByteArray := prog_1_method_41_code
def yX10_image : MethodName := ⟨"TwoWells", "image", "(I)I"⟩
abbrev cX8_init : ByteArray := prog_10_method_1_code
def yX8_init : MethodName := ⟨"TwoWells$Tape", "<init>", "()V"⟩
abbrev cX1_init : ByteArray := prog_3_method_1_code
def yX1_init : MethodName := ⟨"TwoWells$Land", "<init>", "()V"⟩
abbrev cX7_init : ByteArray := prog_9_method_1_code
def yX7_init : MethodName := ⟨"TwoWells$Tally", "<init>", "()V"⟩
abbrev cX9_init : ByteArray := prog_11_method_1_code
def yX9_init : MethodName := ⟨"TwoWells$Ties", "<init>", "()V"⟩
abbrev cX2_init : ByteArray := prog_4_method_1_code
def yX2_init : MethodName := ⟨"TwoWells$Lonely", "<init>", "()V"⟩
abbrev cX5_init : ByteArray := prog_7_method_1_code
def yX5_init : MethodName := ⟨"TwoWells$Sight", "<init>", "()V"⟩
abbrev cX3_init : ByteArray := prog_5_method_1_code
def yX3_init : MethodName := ⟨"TwoWells$NumberRow", "<init>", "()V"⟩
abbrev cX10_init : ByteArray := prog_1_method_1_code
def yX10_init : MethodName := ⟨"TwoWells", "<init>", "()V"⟩
abbrev cX3_get : ByteArray := prog_5_method_4_code
def yX3_get : MethodName := ⟨"TwoWells$NumberRow", "get", "(I)J"⟩
abbrev cX7_tellHourEnd : ByteArray := prog_9_method_8_code
def yX7_tellHourEnd : MethodName := ⟨"TwoWells$Tally", "tellHourEnd", "(LTwoWells$Land;)I"⟩
abbrev cX7_tellPull : ByteArray := prog_9_method_9_code
def yX7_tellPull : MethodName := ⟨"TwoWells$Tally", "tellPull", "(LTwoWells$Land;J)I"⟩
abbrev cX7_doTold : ByteArray := prog_9_method_7_code
def yX7_doTold : MethodName := ⟨"TwoWells$Tally", "doTold", "(LTwoWells$Land;LTwoWells$NumberRow;)V"⟩
abbrev cX10_judge : ByteArray := prog_1_method_9_code
def yX10_judge : MethodName := ⟨"TwoWells", "judge", "(II)I"⟩
abbrev cX1_begin : ByteArray := prog_3_method_2_code
def yX1_begin : MethodName := ⟨"TwoWells$Land", "begin", "()V"⟩
abbrev cX8_byteAt : ByteArray := prog_10_method_16_code
def yX8_byteAt : MethodName := ⟨"TwoWells$Tape", "byteAt", "(I)I"⟩
abbrev cX8_isBlank : ByteArray := prog_10_method_17_code
def yX8_isBlank : MethodName := ⟨"TwoWells$Tape", "isBlank", "(I)Z"⟩
abbrev cX8_isLetter : ByteArray := prog_10_method_18_code
def yX8_isLetter : MethodName := ⟨"TwoWells$Tape", "isLetter", "(I)Z"⟩
abbrev cX8_takeLetters : ByteArray := prog_10_method_14_code
def yX8_takeLetters : MethodName := ⟨"TwoWells$Tape", "takeLetters", "()V"⟩
abbrev cX8_isDigit : ByteArray := prog_10_method_19_code
def yX8_isDigit : MethodName := ⟨"TwoWells$Tape", "isDigit", "(I)Z"⟩
abbrev cX8_takeDigits : ByteArray := prog_10_method_15_code
def yX8_takeDigits : MethodName := ⟨"TwoWells$Tape", "takeDigits", "()V"⟩
abbrev cX8_advance : ByteArray := prog_10_method_13_code
def yX8_advance : MethodName := ⟨"TwoWells$Tape", "advance", "()V"⟩
abbrev cX8_isWord : ByteArray := prog_10_method_12_code
def yX8_isWord : MethodName := ⟨"TwoWells$Tape", "isWord", "(Ljava/lang/String;)Z"⟩
abbrev cX8_tellFault : ByteArray := prog_10_method_8_code
def yX8_tellFault : MethodName := ⟨"TwoWells$Tape", "tellFault", "(I)V"⟩
abbrev cX8_tellWrongToken : ByteArray := prog_10_method_7_code
def yX8_tellWrongToken : MethodName := ⟨"TwoWells$Tape", "tellWrongToken", "()V"⟩
abbrev cX8_takeNumber : ByteArray := prog_10_method_9_code
def yX8_takeNumber : MethodName := ⟨"TwoWells$Tape", "takeNumber", "(II)I"⟩
abbrev cX1_addHouse : ByteArray := prog_3_method_3_code
def yX1_addHouse : MethodName := ⟨"TwoWells$Land", "addHouse", "(I)V"⟩
abbrev cX8_takeWord : ByteArray := prog_10_method_11_code
def yX8_takeWord : MethodName := ⟨"TwoWells$Tape", "takeWord", "(Ljava/lang/String;)Z"⟩
abbrev cX8_readHouse : ByteArray := prog_10_method_5_code
def yX8_readHouse : MethodName := ⟨"TwoWells$Tape", "readHouse", "(LTwoWells$Land;)V"⟩
abbrev cX1_setBucket : ByteArray := prog_3_method_5_code
def yX1_setBucket : MethodName := ⟨"TwoWells$Land", "setBucket", "(II)V"⟩
abbrev cX1_addRope : ByteArray := prog_3_method_4_code
def yX1_addRope : MethodName := ⟨"TwoWells$Land", "addRope", "(III)V"⟩
abbrev cX8_readRope : ByteArray := prog_10_method_6_code
def yX8_readRope : MethodName := ⟨"TwoWells$Tape", "readRope", "(LTwoWells$Land;)V"⟩
abbrev cX8_takeSemicolon : ByteArray := prog_10_method_10_code
def yX8_takeSemicolon : MethodName := ⟨"TwoWells$Tape", "takeSemicolon", "()V"⟩
abbrev cX8_readLine : ByteArray := prog_10_method_4_code
def yX8_readLine : MethodName := ⟨"TwoWells$Tape", "readLine", "(LTwoWells$Land;)V"⟩
abbrev cX8_readText : ByteArray := prog_10_method_3_code
def yX8_readText : MethodName := ⟨"TwoWells$Tape", "readText", "(ILTwoWells$Land;)V"⟩
abbrev cX10_land : ByteArray := prog_1_method_3_code
def yX10_land : MethodName := ⟨"TwoWells", "land", "(I)I"⟩
abbrev cX10_lifts : ByteArray := prog_1_method_20_code
def yX10_lifts : MethodName := ⟨"TwoWells", "lifts", "(II)I"⟩
abbrev cX10_live : ByteArray := prog_1_method_12_code
def yX10_live : MethodName := ⟨"TwoWells", "live", "(I)I"⟩
abbrev cX4_fewestHours : ByteArray := prog_6_method_2_code
def yX4_fewestHours : MethodName := ⟨"TwoWells$Search", "fewestHours", "(III)I"⟩
abbrev cX10_loss : ByteArray := prog_1_method_27_code
def yX10_loss : MethodName := ⟨"TwoWells", "loss", "(II)I"⟩
abbrev cX9_look : ByteArray := prog_11_method_2_code
def yX9_look : MethodName := ⟨"TwoWells$Ties", "look", "(LTwoWells$Land;I)V"⟩
abbrev cX9_tied : ByteArray := prog_11_method_3_code
def yX9_tied : MethodName := ⟨"TwoWells$Ties", "tied", "(II)Z"⟩
abbrev cX10_mate : ByteArray := prog_1_method_31_code
def yX10_mate : MethodName := ⟨"TwoWells", "mate", "(I)I"⟩
abbrev cX9_nearAny : ByteArray := prog_11_method_4_code
def yX9_nearAny : MethodName := ⟨"TwoWells$Ties", "nearAny", "(I)I"⟩
abbrev cX9_part : ByteArray := prog_11_method_5_code
def yX9_part : MethodName := ⟨"TwoWells$Ties", "part", "(I)I"⟩
abbrev cX10_neighbours : ByteArray := prog_1_method_24_code
def yX10_neighbours : MethodName := ⟨"TwoWells", "neighbours", "(I)I"⟩
abbrev cX3_begin : ByteArray := prog_5_method_3_code
def yX3_begin : MethodName := ⟨"TwoWells$NumberRow", "begin", "(II)V"⟩
abbrev cX10_numbers : ByteArray := prog_1_method_37_code
def yX10_numbers : MethodName := ⟨"TwoWells", "numbers", "(III)I"⟩
abbrev cX9_oneSide : ByteArray := prog_11_method_8_code
def yX9_oneSide : MethodName := ⟨"TwoWells$Ties", "oneSide", "()I"⟩
abbrev cX10_parted : ByteArray := prog_1_method_22_code
def yX10_parted : MethodName := ⟨"TwoWells", "parted", "()I"⟩
abbrev cX10_pass : ByteArray := prog_1_method_7_code
def yX10_pass : MethodName := ⟨"TwoWells", "pass", "()I"⟩
abbrev cX10_perform : ByteArray := prog_1_method_10_code
def yX10_perform : MethodName := ⟨"TwoWells", "perform", "(I)I"⟩
abbrev cX10_pull : ByteArray := prog_1_method_8_code
def yX10_pull : MethodName := ⟨"TwoWells", "pull", "(II)I"⟩
abbrev cX10_sightRefusal : ByteArray := prog_1_method_36_code
def yX10_sightRefusal : MethodName := ⟨"TwoWells", "sightRefusal", "(I)I"⟩
abbrev cX5_compare : ByteArray := prog_7_method_3_code
def yX5_compare : MethodName := ⟨"TwoWells$Sight", "compare", "(LTwoWells$Land;LTwoWells$NumberRow;)Z"⟩
abbrev cX5_fitsUpTo : ByteArray := prog_7_method_5_code
def yX5_fitsUpTo : MethodName := ⟨"TwoWells$Sight", "fitsUpTo", "(LTwoWells$Land;I)Z"⟩
abbrev cX5_choose : ByteArray := prog_7_method_4_code
def yX5_choose : MethodName := ⟨"TwoWells$Sight", "choose", "(LTwoWells$Land;II)V"⟩
abbrev cX5_watch : ByteArray := prog_7_method_2_code
def yX5_watch : MethodName := ⟨"TwoWells$Sight", "watch", "(LTwoWells$Land;LTwoWells$NumberRow;)V"⟩
abbrev cX10_pulled : ByteArray := prog_1_method_35_code
def yX10_pulled : MethodName := ⟨"TwoWells", "pulled", "(I)I"⟩
abbrev cX10_restore : ByteArray := prog_1_method_42_code
def yX10_restore : MethodName := ⟨"TwoWells", "restore", "(I)I"⟩
abbrev cX10_rests : ByteArray := prog_1_method_17_code
def yX10_rests : MethodName := ⟨"TwoWells", "rests", "()I"⟩
abbrev cX9_steps : ByteArray := prog_11_method_6_code
def yX9_steps : MethodName := ⟨"TwoWells$Ties", "steps", "(II)I"⟩
abbrev cX10_ring : ByteArray := prog_1_method_23_code
def yX10_ring : MethodName := ⟨"TwoWells", "ring", "()I"⟩
abbrev cX10_rope : ByteArray := prog_1_method_6_code
def yX10_rope : MethodName := ⟨"TwoWells", "rope", "(II)I"⟩
abbrev cX10_seen : ByteArray := prog_1_method_34_code
def yX10_seen : MethodName := ⟨"TwoWells", "seen", "(I)I"⟩
abbrev cX10_severs : ByteArray := prog_1_method_25_code
def yX10_severs : MethodName := ⟨"TwoWells", "severs", "(I)I"⟩
abbrev cX10_soonest : ByteArray := prog_1_method_26_code
def yX10_soonest : MethodName := ⟨"TwoWells", "soonest", "(II)I"⟩
abbrev cX10_stones : ByteArray := prog_1_method_16_code
def yX10_stones : MethodName := ⟨"TwoWells", "stones", "(IZI)I"⟩
abbrev cX9_greatestLoose : ByteArray := prog_11_method_7_code
def yX9_greatestLoose : MethodName := ⟨"TwoWells$Ties", "greatestLoose", "()I"⟩
abbrev cX10_together : ByteArray := prog_1_method_21_code
def yX10_together : MethodName := ⟨"TwoWells", "together", "()I"⟩
abbrev cX10_write : ByteArray := prog_1_method_38_code
def yX10_write : MethodName := ⟨"TwoWells", "write", "(IIJ)J"⟩
abbrev cX11_within : ByteArray := prog_13_method_2_code
def yX11_within : MethodName := ⟨"TwoWellsModel", "within", "(JJJ)Z"⟩
abbrev cX11_isHouse : ByteArray := prog_13_method_19_code
def yX11_isHouse : MethodName := ⟨"TwoWellsModel", "isHouse", "(J)Z"⟩
abbrev cX11_isEnd : ByteArray := prog_13_method_21_code
def yX11_isEnd : MethodName := ⟨"TwoWellsModel", "isEnd", "(II)Z"⟩
abbrev cX11_hangs : ByteArray := prog_13_method_22_code
def yX11_hangs : MethodName := ⟨"TwoWellsModel", "hangs", "(I)Z"⟩
abbrev cX11_hanging : ByteArray := prog_13_method_46_code
def yX11_hanging : MethodName := ⟨"TwoWellsModel", "hanging", "(I)I"⟩
abbrev cX11_nobody : ByteArray := prog_13_method_28_code
def yX11_nobody : MethodName := ⟨"TwoWellsModel", "nobody", "()V"⟩
abbrev cX11_weight : ByteArray := prog_13_method_25_code
def yX11_weight : MethodName := ⟨"TwoWellsModel", "weight", "(II)I"⟩
abbrev cX11_strengthOn : ByteArray := prog_13_method_29_code
def yX11_strengthOn : MethodName := ⟨"TwoWellsModel", "strengthOn", "(II)I"⟩
abbrev cX11_depthThen : ByteArray := prog_13_method_30_code
def yX11_depthThen : MethodName := ⟨"TwoWellsModel", "depthThen", "(I)I"⟩
abbrev cX11_depth : ByteArray := prog_13_method_26_code
def yX11_depth : MethodName := ⟨"TwoWellsModel", "depth", "(II)I"⟩
abbrev cX11_thirsts : ByteArray := prog_13_method_32_code
def yX11_thirsts : MethodName := ⟨"TwoWellsModel", "thirsts", "(I)Z"⟩
abbrev cX11_goes : ByteArray := prog_13_method_31_code
def yX11_goes : MethodName := ⟨"TwoWellsModel", "goes", "()I"⟩
abbrev cX11_pullsAlone : ByteArray := prog_13_method_75_code
def yX11_pullsAlone : MethodName := ⟨"TwoWellsModel", "pullsAlone", "(IIII)V"⟩
abbrev cX11_alone : ByteArray := prog_13_method_76_code
def yX11_alone : MethodName := ⟨"TwoWellsModel", "alone", "(III)I"⟩
abbrev cX11_areFew : ByteArray := prog_13_method_69_code
def yX11_areFew : MethodName := ⟨"TwoWellsModel", "areFew", "()Z"⟩
abbrev cX11_becomes : ByteArray := prog_13_method_66_code
def yX11_becomes : MethodName := ⟨"TwoWellsModel", "becomes", "(JII)V"⟩
abbrev cX11_bitsOf : ByteArray := prog_13_method_56_code
def yX11_bitsOf : MethodName := ⟨"TwoWellsModel", "bitsOf", "(I)I"⟩
abbrev cX11_byCustom : ByteArray := prog_13_method_41_code
def yX11_byCustom : MethodName := ⟨"TwoWellsModel", "byCustom", "()V"⟩
abbrev cX11_keeps : ByteArray := prog_13_method_35_code
def yX11_keeps : MethodName := ⟨"TwoWellsModel", "keeps", "()V"⟩
abbrev cX11_resting : ByteArray := prog_13_method_51_code
def yX11_resting : MethodName := ⟨"TwoWellsModel", "resting", "()I"⟩
abbrev cX11_isAgain : ByteArray := prog_13_method_36_code
def yX11_isAgain : MethodName := ⟨"TwoWellsModel", "isAgain", "()V"⟩
abbrev cX11_calm : ByteArray := prog_13_method_53_code
def yX11_calm : MethodName := ⟨"TwoWellsModel", "calm", "()I"⟩
abbrev cX11_state : ByteArray := prog_13_method_65_code
def yX11_state : MethodName := ⟨"TwoWellsModel", "state", "(II)J"⟩
abbrev cX11_meetsFor : ByteArray := prog_13_method_72_code
def yX11_meetsFor : MethodName := ⟨"TwoWellsModel", "meetsFor", "(JI)V"⟩
abbrev cX11_pullsFor : ByteArray := prog_13_method_73_code
def yX11_pullsFor : MethodName := ⟨"TwoWellsModel", "pullsFor", "(IJIII)V"⟩
abbrev cX11_cheapest : ByteArray := prog_13_method_74_code
def yX11_cheapest : MethodName := ⟨"TwoWellsModel", "cheapest", "(II)I"⟩
abbrev cX11_clashOf : ByteArray := prog_13_method_80_code
def yX11_clashOf : MethodName := ⟨"TwoWellsModel", "clashOf", "(III)I"⟩
abbrev cX11_clashes : ByteArray := prog_13_method_81_code
def yX11_clashes : MethodName := ⟨"TwoWellsModel", "clashes", "(Z)I"⟩
abbrev cX11_isRope : ByteArray := prog_13_method_20_code
def yX11_isRope : MethodName := ⟨"TwoWellsModel", "isRope", "(J)Z"⟩
abbrev cX11_clash : ByteArray := prog_13_method_84_code
def yX11_clash : MethodName := ⟨"TwoWellsModel", "clash", "(I)I"⟩
abbrev cX11_copy : ByteArray := prog_13_method_93_code
def yX11_copy : MethodName := ⟨"TwoWellsModel", "copy", "(I)I"⟩
abbrev cX11_sumOf : ByteArray := prog_13_method_43_code
def yX11_sumOf : MethodName := ⟨"TwoWellsModel", "sumOf", "(I)I"⟩
abbrev cX11_fullMany : ByteArray := prog_13_method_96_code
def yX11_fullMany : MethodName := ⟨"TwoWellsModel", "fullMany", "()I"⟩
abbrev cX11_count : ByteArray := prog_13_method_97_code
def yX11_count : MethodName := ⟨"TwoWellsModel", "count", "(I)I"⟩
abbrev cX11_lives : ByteArray := prog_13_method_42_code
def yX11_lives : MethodName := ⟨"TwoWellsModel", "lives", "(I)I"⟩
abbrev cX11_custom : ByteArray := prog_13_method_44_code
def yX11_custom : MethodName := ⟨"TwoWellsModel", "custom", "(II)I"⟩
abbrev cX11_cut : ByteArray := prog_13_method_49_code
def yX11_cut : MethodName := ⟨"TwoWellsModel", "cut", "(I)I"⟩
abbrev cX11_cutTo : ByteArray := prog_13_method_90_code
def yX11_cutTo : MethodName := ⟨"TwoWellsModel", "cutTo", "(JI)J"⟩
abbrev cX11_hangingAt : ByteArray := prog_13_method_47_code
def yX11_hangingAt : MethodName := ⟨"TwoWellsModel", "hangingAt", "(II)I"⟩
abbrev cX11_drought : ByteArray := prog_13_method_48_code
def yX11_drought : MethodName := ⟨"TwoWellsModel", "drought", "(II)I"⟩
abbrev cX11_isIn : ByteArray := prog_13_method_57_code
def yX11_isIn : MethodName := ⟨"TwoWellsModel", "isIn", "(II)Z"⟩
abbrev cX11_orders : ByteArray := prog_13_method_82_code
def yX11_orders : MethodName := ⟨"TwoWellsModel", "orders", "(III)V"⟩
abbrev cX11_dwellings : ByteArray := prog_13_method_83_code
def yX11_dwellings : MethodName := ⟨"TwoWellsModel", "dwellings", "(I)I"⟩
abbrev cX11_is : ByteArray := prog_13_method_12_code
def yX11_is : MethodName := ⟨"TwoWellsModel", "is", "(I)Z"⟩
abbrev cX11_see : ByteArray := prog_13_method_6_code
def yX11_see : MethodName := ⟨"TwoWellsModel", "see", "(I)I"⟩
abbrev cX11_isSmall : ByteArray := prog_13_method_7_code
def yX11_isSmall : MethodName := ⟨"TwoWellsModel", "isSmall", "(I)Z"⟩
abbrev cX11_keyAt : ByteArray := prog_13_method_9_code
def yX11_keyAt : MethodName := ⟨"TwoWellsModel", "keyAt", "()I"⟩
abbrev cX11_isDigit : ByteArray := prog_13_method_8_code
def yX11_isDigit : MethodName := ⟨"TwoWellsModel", "isDigit", "(I)Z"⟩
abbrev cX11_next : ByteArray := prog_13_method_10_code
def yX11_next : MethodName := ⟨"TwoWellsModel", "next", "()V"⟩
abbrev cX11_eats : ByteArray := prog_13_method_13_code
def yX11_eats : MethodName := ⟨"TwoWellsModel", "eats", "(I)Z"⟩
abbrev cX11_even : ByteArray := prog_13_method_54_code
def yX11_even : MethodName := ⟨"TwoWellsModel", "even", "()I"⟩
abbrev cX11_fails : ByteArray := prog_13_method_11_code
def yX11_fails : MethodName := ⟨"TwoWellsModel", "fails", "(I)V"⟩
abbrev cX11_fault : ByteArray := prog_13_method_18_code
def yX11_fault : MethodName := ⟨"TwoWellsModel", "fault", "(I)I"⟩
abbrev cX11_feed : ByteArray := prog_13_method_5_code
def yX11_feed : MethodName := ⟨"TwoWellsModel", "feed", "(IIIII)I"⟩
abbrev cX11_haveRope : ByteArray := prog_13_method_77_code
def yX11_haveRope : MethodName := ⟨"TwoWellsModel", "haveRope", "(II)Z"⟩
abbrev cX11_refuses : ByteArray := prog_13_method_37_code
def yX11_refuses : MethodName := ⟨"TwoWellsModel", "refuses", "(J)I"⟩
abbrev cX11_hoursOf : ByteArray := prog_13_method_38_code
def yX11_hoursOf : MethodName := ⟨"TwoWellsModel", "hoursOf", "(I)I"⟩
abbrev cX11_ropesOf : ByteArray := prog_13_method_23_code
def yX11_ropesOf : MethodName := ⟨"TwoWellsModel", "ropesOf", "(I)I"⟩
abbrev cX11_house : ByteArray := prog_13_method_24_code
def yX11_house : MethodName := ⟨"TwoWellsModel", "house", "(II)I"⟩
abbrev cX11_image : ByteArray := prog_13_method_94_code
def yX11_image : MethodName := ⟨"TwoWellsModel", "image", "(I)I"⟩
abbrev cX11_plain : ByteArray := prog_13_method_4_code
def yX11_plain : MethodName := ⟨"TwoWellsModel", "plain", "([I)V"⟩
abbrev cX11_init : ByteArray := prog_13_method_3_code
def yX11_init : MethodName := ⟨"TwoWellsModel", "<init>", "()V"⟩
abbrev cX11_judge : ByteArray := prog_13_method_39_code
def yX11_judge : MethodName := ⟨"TwoWellsModel", "judge", "(II)I"⟩
abbrev cX11_takes : ByteArray := prog_13_method_14_code
def yX11_takes : MethodName := ⟨"TwoWellsModel", "takes", "(II)I"⟩
abbrev cX11_readHouse : ByteArray := prog_13_method_15_code
def yX11_readHouse : MethodName := ⟨"TwoWellsModel", "readHouse", "()V"⟩
abbrev cX11_readRope : ByteArray := prog_13_method_16_code
def yX11_readRope : MethodName := ⟨"TwoWellsModel", "readRope", "()V"⟩
abbrev cX11_land : ByteArray := prog_13_method_17_code
def yX11_land : MethodName := ⟨"TwoWellsModel", "land", "(I)I"⟩
abbrev cX11_waysFrom : ByteArray := prog_13_method_85_code
def yX11_waysFrom : MethodName := ⟨"TwoWellsModel", "waysFrom", "(II)I"⟩
abbrev cX11_laysSeen : ByteArray := prog_13_method_87_code
def yX11_laysSeen : MethodName := ⟨"TwoWellsModel", "laysSeen", "(I)I"⟩
abbrev cX11_lifts : ByteArray := prog_13_method_55_code
def yX11_lifts : MethodName := ⟨"TwoWellsModel", "lifts", "(II)I"⟩
abbrev cX11_live : ByteArray := prog_13_method_45_code
def yX11_live : MethodName := ⟨"TwoWellsModel", "live", "(I)I"⟩
abbrev cX11_meets : ByteArray := prog_13_method_67_code
def yX11_meets : MethodName := ⟨"TwoWellsModel", "meets", "(J)V"⟩
abbrev cX11_pullsAll : ByteArray := prog_13_method_68_code
def yX11_pullsAll : MethodName := ⟨"TwoWellsModel", "pullsAll", "(IJIII)Z"⟩
abbrev cX11_soonestOf : ByteArray := prog_13_method_70_code
def yX11_soonestOf : MethodName := ⟨"TwoWellsModel", "soonestOf", "(II)I"⟩
abbrev cX11_loss : ByteArray := prog_13_method_79_code
def yX11_loss : MethodName := ⟨"TwoWellsModel", "loss", "(II)I"⟩
abbrev cX11_mate : ByteArray := prog_13_method_78_code
def yX11_mate : MethodName := ⟨"TwoWellsModel", "mate", "(I)I"⟩
abbrev cX11_partOf : ByteArray := prog_13_method_59_code
def yX11_partOf : MethodName := ⟨"TwoWellsModel", "partOf", "(II)I"⟩
abbrev cX11_neighbours : ByteArray := prog_13_method_63_code
def yX11_neighbours : MethodName := ⟨"TwoWellsModel", "neighbours", "(I)I"⟩
abbrev cX11_numbers : ByteArray := prog_13_method_91_code
def yX11_numbers : MethodName := ⟨"TwoWellsModel", "numbers", "(III)I"⟩
abbrev cX11_parted : ByteArray := prog_13_method_60_code
def yX11_parted : MethodName := ⟨"TwoWellsModel", "parted", "()I"⟩
abbrev cX11_pass : ByteArray := prog_13_method_33_code
def yX11_pass : MethodName := ⟨"TwoWellsModel", "pass", "()I"⟩
abbrev cX11_perform : ByteArray := prog_13_method_40_code
def yX11_perform : MethodName := ⟨"TwoWellsModel", "perform", "(I)I"⟩
abbrev cX11_pull : ByteArray := prog_13_method_34_code
def yX11_pull : MethodName := ⟨"TwoWellsModel", "pull", "(II)I"⟩
abbrev cX11_refusesSeen : ByteArray := prog_13_method_86_code
def yX11_refusesSeen : MethodName := ⟨"TwoWellsModel", "refusesSeen", "(I)I"⟩
abbrev cX11_pulled : ByteArray := prog_13_method_89_code
def yX11_pulled : MethodName := ⟨"TwoWellsModel", "pulled", "(I)I"⟩
abbrev cX11_restore : ByteArray := prog_13_method_95_code
def yX11_restore : MethodName := ⟨"TwoWellsModel", "restore", "(I)I"⟩
abbrev cX11_rests : ByteArray := prog_13_method_52_code
def yX11_rests : MethodName := ⟨"TwoWellsModel", "rests", "()I"⟩
abbrev cX11_wayBut : ByteArray := prog_13_method_61_code
def yX11_wayBut : MethodName := ⟨"TwoWellsModel", "wayBut", "(III)I"⟩
abbrev cX11_ring : ByteArray := prog_13_method_62_code
def yX11_ring : MethodName := ⟨"TwoWellsModel", "ring", "()I"⟩
abbrev cX11_rope : ByteArray := prog_13_method_27_code
def yX11_rope : MethodName := ⟨"TwoWellsModel", "rope", "(II)I"⟩
abbrev cX11_seen : ByteArray := prog_13_method_88_code
def yX11_seen : MethodName := ⟨"TwoWellsModel", "seen", "(I)I"⟩
abbrev cX11_severs : ByteArray := prog_13_method_64_code
def yX11_severs : MethodName := ⟨"TwoWellsModel", "severs", "(I)I"⟩
abbrev cX11_soonest : ByteArray := prog_13_method_71_code
def yX11_soonest : MethodName := ⟨"TwoWellsModel", "soonest", "(II)I"⟩
abbrev cX11_stones : ByteArray := prog_13_method_50_code
def yX11_stones : MethodName := ⟨"TwoWellsModel", "stones", "(IZI)I"⟩
abbrev cX11_together : ByteArray := prog_13_method_58_code
def yX11_together : MethodName := ⟨"TwoWellsModel", "together", "()I"⟩
abbrev cX11_write : ByteArray := prog_13_method_92_code
def yX11_write : MethodName := ⟨"TwoWellsModel", "write", "(IIJ)J"⟩
theorem co_mmax : Cond.code Lib.Math.max.name Lib.Math.max.code 2 (some .int) ∈ gw := gw_of (tb_3 (List.mem_of_getElem? (i := 164) rfl)) rfl
theorem st_mmax : Cond.static Lib.Math.max.name ∈ gw := gw_of (tb_3 (List.mem_of_getElem? (i := 163) rfl)) rfl
theorem co_mmin : Cond.code Lib.Math.min.name Lib.Math.min.code 2 (some .int) ∈ gw := gw_of (tb_2 (List.mem_of_getElem? (i := 160) rfl)) rfl
theorem st_mmin : Cond.static Lib.Math.min.name ∈ gw := gw_of (tb_2 (List.mem_of_getElem? (i := 159) rfl)) rfl
theorem co_mabs : Cond.code Lib.Math.abs.name Lib.Math.abs.code 1 (some .int) ∈ gw := gw_of (tb_3 (List.mem_of_getElem? (i := 160) rfl)) rfl
theorem st_mabs : Cond.static Lib.Math.abs.name ∈ gw := gw_of (tb_3 (List.mem_of_getElem? (i := 159) rfl)) rfl
theorem in_X0 : Cond.initialized "TwoWells$Homes" ∈ gw := gw_of (tb_1 (List.mem_of_getElem? (i := 7) rfl)) rfl
theorem is_0 : Cond.instantiable "TwoWells$Homes" 6 ∈ gw := gw_of (tb_2 (List.mem_of_getElem? (i := 37) rfl)) rfl
theorem in_X1 : Cond.initialized "TwoWells$Land" ∈ gw := gw_of (tb_1 (List.mem_of_getElem? (i := 3) rfl)) rfl
theorem is_1 : Cond.instantiable "TwoWells$Land" 18 ∈ gw := gw_of (tb_1 (List.mem_of_getElem? (i := 68) rfl)) rfl
theorem in_X2 : Cond.initialized "TwoWells$Lonely" ∈ gw := gw_of (tb_1 (List.mem_of_getElem? (i := 6) rfl)) rfl
theorem is_2 : Cond.instantiable "TwoWells$Lonely" 7 ∈ gw := gw_of (tb_2 (List.mem_of_getElem? (i := 5) rfl)) rfl
theorem in_X3 : Cond.initialized "TwoWells$NumberRow" ∈ gw := gw_of (tb_1 (List.mem_of_getElem? (i := 9) rfl)) rfl
theorem is_3 : Cond.instantiable "TwoWells$NumberRow" 3 ∈ gw := gw_of (tb_2 (List.mem_of_getElem? (i := 87) rfl)) rfl
theorem in_X4 : Cond.initialized "TwoWells$Search" ∈ gw := gw_of (tb_1 (List.mem_of_getElem? (i := 19) rfl)) rfl
theorem is_4 : Cond.instantiable "TwoWells$Search" 14 ∈ gw := gw_of (tb_4 (List.mem_of_getElem? (i := 117) rfl)) rfl
theorem in_X5 : Cond.initialized "TwoWells$Sight" ∈ gw := gw_of (tb_1 (List.mem_of_getElem? (i := 8) rfl)) rfl
theorem is_5 : Cond.instantiable "TwoWells$Sight" 4 ∈ gw := gw_of (tb_2 (List.mem_of_getElem? (i := 67) rfl)) rfl
theorem in_X6 : Cond.initialized "TwoWells$StateSet" ∈ gw := gw_of (tb_1 (List.mem_of_getElem? (i := 20) rfl)) rfl
theorem is_6 : Cond.instantiable "TwoWells$StateSet" 4 ∈ gw := gw_of (tb_4 (List.mem_of_getElem? (i := 123) rfl)) rfl
theorem in_X7 : Cond.initialized "TwoWells$Tally" ∈ gw := gw_of (tb_1 (List.mem_of_getElem? (i := 4) rfl)) rfl
theorem is_7 : Cond.instantiable "TwoWells$Tally" 8 ∈ gw := gw_of (tb_1 (List.mem_of_getElem? (i := 195) rfl)) rfl
theorem in_X8 : Cond.initialized "TwoWells$Tape" ∈ gw := gw_of (tb_1 (List.mem_of_getElem? (i := 2) rfl)) rfl
theorem is_8 : Cond.instantiable "TwoWells$Tape" 9 ∈ gw := gw_of (tb_1 (List.mem_of_getElem? (i := 30) rfl)) rfl
theorem in_X9 : Cond.initialized "TwoWells$Ties" ∈ gw := gw_of (tb_1 (List.mem_of_getElem? (i := 5) rfl)) rfl
theorem is_9 : Cond.instantiable "TwoWells$Ties" 2 ∈ gw := gw_of (tb_1 (List.mem_of_getElem? (i := 232) rfl)) rfl
theorem in_X10 : Cond.initialized "TwoWells" ∈ gw := gw_of (tb_1 (List.mem_of_getElem? (i := 1) rfl)) rfl
theorem is_10 : Cond.instantiable "TwoWells" 12 ∈ gw := gw_of (tb_1 (List.mem_of_getElem? (i := 22) rfl)) rfl
theorem in_X11 : Cond.initialized "TwoWellsModel" ∈ gw := gw_of (tb_1 (List.mem_of_getElem? (i := 10) rfl)) rfl
theorem is_11 : Cond.instantiable "TwoWellsModel" 44 ∈ gw := gw_of (tb_5 (List.mem_of_getElem? (i := 190) rfl)) rfl
theorem in_J0 : Cond.initialized "java/lang/String" ∈ gw := gw_of (tb_1 (List.mem_of_getElem? (i := 12) rfl)) rfl
theorem in_J1 : Cond.initialized "java/lang/StringLatin1" ∈ gw := gw_of (tb_1 (List.mem_of_getElem? (i := 13) rfl)) rfl
theorem in_J10 : Cond.initialized "java/lang/System" ∈ gw := gw_of (tb_1 (List.mem_of_getElem? (i := 16) rfl)) rfl
theorem in_J2 : Cond.initialized "java/lang/StringUTF16" ∈ gw := gw_of (tb_1 (List.mem_of_getElem? (i := 15) rfl)) rfl
theorem in_J3 : Cond.initialized "jdk/internal/util/Preconditions" ∈ gw := gw_of (tb_1 (List.mem_of_getElem? (i := 14) rfl)) rfl
theorem in_J6 : Cond.initialized "java/lang/Integer" ∈ gw := gw_of (tb_1 (List.mem_of_getElem? (i := 18) rfl)) rfl
theorem in_J7 : Cond.initialized "java/util/Arrays" ∈ gw := gw_of (tb_1 (List.mem_of_getElem? (i := 17) rfl)) rfl
theorem in_J9 : Cond.initialized "java/lang/Math" ∈ gw := gw_of (tb_1 (List.mem_of_getElem? (i := 11) rfl)) rfl
theorem nt_cp : Cond.native arraycopyName ∈ gw := gw_of (tb_3 (List.mem_of_getElem? (i := 62) rfl)) rfl
theorem st_cp : Cond.static arraycopyName ∈ gw := gw_of (tb_3 (List.mem_of_getElem? (i := 61) rfl)) rfl
theorem in_Sys : Cond.initialized "java/lang/System" ∈ gw := gw_of (tb_1 (List.mem_of_getElem? (i := 16) rfl)) rfl
theorem ac_0 : Cond.arrayClass (elT 0) ∈ gw := gw_of (tb_1 (List.mem_of_getElem? (i := 189) rfl)) rfl
theorem ac_1 : Cond.arrayClass (elT 1) ∈ gw := gw_of (tb_1 (List.mem_of_getElem? (i := 66) rfl)) rfl
theorem ac_2 : Cond.arrayClass (elT 2) ∈ gw := gw_of (tb_1 (List.mem_of_getElem? (i := 190) rfl)) rfl
theorem ac_3 : Cond.arrayClass (elT 3) ∈ gw := gw_of (tb_2 (List.mem_of_getElem? (i := 104) rfl)) rfl
theorem im_obj : Cond.instanceMethod Lib.objectInit ∈ gw := gw_of (tb_1 (List.mem_of_getElem? (i := 27) rfl)) rfl
theorem co_obj : Cond.code Lib.objectInit ⟨#[0xb1]⟩ 1 none ∈ gw := gw_of (tb_1 (List.mem_of_getElem? (i := 28) rfl)) rfl
theorem co_J0_isLatin1_aae02 : Cond.code yJ0_isLatin1_aae02 cJ0_isLatin1_aae02 1 (some .boolean) ∈ gw := gw_of (tb_2 (List.mem_of_getElem? (i := 216) rfl)) rfl
theorem im_J0_isLatin1_aae02 : Cond.instanceMethod yJ0_isLatin1_aae02 ∈ gw := gw_of (tb_2 (List.mem_of_getElem? (i := 214) rfl)) rfl
theorem se_J0_isLatin1_aae02 : Cond.selects yJ0_isLatin1_aae02.cls yJ0_isLatin1_aae02 yJ0_isLatin1_aae02 ∈ gw := gw_of (tb_2 (List.mem_of_getElem? (i := 215) rfl)) rfl
theorem co_J3_checkIndex_8e157 : Cond.code yJ3_checkIndex_8e157 cJ3_checkIndex_8e157 3 (some .int) ∈ gw := gw_of (tb_2 (List.mem_of_getElem? (i := 227) rfl)) rfl
theorem st_J3_checkIndex_8e157 : Cond.static yJ3_checkIndex_8e157 ∈ gw := gw_of (tb_2 (List.mem_of_getElem? (i := 226) rfl)) rfl
theorem co_J0_checkIndex_df160 : Cond.code yJ0_checkIndex_df160 cJ0_checkIndex_df160 2 none ∈ gw := gw_of (tb_2 (List.mem_of_getElem? (i := 222) rfl)) rfl
theorem st_J0_checkIndex_df160 : Cond.static yJ0_checkIndex_df160 ∈ gw := gw_of (tb_2 (List.mem_of_getElem? (i := 221) rfl)) rfl
theorem co_J1_charAt_3b067 : Cond.code yJ1_charAt_3b067 cJ1_charAt_3b067 2 (some .char) ∈ gw := gw_of (tb_2 (List.mem_of_getElem? (i := 219) rfl)) rfl
theorem st_J1_charAt_3b067 : Cond.static yJ1_charAt_3b067 ∈ gw := gw_of (tb_2 (List.mem_of_getElem? (i := 218) rfl)) rfl
theorem co_J0_charAt_5068e : Cond.code yJ0_charAt_5068e cJ0_charAt_5068e 2 (some .char) ∈ gw := gw_of (tb_2 (List.mem_of_getElem? (i := 212) rfl)) rfl
theorem im_J0_charAt_5068e : Cond.instanceMethod yJ0_charAt_5068e ∈ gw := gw_of (tb_2 (List.mem_of_getElem? (i := 210) rfl)) rfl
theorem se_J0_charAt_5068e : Cond.selects yJ0_charAt_5068e.cls yJ0_charAt_5068e yJ0_charAt_5068e ∈ gw := gw_of (tb_2 (List.mem_of_getElem? (i := 211) rfl)) rfl
theorem co_J0_coder_7d493 : Cond.code yJ0_coder_7d493 cJ0_coder_7d493 1 (some .byte) ∈ gw := gw_of (tb_2 (List.mem_of_getElem? (i := 206) rfl)) rfl
theorem im_J0_coder_7d493 : Cond.instanceMethod yJ0_coder_7d493 ∈ gw := gw_of (tb_2 (List.mem_of_getElem? (i := 204) rfl)) rfl
theorem se_J0_coder_7d493 : Cond.selects yJ0_coder_7d493.cls yJ0_coder_7d493 yJ0_coder_7d493 ∈ gw := gw_of (tb_2 (List.mem_of_getElem? (i := 205) rfl)) rfl
theorem co_J0_length_8abf5 : Cond.code yJ0_length_8abf5 cJ0_length_8abf5 1 (some .int) ∈ gw := gw_of (tb_2 (List.mem_of_getElem? (i := 202) rfl)) rfl
theorem im_J0_length_8abf5 : Cond.instanceMethod yJ0_length_8abf5 ∈ gw := gw_of (tb_2 (List.mem_of_getElem? (i := 200) rfl)) rfl
theorem se_J0_length_8abf5 : Cond.selects yJ0_length_8abf5.cls yJ0_length_8abf5 yJ0_length_8abf5 ∈ gw := gw_of (tb_2 (List.mem_of_getElem? (i := 201) rfl)) rfl
theorem co_J6_bitCount_0f7a4 : Cond.code yJ6_bitCount_0f7a4 cJ6_bitCount_0f7a4 1 (some .int) ∈ gw := gw_of (tb_4 (List.mem_of_getElem? (i := 72) rfl)) rfl
theorem st_J6_bitCount_0f7a4 : Cond.static yJ6_bitCount_0f7a4 ∈ gw := gw_of (tb_4 (List.mem_of_getElem? (i := 71) rfl)) rfl
theorem co_J7_fill_53178 : Cond.code yJ7_fill_53178 cJ7_fill_53178 4 none ∈ gw := gw_of (tb_3 (List.mem_of_getElem? (i := 131) rfl)) rfl
theorem st_J7_fill_53178 : Cond.static yJ7_fill_53178 ∈ gw := gw_of (tb_3 (List.mem_of_getElem? (i := 130) rfl)) rfl
theorem co_J7_fill_d0a16 : Cond.code yJ7_fill_d0a16 cJ7_fill_d0a16 5 none ∈ gw := gw_of (tb_5 (List.mem_of_getElem? (i := 149) rfl)) rfl
theorem st_J7_fill_d0a16 : Cond.static yJ7_fill_d0a16 ∈ gw := gw_of (tb_5 (List.mem_of_getElem? (i := 148) rfl)) rfl
theorem co_X0_clashWithPlaced : Cond.code yX0_clashWithPlaced cX0_clashWithPlaced 6 (some .int) ∈ gw := gw_of (tb_5 (List.mem_of_getElem? (i := 93) rfl)) rfl
theorem im_X0_clashWithPlaced : Cond.instanceMethod yX0_clashWithPlaced ∈ gw := gw_of (tb_5 (List.mem_of_getElem? (i := 92) rfl)) rfl
theorem se_X0_clashWithPlaced : Cond.selects yX0_clashWithPlaced.cls yX0_clashWithPlaced yX0_clashWithPlaced ∈ gw := gw_of (List.mem_append_left _ (List.mem_of_getElem? (i := 43) rfl)) rfl
theorem co_X0_countRopes : Cond.code yX0_countRopes cX0_countRopes 5 none ∈ gw := gw_of (tb_5 (List.mem_of_getElem? (i := 83) rfl)) rfl
theorem im_X0_countRopes : Cond.instanceMethod yX0_countRopes ∈ gw := gw_of (tb_5 (List.mem_of_getElem? (i := 82) rfl)) rfl
theorem se_X0_countRopes : Cond.selects yX0_countRopes.cls yX0_countRopes yX0_countRopes ∈ gw := gw_of (List.mem_append_left _ (List.mem_of_getElem? (i := 41) rfl)) rfl
theorem co_X0_init : Cond.code yX0_init cX0_init 1 none ∈ gw := gw_of (tb_2 (List.mem_of_getElem? (i := 40) rfl)) rfl
theorem im_X0_init : Cond.instanceMethod yX0_init ∈ gw := gw_of (tb_2 (List.mem_of_getElem? (i := 39) rfl)) rfl
theorem co_X0_place : Cond.code yX0_place cX0_place 8 none ∈ gw := gw_of (tb_5 (List.mem_of_getElem? (i := 88) rfl)) rfl
theorem im_X0_place : Cond.instanceMethod yX0_place ∈ gw := gw_of (tb_5 (List.mem_of_getElem? (i := 87) rfl)) rfl
theorem se_X0_place : Cond.selects yX0_place.cls yX0_place yX0_place ∈ gw := gw_of (List.mem_append_left _ (List.mem_of_getElem? (i := 42) rfl)) rfl
theorem co_X0_settle : Cond.code yX0_settle cX0_settle 2 none ∈ gw := gw_of (tb_5 (List.mem_of_getElem? (i := 78) rfl)) rfl
theorem im_X0_settle : Cond.instanceMethod yX0_settle ∈ gw := gw_of (tb_5 (List.mem_of_getElem? (i := 76) rfl)) rfl
theorem se_X0_settle : Cond.selects yX0_settle.cls yX0_settle yX0_settle ∈ gw := gw_of (tb_5 (List.mem_of_getElem? (i := 77) rfl)) rfl
theorem co_X1_hasHouse : Cond.code yX1_hasHouse cX1_hasHouse 2 (some .boolean) ∈ gw := gw_of (tb_3 (List.mem_of_getElem? (i := 78) rfl)) rfl
theorem im_X1_hasHouse : Cond.instanceMethod yX1_hasHouse ∈ gw := gw_of (tb_3 (List.mem_of_getElem? (i := 76) rfl)) rfl
theorem se_X1_hasHouse : Cond.selects yX1_hasHouse.cls yX1_hasHouse yX1_hasHouse ∈ gw := gw_of (tb_3 (List.mem_of_getElem? (i := 77) rfl)) rfl
theorem co_X1_hasRope : Cond.code yX1_hasRope cX1_hasRope 2 (some .boolean) ∈ gw := gw_of (tb_3 (List.mem_of_getElem? (i := 95) rfl)) rfl
theorem im_X1_hasRope : Cond.instanceMethod yX1_hasRope ∈ gw := gw_of (tb_3 (List.mem_of_getElem? (i := 93) rfl)) rfl
theorem se_X1_hasRope : Cond.selects yX1_hasRope.cls yX1_hasRope yX1_hasRope ∈ gw := gw_of (tb_3 (List.mem_of_getElem? (i := 94) rfl)) rfl
theorem co_X1_hangs : Cond.code yX1_hangs cX1_hangs 3 (some .boolean) ∈ gw := gw_of (tb_3 (List.mem_of_getElem? (i := 90) rfl)) rfl
theorem im_X1_hangs : Cond.instanceMethod yX1_hangs ∈ gw := gw_of (tb_3 (List.mem_of_getElem? (i := 88) rfl)) rfl
theorem se_X1_hangs : Cond.selects yX1_hangs.cls yX1_hangs yX1_hangs ∈ gw := gw_of (tb_3 (List.mem_of_getElem? (i := 89) rfl)) rfl
theorem co_X1_hangsOpen : Cond.code yX1_hangsOpen cX1_hangsOpen 3 (some .boolean) ∈ gw := gw_of (tb_3 (List.mem_of_getElem? (i := 215) rfl)) rfl
theorem im_X1_hangsOpen : Cond.instanceMethod yX1_hangsOpen ∈ gw := gw_of (tb_3 (List.mem_of_getElem? (i := 213) rfl)) rfl
theorem se_X1_hangsOpen : Cond.selects yX1_hangsOpen.cls yX1_hangsOpen yX1_hangsOpen ∈ gw := gw_of (tb_3 (List.mem_of_getElem? (i := 214) rfl)) rfl
theorem co_X1_openCount : Cond.code yX1_openCount cX1_openCount 4 (some .int) ∈ gw := gw_of (tb_4 (List.mem_of_getElem? (i := 21) rfl)) rfl
theorem im_X1_openCount : Cond.instanceMethod yX1_openCount ∈ gw := gw_of (tb_4 (List.mem_of_getElem? (i := 19) rfl)) rfl
theorem se_X1_openCount : Cond.selects yX1_openCount.cls yX1_openCount yX1_openCount ∈ gw := gw_of (tb_4 (List.mem_of_getElem? (i := 20) rfl)) rfl
theorem co_X1_takeMoved : Cond.code yX1_takeMoved cX1_takeMoved 2 none ∈ gw := gw_of (tb_3 (List.mem_of_getElem? (i := 66) rfl)) rfl
theorem im_X1_takeMoved : Cond.instanceMethod yX1_takeMoved ∈ gw := gw_of (tb_3 (List.mem_of_getElem? (i := 64) rfl)) rfl
theorem se_X1_takeMoved : Cond.selects yX1_takeMoved.cls yX1_takeMoved yX1_takeMoved ∈ gw := gw_of (tb_3 (List.mem_of_getElem? (i := 65) rfl)) rfl
theorem co_X1_takeAll : Cond.code yX1_takeAll cX1_takeAll 2 none ∈ gw := gw_of (tb_3 (List.mem_of_getElem? (i := 59) rfl)) rfl
theorem im_X1_takeAll : Cond.instanceMethod yX1_takeAll ∈ gw := gw_of (tb_3 (List.mem_of_getElem? (i := 57) rfl)) rfl
theorem se_X1_takeAll : Cond.selects yX1_takeAll.cls yX1_takeAll yX1_takeAll ∈ gw := gw_of (tb_3 (List.mem_of_getElem? (i := 58) rfl)) rfl
theorem co_X1_had : Cond.code yX1_had cX1_had 2 (some .int) ∈ gw := gw_of (tb_3 (List.mem_of_getElem? (i := 82) rfl)) rfl
theorem im_X1_had : Cond.instanceMethod yX1_had ∈ gw := gw_of (tb_3 (List.mem_of_getElem? (i := 80) rfl)) rfl
theorem se_X1_had : Cond.selects yX1_had.cls yX1_had yX1_had ∈ gw := gw_of (tb_3 (List.mem_of_getElem? (i := 81) rfl)) rfl
theorem co_X2_keepIfMore : Cond.code yX2_keepIfMore cX2_keepIfMore 2 none ∈ gw := gw_of (tb_5 (List.mem_of_getElem? (i := 43) rfl)) rfl
theorem im_X2_keepIfMore : Cond.instanceMethod yX2_keepIfMore ∈ gw := gw_of (tb_5 (List.mem_of_getElem? (i := 42) rfl)) rfl
theorem se_X2_keepIfMore : Cond.selects yX2_keepIfMore.cls yX2_keepIfMore yX2_keepIfMore ∈ gw := gw_of (List.mem_append_left _ (List.mem_of_getElem? (i := 37) rfl)) rfl
theorem co_X2_mostToCome : Cond.code yX2_mostToCome cX2_mostToCome 7 (some .int) ∈ gw := gw_of (tb_5 (List.mem_of_getElem? (i := 48) rfl)) rfl
theorem im_X2_mostToCome : Cond.instanceMethod yX2_mostToCome ∈ gw := gw_of (tb_5 (List.mem_of_getElem? (i := 47) rfl)) rfl
theorem se_X2_mostToCome : Cond.selects yX2_mostToCome.cls yX2_mostToCome yX2_mostToCome ∈ gw := gw_of (List.mem_append_left _ (List.mem_of_getElem? (i := 38) rfl)) rfl
theorem co_X1_emptyWeight : Cond.code yX1_emptyWeight cX1_emptyWeight 2 (some .int) ∈ gw := gw_of (tb_3 (List.mem_of_getElem? (i := 112) rfl)) rfl
theorem im_X1_emptyWeight : Cond.instanceMethod yX1_emptyWeight ∈ gw := gw_of (tb_3 (List.mem_of_getElem? (i := 110) rfl)) rfl
theorem se_X1_emptyWeight : Cond.selects yX1_emptyWeight.cls yX1_emptyWeight yX1_emptyWeight ∈ gw := gw_of (tb_3 (List.mem_of_getElem? (i := 111) rfl)) rfl
theorem co_X1_weight : Cond.code yX1_weight cX1_weight 2 (some .int) ∈ gw := gw_of (tb_3 (List.mem_of_getElem? (i := 108) rfl)) rfl
theorem im_X1_weight : Cond.instanceMethod yX1_weight ∈ gw := gw_of (tb_3 (List.mem_of_getElem? (i := 106) rfl)) rfl
theorem se_X1_weight : Cond.selects yX1_weight.cls yX1_weight yX1_weight ∈ gw := gw_of (tb_3 (List.mem_of_getElem? (i := 107) rfl)) rfl
theorem co_X1_pullLean : Cond.code yX1_pullLean cX1_pullLean 5 (some .int) ∈ gw := gw_of (tb_3 (List.mem_of_getElem? (i := 153) rfl)) rfl
theorem im_X1_pullLean : Cond.instanceMethod yX1_pullLean ∈ gw := gw_of (tb_3 (List.mem_of_getElem? (i := 151) rfl)) rfl
theorem se_X1_pullLean : Cond.selects yX1_pullLean.cls yX1_pullLean yX1_pullLean ∈ gw := gw_of (tb_3 (List.mem_of_getElem? (i := 152) rfl)) rfl
theorem co_X1_depthFrom : Cond.code yX1_depthFrom cX1_depthFrom 5 (some .int) ∈ gw := gw_of (tb_3 (List.mem_of_getElem? (i := 157) rfl)) rfl
theorem im_X1_depthFrom : Cond.instanceMethod yX1_depthFrom ∈ gw := gw_of (tb_3 (List.mem_of_getElem? (i := 155) rfl)) rfl
theorem se_X1_depthFrom : Cond.selects yX1_depthFrom.cls yX1_depthFrom yX1_depthFrom ∈ gw := gw_of (tb_3 (List.mem_of_getElem? (i := 156) rfl)) rfl
theorem co_X1_depthBehind : Cond.code yX1_depthBehind cX1_depthBehind 5 (some .int) ∈ gw := gw_of (tb_3 (List.mem_of_getElem? (i := 148) rfl)) rfl
theorem im_X1_depthBehind : Cond.instanceMethod yX1_depthBehind ∈ gw := gw_of (tb_3 (List.mem_of_getElem? (i := 146) rfl)) rfl
theorem se_X1_depthBehind : Cond.selects yX1_depthBehind.cls yX1_depthBehind yX1_depthBehind ∈ gw := gw_of (tb_3 (List.mem_of_getElem? (i := 147) rfl)) rfl
theorem co_X1_depthOf : Cond.code yX1_depthOf cX1_depthOf 3 (some .int) ∈ gw := gw_of (tb_3 (List.mem_of_getElem? (i := 104) rfl)) rfl
theorem im_X1_depthOf : Cond.instanceMethod yX1_depthOf ∈ gw := gw_of (tb_3 (List.mem_of_getElem? (i := 102) rfl)) rfl
theorem se_X1_depthOf : Cond.selects yX1_depthOf.cls yX1_depthOf yX1_depthOf ∈ gw := gw_of (tb_3 (List.mem_of_getElem? (i := 103) rfl)) rfl
theorem co_X1_fill : Cond.code yX1_fill cX1_fill 3 none ∈ gw := gw_of (tb_3 (List.mem_of_getElem? (i := 168) rfl)) rfl
theorem im_X1_fill : Cond.instanceMethod yX1_fill ∈ gw := gw_of (tb_3 (List.mem_of_getElem? (i := 167) rfl)) rfl
theorem se_X1_fill : Cond.selects yX1_fill.cls yX1_fill yX1_fill ∈ gw := gw_of (List.mem_append_left _ (List.mem_of_getElem? (i := 18) rfl)) rfl
theorem co_X1_thirstsNow : Cond.code yX1_thirstsNow cX1_thirstsNow 2 (some .boolean) ∈ gw := gw_of (tb_3 (List.mem_of_getElem? (i := 177) rfl)) rfl
theorem im_X1_thirstsNow : Cond.instanceMethod yX1_thirstsNow ∈ gw := gw_of (tb_3 (List.mem_of_getElem? (i := 175) rfl)) rfl
theorem se_X1_thirstsNow : Cond.selects yX1_thirstsNow.cls yX1_thirstsNow yX1_thirstsNow ∈ gw := gw_of (tb_3 (List.mem_of_getElem? (i := 176) rfl)) rfl
theorem co_X1_drink : Cond.code yX1_drink cX1_drink 4 (some .int) ∈ gw := gw_of (tb_3 (List.mem_of_getElem? (i := 173) rfl)) rfl
theorem im_X1_drink : Cond.instanceMethod yX1_drink ∈ gw := gw_of (tb_3 (List.mem_of_getElem? (i := 172) rfl)) rfl
theorem se_X1_drink : Cond.selects yX1_drink.cls yX1_drink yX1_drink ∈ gw := gw_of (List.mem_append_left _ (List.mem_of_getElem? (i := 19) rfl)) rfl
theorem co_X1_goOn : Cond.code yX1_goOn cX1_goOn 3 (some .int) ∈ gw := gw_of (tb_3 (List.mem_of_getElem? (i := 144) rfl)) rfl
theorem im_X1_goOn : Cond.instanceMethod yX1_goOn ∈ gw := gw_of (tb_3 (List.mem_of_getElem? (i := 142) rfl)) rfl
theorem se_X1_goOn : Cond.selects yX1_goOn.cls yX1_goOn yX1_goOn ∈ gw := gw_of (tb_3 (List.mem_of_getElem? (i := 143) rfl)) rfl
theorem co_X2_seekPull : Cond.code yX2_seekPull cX2_seekPull 3 none ∈ gw := gw_of (tb_5 (List.mem_of_getElem? (i := 53) rfl)) rfl
theorem im_X2_seekPull : Cond.instanceMethod yX2_seekPull ∈ gw := gw_of (tb_5 (List.mem_of_getElem? (i := 52) rfl)) rfl
theorem se_X2_seekPull : Cond.selects yX2_seekPull.cls yX2_seekPull yX2_seekPull ∈ gw := gw_of (List.mem_append_left _ (List.mem_of_getElem? (i := 39) rfl)) rfl
theorem co_X2_pullMatters : Cond.code yX2_pullMatters cX2_pullMatters 4 (some .boolean) ∈ gw := gw_of (tb_5 (List.mem_of_getElem? (i := 60) rfl)) rfl
theorem im_X2_pullMatters : Cond.instanceMethod yX2_pullMatters ∈ gw := gw_of (tb_5 (List.mem_of_getElem? (i := 59) rfl)) rfl
theorem se_X2_pullMatters : Cond.selects yX2_pullMatters.cls yX2_pullMatters yX2_pullMatters ∈ gw := gw_of (List.mem_append_left _ (List.mem_of_getElem? (i := 40) rfl)) rfl
theorem co_X2_seekFrom : Cond.code yX2_seekFrom cX2_seekFrom 5 none ∈ gw := gw_of (tb_5 (List.mem_of_getElem? (i := 38) rfl)) rfl
theorem im_X2_seekFrom : Cond.instanceMethod yX2_seekFrom ∈ gw := gw_of (tb_5 (List.mem_of_getElem? (i := 37) rfl)) rfl
theorem se_X2_seekFrom : Cond.selects yX2_seekFrom.cls yX2_seekFrom yX2_seekFrom ∈ gw := gw_of (List.mem_append_left _ (List.mem_of_getElem? (i := 36) rfl)) rfl
theorem co_X2_seek : Cond.code yX2_seek cX2_seek 5 none ∈ gw := gw_of (tb_5 (List.mem_of_getElem? (i := 32) rfl)) rfl
theorem im_X2_seek : Cond.instanceMethod yX2_seek ∈ gw := gw_of (tb_5 (List.mem_of_getElem? (i := 30) rfl)) rfl
theorem se_X2_seek : Cond.selects yX2_seek.cls yX2_seek yX2_seek ∈ gw := gw_of (tb_5 (List.mem_of_getElem? (i := 31) rfl)) rfl
theorem co_X10_alone : Cond.code yX10_alone cX10_alone 5 (some .int) ∈ gw := gw_of (tb_5 (List.mem_of_getElem? (i := 27) rfl)) rfl
theorem im_X10_alone : Cond.instanceMethod yX10_alone ∈ gw := gw_of (tb_5 (List.mem_of_getElem? (i := 25) rfl)) rfl
theorem se_X10_alone : Cond.selects yX10_alone.cls yX10_alone yX10_alone ∈ gw := gw_of (tb_5 (List.mem_of_getElem? (i := 26) rfl)) rfl
theorem co_X1_restBits : Cond.code yX1_restBits cX1_restBits 3 (some .int) ∈ gw := gw_of (tb_4 (List.mem_of_getElem? (i := 42) rfl)) rfl
theorem im_X1_restBits : Cond.instanceMethod yX1_restBits ∈ gw := gw_of (tb_4 (List.mem_of_getElem? (i := 40) rfl)) rfl
theorem se_X1_restBits : Cond.selects yX1_restBits.cls yX1_restBits yX1_restBits ∈ gw := gw_of (tb_4 (List.mem_of_getElem? (i := 41) rfl)) rfl
theorem co_X7_clearPulls : Cond.code yX7_clearPulls cX7_clearPulls 1 none ∈ gw := gw_of (tb_3 (List.mem_of_getElem? (i := 128) rfl)) rfl
theorem im_X7_clearPulls : Cond.instanceMethod yX7_clearPulls ∈ gw := gw_of (tb_3 (List.mem_of_getElem? (i := 127) rfl)) rfl
theorem se_X7_clearPulls : Cond.selects yX7_clearPulls.cls yX7_clearPulls yX7_clearPulls ∈ gw := gw_of (List.mem_append_left _ (List.mem_of_getElem? (i := 15) rfl)) rfl
theorem co_X7_begin : Cond.code yX7_begin cX7_begin 1 none ∈ gw := gw_of (tb_3 (List.mem_of_getElem? (i := 124) rfl)) rfl
theorem im_X7_begin : Cond.instanceMethod yX7_begin ∈ gw := gw_of (tb_3 (List.mem_of_getElem? (i := 123) rfl)) rfl
theorem se_X7_begin : Cond.selects yX7_begin.cls yX7_begin yX7_begin ∈ gw := gw_of (List.mem_append_left _ (List.mem_of_getElem? (i := 14) rfl)) rfl
theorem co_X7_addPull : Cond.code yX7_addPull cX7_addPull 3 none ∈ gw := gw_of (tb_3 (List.mem_of_getElem? (i := 136) rfl)) rfl
theorem im_X7_addPull : Cond.instanceMethod yX7_addPull ∈ gw := gw_of (tb_3 (List.mem_of_getElem? (i := 135) rfl)) rfl
theorem se_X7_addPull : Cond.selects yX7_addPull.cls yX7_addPull yX7_addPull ∈ gw := gw_of (List.mem_append_left _ (List.mem_of_getElem? (i := 16) rfl)) rfl
theorem co_X7_endHour : Cond.code yX7_endHour cX7_endHour 2 none ∈ gw := gw_of (tb_3 (List.mem_of_getElem? (i := 140) rfl)) rfl
theorem im_X7_endHour : Cond.instanceMethod yX7_endHour ∈ gw := gw_of (tb_3 (List.mem_of_getElem? (i := 139) rfl)) rfl
theorem se_X7_endHour : Cond.selects yX7_endHour.cls yX7_endHour yX7_endHour ∈ gw := gw_of (List.mem_append_left _ (List.mem_of_getElem? (i := 17) rfl)) rfl
theorem co_X7_doHour : Cond.code yX7_doHour cX7_doHour 4 none ∈ gw := gw_of (tb_3 (List.mem_of_getElem? (i := 120) rfl)) rfl
theorem im_X7_doHour : Cond.instanceMethod yX7_doHour ∈ gw := gw_of (tb_3 (List.mem_of_getElem? (i := 118) rfl)) rfl
theorem se_X7_doHour : Cond.selects yX7_doHour.cls yX7_doHour yX7_doHour ∈ gw := gw_of (tb_3 (List.mem_of_getElem? (i := 119) rfl)) rfl
theorem co_X10_calm : Cond.code yX10_calm cX10_calm 2 (some .int) ∈ gw := gw_of (tb_4 (List.mem_of_getElem? (i := 46) rfl)) rfl
theorem im_X10_calm : Cond.instanceMethod yX10_calm ∈ gw := gw_of (tb_4 (List.mem_of_getElem? (i := 44) rfl)) rfl
theorem se_X10_calm : Cond.selects yX10_calm.cls yX10_calm yX10_calm ∈ gw := gw_of (tb_4 (List.mem_of_getElem? (i := 45) rfl)) rfl
theorem co_X6_init : Cond.code yX6_init cX6_init 1 none ∈ gw := gw_of (tb_4 (List.mem_of_getElem? (i := 126) rfl)) rfl
theorem im_X6_init : Cond.instanceMethod yX6_init ∈ gw := gw_of (tb_4 (List.mem_of_getElem? (i := 125) rfl)) rfl
theorem co_X4_init : Cond.code yX4_init cX4_init 2 none ∈ gw := gw_of (tb_4 (List.mem_of_getElem? (i := 120) rfl)) rfl
theorem im_X4_init : Cond.instanceMethod yX4_init ∈ gw := gw_of (tb_4 (List.mem_of_getElem? (i := 119) rfl)) rfl
theorem co_X10_searcher : Cond.code yX10_searcher cX10_searcher 1 (some (.object "TwoWells$Search")) ∈ gw := gw_of (tb_4 (List.mem_of_getElem? (i := 115) rfl)) rfl
theorem im_X10_searcher : Cond.instanceMethod yX10_searcher ∈ gw := gw_of (tb_4 (List.mem_of_getElem? (i := 114) rfl)) rfl
theorem se_X10_searcher : Cond.selects yX10_searcher.cls yX10_searcher yX10_searcher ∈ gw := gw_of (List.mem_append_left _ (List.mem_of_getElem? (i := 25) rfl)) rfl
theorem co_X4_listFrom : Cond.code yX4_listFrom cX4_listFrom 6 none ∈ gw := gw_of (tb_4 (List.mem_of_getElem? (i := 202) rfl)) rfl
theorem im_X4_listFrom : Cond.instanceMethod yX4_listFrom ∈ gw := gw_of (tb_4 (List.mem_of_getElem? (i := 201) rfl)) rfl
theorem se_X4_listFrom : Cond.selects yX4_listFrom.cls yX4_listFrom yX4_listFrom ∈ gw := gw_of (List.mem_append_left _ (List.mem_of_getElem? (i := 28) rfl)) rfl
theorem co_X4_listChoices : Cond.code yX4_listChoices cX4_listChoices 2 none ∈ gw := gw_of (tb_4 (List.mem_of_getElem? (i := 198) rfl)) rfl
theorem im_X4_listChoices : Cond.instanceMethod yX4_listChoices ∈ gw := gw_of (tb_4 (List.mem_of_getElem? (i := 197) rfl)) rfl
theorem se_X4_listChoices : Cond.selects yX4_listChoices.cls yX4_listChoices yX4_listChoices ∈ gw := gw_of (List.mem_append_left _ (List.mem_of_getElem? (i := 27) rfl)) rfl
theorem co_X4_prepare : Cond.code yX4_prepare cX4_prepare 5 (some .boolean) ∈ gw := gw_of (tb_4 (List.mem_of_getElem? (i := 194) rfl)) rfl
theorem im_X4_prepare : Cond.instanceMethod yX4_prepare ∈ gw := gw_of (tb_4 (List.mem_of_getElem? (i := 193) rfl)) rfl
theorem se_X4_prepare : Cond.selects yX4_prepare.cls yX4_prepare yX4_prepare ∈ gw := gw_of (List.mem_append_left _ (List.mem_of_getElem? (i := 26) rfl)) rfl
theorem co_X6_clear : Cond.code yX6_clear cX6_clear 1 none ∈ gw := gw_of (tb_4 (List.mem_of_getElem? (i := 207) rfl)) rfl
theorem im_X6_clear : Cond.instanceMethod yX6_clear ∈ gw := gw_of (tb_4 (List.mem_of_getElem? (i := 205) rfl)) rfl
theorem se_X6_clear : Cond.selects yX6_clear.cls yX6_clear yX6_clear ∈ gw := gw_of (tb_4 (List.mem_of_getElem? (i := 206) rfl)) rfl
theorem co_X4_stateNow : Cond.code yX4_stateNow cX4_stateNow 5 (some .long) ∈ gw := gw_of (tb_4 (List.mem_of_getElem? (i := 212) rfl)) rfl
theorem im_X4_stateNow : Cond.instanceMethod yX4_stateNow ∈ gw := gw_of (tb_4 (List.mem_of_getElem? (i := 211) rfl)) rfl
theorem se_X4_stateNow : Cond.selects yX4_stateNow.cls yX4_stateNow yX4_stateNow ∈ gw := gw_of (List.mem_append_left _ (List.mem_of_getElem? (i := 29) rfl)) rfl
theorem co_X6_overflows : Cond.code yX6_overflows cX6_overflows 1 (some .boolean) ∈ gw := gw_of (tb_4 (List.mem_of_getElem? (i := 222) rfl)) rfl
theorem im_X6_overflows : Cond.instanceMethod yX6_overflows ∈ gw := gw_of (tb_4 (List.mem_of_getElem? (i := 220) rfl)) rfl
theorem se_X6_overflows : Cond.selects yX6_overflows.cls yX6_overflows yX6_overflows ∈ gw := gw_of (tb_4 (List.mem_of_getElem? (i := 221) rfl)) rfl
theorem co_X6_add : Cond.code yX6_add cX6_add 7 none ∈ gw := gw_of (tb_4 (List.mem_of_getElem? (i := 216) rfl)) rfl
theorem im_X6_add : Cond.instanceMethod yX6_add ∈ gw := gw_of (tb_4 (List.mem_of_getElem? (i := 214) rfl)) rfl
theorem se_X6_add : Cond.selects yX6_add.cls yX6_add yX6_add ∈ gw := gw_of (tb_4 (List.mem_of_getElem? (i := 215) rfl)) rfl
theorem co_X4_weightIn : Cond.code yX4_weightIn cX4_weightIn 6 (some .int) ∈ gw := gw_of (tb_4 (List.mem_of_getElem? (i := 234) rfl)) rfl
theorem im_X4_weightIn : Cond.instanceMethod yX4_weightIn ∈ gw := gw_of (tb_4 (List.mem_of_getElem? (i := 233) rfl)) rfl
theorem se_X4_weightIn : Cond.selects yX4_weightIn.cls yX4_weightIn yX4_weightIn ∈ gw := gw_of (List.mem_append_left _ (List.mem_of_getElem? (i := 32) rfl)) rfl
theorem co_X4_firstLike : Cond.code yX4_firstLike cX4_firstLike 5 (some .int) ∈ gw := gw_of (tb_5 (List.mem_of_getElem? (i := 1) rfl)) rfl
theorem im_X4_firstLike : Cond.instanceMethod yX4_firstLike ∈ gw := gw_of (tb_5 (List.mem_of_getElem? (i := 0) rfl)) rfl
theorem se_X4_firstLike : Cond.selects yX4_firstLike.cls yX4_firstLike yX4_firstLike ∈ gw := gw_of (List.mem_append_left _ (List.mem_of_getElem? (i := 33) rfl)) rfl
theorem co_X4_lookAhead : Cond.code yX4_lookAhead cX4_lookAhead 9 none ∈ gw := gw_of (tb_4 (List.mem_of_getElem? (i := 230) rfl)) rfl
theorem im_X4_lookAhead : Cond.instanceMethod yX4_lookAhead ∈ gw := gw_of (tb_4 (List.mem_of_getElem? (i := 229) rfl)) rfl
theorem se_X4_lookAhead : Cond.selects yX4_lookAhead.cls yX4_lookAhead yX4_lookAhead ∈ gw := gw_of (List.mem_append_left _ (List.mem_of_getElem? (i := 31) rfl)) rfl
theorem co_X4_likeChoice : Cond.code yX4_likeChoice cX4_likeChoice 4 (some .int) ∈ gw := gw_of (tb_5 (List.mem_of_getElem? (i := 5) rfl)) rfl
theorem im_X4_likeChoice : Cond.instanceMethod yX4_likeChoice ∈ gw := gw_of (tb_5 (List.mem_of_getElem? (i := 4) rfl)) rfl
theorem se_X4_likeChoice : Cond.selects yX4_likeChoice.cls yX4_likeChoice yX4_likeChoice ∈ gw := gw_of (List.mem_append_left _ (List.mem_of_getElem? (i := 34) rfl)) rfl
theorem co_X4_behindHour : Cond.code yX4_behindHour cX4_behindHour 14 (some .long) ∈ gw := gw_of (tb_5 (List.mem_of_getElem? (i := 9) rfl)) rfl
theorem im_X4_behindHour : Cond.instanceMethod yX4_behindHour ∈ gw := gw_of (tb_5 (List.mem_of_getElem? (i := 8) rfl)) rfl
theorem se_X4_behindHour : Cond.selects yX4_behindHour.cls yX4_behindHour yX4_behindHour ∈ gw := gw_of (List.mem_append_left _ (List.mem_of_getElem? (i := 35) rfl)) rfl
theorem co_X4_spread : Cond.code yX4_spread cX4_spread 12 none ∈ gw := gw_of (tb_4 (List.mem_of_getElem? (i := 226) rfl)) rfl
theorem im_X4_spread : Cond.instanceMethod yX4_spread ∈ gw := gw_of (tb_4 (List.mem_of_getElem? (i := 225) rfl)) rfl
theorem se_X4_spread : Cond.selects yX4_spread.cls yX4_spread yX4_spread ∈ gw := gw_of (List.mem_append_left _ (List.mem_of_getElem? (i := 30) rfl)) rfl
theorem co_X4_fewestPulls : Cond.code yX4_fewestPulls cX4_fewestPulls 5 (some .int) ∈ gw := gw_of (tb_5 (List.mem_of_getElem? (i := 23) rfl)) rfl
theorem im_X4_fewestPulls : Cond.instanceMethod yX4_fewestPulls ∈ gw := gw_of (tb_5 (List.mem_of_getElem? (i := 21) rfl)) rfl
theorem se_X4_fewestPulls : Cond.selects yX4_fewestPulls.cls yX4_fewestPulls yX4_fewestPulls ∈ gw := gw_of (tb_5 (List.mem_of_getElem? (i := 22) rfl)) rfl
theorem co_X10_cheapest : Cond.code yX10_cheapest cX10_cheapest 3 (some .int) ∈ gw := gw_of (tb_5 (List.mem_of_getElem? (i := 19) rfl)) rfl
theorem im_X10_cheapest : Cond.instanceMethod yX10_cheapest ∈ gw := gw_of (tb_5 (List.mem_of_getElem? (i := 17) rfl)) rfl
theorem se_X10_cheapest : Cond.selects yX10_cheapest.cls yX10_cheapest yX10_cheapest ∈ gw := gw_of (tb_5 (List.mem_of_getElem? (i := 18) rfl)) rfl
theorem co_X1_sharedThirst : Cond.code yX1_sharedThirst cX1_sharedThirst 2 (some .int) ∈ gw := gw_of (tb_5 (List.mem_of_getElem? (i := 102) rfl)) rfl
theorem im_X1_sharedThirst : Cond.instanceMethod yX1_sharedThirst ∈ gw := gw_of (tb_5 (List.mem_of_getElem? (i := 100) rfl)) rfl
theorem se_X1_sharedThirst : Cond.selects yX1_sharedThirst.cls yX1_sharedThirst yX1_sharedThirst ∈ gw := gw_of (tb_5 (List.mem_of_getElem? (i := 101) rfl)) rfl
theorem co_X10_clash : Cond.code yX10_clash cX10_clash 4 (some .int) ∈ gw := gw_of (tb_5 (List.mem_of_getElem? (i := 98) rfl)) rfl
theorem im_X10_clash : Cond.instanceMethod yX10_clash ∈ gw := gw_of (tb_5 (List.mem_of_getElem? (i := 96) rfl)) rfl
theorem se_X10_clash : Cond.selects yX10_clash.cls yX10_clash yX10_clash ∈ gw := gw_of (tb_5 (List.mem_of_getElem? (i := 97) rfl)) rfl
theorem co_X10_isRow : Cond.code yX10_isRow cX10_isRow 1 (some .boolean) ∈ gw := gw_of (tb_3 (List.mem_of_getElem? (i := 189) rfl)) rfl
theorem st_X10_isRow : Cond.static yX10_isRow ∈ gw := gw_of (tb_3 (List.mem_of_getElem? (i := 188) rfl)) rfl
theorem co_X3_isMissing : Cond.code yX3_isMissing cX3_isMissing 1 (some .boolean) ∈ gw := gw_of (tb_3 (List.mem_of_getElem? (i := 193) rfl)) rfl
theorem im_X3_isMissing : Cond.instanceMethod yX3_isMissing ∈ gw := gw_of (tb_3 (List.mem_of_getElem? (i := 191) rfl)) rfl
theorem se_X3_isMissing : Cond.selects yX3_isMissing.cls yX3_isMissing yX3_isMissing ∈ gw := gw_of (tb_3 (List.mem_of_getElem? (i := 192) rfl)) rfl
theorem co_X3_cutToSort : Cond.code yX3_cutToSort cX3_cutToSort 3 (some .long) ∈ gw := gw_of (tb_5 (List.mem_of_getElem? (i := 164) rfl)) rfl
theorem im_X3_cutToSort : Cond.instanceMethod yX3_cutToSort ∈ gw := gw_of (tb_5 (List.mem_of_getElem? (i := 163) rfl)) rfl
theorem se_X3_cutToSort : Cond.selects yX3_cutToSort.cls yX3_cutToSort yX3_cutToSort ∈ gw := gw_of (List.mem_append_left _ (List.mem_of_getElem? (i := 48) rfl)) rfl
theorem co_X3_put : Cond.code yX3_put cX3_put 4 (some .long) ∈ gw := gw_of (tb_5 (List.mem_of_getElem? (i := 160) rfl)) rfl
theorem im_X3_put : Cond.instanceMethod yX3_put ∈ gw := gw_of (tb_5 (List.mem_of_getElem? (i := 158) rfl)) rfl
theorem se_X3_put : Cond.selects yX3_put.cls yX3_put yX3_put ∈ gw := gw_of (tb_5 (List.mem_of_getElem? (i := 159) rfl)) rfl
theorem co_X10_copy : Cond.code yX10_copy cX10_copy 3 (some .int) ∈ gw := gw_of (tb_5 (List.mem_of_getElem? (i := 168) rfl)) rfl
theorem im_X10_copy : Cond.instanceMethod yX10_copy ∈ gw := gw_of (tb_5 (List.mem_of_getElem? (i := 166) rfl)) rfl
theorem se_X10_copy : Cond.selects yX10_copy.cls yX10_copy yX10_copy ∈ gw := gw_of (tb_5 (List.mem_of_getElem? (i := 167) rfl)) rfl
theorem co_X1_allStock : Cond.code yX1_allStock cX1_allStock 3 (some .int) ∈ gw := gw_of (tb_5 (List.mem_of_getElem? (i := 184) rfl)) rfl
theorem im_X1_allStock : Cond.instanceMethod yX1_allStock ∈ gw := gw_of (tb_5 (List.mem_of_getElem? (i := 182) rfl)) rfl
theorem se_X1_allStock : Cond.selects yX1_allStock.cls yX1_allStock yX1_allStock ∈ gw := gw_of (tb_5 (List.mem_of_getElem? (i := 183) rfl)) rfl
theorem co_X1_fullBuckets : Cond.code yX1_fullBuckets cX1_fullBuckets 3 (some .int) ∈ gw := gw_of (tb_5 (List.mem_of_getElem? (i := 188) rfl)) rfl
theorem im_X1_fullBuckets : Cond.instanceMethod yX1_fullBuckets ∈ gw := gw_of (tb_5 (List.mem_of_getElem? (i := 186) rfl)) rfl
theorem se_X1_fullBuckets : Cond.selects yX1_fullBuckets.cls yX1_fullBuckets yX1_fullBuckets ∈ gw := gw_of (tb_5 (List.mem_of_getElem? (i := 187) rfl)) rfl
theorem co_X10_count : Cond.code yX10_count cX10_count 2 (some .int) ∈ gw := gw_of (tb_5 (List.mem_of_getElem? (i := 180) rfl)) rfl
theorem im_X10_count : Cond.instanceMethod yX10_count ∈ gw := gw_of (tb_5 (List.mem_of_getElem? (i := 178) rfl)) rfl
theorem se_X10_count : Cond.selects yX10_count.cls yX10_count yX10_count ∈ gw := gw_of (tb_5 (List.mem_of_getElem? (i := 179) rfl)) rfl
theorem co_X10_customRefusal : Cond.code yX10_customRefusal cX10_customRefusal 2 (some .int) ∈ gw := gw_of (tb_3 (List.mem_of_getElem? (i := 227) rfl)) rfl
theorem im_X10_customRefusal : Cond.instanceMethod yX10_customRefusal ∈ gw := gw_of (tb_3 (List.mem_of_getElem? (i := 226) rfl)) rfl
theorem se_X10_customRefusal : Cond.selects yX10_customRefusal.cls yX10_customRefusal yX10_customRefusal ∈ gw := gw_of (List.mem_append_left _ (List.mem_of_getElem? (i := 22) rfl)) rfl
theorem co_X7_firstToLift : Cond.code yX7_firstToLift cX7_firstToLift 4 (some .int) ∈ gw := gw_of (tb_3 (List.mem_of_getElem? (i := 235) rfl)) rfl
theorem st_X7_firstToLift : Cond.static yX7_firstToLift ∈ gw := gw_of (tb_3 (List.mem_of_getElem? (i := 234) rfl)) rfl
theorem co_X7_countBoth : Cond.code yX7_countBoth cX7_countBoth 3 none ∈ gw := gw_of (tb_4 (List.mem_of_getElem? (i := 0) rfl)) rfl
theorem im_X7_countBoth : Cond.instanceMethod yX7_countBoth ∈ gw := gw_of (tb_3 (List.mem_of_getElem? (i := 239) rfl)) rfl
theorem se_X7_countBoth : Cond.selects yX7_countBoth.cls yX7_countBoth yX7_countBoth ∈ gw := gw_of (List.mem_append_left _ (List.mem_of_getElem? (i := 23) rfl)) rfl
theorem co_X7_doCustom : Cond.code yX7_doCustom cX7_doCustom 6 none ∈ gw := gw_of (tb_3 (List.mem_of_getElem? (i := 231) rfl)) rfl
theorem im_X7_doCustom : Cond.instanceMethod yX7_doCustom ∈ gw := gw_of (tb_3 (List.mem_of_getElem? (i := 229) rfl)) rfl
theorem se_X7_doCustom : Cond.selects yX7_doCustom.cls yX7_doCustom yX7_doCustom ∈ gw := gw_of (tb_3 (List.mem_of_getElem? (i := 230) rfl)) rfl
theorem co_X1_allQuenched : Cond.code yX1_allQuenched cX1_allQuenched 3 (some .int) ∈ gw := gw_of (tb_4 (List.mem_of_getElem? (i := 4) rfl)) rfl
theorem im_X1_allQuenched : Cond.instanceMethod yX1_allQuenched ∈ gw := gw_of (tb_4 (List.mem_of_getElem? (i := 2) rfl)) rfl
theorem se_X1_allQuenched : Cond.selects yX1_allQuenched.cls yX1_allQuenched yX1_allQuenched ∈ gw := gw_of (tb_4 (List.mem_of_getElem? (i := 3) rfl)) rfl
theorem co_X10_custom : Cond.code yX10_custom cX10_custom 5 (some .int) ∈ gw := gw_of (tb_3 (List.mem_of_getElem? (i := 223) rfl)) rfl
theorem im_X10_custom : Cond.instanceMethod yX10_custom ∈ gw := gw_of (tb_3 (List.mem_of_getElem? (i := 221) rfl)) rfl
theorem se_X10_custom : Cond.selects yX10_custom.cls yX10_custom yX10_custom ∈ gw := gw_of (tb_3 (List.mem_of_getElem? (i := 222) rfl)) rfl
theorem co_X10_cut : Cond.code yX10_cut cX10_cut 2 (some .int) ∈ gw := gw_of (tb_4 (List.mem_of_getElem? (i := 30) rfl)) rfl
theorem im_X10_cut : Cond.instanceMethod yX10_cut ∈ gw := gw_of (tb_4 (List.mem_of_getElem? (i := 28) rfl)) rfl
theorem se_X10_cut : Cond.selects yX10_cut.cls yX10_cut yX10_cut ∈ gw := gw_of (tb_4 (List.mem_of_getElem? (i := 29) rfl)) rfl
theorem co_X1_openRope : Cond.code yX1_openRope cX1_openRope 5 (some .int) ∈ gw := gw_of (tb_4 (List.mem_of_getElem? (i := 26) rfl)) rfl
theorem im_X1_openRope : Cond.instanceMethod yX1_openRope ∈ gw := gw_of (tb_4 (List.mem_of_getElem? (i := 24) rfl)) rfl
theorem se_X1_openRope : Cond.selects yX1_openRope.cls yX1_openRope yX1_openRope ∈ gw := gw_of (tb_4 (List.mem_of_getElem? (i := 25) rfl)) rfl
theorem co_X7_doDrawn : Cond.code yX7_doDrawn cX7_doDrawn 8 none ∈ gw := gw_of (tb_4 (List.mem_of_getElem? (i := 16) rfl)) rfl
theorem im_X7_doDrawn : Cond.instanceMethod yX7_doDrawn ∈ gw := gw_of (tb_4 (List.mem_of_getElem? (i := 14) rfl)) rfl
theorem se_X7_doDrawn : Cond.selects yX7_doDrawn.cls yX7_doDrawn yX7_doDrawn ∈ gw := gw_of (tb_4 (List.mem_of_getElem? (i := 15) rfl)) rfl
theorem co_X10_drought : Cond.code yX10_drought cX10_drought 3 (some .int) ∈ gw := gw_of (tb_4 (List.mem_of_getElem? (i := 12) rfl)) rfl
theorem im_X10_drought : Cond.instanceMethod yX10_drought ∈ gw := gw_of (tb_4 (List.mem_of_getElem? (i := 10) rfl)) rfl
theorem se_X10_drought : Cond.selects yX10_drought.cls yX10_drought yX10_drought ∈ gw := gw_of (tb_4 (List.mem_of_getElem? (i := 11) rfl)) rfl
theorem co_X10_dwellings : Cond.code yX10_dwellings cX10_dwellings 3 (some .int) ∈ gw := gw_of (tb_5 (List.mem_of_getElem? (i := 74) rfl)) rfl
theorem im_X10_dwellings : Cond.instanceMethod yX10_dwellings ∈ gw := gw_of (tb_5 (List.mem_of_getElem? (i := 72) rfl)) rfl
theorem se_X10_dwellings : Cond.selects yX10_dwellings.cls yX10_dwellings yX10_dwellings ∈ gw := gw_of (tb_5 (List.mem_of_getElem? (i := 73) rfl)) rfl
theorem co_X10_even : Cond.code yX10_even cX10_even 3 (some .int) ∈ gw := gw_of (tb_4 (List.mem_of_getElem? (i := 50) rfl)) rfl
theorem im_X10_even : Cond.instanceMethod yX10_even ∈ gw := gw_of (tb_4 (List.mem_of_getElem? (i := 48) rfl)) rfl
theorem se_X10_even : Cond.selects yX10_even.cls yX10_even yX10_even ∈ gw := gw_of (tb_4 (List.mem_of_getElem? (i := 49) rfl)) rfl
theorem co_X10_fault : Cond.code yX10_fault cX10_fault 2 (some .int) ∈ gw := gw_of (tb_3 (List.mem_of_getElem? (i := 70) rfl)) rfl
theorem im_X10_fault : Cond.instanceMethod yX10_fault ∈ gw := gw_of (tb_3 (List.mem_of_getElem? (i := 68) rfl)) rfl
theorem se_X10_fault : Cond.selects yX10_fault.cls yX10_fault yX10_fault ∈ gw := gw_of (tb_3 (List.mem_of_getElem? (i := 69) rfl)) rfl
theorem co_X8_addInt : Cond.code yX8_addInt cX8_addInt 3 none ∈ gw := gw_of (tb_2 (List.mem_of_getElem? (i := 149) rfl)) rfl
theorem im_X8_addInt : Cond.instanceMethod yX8_addInt ∈ gw := gw_of (tb_2 (List.mem_of_getElem? (i := 147) rfl)) rfl
theorem se_X8_addInt : Cond.selects yX8_addInt.cls yX8_addInt yX8_addInt ∈ gw := gw_of (tb_2 (List.mem_of_getElem? (i := 148) rfl)) rfl
theorem co_X10_feed : Cond.code yX10_feed cX10_feed 6 (some .int) ∈ gw := gw_of (tb_2 (List.mem_of_getElem? (i := 145) rfl)) rfl
theorem im_X10_feed : Cond.instanceMethod yX10_feed ∈ gw := gw_of (tb_2 (List.mem_of_getElem? (i := 143) rfl)) rfl
theorem se_X10_feed : Cond.selects yX10_feed.cls yX10_feed yX10_feed ∈ gw := gw_of (tb_2 (List.mem_of_getElem? (i := 144) rfl)) rfl
theorem co_X1_ropeBits : Cond.code yX1_ropeBits cX1_ropeBits 4 (some .int) ∈ gw := gw_of (tb_3 (List.mem_of_getElem? (i := 86) rfl)) rfl
theorem im_X1_ropeBits : Cond.instanceMethod yX1_ropeBits ∈ gw := gw_of (tb_3 (List.mem_of_getElem? (i := 84) rfl)) rfl
theorem se_X1_ropeBits : Cond.selects yX1_ropeBits.cls yX1_ropeBits yX1_ropeBits ∈ gw := gw_of (tb_3 (List.mem_of_getElem? (i := 85) rfl)) rfl
theorem co_X10_house : Cond.code yX10_house cX10_house 3 (some .int) ∈ gw := gw_of (tb_3 (List.mem_of_getElem? (i := 74) rfl)) rfl
theorem im_X10_house : Cond.instanceMethod yX10_house ∈ gw := gw_of (tb_3 (List.mem_of_getElem? (i := 72) rfl)) rfl
theorem se_X10_house : Cond.selects yX10_house.cls yX10_house yX10_house ∈ gw := gw_of (tb_3 (List.mem_of_getElem? (i := 73) rfl)) rfl
theorem co_X10_image : Cond.code yX10_image cX10_image 2 (some .int) ∈ gw := gw_of (tb_5 (List.mem_of_getElem? (i := 172) rfl)) rfl
theorem im_X10_image : Cond.instanceMethod yX10_image ∈ gw := gw_of (tb_5 (List.mem_of_getElem? (i := 170) rfl)) rfl
theorem se_X10_image : Cond.selects yX10_image.cls yX10_image yX10_image ∈ gw := gw_of (tb_5 (List.mem_of_getElem? (i := 171) rfl)) rfl
theorem co_X8_init : Cond.code yX8_init cX8_init 1 none ∈ gw := gw_of (tb_1 (List.mem_of_getElem? (i := 33) rfl)) rfl
theorem im_X8_init : Cond.instanceMethod yX8_init ∈ gw := gw_of (tb_1 (List.mem_of_getElem? (i := 32) rfl)) rfl
theorem co_X1_init : Cond.code yX1_init cX1_init 1 none ∈ gw := gw_of (tb_1 (List.mem_of_getElem? (i := 71) rfl)) rfl
theorem im_X1_init : Cond.instanceMethod yX1_init ∈ gw := gw_of (tb_1 (List.mem_of_getElem? (i := 70) rfl)) rfl
theorem co_X7_init : Cond.code yX7_init cX7_init 1 none ∈ gw := gw_of (tb_1 (List.mem_of_getElem? (i := 198) rfl)) rfl
theorem im_X7_init : Cond.instanceMethod yX7_init ∈ gw := gw_of (tb_1 (List.mem_of_getElem? (i := 197) rfl)) rfl
theorem co_X9_init : Cond.code yX9_init cX9_init 1 none ∈ gw := gw_of (tb_1 (List.mem_of_getElem? (i := 235) rfl)) rfl
theorem im_X9_init : Cond.instanceMethod yX9_init ∈ gw := gw_of (tb_1 (List.mem_of_getElem? (i := 234) rfl)) rfl
theorem co_X2_init : Cond.code yX2_init cX2_init 2 none ∈ gw := gw_of (tb_2 (List.mem_of_getElem? (i := 8) rfl)) rfl
theorem im_X2_init : Cond.instanceMethod yX2_init ∈ gw := gw_of (tb_2 (List.mem_of_getElem? (i := 7) rfl)) rfl
theorem co_X5_init : Cond.code yX5_init cX5_init 1 none ∈ gw := gw_of (tb_2 (List.mem_of_getElem? (i := 70) rfl)) rfl
theorem im_X5_init : Cond.instanceMethod yX5_init ∈ gw := gw_of (tb_2 (List.mem_of_getElem? (i := 69) rfl)) rfl
theorem co_X3_init : Cond.code yX3_init cX3_init 1 none ∈ gw := gw_of (tb_2 (List.mem_of_getElem? (i := 90) rfl)) rfl
theorem im_X3_init : Cond.instanceMethod yX3_init ∈ gw := gw_of (tb_2 (List.mem_of_getElem? (i := 89) rfl)) rfl
theorem co_X10_init : Cond.code yX10_init cX10_init 2 none ∈ gw := gw_of (tb_1 (List.mem_of_getElem? (i := 25) rfl)) rfl
theorem im_X10_init : Cond.instanceMethod yX10_init ∈ gw := gw_of (tb_1 (List.mem_of_getElem? (i := 24) rfl)) rfl
theorem co_X3_get : Cond.code yX3_get cX3_get 2 (some .long) ∈ gw := gw_of (tb_3 (List.mem_of_getElem? (i := 201) rfl)) rfl
theorem im_X3_get : Cond.instanceMethod yX3_get ∈ gw := gw_of (tb_3 (List.mem_of_getElem? (i := 199) rfl)) rfl
theorem se_X3_get : Cond.selects yX3_get.cls yX3_get yX3_get ∈ gw := gw_of (tb_3 (List.mem_of_getElem? (i := 200) rfl)) rfl
theorem co_X7_tellHourEnd : Cond.code yX7_tellHourEnd cX7_tellHourEnd 2 (some .int) ∈ gw := gw_of (tb_3 (List.mem_of_getElem? (i := 206) rfl)) rfl
theorem im_X7_tellHourEnd : Cond.instanceMethod yX7_tellHourEnd ∈ gw := gw_of (tb_3 (List.mem_of_getElem? (i := 205) rfl)) rfl
theorem se_X7_tellHourEnd : Cond.selects yX7_tellHourEnd.cls yX7_tellHourEnd yX7_tellHourEnd ∈ gw := gw_of (List.mem_append_left _ (List.mem_of_getElem? (i := 20) rfl)) rfl
theorem co_X7_tellPull : Cond.code yX7_tellPull cX7_tellPull 6 (some .int) ∈ gw := gw_of (tb_3 (List.mem_of_getElem? (i := 210) rfl)) rfl
theorem im_X7_tellPull : Cond.instanceMethod yX7_tellPull ∈ gw := gw_of (tb_3 (List.mem_of_getElem? (i := 209) rfl)) rfl
theorem se_X7_tellPull : Cond.selects yX7_tellPull.cls yX7_tellPull yX7_tellPull ∈ gw := gw_of (List.mem_append_left _ (List.mem_of_getElem? (i := 21) rfl)) rfl
theorem co_X7_doTold : Cond.code yX7_doTold cX7_doTold 6 none ∈ gw := gw_of (tb_3 (List.mem_of_getElem? (i := 197) rfl)) rfl
theorem im_X7_doTold : Cond.instanceMethod yX7_doTold ∈ gw := gw_of (tb_3 (List.mem_of_getElem? (i := 195) rfl)) rfl
theorem se_X7_doTold : Cond.selects yX7_doTold.cls yX7_doTold yX7_doTold ∈ gw := gw_of (tb_3 (List.mem_of_getElem? (i := 196) rfl)) rfl
theorem co_X10_judge : Cond.code yX10_judge cX10_judge 3 (some .int) ∈ gw := gw_of (tb_3 (List.mem_of_getElem? (i := 186) rfl)) rfl
theorem im_X10_judge : Cond.instanceMethod yX10_judge ∈ gw := gw_of (tb_3 (List.mem_of_getElem? (i := 184) rfl)) rfl
theorem se_X10_judge : Cond.selects yX10_judge.cls yX10_judge yX10_judge ∈ gw := gw_of (tb_3 (List.mem_of_getElem? (i := 185) rfl)) rfl
theorem co_X1_begin : Cond.code yX1_begin cX1_begin 1 none ∈ gw := gw_of (tb_2 (List.mem_of_getElem? (i := 164) rfl)) rfl
theorem im_X1_begin : Cond.instanceMethod yX1_begin ∈ gw := gw_of (tb_2 (List.mem_of_getElem? (i := 162) rfl)) rfl
theorem se_X1_begin : Cond.selects yX1_begin.cls yX1_begin yX1_begin ∈ gw := gw_of (tb_2 (List.mem_of_getElem? (i := 163) rfl)) rfl
theorem co_X8_byteAt : Cond.code yX8_byteAt cX8_byteAt 2 (some .int) ∈ gw := gw_of (tb_2 (List.mem_of_getElem? (i := 172) rfl)) rfl
theorem im_X8_byteAt : Cond.instanceMethod yX8_byteAt ∈ gw := gw_of (tb_2 (List.mem_of_getElem? (i := 171) rfl)) rfl
theorem se_X8_byteAt : Cond.selects yX8_byteAt.cls yX8_byteAt yX8_byteAt ∈ gw := gw_of (List.mem_append_left _ (List.mem_of_getElem? (i := 1) rfl)) rfl
theorem co_X8_isBlank : Cond.code yX8_isBlank cX8_isBlank 1 (some .boolean) ∈ gw := gw_of (tb_2 (List.mem_of_getElem? (i := 175) rfl)) rfl
theorem st_X8_isBlank : Cond.static yX8_isBlank ∈ gw := gw_of (tb_2 (List.mem_of_getElem? (i := 174) rfl)) rfl
theorem co_X8_isLetter : Cond.code yX8_isLetter cX8_isLetter 1 (some .boolean) ∈ gw := gw_of (tb_2 (List.mem_of_getElem? (i := 178) rfl)) rfl
theorem st_X8_isLetter : Cond.static yX8_isLetter ∈ gw := gw_of (tb_2 (List.mem_of_getElem? (i := 177) rfl)) rfl
theorem co_X8_takeLetters : Cond.code yX8_takeLetters cX8_takeLetters 1 none ∈ gw := gw_of (tb_2 (List.mem_of_getElem? (i := 182) rfl)) rfl
theorem im_X8_takeLetters : Cond.instanceMethod yX8_takeLetters ∈ gw := gw_of (tb_2 (List.mem_of_getElem? (i := 181) rfl)) rfl
theorem se_X8_takeLetters : Cond.selects yX8_takeLetters.cls yX8_takeLetters yX8_takeLetters ∈ gw := gw_of (List.mem_append_left _ (List.mem_of_getElem? (i := 2) rfl)) rfl
theorem co_X8_isDigit : Cond.code yX8_isDigit cX8_isDigit 1 (some .boolean) ∈ gw := gw_of (tb_2 (List.mem_of_getElem? (i := 185) rfl)) rfl
theorem st_X8_isDigit : Cond.static yX8_isDigit ∈ gw := gw_of (tb_2 (List.mem_of_getElem? (i := 184) rfl)) rfl
theorem co_X8_takeDigits : Cond.code yX8_takeDigits cX8_takeDigits 1 none ∈ gw := gw_of (tb_2 (List.mem_of_getElem? (i := 189) rfl)) rfl
theorem im_X8_takeDigits : Cond.instanceMethod yX8_takeDigits ∈ gw := gw_of (tb_2 (List.mem_of_getElem? (i := 188) rfl)) rfl
theorem se_X8_takeDigits : Cond.selects yX8_takeDigits.cls yX8_takeDigits yX8_takeDigits ∈ gw := gw_of (List.mem_append_left _ (List.mem_of_getElem? (i := 3) rfl)) rfl
theorem co_X8_advance : Cond.code yX8_advance cX8_advance 1 none ∈ gw := gw_of (tb_2 (List.mem_of_getElem? (i := 168) rfl)) rfl
theorem im_X8_advance : Cond.instanceMethod yX8_advance ∈ gw := gw_of (tb_2 (List.mem_of_getElem? (i := 167) rfl)) rfl
theorem se_X8_advance : Cond.selects yX8_advance.cls yX8_advance yX8_advance ∈ gw := gw_of (List.mem_append_left _ (List.mem_of_getElem? (i := 0) rfl)) rfl
theorem co_X8_isWord : Cond.code yX8_isWord cX8_isWord 3 (some .boolean) ∈ gw := gw_of (tb_2 (List.mem_of_getElem? (i := 198) rfl)) rfl
theorem im_X8_isWord : Cond.instanceMethod yX8_isWord ∈ gw := gw_of (tb_2 (List.mem_of_getElem? (i := 197) rfl)) rfl
theorem se_X8_isWord : Cond.selects yX8_isWord.cls yX8_isWord yX8_isWord ∈ gw := gw_of (List.mem_append_left _ (List.mem_of_getElem? (i := 5) rfl)) rfl
theorem co_X8_tellFault : Cond.code yX8_tellFault cX8_tellFault 2 none ∈ gw := gw_of (tb_3 (List.mem_of_getElem? (i := 14) rfl)) rfl
theorem im_X8_tellFault : Cond.instanceMethod yX8_tellFault ∈ gw := gw_of (tb_3 (List.mem_of_getElem? (i := 13) rfl)) rfl
theorem se_X8_tellFault : Cond.selects yX8_tellFault.cls yX8_tellFault yX8_tellFault ∈ gw := gw_of (List.mem_append_left _ (List.mem_of_getElem? (i := 7) rfl)) rfl
theorem co_X8_tellWrongToken : Cond.code yX8_tellWrongToken cX8_tellWrongToken 1 none ∈ gw := gw_of (tb_3 (List.mem_of_getElem? (i := 22) rfl)) rfl
theorem im_X8_tellWrongToken : Cond.instanceMethod yX8_tellWrongToken ∈ gw := gw_of (tb_3 (List.mem_of_getElem? (i := 21) rfl)) rfl
theorem se_X8_tellWrongToken : Cond.selects yX8_tellWrongToken.cls yX8_tellWrongToken yX8_tellWrongToken ∈ gw := gw_of (List.mem_append_left _ (List.mem_of_getElem? (i := 9) rfl)) rfl
theorem co_X8_takeNumber : Cond.code yX8_takeNumber cX8_takeNumber 4 (some .int) ∈ gw := gw_of (tb_3 (List.mem_of_getElem? (i := 18) rfl)) rfl
theorem im_X8_takeNumber : Cond.instanceMethod yX8_takeNumber ∈ gw := gw_of (tb_3 (List.mem_of_getElem? (i := 17) rfl)) rfl
theorem se_X8_takeNumber : Cond.selects yX8_takeNumber.cls yX8_takeNumber yX8_takeNumber ∈ gw := gw_of (List.mem_append_left _ (List.mem_of_getElem? (i := 8) rfl)) rfl
theorem co_X1_addHouse : Cond.code yX1_addHouse cX1_addHouse 2 none ∈ gw := gw_of (tb_3 (List.mem_of_getElem? (i := 26) rfl)) rfl
theorem im_X1_addHouse : Cond.instanceMethod yX1_addHouse ∈ gw := gw_of (tb_3 (List.mem_of_getElem? (i := 24) rfl)) rfl
theorem se_X1_addHouse : Cond.selects yX1_addHouse.cls yX1_addHouse yX1_addHouse ∈ gw := gw_of (tb_3 (List.mem_of_getElem? (i := 25) rfl)) rfl
theorem co_X8_takeWord : Cond.code yX8_takeWord cX8_takeWord 2 (some .boolean) ∈ gw := gw_of (tb_3 (List.mem_of_getElem? (i := 31) rfl)) rfl
theorem im_X8_takeWord : Cond.instanceMethod yX8_takeWord ∈ gw := gw_of (tb_3 (List.mem_of_getElem? (i := 30) rfl)) rfl
theorem se_X8_takeWord : Cond.selects yX8_takeWord.cls yX8_takeWord yX8_takeWord ∈ gw := gw_of (List.mem_append_left _ (List.mem_of_getElem? (i := 10) rfl)) rfl
theorem co_X8_readHouse : Cond.code yX8_readHouse cX8_readHouse 3 none ∈ gw := gw_of (tb_3 (List.mem_of_getElem? (i := 10) rfl)) rfl
theorem im_X8_readHouse : Cond.instanceMethod yX8_readHouse ∈ gw := gw_of (tb_3 (List.mem_of_getElem? (i := 9) rfl)) rfl
theorem se_X8_readHouse : Cond.selects yX8_readHouse.cls yX8_readHouse yX8_readHouse ∈ gw := gw_of (List.mem_append_left _ (List.mem_of_getElem? (i := 6) rfl)) rfl
theorem co_X1_setBucket : Cond.code yX1_setBucket cX1_setBucket 3 none ∈ gw := gw_of (tb_3 (List.mem_of_getElem? (i := 47) rfl)) rfl
theorem im_X1_setBucket : Cond.instanceMethod yX1_setBucket ∈ gw := gw_of (tb_3 (List.mem_of_getElem? (i := 46) rfl)) rfl
theorem se_X1_setBucket : Cond.selects yX1_setBucket.cls yX1_setBucket yX1_setBucket ∈ gw := gw_of (List.mem_append_left _ (List.mem_of_getElem? (i := 12) rfl)) rfl
theorem co_X1_addRope : Cond.code yX1_addRope cX1_addRope 4 none ∈ gw := gw_of (tb_3 (List.mem_of_getElem? (i := 43) rfl)) rfl
theorem im_X1_addRope : Cond.instanceMethod yX1_addRope ∈ gw := gw_of (tb_3 (List.mem_of_getElem? (i := 41) rfl)) rfl
theorem se_X1_addRope : Cond.selects yX1_addRope.cls yX1_addRope yX1_addRope ∈ gw := gw_of (tb_3 (List.mem_of_getElem? (i := 42) rfl)) rfl
theorem co_X8_readRope : Cond.code yX8_readRope cX8_readRope 6 none ∈ gw := gw_of (tb_3 (List.mem_of_getElem? (i := 38) rfl)) rfl
theorem im_X8_readRope : Cond.instanceMethod yX8_readRope ∈ gw := gw_of (tb_3 (List.mem_of_getElem? (i := 37) rfl)) rfl
theorem se_X8_readRope : Cond.selects yX8_readRope.cls yX8_readRope yX8_readRope ∈ gw := gw_of (List.mem_append_left _ (List.mem_of_getElem? (i := 11) rfl)) rfl
theorem co_X8_takeSemicolon : Cond.code yX8_takeSemicolon cX8_takeSemicolon 1 none ∈ gw := gw_of (tb_3 (List.mem_of_getElem? (i := 55) rfl)) rfl
theorem im_X8_takeSemicolon : Cond.instanceMethod yX8_takeSemicolon ∈ gw := gw_of (tb_3 (List.mem_of_getElem? (i := 54) rfl)) rfl
theorem se_X8_takeSemicolon : Cond.selects yX8_takeSemicolon.cls yX8_takeSemicolon yX8_takeSemicolon ∈ gw := gw_of (List.mem_append_left _ (List.mem_of_getElem? (i := 13) rfl)) rfl
theorem co_X8_readLine : Cond.code yX8_readLine cX8_readLine 2 none ∈ gw := gw_of (tb_2 (List.mem_of_getElem? (i := 193) rfl)) rfl
theorem im_X8_readLine : Cond.instanceMethod yX8_readLine ∈ gw := gw_of (tb_2 (List.mem_of_getElem? (i := 192) rfl)) rfl
theorem se_X8_readLine : Cond.selects yX8_readLine.cls yX8_readLine yX8_readLine ∈ gw := gw_of (List.mem_append_left _ (List.mem_of_getElem? (i := 4) rfl)) rfl
theorem co_X8_readText : Cond.code yX8_readText cX8_readText 4 none ∈ gw := gw_of (tb_2 (List.mem_of_getElem? (i := 157) rfl)) rfl
theorem im_X8_readText : Cond.instanceMethod yX8_readText ∈ gw := gw_of (tb_2 (List.mem_of_getElem? (i := 155) rfl)) rfl
theorem se_X8_readText : Cond.selects yX8_readText.cls yX8_readText yX8_readText ∈ gw := gw_of (tb_2 (List.mem_of_getElem? (i := 156) rfl)) rfl
theorem co_X10_land : Cond.code yX10_land cX10_land 2 (some .int) ∈ gw := gw_of (tb_2 (List.mem_of_getElem? (i := 153) rfl)) rfl
theorem im_X10_land : Cond.instanceMethod yX10_land ∈ gw := gw_of (tb_2 (List.mem_of_getElem? (i := 151) rfl)) rfl
theorem se_X10_land : Cond.selects yX10_land.cls yX10_land yX10_land ∈ gw := gw_of (tb_2 (List.mem_of_getElem? (i := 152) rfl)) rfl
theorem co_X10_lifts : Cond.code yX10_lifts cX10_lifts 6 (some .int) ∈ gw := gw_of (tb_4 (List.mem_of_getElem? (i := 55) rfl)) rfl
theorem im_X10_lifts : Cond.instanceMethod yX10_lifts ∈ gw := gw_of (tb_4 (List.mem_of_getElem? (i := 53) rfl)) rfl
theorem se_X10_lifts : Cond.selects yX10_lifts.cls yX10_lifts yX10_lifts ∈ gw := gw_of (tb_4 (List.mem_of_getElem? (i := 54) rfl)) rfl
theorem co_X10_live : Cond.code yX10_live cX10_live 3 (some .int) ∈ gw := gw_of (tb_4 (List.mem_of_getElem? (i := 8) rfl)) rfl
theorem im_X10_live : Cond.instanceMethod yX10_live ∈ gw := gw_of (tb_4 (List.mem_of_getElem? (i := 6) rfl)) rfl
theorem se_X10_live : Cond.selects yX10_live.cls yX10_live yX10_live ∈ gw := gw_of (tb_4 (List.mem_of_getElem? (i := 7) rfl)) rfl
theorem co_X4_fewestHours : Cond.code yX4_fewestHours cX4_fewestHours 8 (some .int) ∈ gw := gw_of (tb_4 (List.mem_of_getElem? (i := 190) rfl)) rfl
theorem im_X4_fewestHours : Cond.instanceMethod yX4_fewestHours ∈ gw := gw_of (tb_4 (List.mem_of_getElem? (i := 188) rfl)) rfl
theorem se_X4_fewestHours : Cond.selects yX4_fewestHours.cls yX4_fewestHours yX4_fewestHours ∈ gw := gw_of (tb_4 (List.mem_of_getElem? (i := 189) rfl)) rfl
theorem co_X10_loss : Cond.code yX10_loss cX10_loss 5 (some .int) ∈ gw := gw_of (tb_5 (List.mem_of_getElem? (i := 15) rfl)) rfl
theorem im_X10_loss : Cond.instanceMethod yX10_loss ∈ gw := gw_of (tb_5 (List.mem_of_getElem? (i := 13) rfl)) rfl
theorem se_X10_loss : Cond.selects yX10_loss.cls yX10_loss yX10_loss ∈ gw := gw_of (tb_5 (List.mem_of_getElem? (i := 14) rfl)) rfl
theorem co_X9_look : Cond.code yX9_look cX9_look 6 none ∈ gw := gw_of (tb_4 (List.mem_of_getElem? (i := 64) rfl)) rfl
theorem im_X9_look : Cond.instanceMethod yX9_look ∈ gw := gw_of (tb_4 (List.mem_of_getElem? (i := 62) rfl)) rfl
theorem se_X9_look : Cond.selects yX9_look.cls yX9_look yX9_look ∈ gw := gw_of (tb_4 (List.mem_of_getElem? (i := 63) rfl)) rfl
theorem co_X9_tied : Cond.code yX9_tied cX9_tied 3 (some .boolean) ∈ gw := gw_of (tb_5 (List.mem_of_getElem? (i := 70) rfl)) rfl
theorem im_X9_tied : Cond.instanceMethod yX9_tied ∈ gw := gw_of (tb_5 (List.mem_of_getElem? (i := 68) rfl)) rfl
theorem se_X9_tied : Cond.selects yX9_tied.cls yX9_tied yX9_tied ∈ gw := gw_of (tb_5 (List.mem_of_getElem? (i := 69) rfl)) rfl
theorem co_X10_mate : Cond.code yX10_mate cX10_mate 6 (some .int) ∈ gw := gw_of (tb_5 (List.mem_of_getElem? (i := 65) rfl)) rfl
theorem im_X10_mate : Cond.instanceMethod yX10_mate ∈ gw := gw_of (tb_5 (List.mem_of_getElem? (i := 63) rfl)) rfl
theorem se_X10_mate : Cond.selects yX10_mate.cls yX10_mate yX10_mate ∈ gw := gw_of (tb_5 (List.mem_of_getElem? (i := 64) rfl)) rfl
theorem co_X9_nearAny : Cond.code yX9_nearAny cX9_nearAny 4 (some .int) ∈ gw := gw_of (tb_4 (List.mem_of_getElem? (i := 79) rfl)) rfl
theorem im_X9_nearAny : Cond.instanceMethod yX9_nearAny ∈ gw := gw_of (tb_4 (List.mem_of_getElem? (i := 78) rfl)) rfl
theorem se_X9_nearAny : Cond.selects yX9_nearAny.cls yX9_nearAny yX9_nearAny ∈ gw := gw_of (List.mem_append_left _ (List.mem_of_getElem? (i := 24) rfl)) rfl
theorem co_X9_part : Cond.code yX9_part cX9_part 4 (some .int) ∈ gw := gw_of (tb_4 (List.mem_of_getElem? (i := 103) rfl)) rfl
theorem im_X9_part : Cond.instanceMethod yX9_part ∈ gw := gw_of (tb_4 (List.mem_of_getElem? (i := 101) rfl)) rfl
theorem se_X9_part : Cond.selects yX9_part.cls yX9_part yX9_part ∈ gw := gw_of (tb_4 (List.mem_of_getElem? (i := 102) rfl)) rfl
theorem co_X10_neighbours : Cond.code yX10_neighbours cX10_neighbours 2 (some .int) ∈ gw := gw_of (tb_4 (List.mem_of_getElem? (i := 99) rfl)) rfl
theorem im_X10_neighbours : Cond.instanceMethod yX10_neighbours ∈ gw := gw_of (tb_4 (List.mem_of_getElem? (i := 97) rfl)) rfl
theorem se_X10_neighbours : Cond.selects yX10_neighbours.cls yX10_neighbours yX10_neighbours ∈ gw := gw_of (tb_4 (List.mem_of_getElem? (i := 98) rfl)) rfl
theorem co_X3_begin : Cond.code yX3_begin cX3_begin 3 none ∈ gw := gw_of (tb_5 (List.mem_of_getElem? (i := 144) rfl)) rfl
theorem im_X3_begin : Cond.instanceMethod yX3_begin ∈ gw := gw_of (tb_5 (List.mem_of_getElem? (i := 142) rfl)) rfl
theorem se_X3_begin : Cond.selects yX3_begin.cls yX3_begin yX3_begin ∈ gw := gw_of (tb_5 (List.mem_of_getElem? (i := 143) rfl)) rfl
theorem co_X10_numbers : Cond.code yX10_numbers cX10_numbers 4 (some .int) ∈ gw := gw_of (tb_5 (List.mem_of_getElem? (i := 140) rfl)) rfl
theorem im_X10_numbers : Cond.instanceMethod yX10_numbers ∈ gw := gw_of (tb_5 (List.mem_of_getElem? (i := 138) rfl)) rfl
theorem se_X10_numbers : Cond.selects yX10_numbers.cls yX10_numbers yX10_numbers ∈ gw := gw_of (tb_5 (List.mem_of_getElem? (i := 139) rfl)) rfl
theorem co_X9_oneSide : Cond.code yX9_oneSide cX9_oneSide 7 (some .int) ∈ gw := gw_of (tb_4 (List.mem_of_getElem? (i := 87) rfl)) rfl
theorem im_X9_oneSide : Cond.instanceMethod yX9_oneSide ∈ gw := gw_of (tb_4 (List.mem_of_getElem? (i := 85) rfl)) rfl
theorem se_X9_oneSide : Cond.selects yX9_oneSide.cls yX9_oneSide yX9_oneSide ∈ gw := gw_of (tb_4 (List.mem_of_getElem? (i := 86) rfl)) rfl
theorem co_X10_parted : Cond.code yX10_parted cX10_parted 1 (some .int) ∈ gw := gw_of (tb_4 (List.mem_of_getElem? (i := 83) rfl)) rfl
theorem im_X10_parted : Cond.instanceMethod yX10_parted ∈ gw := gw_of (tb_4 (List.mem_of_getElem? (i := 81) rfl)) rfl
theorem se_X10_parted : Cond.selects yX10_parted.cls yX10_parted yX10_parted ∈ gw := gw_of (tb_4 (List.mem_of_getElem? (i := 82) rfl)) rfl
theorem co_X10_pass : Cond.code yX10_pass cX10_pass 1 (some .int) ∈ gw := gw_of (tb_3 (List.mem_of_getElem? (i := 116) rfl)) rfl
theorem im_X10_pass : Cond.instanceMethod yX10_pass ∈ gw := gw_of (tb_3 (List.mem_of_getElem? (i := 114) rfl)) rfl
theorem se_X10_pass : Cond.selects yX10_pass.cls yX10_pass yX10_pass ∈ gw := gw_of (tb_3 (List.mem_of_getElem? (i := 115) rfl)) rfl
theorem co_X10_perform : Cond.code yX10_perform cX10_perform 2 (some .int) ∈ gw := gw_of (tb_3 (List.mem_of_getElem? (i := 219) rfl)) rfl
theorem im_X10_perform : Cond.instanceMethod yX10_perform ∈ gw := gw_of (tb_3 (List.mem_of_getElem? (i := 217) rfl)) rfl
theorem se_X10_perform : Cond.selects yX10_perform.cls yX10_perform yX10_perform ∈ gw := gw_of (tb_3 (List.mem_of_getElem? (i := 218) rfl)) rfl
theorem co_X10_pull : Cond.code yX10_pull cX10_pull 3 (some .int) ∈ gw := gw_of (tb_3 (List.mem_of_getElem? (i := 181) rfl)) rfl
theorem im_X10_pull : Cond.instanceMethod yX10_pull ∈ gw := gw_of (tb_3 (List.mem_of_getElem? (i := 179) rfl)) rfl
theorem se_X10_pull : Cond.selects yX10_pull.cls yX10_pull yX10_pull ∈ gw := gw_of (tb_3 (List.mem_of_getElem? (i := 180) rfl)) rfl
theorem co_X10_sightRefusal : Cond.code yX10_sightRefusal cX10_sightRefusal 2 (some .int) ∈ gw := gw_of (tb_5 (List.mem_of_getElem? (i := 111) rfl)) rfl
theorem im_X10_sightRefusal : Cond.instanceMethod yX10_sightRefusal ∈ gw := gw_of (tb_5 (List.mem_of_getElem? (i := 110) rfl)) rfl
theorem se_X10_sightRefusal : Cond.selects yX10_sightRefusal.cls yX10_sightRefusal yX10_sightRefusal ∈ gw := gw_of (List.mem_append_left _ (List.mem_of_getElem? (i := 44) rfl)) rfl
theorem co_X5_compare : Cond.code yX5_compare cX5_compare 6 (some .boolean) ∈ gw := gw_of (tb_5 (List.mem_of_getElem? (i := 120) rfl)) rfl
theorem im_X5_compare : Cond.instanceMethod yX5_compare ∈ gw := gw_of (tb_5 (List.mem_of_getElem? (i := 119) rfl)) rfl
theorem se_X5_compare : Cond.selects yX5_compare.cls yX5_compare yX5_compare ∈ gw := gw_of (List.mem_append_left _ (List.mem_of_getElem? (i := 45) rfl)) rfl
theorem co_X5_fitsUpTo : Cond.code yX5_fitsUpTo cX5_fitsUpTo 7 (some .boolean) ∈ gw := gw_of (tb_5 (List.mem_of_getElem? (i := 130) rfl)) rfl
theorem im_X5_fitsUpTo : Cond.instanceMethod yX5_fitsUpTo ∈ gw := gw_of (tb_5 (List.mem_of_getElem? (i := 129) rfl)) rfl
theorem se_X5_fitsUpTo : Cond.selects yX5_fitsUpTo.cls yX5_fitsUpTo yX5_fitsUpTo ∈ gw := gw_of (List.mem_append_left _ (List.mem_of_getElem? (i := 47) rfl)) rfl
theorem co_X5_choose : Cond.code yX5_choose cX5_choose 5 none ∈ gw := gw_of (tb_5 (List.mem_of_getElem? (i := 126) rfl)) rfl
theorem im_X5_choose : Cond.instanceMethod yX5_choose ∈ gw := gw_of (tb_5 (List.mem_of_getElem? (i := 125) rfl)) rfl
theorem se_X5_choose : Cond.selects yX5_choose.cls yX5_choose yX5_choose ∈ gw := gw_of (List.mem_append_left _ (List.mem_of_getElem? (i := 46) rfl)) rfl
theorem co_X5_watch : Cond.code yX5_watch cX5_watch 3 none ∈ gw := gw_of (tb_5 (List.mem_of_getElem? (i := 115) rfl)) rfl
theorem im_X5_watch : Cond.instanceMethod yX5_watch ∈ gw := gw_of (tb_5 (List.mem_of_getElem? (i := 113) rfl)) rfl
theorem se_X5_watch : Cond.selects yX5_watch.cls yX5_watch yX5_watch ∈ gw := gw_of (tb_5 (List.mem_of_getElem? (i := 114) rfl)) rfl
theorem co_X10_pulled : Cond.code yX10_pulled cX10_pulled 3 (some .int) ∈ gw := gw_of (tb_5 (List.mem_of_getElem? (i := 136) rfl)) rfl
theorem im_X10_pulled : Cond.instanceMethod yX10_pulled ∈ gw := gw_of (tb_5 (List.mem_of_getElem? (i := 134) rfl)) rfl
theorem se_X10_pulled : Cond.selects yX10_pulled.cls yX10_pulled yX10_pulled ∈ gw := gw_of (tb_5 (List.mem_of_getElem? (i := 135) rfl)) rfl
theorem co_X10_restore : Cond.code yX10_restore cX10_restore 2 (some .int) ∈ gw := gw_of (tb_5 (List.mem_of_getElem? (i := 176) rfl)) rfl
theorem im_X10_restore : Cond.instanceMethod yX10_restore ∈ gw := gw_of (tb_5 (List.mem_of_getElem? (i := 174) rfl)) rfl
theorem se_X10_restore : Cond.selects yX10_restore.cls yX10_restore yX10_restore ∈ gw := gw_of (tb_5 (List.mem_of_getElem? (i := 175) rfl)) rfl
theorem co_X10_rests : Cond.code yX10_rests cX10_rests 1 (some .int) ∈ gw := gw_of (tb_4 (List.mem_of_getElem? (i := 38) rfl)) rfl
theorem im_X10_rests : Cond.instanceMethod yX10_rests ∈ gw := gw_of (tb_4 (List.mem_of_getElem? (i := 36) rfl)) rfl
theorem se_X10_rests : Cond.selects yX10_rests.cls yX10_rests yX10_rests ∈ gw := gw_of (tb_4 (List.mem_of_getElem? (i := 37) rfl)) rfl
theorem co_X9_steps : Cond.code yX9_steps cX9_steps 5 (some .int) ∈ gw := gw_of (tb_4 (List.mem_of_getElem? (i := 95) rfl)) rfl
theorem im_X9_steps : Cond.instanceMethod yX9_steps ∈ gw := gw_of (tb_4 (List.mem_of_getElem? (i := 93) rfl)) rfl
theorem se_X9_steps : Cond.selects yX9_steps.cls yX9_steps yX9_steps ∈ gw := gw_of (tb_4 (List.mem_of_getElem? (i := 94) rfl)) rfl
theorem co_X10_ring : Cond.code yX10_ring cX10_ring 4 (some .int) ∈ gw := gw_of (tb_4 (List.mem_of_getElem? (i := 91) rfl)) rfl
theorem im_X10_ring : Cond.instanceMethod yX10_ring ∈ gw := gw_of (tb_4 (List.mem_of_getElem? (i := 89) rfl)) rfl
theorem se_X10_ring : Cond.selects yX10_ring.cls yX10_ring yX10_ring ∈ gw := gw_of (tb_4 (List.mem_of_getElem? (i := 90) rfl)) rfl
theorem co_X10_rope : Cond.code yX10_rope cX10_rope 3 (some .int) ∈ gw := gw_of (tb_3 (List.mem_of_getElem? (i := 99) rfl)) rfl
theorem im_X10_rope : Cond.instanceMethod yX10_rope ∈ gw := gw_of (tb_3 (List.mem_of_getElem? (i := 97) rfl)) rfl
theorem se_X10_rope : Cond.selects yX10_rope.cls yX10_rope yX10_rope ∈ gw := gw_of (tb_3 (List.mem_of_getElem? (i := 98) rfl)) rfl
theorem co_X10_seen : Cond.code yX10_seen cX10_seen 3 (some .int) ∈ gw := gw_of (tb_5 (List.mem_of_getElem? (i := 107) rfl)) rfl
theorem im_X10_seen : Cond.instanceMethod yX10_seen ∈ gw := gw_of (tb_5 (List.mem_of_getElem? (i := 105) rfl)) rfl
theorem se_X10_seen : Cond.selects yX10_seen.cls yX10_seen yX10_seen ∈ gw := gw_of (tb_5 (List.mem_of_getElem? (i := 106) rfl)) rfl
theorem co_X10_severs : Cond.code yX10_severs cX10_severs 3 (some .int) ∈ gw := gw_of (tb_4 (List.mem_of_getElem? (i := 107) rfl)) rfl
theorem im_X10_severs : Cond.instanceMethod yX10_severs ∈ gw := gw_of (tb_4 (List.mem_of_getElem? (i := 105) rfl)) rfl
theorem se_X10_severs : Cond.selects yX10_severs.cls yX10_severs yX10_severs ∈ gw := gw_of (tb_4 (List.mem_of_getElem? (i := 106) rfl)) rfl
theorem co_X10_soonest : Cond.code yX10_soonest cX10_soonest 3 (some .int) ∈ gw := gw_of (tb_4 (List.mem_of_getElem? (i := 111) rfl)) rfl
theorem im_X10_soonest : Cond.instanceMethod yX10_soonest ∈ gw := gw_of (tb_4 (List.mem_of_getElem? (i := 109) rfl)) rfl
theorem se_X10_soonest : Cond.selects yX10_soonest.cls yX10_soonest yX10_soonest ∈ gw := gw_of (tb_4 (List.mem_of_getElem? (i := 110) rfl)) rfl
theorem co_X10_stones : Cond.code yX10_stones cX10_stones 5 (some .int) ∈ gw := gw_of (tb_4 (List.mem_of_getElem? (i := 34) rfl)) rfl
theorem im_X10_stones : Cond.instanceMethod yX10_stones ∈ gw := gw_of (tb_4 (List.mem_of_getElem? (i := 32) rfl)) rfl
theorem se_X10_stones : Cond.selects yX10_stones.cls yX10_stones yX10_stones ∈ gw := gw_of (tb_4 (List.mem_of_getElem? (i := 33) rfl)) rfl
theorem co_X9_greatestLoose : Cond.code yX9_greatestLoose cX9_greatestLoose 3 (some .int) ∈ gw := gw_of (tb_4 (List.mem_of_getElem? (i := 69) rfl)) rfl
theorem im_X9_greatestLoose : Cond.instanceMethod yX9_greatestLoose ∈ gw := gw_of (tb_4 (List.mem_of_getElem? (i := 67) rfl)) rfl
theorem se_X9_greatestLoose : Cond.selects yX9_greatestLoose.cls yX9_greatestLoose yX9_greatestLoose ∈ gw := gw_of (tb_4 (List.mem_of_getElem? (i := 68) rfl)) rfl
theorem co_X10_together : Cond.code yX10_together cX10_together 1 (some .int) ∈ gw := gw_of (tb_4 (List.mem_of_getElem? (i := 60) rfl)) rfl
theorem im_X10_together : Cond.instanceMethod yX10_together ∈ gw := gw_of (tb_4 (List.mem_of_getElem? (i := 58) rfl)) rfl
theorem se_X10_together : Cond.selects yX10_together.cls yX10_together yX10_together ∈ gw := gw_of (tb_4 (List.mem_of_getElem? (i := 59) rfl)) rfl
theorem co_X10_write : Cond.code yX10_write cX10_write 5 (some .long) ∈ gw := gw_of (tb_5 (List.mem_of_getElem? (i := 153) rfl)) rfl
theorem im_X10_write : Cond.instanceMethod yX10_write ∈ gw := gw_of (tb_5 (List.mem_of_getElem? (i := 151) rfl)) rfl
theorem se_X10_write : Cond.selects yX10_write.cls yX10_write yX10_write ∈ gw := gw_of (tb_5 (List.mem_of_getElem? (i := 152) rfl)) rfl
theorem co_X11_within : Cond.code yX11_within cX11_within 6 (some .boolean) ∈ gw := gw_of (tb_6 (List.mem_of_getElem? (i := 101) rfl)) rfl
theorem st_X11_within : Cond.static yX11_within ∈ gw := gw_of (tb_6 (List.mem_of_getElem? (i := 100) rfl)) rfl
theorem co_X11_isHouse : Cond.code yX11_isHouse cX11_isHouse 3 (some .boolean) ∈ gw := gw_of (tb_6 (List.mem_of_getElem? (i := 158) rfl)) rfl
theorem im_X11_isHouse : Cond.instanceMethod yX11_isHouse ∈ gw := gw_of (tb_6 (List.mem_of_getElem? (i := 157) rfl)) rfl
theorem se_X11_isHouse : Cond.selects yX11_isHouse.cls yX11_isHouse yX11_isHouse ∈ gw := gw_of (List.mem_append_left _ (List.mem_of_getElem? (i := 58) rfl)) rfl
theorem co_X11_isEnd : Cond.code yX11_isEnd cX11_isEnd 3 (some .boolean) ∈ gw := gw_of (tb_6 (List.mem_of_getElem? (i := 167) rfl)) rfl
theorem im_X11_isEnd : Cond.instanceMethod yX11_isEnd ∈ gw := gw_of (tb_6 (List.mem_of_getElem? (i := 166) rfl)) rfl
theorem se_X11_isEnd : Cond.selects yX11_isEnd.cls yX11_isEnd yX11_isEnd ∈ gw := gw_of (List.mem_append_left _ (List.mem_of_getElem? (i := 60) rfl)) rfl
theorem co_X11_hangs : Cond.code yX11_hangs cX11_hangs 2 (some .boolean) ∈ gw := gw_of (tb_6 (List.mem_of_getElem? (i := 207) rfl)) rfl
theorem im_X11_hangs : Cond.instanceMethod yX11_hangs ∈ gw := gw_of (tb_6 (List.mem_of_getElem? (i := 206) rfl)) rfl
theorem se_X11_hangs : Cond.selects yX11_hangs.cls yX11_hangs yX11_hangs ∈ gw := gw_of (List.mem_append_left _ (List.mem_of_getElem? (i := 68) rfl)) rfl
theorem co_X11_hanging : Cond.code yX11_hanging cX11_hanging 4 (some .int) ∈ gw := gw_of (tb_7 (List.mem_of_getElem? (i := 35) rfl)) rfl
theorem im_X11_hanging : Cond.instanceMethod yX11_hanging ∈ gw := gw_of (tb_7 (List.mem_of_getElem? (i := 34) rfl)) rfl
theorem se_X11_hanging : Cond.selects yX11_hanging.cls yX11_hanging yX11_hanging ∈ gw := gw_of (List.mem_append_left _ (List.mem_of_getElem? (i := 77) rfl)) rfl
theorem co_X11_nobody : Cond.code yX11_nobody cX11_nobody 2 none ∈ gw := gw_of (tb_6 (List.mem_of_getElem? (i := 191) rfl)) rfl
theorem im_X11_nobody : Cond.instanceMethod yX11_nobody ∈ gw := gw_of (tb_6 (List.mem_of_getElem? (i := 190) rfl)) rfl
theorem se_X11_nobody : Cond.selects yX11_nobody.cls yX11_nobody yX11_nobody ∈ gw := gw_of (List.mem_append_left _ (List.mem_of_getElem? (i := 64) rfl)) rfl
theorem co_X11_weight : Cond.code yX11_weight cX11_weight 3 (some .int) ∈ gw := gw_of (tb_6 (List.mem_of_getElem? (i := 183) rfl)) rfl
theorem im_X11_weight : Cond.instanceMethod yX11_weight ∈ gw := gw_of (tb_6 (List.mem_of_getElem? (i := 182) rfl)) rfl
theorem se_X11_weight : Cond.selects yX11_weight.cls yX11_weight yX11_weight ∈ gw := gw_of (List.mem_append_left _ (List.mem_of_getElem? (i := 63) rfl)) rfl
theorem co_X11_strengthOn : Cond.code yX11_strengthOn cX11_strengthOn 4 (some .int) ∈ gw := gw_of (tb_6 (List.mem_of_getElem? (i := 203) rfl)) rfl
theorem im_X11_strengthOn : Cond.instanceMethod yX11_strengthOn ∈ gw := gw_of (tb_6 (List.mem_of_getElem? (i := 202) rfl)) rfl
theorem se_X11_strengthOn : Cond.selects yX11_strengthOn.cls yX11_strengthOn yX11_strengthOn ∈ gw := gw_of (List.mem_append_left _ (List.mem_of_getElem? (i := 67) rfl)) rfl
theorem co_X11_depthThen : Cond.code yX11_depthThen cX11_depthThen 6 (some .int) ∈ gw := gw_of (tb_6 (List.mem_of_getElem? (i := 199) rfl)) rfl
theorem im_X11_depthThen : Cond.instanceMethod yX11_depthThen ∈ gw := gw_of (tb_6 (List.mem_of_getElem? (i := 198) rfl)) rfl
theorem se_X11_depthThen : Cond.selects yX11_depthThen.cls yX11_depthThen yX11_depthThen ∈ gw := gw_of (List.mem_append_left _ (List.mem_of_getElem? (i := 66) rfl)) rfl
theorem co_X11_depth : Cond.code yX11_depth cX11_depth 3 (some .int) ∈ gw := gw_of (tb_6 (List.mem_of_getElem? (i := 179) rfl)) rfl
theorem im_X11_depth : Cond.instanceMethod yX11_depth ∈ gw := gw_of (tb_6 (List.mem_of_getElem? (i := 178) rfl)) rfl
theorem se_X11_depth : Cond.selects yX11_depth.cls yX11_depth yX11_depth ∈ gw := gw_of (List.mem_append_left _ (List.mem_of_getElem? (i := 62) rfl)) rfl
theorem co_X11_thirsts : Cond.code yX11_thirsts cX11_thirsts 2 (some .boolean) ∈ gw := gw_of (tb_6 (List.mem_of_getElem? (i := 211) rfl)) rfl
theorem im_X11_thirsts : Cond.instanceMethod yX11_thirsts ∈ gw := gw_of (tb_6 (List.mem_of_getElem? (i := 210) rfl)) rfl
theorem se_X11_thirsts : Cond.selects yX11_thirsts.cls yX11_thirsts yX11_thirsts ∈ gw := gw_of (List.mem_append_left _ (List.mem_of_getElem? (i := 69) rfl)) rfl
theorem co_X11_goes : Cond.code yX11_goes cX11_goes 5 (some .int) ∈ gw := gw_of (tb_6 (List.mem_of_getElem? (i := 195) rfl)) rfl
theorem im_X11_goes : Cond.instanceMethod yX11_goes ∈ gw := gw_of (tb_6 (List.mem_of_getElem? (i := 194) rfl)) rfl
theorem se_X11_goes : Cond.selects yX11_goes.cls yX11_goes yX11_goes ∈ gw := gw_of (List.mem_append_left _ (List.mem_of_getElem? (i := 65) rfl)) rfl
theorem co_X11_pullsAlone : Cond.code yX11_pullsAlone cX11_pullsAlone 7 none ∈ gw := gw_of (tb_7 (List.mem_of_getElem? (i := 157) rfl)) rfl
theorem im_X11_pullsAlone : Cond.instanceMethod yX11_pullsAlone ∈ gw := gw_of (tb_7 (List.mem_of_getElem? (i := 156) rfl)) rfl
theorem se_X11_pullsAlone : Cond.selects yX11_pullsAlone.cls yX11_pullsAlone yX11_pullsAlone ∈ gw := gw_of (List.mem_append_left _ (List.mem_of_getElem? (i := 91) rfl)) rfl
theorem co_X11_alone : Cond.code yX11_alone cX11_alone 4 (some .int) ∈ gw := gw_of (tb_7 (List.mem_of_getElem? (i := 152) rfl)) rfl
theorem im_X11_alone : Cond.instanceMethod yX11_alone ∈ gw := gw_of (tb_7 (List.mem_of_getElem? (i := 150) rfl)) rfl
theorem se_X11_alone : Cond.selects yX11_alone.cls yX11_alone yX11_alone ∈ gw := gw_of (tb_7 (List.mem_of_getElem? (i := 151) rfl)) rfl
theorem co_X11_areFew : Cond.code yX11_areFew cX11_areFew 2 (some .boolean) ∈ gw := gw_of (tb_7 (List.mem_of_getElem? (i := 115) rfl)) rfl
theorem im_X11_areFew : Cond.instanceMethod yX11_areFew ∈ gw := gw_of (tb_7 (List.mem_of_getElem? (i := 114) rfl)) rfl
theorem se_X11_areFew : Cond.selects yX11_areFew.cls yX11_areFew yX11_areFew ∈ gw := gw_of (List.mem_append_left _ (List.mem_of_getElem? (i := 84) rfl)) rfl
theorem co_X11_becomes : Cond.code yX11_becomes cX11_becomes 8 none ∈ gw := gw_of (tb_7 (List.mem_of_getElem? (i := 134) rfl)) rfl
theorem im_X11_becomes : Cond.instanceMethod yX11_becomes ∈ gw := gw_of (tb_7 (List.mem_of_getElem? (i := 133) rfl)) rfl
theorem se_X11_becomes : Cond.selects yX11_becomes.cls yX11_becomes yX11_becomes ∈ gw := gw_of (List.mem_append_left _ (List.mem_of_getElem? (i := 88) rfl)) rfl
theorem co_X11_bitsOf : Cond.code yX11_bitsOf cX11_bitsOf 3 (some .int) ∈ gw := gw_of (tb_7 (List.mem_of_getElem? (i := 75) rfl)) rfl
theorem st_X11_bitsOf : Cond.static yX11_bitsOf ∈ gw := gw_of (tb_7 (List.mem_of_getElem? (i := 74) rfl)) rfl
theorem co_X11_byCustom : Cond.code yX11_byCustom cX11_byCustom 4 none ∈ gw := gw_of (tb_7 (List.mem_of_getElem? (i := 21) rfl)) rfl
theorem im_X11_byCustom : Cond.instanceMethod yX11_byCustom ∈ gw := gw_of (tb_7 (List.mem_of_getElem? (i := 20) rfl)) rfl
theorem se_X11_byCustom : Cond.selects yX11_byCustom.cls yX11_byCustom yX11_byCustom ∈ gw := gw_of (List.mem_append_left _ (List.mem_of_getElem? (i := 76) rfl)) rfl
theorem co_X11_keeps : Cond.code yX11_keeps cX11_keeps 2 none ∈ gw := gw_of (tb_6 (List.mem_of_getElem? (i := 225) rfl)) rfl
theorem im_X11_keeps : Cond.instanceMethod yX11_keeps ∈ gw := gw_of (tb_6 (List.mem_of_getElem? (i := 224) rfl)) rfl
theorem se_X11_keeps : Cond.selects yX11_keeps.cls yX11_keeps yX11_keeps ∈ gw := gw_of (List.mem_append_left _ (List.mem_of_getElem? (i := 70) rfl)) rfl
theorem co_X11_resting : Cond.code yX11_resting cX11_resting 3 (some .int) ∈ gw := gw_of (tb_7 (List.mem_of_getElem? (i := 56) rfl)) rfl
theorem im_X11_resting : Cond.instanceMethod yX11_resting ∈ gw := gw_of (tb_7 (List.mem_of_getElem? (i := 55) rfl)) rfl
theorem se_X11_resting : Cond.selects yX11_resting.cls yX11_resting yX11_resting ∈ gw := gw_of (List.mem_append_left _ (List.mem_of_getElem? (i := 79) rfl)) rfl
theorem co_X11_isAgain : Cond.code yX11_isAgain cX11_isAgain 2 none ∈ gw := gw_of (tb_6 (List.mem_of_getElem? (i := 239) rfl)) rfl
theorem im_X11_isAgain : Cond.instanceMethod yX11_isAgain ∈ gw := gw_of (tb_6 (List.mem_of_getElem? (i := 238) rfl)) rfl
theorem se_X11_isAgain : Cond.selects yX11_isAgain.cls yX11_isAgain yX11_isAgain ∈ gw := gw_of (List.mem_append_left _ (List.mem_of_getElem? (i := 73) rfl)) rfl
theorem co_X11_calm : Cond.code yX11_calm cX11_calm 3 (some .int) ∈ gw := gw_of (tb_7 (List.mem_of_getElem? (i := 60) rfl)) rfl
theorem im_X11_calm : Cond.instanceMethod yX11_calm ∈ gw := gw_of (tb_7 (List.mem_of_getElem? (i := 58) rfl)) rfl
theorem se_X11_calm : Cond.selects yX11_calm.cls yX11_calm yX11_calm ∈ gw := gw_of (tb_7 (List.mem_of_getElem? (i := 59) rfl)) rfl
theorem co_X11_state : Cond.code yX11_state cX11_state 6 (some .long) ∈ gw := gw_of (tb_7 (List.mem_of_getElem? (i := 119) rfl)) rfl
theorem im_X11_state : Cond.instanceMethod yX11_state ∈ gw := gw_of (tb_7 (List.mem_of_getElem? (i := 118) rfl)) rfl
theorem se_X11_state : Cond.selects yX11_state.cls yX11_state yX11_state ∈ gw := gw_of (List.mem_append_left _ (List.mem_of_getElem? (i := 85) rfl)) rfl
theorem co_X11_meetsFor : Cond.code yX11_meetsFor cX11_meetsFor 6 none ∈ gw := gw_of (tb_7 (List.mem_of_getElem? (i := 148) rfl)) rfl
theorem im_X11_meetsFor : Cond.instanceMethod yX11_meetsFor ∈ gw := gw_of (tb_7 (List.mem_of_getElem? (i := 147) rfl)) rfl
theorem se_X11_meetsFor : Cond.selects yX11_meetsFor.cls yX11_meetsFor yX11_meetsFor ∈ gw := gw_of (List.mem_append_left _ (List.mem_of_getElem? (i := 90) rfl)) rfl
theorem co_X11_pullsFor : Cond.code yX11_pullsFor cX11_pullsFor 8 none ∈ gw := gw_of (tb_7 (List.mem_of_getElem? (i := 144) rfl)) rfl
theorem im_X11_pullsFor : Cond.instanceMethod yX11_pullsFor ∈ gw := gw_of (tb_7 (List.mem_of_getElem? (i := 143) rfl)) rfl
theorem se_X11_pullsFor : Cond.selects yX11_pullsFor.cls yX11_pullsFor yX11_pullsFor ∈ gw := gw_of (List.mem_append_left _ (List.mem_of_getElem? (i := 89) rfl)) rfl
theorem co_X11_cheapest : Cond.code yX11_cheapest cX11_cheapest 7 (some .int) ∈ gw := gw_of (tb_7 (List.mem_of_getElem? (i := 139) rfl)) rfl
theorem im_X11_cheapest : Cond.instanceMethod yX11_cheapest ∈ gw := gw_of (tb_7 (List.mem_of_getElem? (i := 137) rfl)) rfl
theorem se_X11_cheapest : Cond.selects yX11_cheapest.cls yX11_cheapest yX11_cheapest ∈ gw := gw_of (tb_7 (List.mem_of_getElem? (i := 138) rfl)) rfl
theorem co_X11_clashOf : Cond.code yX11_clashOf cX11_clashOf 4 (some .int) ∈ gw := gw_of (tb_7 (List.mem_of_getElem? (i := 185) rfl)) rfl
theorem im_X11_clashOf : Cond.instanceMethod yX11_clashOf ∈ gw := gw_of (tb_7 (List.mem_of_getElem? (i := 184) rfl)) rfl
theorem se_X11_clashOf : Cond.selects yX11_clashOf.cls yX11_clashOf yX11_clashOf ∈ gw := gw_of (List.mem_append_left _ (List.mem_of_getElem? (i := 95) rfl)) rfl
theorem co_X11_clashes : Cond.code yX11_clashes cX11_clashes 6 (some .int) ∈ gw := gw_of (tb_7 (List.mem_of_getElem? (i := 181) rfl)) rfl
theorem im_X11_clashes : Cond.instanceMethod yX11_clashes ∈ gw := gw_of (tb_7 (List.mem_of_getElem? (i := 180) rfl)) rfl
theorem se_X11_clashes : Cond.selects yX11_clashes.cls yX11_clashes yX11_clashes ∈ gw := gw_of (List.mem_append_left _ (List.mem_of_getElem? (i := 94) rfl)) rfl
theorem co_X11_isRope : Cond.code yX11_isRope cX11_isRope 3 (some .boolean) ∈ gw := gw_of (tb_6 (List.mem_of_getElem? (i := 175) rfl)) rfl
theorem im_X11_isRope : Cond.instanceMethod yX11_isRope ∈ gw := gw_of (tb_6 (List.mem_of_getElem? (i := 174) rfl)) rfl
theorem se_X11_isRope : Cond.selects yX11_isRope.cls yX11_isRope yX11_isRope ∈ gw := gw_of (List.mem_append_left _ (List.mem_of_getElem? (i := 61) rfl)) rfl
theorem co_X11_clash : Cond.code yX11_clash cX11_clash 2 (some .int) ∈ gw := gw_of (tb_7 (List.mem_of_getElem? (i := 189) rfl)) rfl
theorem im_X11_clash : Cond.instanceMethod yX11_clash ∈ gw := gw_of (tb_7 (List.mem_of_getElem? (i := 187) rfl)) rfl
theorem se_X11_clash : Cond.selects yX11_clash.cls yX11_clash yX11_clash ∈ gw := gw_of (tb_7 (List.mem_of_getElem? (i := 188) rfl)) rfl
theorem co_X11_copy : Cond.code yX11_copy cX11_copy 3 (some .int) ∈ gw := gw_of (tb_7 (List.mem_of_getElem? (i := 227) rfl)) rfl
theorem im_X11_copy : Cond.instanceMethod yX11_copy ∈ gw := gw_of (tb_7 (List.mem_of_getElem? (i := 225) rfl)) rfl
theorem se_X11_copy : Cond.selects yX11_copy.cls yX11_copy yX11_copy ∈ gw := gw_of (tb_7 (List.mem_of_getElem? (i := 226) rfl)) rfl
theorem co_X11_sumOf : Cond.code yX11_sumOf cX11_sumOf 4 (some .int) ∈ gw := gw_of (tb_7 (List.mem_of_getElem? (i := 13) rfl)) rfl
theorem im_X11_sumOf : Cond.instanceMethod yX11_sumOf ∈ gw := gw_of (tb_7 (List.mem_of_getElem? (i := 12) rfl)) rfl
theorem se_X11_sumOf : Cond.selects yX11_sumOf.cls yX11_sumOf yX11_sumOf ∈ gw := gw_of (List.mem_append_left _ (List.mem_of_getElem? (i := 74) rfl)) rfl
theorem co_X11_fullMany : Cond.code yX11_fullMany cX11_fullMany 3 (some .int) ∈ gw := gw_of (tb_8 (List.mem_of_getElem? (i := 3) rfl)) rfl
theorem im_X11_fullMany : Cond.instanceMethod yX11_fullMany ∈ gw := gw_of (tb_8 (List.mem_of_getElem? (i := 2) rfl)) rfl
theorem se_X11_fullMany : Cond.selects yX11_fullMany.cls yX11_fullMany yX11_fullMany ∈ gw := gw_of (List.mem_append_left _ (List.mem_of_getElem? (i := 99) rfl)) rfl
theorem co_X11_count : Cond.code yX11_count cX11_count 2 (some .int) ∈ gw := gw_of (tb_7 (List.mem_of_getElem? (i := 239) rfl)) rfl
theorem im_X11_count : Cond.instanceMethod yX11_count ∈ gw := gw_of (tb_7 (List.mem_of_getElem? (i := 237) rfl)) rfl
theorem se_X11_count : Cond.selects yX11_count.cls yX11_count yX11_count ∈ gw := gw_of (tb_7 (List.mem_of_getElem? (i := 238) rfl)) rfl
theorem co_X11_lives : Cond.code yX11_lives cX11_lives 4 (some .int) ∈ gw := gw_of (tb_7 (List.mem_of_getElem? (i := 17) rfl)) rfl
theorem im_X11_lives : Cond.instanceMethod yX11_lives ∈ gw := gw_of (tb_7 (List.mem_of_getElem? (i := 16) rfl)) rfl
theorem se_X11_lives : Cond.selects yX11_lives.cls yX11_lives yX11_lives ∈ gw := gw_of (List.mem_append_left _ (List.mem_of_getElem? (i := 75) rfl)) rfl
theorem co_X11_custom : Cond.code yX11_custom cX11_custom 6 (some .int) ∈ gw := gw_of (tb_7 (List.mem_of_getElem? (i := 7) rfl)) rfl
theorem im_X11_custom : Cond.instanceMethod yX11_custom ∈ gw := gw_of (tb_7 (List.mem_of_getElem? (i := 5) rfl)) rfl
theorem se_X11_custom : Cond.selects yX11_custom.cls yX11_custom yX11_custom ∈ gw := gw_of (tb_7 (List.mem_of_getElem? (i := 6) rfl)) rfl
theorem co_X11_cut : Cond.code yX11_cut cX11_cut 2 (some .int) ∈ gw := gw_of (tb_7 (List.mem_of_getElem? (i := 43) rfl)) rfl
theorem im_X11_cut : Cond.instanceMethod yX11_cut ∈ gw := gw_of (tb_7 (List.mem_of_getElem? (i := 41) rfl)) rfl
theorem se_X11_cut : Cond.selects yX11_cut.cls yX11_cut yX11_cut ∈ gw := gw_of (tb_7 (List.mem_of_getElem? (i := 42) rfl)) rfl
theorem co_X11_cutTo : Cond.code yX11_cutTo cX11_cutTo 3 (some .long) ∈ gw := gw_of (tb_7 (List.mem_of_getElem? (i := 223) rfl)) rfl
theorem st_X11_cutTo : Cond.static yX11_cutTo ∈ gw := gw_of (tb_7 (List.mem_of_getElem? (i := 222) rfl)) rfl
theorem co_X11_hangingAt : Cond.code yX11_hangingAt cX11_hangingAt 5 (some .int) ∈ gw := gw_of (tb_7 (List.mem_of_getElem? (i := 39) rfl)) rfl
theorem im_X11_hangingAt : Cond.instanceMethod yX11_hangingAt ∈ gw := gw_of (tb_7 (List.mem_of_getElem? (i := 38) rfl)) rfl
theorem se_X11_hangingAt : Cond.selects yX11_hangingAt.cls yX11_hangingAt yX11_hangingAt ∈ gw := gw_of (List.mem_append_left _ (List.mem_of_getElem? (i := 78) rfl)) rfl
theorem co_X11_drought : Cond.code yX11_drought cX11_drought 7 (some .int) ∈ gw := gw_of (tb_7 (List.mem_of_getElem? (i := 29) rfl)) rfl
theorem im_X11_drought : Cond.instanceMethod yX11_drought ∈ gw := gw_of (tb_7 (List.mem_of_getElem? (i := 27) rfl)) rfl
theorem se_X11_drought : Cond.selects yX11_drought.cls yX11_drought yX11_drought ∈ gw := gw_of (tb_7 (List.mem_of_getElem? (i := 28) rfl)) rfl
theorem co_X11_isIn : Cond.code yX11_isIn cX11_isIn 3 (some .boolean) ∈ gw := gw_of (tb_7 (List.mem_of_getElem? (i := 79) rfl)) rfl
theorem im_X11_isIn : Cond.instanceMethod yX11_isIn ∈ gw := gw_of (tb_7 (List.mem_of_getElem? (i := 78) rfl)) rfl
theorem se_X11_isIn : Cond.selects yX11_isIn.cls yX11_isIn yX11_isIn ∈ gw := gw_of (List.mem_append_left _ (List.mem_of_getElem? (i := 80) rfl)) rfl
theorem co_X11_orders : Cond.code yX11_orders cX11_orders 6 none ∈ gw := gw_of (tb_7 (List.mem_of_getElem? (i := 177) rfl)) rfl
theorem im_X11_orders : Cond.instanceMethod yX11_orders ∈ gw := gw_of (tb_7 (List.mem_of_getElem? (i := 176) rfl)) rfl
theorem se_X11_orders : Cond.selects yX11_orders.cls yX11_orders yX11_orders ∈ gw := gw_of (List.mem_append_left _ (List.mem_of_getElem? (i := 93) rfl)) rfl
theorem co_X11_dwellings : Cond.code yX11_dwellings cX11_dwellings 2 (some .int) ∈ gw := gw_of (tb_7 (List.mem_of_getElem? (i := 173) rfl)) rfl
theorem im_X11_dwellings : Cond.instanceMethod yX11_dwellings ∈ gw := gw_of (tb_7 (List.mem_of_getElem? (i := 171) rfl)) rfl
theorem se_X11_dwellings : Cond.selects yX11_dwellings.cls yX11_dwellings yX11_dwellings ∈ gw := gw_of (tb_7 (List.mem_of_getElem? (i := 172) rfl)) rfl
theorem co_X11_is : Cond.code yX11_is cX11_is 2 (some .boolean) ∈ gw := gw_of (tb_6 (List.mem_of_getElem? (i := 126) rfl)) rfl
theorem im_X11_is : Cond.instanceMethod yX11_is ∈ gw := gw_of (tb_6 (List.mem_of_getElem? (i := 125) rfl)) rfl
theorem se_X11_is : Cond.selects yX11_is.cls yX11_is yX11_is ∈ gw := gw_of (List.mem_append_left _ (List.mem_of_getElem? (i := 52) rfl)) rfl
theorem co_X11_see : Cond.code yX11_see cX11_see 2 (some .int) ∈ gw := gw_of (tb_6 (List.mem_of_getElem? (i := 109) rfl)) rfl
theorem im_X11_see : Cond.instanceMethod yX11_see ∈ gw := gw_of (tb_6 (List.mem_of_getElem? (i := 108) rfl)) rfl
theorem se_X11_see : Cond.selects yX11_see.cls yX11_see yX11_see ∈ gw := gw_of (List.mem_append_left _ (List.mem_of_getElem? (i := 50) rfl)) rfl
theorem co_X11_isSmall : Cond.code yX11_isSmall cX11_isSmall 1 (some .boolean) ∈ gw := gw_of (tb_6 (List.mem_of_getElem? (i := 112) rfl)) rfl
theorem st_X11_isSmall : Cond.static yX11_isSmall ∈ gw := gw_of (tb_6 (List.mem_of_getElem? (i := 111) rfl)) rfl
theorem co_X11_keyAt : Cond.code yX11_keyAt cX11_keyAt 4 (some .int) ∈ gw := gw_of (tb_6 (List.mem_of_getElem? (i := 116) rfl)) rfl
theorem im_X11_keyAt : Cond.instanceMethod yX11_keyAt ∈ gw := gw_of (tb_6 (List.mem_of_getElem? (i := 115) rfl)) rfl
theorem se_X11_keyAt : Cond.selects yX11_keyAt.cls yX11_keyAt yX11_keyAt ∈ gw := gw_of (List.mem_append_left _ (List.mem_of_getElem? (i := 51) rfl)) rfl
theorem co_X11_isDigit : Cond.code yX11_isDigit cX11_isDigit 1 (some .boolean) ∈ gw := gw_of (tb_6 (List.mem_of_getElem? (i := 122) rfl)) rfl
theorem st_X11_isDigit : Cond.static yX11_isDigit ∈ gw := gw_of (tb_6 (List.mem_of_getElem? (i := 121) rfl)) rfl
theorem co_X11_next : Cond.code yX11_next cX11_next 1 none ∈ gw := gw_of (tb_6 (List.mem_of_getElem? (i := 105) rfl)) rfl
theorem im_X11_next : Cond.instanceMethod yX11_next ∈ gw := gw_of (tb_6 (List.mem_of_getElem? (i := 104) rfl)) rfl
theorem se_X11_next : Cond.selects yX11_next.cls yX11_next yX11_next ∈ gw := gw_of (List.mem_append_left _ (List.mem_of_getElem? (i := 49) rfl)) rfl
theorem co_X11_eats : Cond.code yX11_eats cX11_eats 2 (some .boolean) ∈ gw := gw_of (tb_6 (List.mem_of_getElem? (i := 142) rfl)) rfl
theorem im_X11_eats : Cond.instanceMethod yX11_eats ∈ gw := gw_of (tb_6 (List.mem_of_getElem? (i := 141) rfl)) rfl
theorem se_X11_eats : Cond.selects yX11_eats.cls yX11_eats yX11_eats ∈ gw := gw_of (List.mem_append_left _ (List.mem_of_getElem? (i := 56) rfl)) rfl
theorem co_X11_even : Cond.code yX11_even cX11_even 4 (some .int) ∈ gw := gw_of (tb_7 (List.mem_of_getElem? (i := 64) rfl)) rfl
theorem im_X11_even : Cond.instanceMethod yX11_even ∈ gw := gw_of (tb_7 (List.mem_of_getElem? (i := 62) rfl)) rfl
theorem se_X11_even : Cond.selects yX11_even.cls yX11_even yX11_even ∈ gw := gw_of (tb_7 (List.mem_of_getElem? (i := 63) rfl)) rfl
theorem co_X11_fails : Cond.code yX11_fails cX11_fails 2 none ∈ gw := gw_of (tb_6 (List.mem_of_getElem? (i := 134) rfl)) rfl
theorem im_X11_fails : Cond.instanceMethod yX11_fails ∈ gw := gw_of (tb_6 (List.mem_of_getElem? (i := 133) rfl)) rfl
theorem se_X11_fails : Cond.selects yX11_fails.cls yX11_fails yX11_fails ∈ gw := gw_of (List.mem_append_left _ (List.mem_of_getElem? (i := 54) rfl)) rfl
theorem co_X11_fault : Cond.code yX11_fault cX11_fault 2 (some .int) ∈ gw := gw_of (tb_6 (List.mem_of_getElem? (i := 150) rfl)) rfl
theorem im_X11_fault : Cond.instanceMethod yX11_fault ∈ gw := gw_of (tb_6 (List.mem_of_getElem? (i := 148) rfl)) rfl
theorem se_X11_fault : Cond.selects yX11_fault.cls yX11_fault yX11_fault ∈ gw := gw_of (tb_6 (List.mem_of_getElem? (i := 149) rfl)) rfl
theorem co_X11_feed : Cond.code yX11_feed cX11_feed 8 (some .int) ∈ gw := gw_of (tb_6 (List.mem_of_getElem? (i := 94) rfl)) rfl
theorem im_X11_feed : Cond.instanceMethod yX11_feed ∈ gw := gw_of (tb_6 (List.mem_of_getElem? (i := 92) rfl)) rfl
theorem se_X11_feed : Cond.selects yX11_feed.cls yX11_feed yX11_feed ∈ gw := gw_of (tb_6 (List.mem_of_getElem? (i := 93) rfl)) rfl
theorem co_X11_haveRope : Cond.code yX11_haveRope cX11_haveRope 4 (some .boolean) ∈ gw := gw_of (tb_7 (List.mem_of_getElem? (i := 165) rfl)) rfl
theorem im_X11_haveRope : Cond.instanceMethod yX11_haveRope ∈ gw := gw_of (tb_7 (List.mem_of_getElem? (i := 164) rfl)) rfl
theorem se_X11_haveRope : Cond.selects yX11_haveRope.cls yX11_haveRope yX11_haveRope ∈ gw := gw_of (List.mem_append_left _ (List.mem_of_getElem? (i := 92) rfl)) rfl
theorem co_X11_refuses : Cond.code yX11_refuses cX11_refuses 3 (some .int) ∈ gw := gw_of (tb_6 (List.mem_of_getElem? (i := 234) rfl)) rfl
theorem im_X11_refuses : Cond.instanceMethod yX11_refuses ∈ gw := gw_of (tb_6 (List.mem_of_getElem? (i := 233) rfl)) rfl
theorem se_X11_refuses : Cond.selects yX11_refuses.cls yX11_refuses yX11_refuses ∈ gw := gw_of (List.mem_append_left _ (List.mem_of_getElem? (i := 72) rfl)) rfl
theorem co_X11_hoursOf : Cond.code yX11_hoursOf cX11_hoursOf 4 (some .int) ∈ gw := gw_of (tb_6 (List.mem_of_getElem? (i := 229) rfl)) rfl
theorem im_X11_hoursOf : Cond.instanceMethod yX11_hoursOf ∈ gw := gw_of (tb_6 (List.mem_of_getElem? (i := 228) rfl)) rfl
theorem se_X11_hoursOf : Cond.selects yX11_hoursOf.cls yX11_hoursOf yX11_hoursOf ∈ gw := gw_of (List.mem_append_left _ (List.mem_of_getElem? (i := 71) rfl)) rfl
theorem co_X11_ropesOf : Cond.code yX11_ropesOf cX11_ropesOf 4 (some .int) ∈ gw := gw_of (tb_6 (List.mem_of_getElem? (i := 163) rfl)) rfl
theorem im_X11_ropesOf : Cond.instanceMethod yX11_ropesOf ∈ gw := gw_of (tb_6 (List.mem_of_getElem? (i := 162) rfl)) rfl
theorem se_X11_ropesOf : Cond.selects yX11_ropesOf.cls yX11_ropesOf yX11_ropesOf ∈ gw := gw_of (List.mem_append_left _ (List.mem_of_getElem? (i := 59) rfl)) rfl
theorem co_X11_house : Cond.code yX11_house cX11_house 3 (some .int) ∈ gw := gw_of (tb_6 (List.mem_of_getElem? (i := 154) rfl)) rfl
theorem im_X11_house : Cond.instanceMethod yX11_house ∈ gw := gw_of (tb_6 (List.mem_of_getElem? (i := 152) rfl)) rfl
theorem se_X11_house : Cond.selects yX11_house.cls yX11_house yX11_house ∈ gw := gw_of (tb_6 (List.mem_of_getElem? (i := 153) rfl)) rfl
theorem co_X11_image : Cond.code yX11_image cX11_image 3 (some .int) ∈ gw := gw_of (tb_7 (List.mem_of_getElem? (i := 231) rfl)) rfl
theorem im_X11_image : Cond.instanceMethod yX11_image ∈ gw := gw_of (tb_7 (List.mem_of_getElem? (i := 229) rfl)) rfl
theorem se_X11_image : Cond.selects yX11_image.cls yX11_image yX11_image ∈ gw := gw_of (tb_7 (List.mem_of_getElem? (i := 230) rfl)) rfl
theorem co_X11_plain : Cond.code yX11_plain cX11_plain 2 none ∈ gw := gw_of (tb_5 (List.mem_of_getElem? (i := 197) rfl)) rfl
theorem st_X11_plain : Cond.static yX11_plain ∈ gw := gw_of (tb_5 (List.mem_of_getElem? (i := 196) rfl)) rfl
theorem co_X11_init : Cond.code yX11_init cX11_init 1 none ∈ gw := gw_of (tb_5 (List.mem_of_getElem? (i := 193) rfl)) rfl
theorem im_X11_init : Cond.instanceMethod yX11_init ∈ gw := gw_of (tb_5 (List.mem_of_getElem? (i := 192) rfl)) rfl
theorem co_X11_judge : Cond.code yX11_judge cX11_judge 4 (some .int) ∈ gw := gw_of (tb_6 (List.mem_of_getElem? (i := 219) rfl)) rfl
theorem im_X11_judge : Cond.instanceMethod yX11_judge ∈ gw := gw_of (tb_6 (List.mem_of_getElem? (i := 217) rfl)) rfl
theorem se_X11_judge : Cond.selects yX11_judge.cls yX11_judge yX11_judge ∈ gw := gw_of (tb_6 (List.mem_of_getElem? (i := 218) rfl)) rfl
theorem co_X11_takes : Cond.code yX11_takes cX11_takes 4 (some .int) ∈ gw := gw_of (tb_6 (List.mem_of_getElem? (i := 138) rfl)) rfl
theorem im_X11_takes : Cond.instanceMethod yX11_takes ∈ gw := gw_of (tb_6 (List.mem_of_getElem? (i := 137) rfl)) rfl
theorem se_X11_takes : Cond.selects yX11_takes.cls yX11_takes yX11_takes ∈ gw := gw_of (List.mem_append_left _ (List.mem_of_getElem? (i := 55) rfl)) rfl
theorem co_X11_readHouse : Cond.code yX11_readHouse cX11_readHouse 6 none ∈ gw := gw_of (tb_6 (List.mem_of_getElem? (i := 130) rfl)) rfl
theorem im_X11_readHouse : Cond.instanceMethod yX11_readHouse ∈ gw := gw_of (tb_6 (List.mem_of_getElem? (i := 129) rfl)) rfl
theorem se_X11_readHouse : Cond.selects yX11_readHouse.cls yX11_readHouse yX11_readHouse ∈ gw := gw_of (List.mem_append_left _ (List.mem_of_getElem? (i := 53) rfl)) rfl
theorem co_X11_readRope : Cond.code yX11_readRope cX11_readRope 9 none ∈ gw := gw_of (tb_6 (List.mem_of_getElem? (i := 146) rfl)) rfl
theorem im_X11_readRope : Cond.instanceMethod yX11_readRope ∈ gw := gw_of (tb_6 (List.mem_of_getElem? (i := 145) rfl)) rfl
theorem se_X11_readRope : Cond.selects yX11_readRope.cls yX11_readRope yX11_readRope ∈ gw := gw_of (List.mem_append_left _ (List.mem_of_getElem? (i := 57) rfl)) rfl
theorem co_X11_land : Cond.code yX11_land cX11_land 3 (some .int) ∈ gw := gw_of (tb_6 (List.mem_of_getElem? (i := 98) rfl)) rfl
theorem im_X11_land : Cond.instanceMethod yX11_land ∈ gw := gw_of (tb_6 (List.mem_of_getElem? (i := 96) rfl)) rfl
theorem se_X11_land : Cond.selects yX11_land.cls yX11_land yX11_land ∈ gw := gw_of (tb_6 (List.mem_of_getElem? (i := 97) rfl)) rfl
theorem co_X11_waysFrom : Cond.code yX11_waysFrom cX11_waysFrom 5 (some .int) ∈ gw := gw_of (tb_7 (List.mem_of_getElem? (i := 205) rfl)) rfl
theorem im_X11_waysFrom : Cond.instanceMethod yX11_waysFrom ∈ gw := gw_of (tb_7 (List.mem_of_getElem? (i := 204) rfl)) rfl
theorem se_X11_waysFrom : Cond.selects yX11_waysFrom.cls yX11_waysFrom yX11_waysFrom ∈ gw := gw_of (List.mem_append_left _ (List.mem_of_getElem? (i := 98) rfl)) rfl
theorem co_X11_laysSeen : Cond.code yX11_laysSeen cX11_laysSeen 2 (some .int) ∈ gw := gw_of (tb_7 (List.mem_of_getElem? (i := 201) rfl)) rfl
theorem im_X11_laysSeen : Cond.instanceMethod yX11_laysSeen ∈ gw := gw_of (tb_7 (List.mem_of_getElem? (i := 200) rfl)) rfl
theorem se_X11_laysSeen : Cond.selects yX11_laysSeen.cls yX11_laysSeen yX11_laysSeen ∈ gw := gw_of (List.mem_append_left _ (List.mem_of_getElem? (i := 97) rfl)) rfl
theorem co_X11_lifts : Cond.code yX11_lifts cX11_lifts 4 (some .int) ∈ gw := gw_of (tb_7 (List.mem_of_getElem? (i := 68) rfl)) rfl
theorem im_X11_lifts : Cond.instanceMethod yX11_lifts ∈ gw := gw_of (tb_7 (List.mem_of_getElem? (i := 66) rfl)) rfl
theorem se_X11_lifts : Cond.selects yX11_lifts.cls yX11_lifts yX11_lifts ∈ gw := gw_of (tb_7 (List.mem_of_getElem? (i := 67) rfl)) rfl
theorem co_X11_live : Cond.code yX11_live cX11_live 2 (some .int) ∈ gw := gw_of (tb_7 (List.mem_of_getElem? (i := 25) rfl)) rfl
theorem im_X11_live : Cond.instanceMethod yX11_live ∈ gw := gw_of (tb_7 (List.mem_of_getElem? (i := 23) rfl)) rfl
theorem se_X11_live : Cond.selects yX11_live.cls yX11_live yX11_live ∈ gw := gw_of (tb_7 (List.mem_of_getElem? (i := 24) rfl)) rfl
theorem co_X11_meets : Cond.code yX11_meets cX11_meets 4 none ∈ gw := gw_of (tb_7 (List.mem_of_getElem? (i := 125) rfl)) rfl
theorem im_X11_meets : Cond.instanceMethod yX11_meets ∈ gw := gw_of (tb_7 (List.mem_of_getElem? (i := 124) rfl)) rfl
theorem se_X11_meets : Cond.selects yX11_meets.cls yX11_meets yX11_meets ∈ gw := gw_of (List.mem_append_left _ (List.mem_of_getElem? (i := 86) rfl)) rfl
theorem co_X11_pullsAll : Cond.code yX11_pullsAll cX11_pullsAll 8 (some .boolean) ∈ gw := gw_of (tb_7 (List.mem_of_getElem? (i := 130) rfl)) rfl
theorem im_X11_pullsAll : Cond.instanceMethod yX11_pullsAll ∈ gw := gw_of (tb_7 (List.mem_of_getElem? (i := 129) rfl)) rfl
theorem se_X11_pullsAll : Cond.selects yX11_pullsAll.cls yX11_pullsAll yX11_pullsAll ∈ gw := gw_of (List.mem_append_left _ (List.mem_of_getElem? (i := 87) rfl)) rfl
theorem co_X11_soonestOf : Cond.code yX11_soonestOf cX11_soonestOf 9 (some .int) ∈ gw := gw_of (tb_7 (List.mem_of_getElem? (i := 111) rfl)) rfl
theorem im_X11_soonestOf : Cond.instanceMethod yX11_soonestOf ∈ gw := gw_of (tb_7 (List.mem_of_getElem? (i := 110) rfl)) rfl
theorem se_X11_soonestOf : Cond.selects yX11_soonestOf.cls yX11_soonestOf yX11_soonestOf ∈ gw := gw_of (List.mem_append_left _ (List.mem_of_getElem? (i := 83) rfl)) rfl
theorem co_X11_loss : Cond.code yX11_loss cX11_loss 5 (some .int) ∈ gw := gw_of (tb_7 (List.mem_of_getElem? (i := 169) rfl)) rfl
theorem im_X11_loss : Cond.instanceMethod yX11_loss ∈ gw := gw_of (tb_7 (List.mem_of_getElem? (i := 167) rfl)) rfl
theorem se_X11_loss : Cond.selects yX11_loss.cls yX11_loss yX11_loss ∈ gw := gw_of (tb_7 (List.mem_of_getElem? (i := 168) rfl)) rfl
theorem co_X11_mate : Cond.code yX11_mate cX11_mate 6 (some .int) ∈ gw := gw_of (tb_7 (List.mem_of_getElem? (i := 161) rfl)) rfl
theorem im_X11_mate : Cond.instanceMethod yX11_mate ∈ gw := gw_of (tb_7 (List.mem_of_getElem? (i := 159) rfl)) rfl
theorem se_X11_mate : Cond.selects yX11_mate.cls yX11_mate yX11_mate ∈ gw := gw_of (tb_7 (List.mem_of_getElem? (i := 160) rfl)) rfl
theorem co_X11_partOf : Cond.code yX11_partOf cX11_partOf 6 (some .int) ∈ gw := gw_of (tb_7 (List.mem_of_getElem? (i := 99) rfl)) rfl
theorem im_X11_partOf : Cond.instanceMethod yX11_partOf ∈ gw := gw_of (tb_7 (List.mem_of_getElem? (i := 98) rfl)) rfl
theorem se_X11_partOf : Cond.selects yX11_partOf.cls yX11_partOf yX11_partOf ∈ gw := gw_of (List.mem_append_left _ (List.mem_of_getElem? (i := 82) rfl)) rfl
theorem co_X11_neighbours : Cond.code yX11_neighbours cX11_neighbours 2 (some .int) ∈ gw := gw_of (tb_7 (List.mem_of_getElem? (i := 95) rfl)) rfl
theorem im_X11_neighbours : Cond.instanceMethod yX11_neighbours ∈ gw := gw_of (tb_7 (List.mem_of_getElem? (i := 93) rfl)) rfl
theorem se_X11_neighbours : Cond.selects yX11_neighbours.cls yX11_neighbours yX11_neighbours ∈ gw := gw_of (tb_7 (List.mem_of_getElem? (i := 94) rfl)) rfl
theorem co_X11_numbers : Cond.code yX11_numbers cX11_numbers 5 (some .int) ∈ gw := gw_of (tb_7 (List.mem_of_getElem? (i := 213) rfl)) rfl
theorem im_X11_numbers : Cond.instanceMethod yX11_numbers ∈ gw := gw_of (tb_7 (List.mem_of_getElem? (i := 211) rfl)) rfl
theorem se_X11_numbers : Cond.selects yX11_numbers.cls yX11_numbers yX11_numbers ∈ gw := gw_of (tb_7 (List.mem_of_getElem? (i := 212) rfl)) rfl
theorem co_X11_parted : Cond.code yX11_parted cX11_parted 8 (some .int) ∈ gw := gw_of (tb_7 (List.mem_of_getElem? (i := 83) rfl)) rfl
theorem im_X11_parted : Cond.instanceMethod yX11_parted ∈ gw := gw_of (tb_7 (List.mem_of_getElem? (i := 81) rfl)) rfl
theorem se_X11_parted : Cond.selects yX11_parted.cls yX11_parted yX11_parted ∈ gw := gw_of (tb_7 (List.mem_of_getElem? (i := 82) rfl)) rfl
theorem co_X11_pass : Cond.code yX11_pass cX11_pass 1 (some .int) ∈ gw := gw_of (tb_6 (List.mem_of_getElem? (i := 187) rfl)) rfl
theorem im_X11_pass : Cond.instanceMethod yX11_pass ∈ gw := gw_of (tb_6 (List.mem_of_getElem? (i := 185) rfl)) rfl
theorem se_X11_pass : Cond.selects yX11_pass.cls yX11_pass yX11_pass ∈ gw := gw_of (tb_6 (List.mem_of_getElem? (i := 186) rfl)) rfl
theorem co_X11_perform : Cond.code yX11_perform cX11_perform 2 (some .int) ∈ gw := gw_of (tb_7 (List.mem_of_getElem? (i := 3) rfl)) rfl
theorem im_X11_perform : Cond.instanceMethod yX11_perform ∈ gw := gw_of (tb_7 (List.mem_of_getElem? (i := 1) rfl)) rfl
theorem se_X11_perform : Cond.selects yX11_perform.cls yX11_perform yX11_perform ∈ gw := gw_of (tb_7 (List.mem_of_getElem? (i := 2) rfl)) rfl
theorem co_X11_pull : Cond.code yX11_pull cX11_pull 3 (some .int) ∈ gw := gw_of (tb_6 (List.mem_of_getElem? (i := 215) rfl)) rfl
theorem im_X11_pull : Cond.instanceMethod yX11_pull ∈ gw := gw_of (tb_6 (List.mem_of_getElem? (i := 213) rfl)) rfl
theorem se_X11_pull : Cond.selects yX11_pull.cls yX11_pull yX11_pull ∈ gw := gw_of (tb_6 (List.mem_of_getElem? (i := 214) rfl)) rfl
theorem co_X11_refusesSeen : Cond.code yX11_refusesSeen cX11_refusesSeen 2 (some .int) ∈ gw := gw_of (tb_7 (List.mem_of_getElem? (i := 197) rfl)) rfl
theorem im_X11_refusesSeen : Cond.instanceMethod yX11_refusesSeen ∈ gw := gw_of (tb_7 (List.mem_of_getElem? (i := 196) rfl)) rfl
theorem se_X11_refusesSeen : Cond.selects yX11_refusesSeen.cls yX11_refusesSeen yX11_refusesSeen ∈ gw := gw_of (List.mem_append_left _ (List.mem_of_getElem? (i := 96) rfl)) rfl
theorem co_X11_pulled : Cond.code yX11_pulled cX11_pulled 3 (some .int) ∈ gw := gw_of (tb_7 (List.mem_of_getElem? (i := 209) rfl)) rfl
theorem im_X11_pulled : Cond.instanceMethod yX11_pulled ∈ gw := gw_of (tb_7 (List.mem_of_getElem? (i := 207) rfl)) rfl
theorem se_X11_pulled : Cond.selects yX11_pulled.cls yX11_pulled yX11_pulled ∈ gw := gw_of (tb_7 (List.mem_of_getElem? (i := 208) rfl)) rfl
theorem co_X11_restore : Cond.code yX11_restore cX11_restore 3 (some .int) ∈ gw := gw_of (tb_7 (List.mem_of_getElem? (i := 235) rfl)) rfl
theorem im_X11_restore : Cond.instanceMethod yX11_restore ∈ gw := gw_of (tb_7 (List.mem_of_getElem? (i := 233) rfl)) rfl
theorem se_X11_restore : Cond.selects yX11_restore.cls yX11_restore yX11_restore ∈ gw := gw_of (tb_7 (List.mem_of_getElem? (i := 234) rfl)) rfl
theorem co_X11_rests : Cond.code yX11_rests cX11_rests 1 (some .int) ∈ gw := gw_of (tb_7 (List.mem_of_getElem? (i := 52) rfl)) rfl
theorem im_X11_rests : Cond.instanceMethod yX11_rests ∈ gw := gw_of (tb_7 (List.mem_of_getElem? (i := 50) rfl)) rfl
theorem se_X11_rests : Cond.selects yX11_rests.cls yX11_rests yX11_rests ∈ gw := gw_of (tb_7 (List.mem_of_getElem? (i := 51) rfl)) rfl
theorem co_X11_wayBut : Cond.code yX11_wayBut cX11_wayBut 8 (some .int) ∈ gw := gw_of (tb_7 (List.mem_of_getElem? (i := 91) rfl)) rfl
theorem im_X11_wayBut : Cond.instanceMethod yX11_wayBut ∈ gw := gw_of (tb_7 (List.mem_of_getElem? (i := 90) rfl)) rfl
theorem se_X11_wayBut : Cond.selects yX11_wayBut.cls yX11_wayBut yX11_wayBut ∈ gw := gw_of (List.mem_append_left _ (List.mem_of_getElem? (i := 81) rfl)) rfl
theorem co_X11_ring : Cond.code yX11_ring cX11_ring 4 (some .int) ∈ gw := gw_of (tb_7 (List.mem_of_getElem? (i := 87) rfl)) rfl
theorem im_X11_ring : Cond.instanceMethod yX11_ring ∈ gw := gw_of (tb_7 (List.mem_of_getElem? (i := 85) rfl)) rfl
theorem se_X11_ring : Cond.selects yX11_ring.cls yX11_ring yX11_ring ∈ gw := gw_of (tb_7 (List.mem_of_getElem? (i := 86) rfl)) rfl
theorem co_X11_rope : Cond.code yX11_rope cX11_rope 3 (some .int) ∈ gw := gw_of (tb_6 (List.mem_of_getElem? (i := 171) rfl)) rfl
theorem im_X11_rope : Cond.instanceMethod yX11_rope ∈ gw := gw_of (tb_6 (List.mem_of_getElem? (i := 169) rfl)) rfl
theorem se_X11_rope : Cond.selects yX11_rope.cls yX11_rope yX11_rope ∈ gw := gw_of (tb_6 (List.mem_of_getElem? (i := 170) rfl)) rfl
theorem co_X11_seen : Cond.code yX11_seen cX11_seen 3 (some .int) ∈ gw := gw_of (tb_7 (List.mem_of_getElem? (i := 193) rfl)) rfl
theorem im_X11_seen : Cond.instanceMethod yX11_seen ∈ gw := gw_of (tb_7 (List.mem_of_getElem? (i := 191) rfl)) rfl
theorem se_X11_seen : Cond.selects yX11_seen.cls yX11_seen yX11_seen ∈ gw := gw_of (tb_7 (List.mem_of_getElem? (i := 192) rfl)) rfl
theorem co_X11_severs : Cond.code yX11_severs cX11_severs 2 (some .int) ∈ gw := gw_of (tb_7 (List.mem_of_getElem? (i := 103) rfl)) rfl
theorem im_X11_severs : Cond.instanceMethod yX11_severs ∈ gw := gw_of (tb_7 (List.mem_of_getElem? (i := 101) rfl)) rfl
theorem se_X11_severs : Cond.selects yX11_severs.cls yX11_severs yX11_severs ∈ gw := gw_of (tb_7 (List.mem_of_getElem? (i := 102) rfl)) rfl
theorem co_X11_soonest : Cond.code yX11_soonest cX11_soonest 3 (some .int) ∈ gw := gw_of (tb_7 (List.mem_of_getElem? (i := 107) rfl)) rfl
theorem im_X11_soonest : Cond.instanceMethod yX11_soonest ∈ gw := gw_of (tb_7 (List.mem_of_getElem? (i := 105) rfl)) rfl
theorem se_X11_soonest : Cond.selects yX11_soonest.cls yX11_soonest yX11_soonest ∈ gw := gw_of (tb_7 (List.mem_of_getElem? (i := 106) rfl)) rfl
theorem co_X11_stones : Cond.code yX11_stones cX11_stones 4 (some .int) ∈ gw := gw_of (tb_7 (List.mem_of_getElem? (i := 47) rfl)) rfl
theorem im_X11_stones : Cond.instanceMethod yX11_stones ∈ gw := gw_of (tb_7 (List.mem_of_getElem? (i := 45) rfl)) rfl
theorem se_X11_stones : Cond.selects yX11_stones.cls yX11_stones yX11_stones ∈ gw := gw_of (tb_7 (List.mem_of_getElem? (i := 46) rfl)) rfl
theorem co_X11_together : Cond.code yX11_together cX11_together 5 (some .int) ∈ gw := gw_of (tb_7 (List.mem_of_getElem? (i := 72) rfl)) rfl
theorem im_X11_together : Cond.instanceMethod yX11_together ∈ gw := gw_of (tb_7 (List.mem_of_getElem? (i := 70) rfl)) rfl
theorem se_X11_together : Cond.selects yX11_together.cls yX11_together yX11_together ∈ gw := gw_of (tb_7 (List.mem_of_getElem? (i := 71) rfl)) rfl
theorem co_X11_write : Cond.code yX11_write cX11_write 5 (some .long) ∈ gw := gw_of (tb_7 (List.mem_of_getElem? (i := 217) rfl)) rfl
theorem im_X11_write : Cond.instanceMethod yX11_write ∈ gw := gw_of (tb_7 (List.mem_of_getElem? (i := 215) rfl)) rfl
theorem se_X11_write : Cond.selects yX11_write.cls yX11_write yX11_write ∈ gw := gw_of (tb_7 (List.mem_of_getElem? (i := 216) rfl)) rfl
theorem fl_X10_10 : FL "TwoWells" 10 10 0 := ⟨_, rfl, by decide, gw_of (tb_2 (List.mem_of_getElem? (i := 105) rfl)) rfl⟩
theorem fl_X10_19 : FL "TwoWells" 19 10 1 := ⟨_, rfl, by decide, gw_of (tb_2 (List.mem_of_getElem? (i := 106) rfl)) rfl⟩
theorem fl_X10_23 : FL "TwoWells" 23 10 2 := ⟨_, rfl, by decide, gw_of (tb_2 (List.mem_of_getElem? (i := 107) rfl)) rfl⟩
theorem fl_X10_26 : FL "TwoWells" 26 10 3 := ⟨_, rfl, by decide, gw_of (tb_2 (List.mem_of_getElem? (i := 108) rfl)) rfl⟩
theorem fl_X10_30 : FL "TwoWells" 30 10 4 := ⟨_, rfl, by decide, gw_of (tb_2 (List.mem_of_getElem? (i := 109) rfl)) rfl⟩
theorem fl_X10_36 : FL "TwoWells" 36 10 5 := ⟨_, rfl, by decide, gw_of (tb_2 (List.mem_of_getElem? (i := 110) rfl)) rfl⟩
theorem fl_X10_43 : FL "TwoWells" 43 10 6 := ⟨_, rfl, by decide, gw_of (tb_2 (List.mem_of_getElem? (i := 111) rfl)) rfl⟩
theorem fl_X10_50 : FL "TwoWells" 50 10 7 := ⟨_, rfl, by decide, gw_of (tb_2 (List.mem_of_getElem? (i := 112) rfl)) rfl⟩
theorem fl_X10_57 : FL "TwoWells" 57 10 8 := ⟨_, rfl, by decide, gw_of (tb_2 (List.mem_of_getElem? (i := 113) rfl)) rfl⟩
theorem fl_X10_64 : FL "TwoWells" 64 10 9 := ⟨_, rfl, by decide, gw_of (tb_2 (List.mem_of_getElem? (i := 114) rfl)) rfl⟩
theorem fl_X10_71 : FL "TwoWells" 71 10 10 := ⟨_, rfl, by decide, gw_of (tb_2 (List.mem_of_getElem? (i := 115) rfl)) rfl⟩
theorem fl_X10_76 : FL "TwoWells" 76 8 0 := ⟨_, rfl, by decide, gw_of (tb_1 (List.mem_of_getElem? (i := 35) rfl)) rfl⟩
theorem fl_X10_88 : FL "TwoWells" 88 8 1 := ⟨_, rfl, by decide, gw_of (tb_1 (List.mem_of_getElem? (i := 38) rfl)) rfl⟩
theorem fl_X10_95 : FL "TwoWells" 95 1 5 := ⟨_, rfl, by decide, gw_of (tb_1 (List.mem_of_getElem? (i := 101) rfl)) rfl⟩
theorem fl_X10_98 : FL "TwoWells" 98 8 2 := ⟨_, rfl, by decide, gw_of (tb_1 (List.mem_of_getElem? (i := 40) rfl)) rfl⟩
theorem fl_X10_105 : FL "TwoWells" 105 1 6 := ⟨_, rfl, by decide, gw_of (tb_1 (List.mem_of_getElem? (i := 104) rfl)) rfl⟩
theorem fl_X10_109 : FL "TwoWells" 109 1 7 := ⟨_, rfl, by decide, gw_of (tb_1 (List.mem_of_getElem? (i := 107) rfl)) rfl⟩
theorem fl_X10_112 : FL "TwoWells" 112 1 8 := ⟨_, rfl, by decide, gw_of (tb_1 (List.mem_of_getElem? (i := 111) rfl)) rfl⟩
theorem fl_X10_115 : FL "TwoWells" 115 1 9 := ⟨_, rfl, by decide, gw_of (tb_1 (List.mem_of_getElem? (i := 117) rfl)) rfl⟩
theorem fl_X10_122 : FL "TwoWells" 122 1 10 := ⟨_, rfl, by decide, gw_of (tb_1 (List.mem_of_getElem? (i := 119) rfl)) rfl⟩
theorem fl_X10_125 : FL "TwoWells" 125 1 11 := ⟨_, rfl, by decide, gw_of (tb_1 (List.mem_of_getElem? (i := 121) rfl)) rfl⟩
theorem fl_X10_134 : FL "TwoWells" 134 1 15 := ⟨_, rfl, by decide, gw_of (tb_1 (List.mem_of_getElem? (i := 142) rfl)) rfl⟩
theorem fl_X10_137 : FL "TwoWells" 137 1 12 := ⟨_, rfl, by decide, gw_of (tb_1 (List.mem_of_getElem? (i := 123) rfl)) rfl⟩
theorem fl_X10_143 : FL "TwoWells" 143 1 17 := ⟨_, rfl, by decide, gw_of (tb_1 (List.mem_of_getElem? (i := 149) rfl)) rfl⟩
theorem fl_X10_149 : FL "TwoWells" 149 1 14 := ⟨_, rfl, by decide, gw_of (tb_1 (List.mem_of_getElem? (i := 135) rfl)) rfl⟩
theorem fl_X10_152 : FL "TwoWells" 152 1 2 := ⟨_, rfl, by decide, gw_of (tb_1 (List.mem_of_getElem? (i := 91) rfl)) rfl⟩
theorem fl_X10_159 : FL "TwoWells" 159 7 3 := ⟨_, rfl, by decide, gw_of (tb_1 (List.mem_of_getElem? (i := 207) rfl)) rfl⟩
theorem fl_X10_177 : FL "TwoWells" 177 7 0 := ⟨_, rfl, by decide, gw_of (tb_1 (List.mem_of_getElem? (i := 201) rfl)) rfl⟩
theorem fl_X10_180 : FL "TwoWells" 180 7 1 := ⟨_, rfl, by decide, gw_of (tb_1 (List.mem_of_getElem? (i := 203) rfl)) rfl⟩
theorem fl_X10_183 : FL "TwoWells" 183 7 2 := ⟨_, rfl, by decide, gw_of (tb_1 (List.mem_of_getElem? (i := 205) rfl)) rfl⟩
theorem fl_X10_186 : FL "TwoWells" 186 7 4 := ⟨_, rfl, by decide, gw_of (tb_1 (List.mem_of_getElem? (i := 209) rfl)) rfl⟩
theorem fl_X10_200 : FL "TwoWells" 200 7 5 := ⟨_, rfl, by decide, gw_of (tb_1 (List.mem_of_getElem? (i := 211) rfl)) rfl⟩
theorem fl_X10_206 : FL "TwoWells" 206 1 16 := ⟨_, rfl, by decide, gw_of (tb_1 (List.mem_of_getElem? (i := 147) rfl)) rfl⟩
theorem fl_X10_212 : FL "TwoWells" 212 1 1 := ⟨_, rfl, by decide, gw_of (tb_1 (List.mem_of_getElem? (i := 89) rfl)) rfl⟩
theorem fl_X10_220 : FL "TwoWells" 220 1 13 := ⟨_, rfl, by decide, gw_of (tb_1 (List.mem_of_getElem? (i := 129) rfl)) rfl⟩
theorem fl_X10_256 : FL "TwoWells" 256 10 11 := ⟨_, rfl, by decide, gw_of (tb_2 (List.mem_of_getElem? (i := 116) rfl)) rfl⟩
theorem fl_X10_268 : FL "TwoWells" 268 2 1 := ⟨_, rfl, by decide, gw_of (tb_2 (List.mem_of_getElem? (i := 15) rfl)) rfl⟩
theorem fl_X10_271 : FL "TwoWells" 271 2 0 := ⟨_, rfl, by decide, gw_of (tb_2 (List.mem_of_getElem? (i := 13) rfl)) rfl⟩
theorem fl_X10_274 : FL "TwoWells" 274 1 0 := ⟨_, rfl, by decide, gw_of (tb_1 (List.mem_of_getElem? (i := 80) rfl)) rfl⟩
theorem fl_X10_288 : FL "TwoWells" 288 0 2 := ⟨_, rfl, by decide, gw_of (tb_2 (List.mem_of_getElem? (i := 49) rfl)) rfl⟩
theorem fl_X10_291 : FL "TwoWells" 291 0 0 := ⟨_, rfl, by decide, gw_of (tb_2 (List.mem_of_getElem? (i := 45) rfl)) rfl⟩
theorem fl_X10_294 : FL "TwoWells" 294 0 1 := ⟨_, rfl, by decide, gw_of (tb_2 (List.mem_of_getElem? (i := 47) rfl)) rfl⟩
theorem fl_X10_306 : FL "TwoWells" 306 5 0 := ⟨_, rfl, by decide, gw_of (tb_2 (List.mem_of_getElem? (i := 73) rfl)) rfl⟩
theorem fl_X10_309 : FL "TwoWells" 309 5 1 := ⟨_, rfl, by decide, gw_of (tb_2 (List.mem_of_getElem? (i := 75) rfl)) rfl⟩
theorem fl_X10_312 : FL "TwoWells" 312 3 0 := ⟨_, rfl, by decide, gw_of (tb_2 (List.mem_of_getElem? (i := 94) rfl)) rfl⟩
theorem fl_X10_329 : FL "TwoWells" 329 1 3 := ⟨_, rfl, by decide, gw_of (tb_1 (List.mem_of_getElem? (i := 96) rfl)) rfl⟩
theorem fl_X10_332 : FL "TwoWells" 332 1 4 := ⟨_, rfl, by decide, gw_of (tb_1 (List.mem_of_getElem? (i := 99) rfl)) rfl⟩
theorem fl_X0_9 : FL "TwoWells$Homes" 9 0 2 := ⟨_, rfl, by decide, gw_of (tb_2 (List.mem_of_getElem? (i := 48) rfl)) rfl⟩
theorem fl_X0_15 : FL "TwoWells$Homes" 15 0 3 := ⟨_, rfl, by decide, gw_of (tb_2 (List.mem_of_getElem? (i := 50) rfl)) rfl⟩
theorem fl_X0_20 : FL "TwoWells$Homes" 20 0 4 := ⟨_, rfl, by decide, gw_of (tb_2 (List.mem_of_getElem? (i := 51) rfl)) rfl⟩
theorem fl_X0_23 : FL "TwoWells$Homes" 23 1 0 := ⟨_, rfl, by decide, gw_of (tb_1 (List.mem_of_getElem? (i := 75) rfl)) rfl⟩
theorem fl_X0_35 : FL "TwoWells$Homes" 35 0 5 := ⟨_, rfl, by decide, gw_of (tb_2 (List.mem_of_getElem? (i := 52) rfl)) rfl⟩
theorem fl_X0_40 : FL "TwoWells$Homes" 40 0 0 := ⟨_, rfl, by decide, gw_of (tb_2 (List.mem_of_getElem? (i := 44) rfl)) rfl⟩
theorem fl_X0_43 : FL "TwoWells$Homes" 43 0 1 := ⟨_, rfl, by decide, gw_of (tb_2 (List.mem_of_getElem? (i := 46) rfl)) rfl⟩
theorem fl_X0_56 : FL "TwoWells$Homes" 56 1 1 := ⟨_, rfl, by decide, gw_of (tb_1 (List.mem_of_getElem? (i := 84) rfl)) rfl⟩
theorem fl_X0_59 : FL "TwoWells$Homes" 59 1 15 := ⟨_, rfl, by decide, gw_of (tb_1 (List.mem_of_getElem? (i := 139) rfl)) rfl⟩
theorem fl_X0_62 : FL "TwoWells$Homes" 62 1 14 := ⟨_, rfl, by decide, gw_of (tb_1 (List.mem_of_getElem? (i := 133) rfl)) rfl⟩
theorem fl_X0_76 : FL "TwoWells$Homes" 76 1 9 := ⟨_, rfl, by decide, gw_of (tb_1 (List.mem_of_getElem? (i := 115) rfl)) rfl⟩
theorem fl_X1_9 : FL "TwoWells$Land" 9 1 6 := ⟨_, rfl, by decide, gw_of (tb_1 (List.mem_of_getElem? (i := 103) rfl)) rfl⟩
theorem fl_X1_15 : FL "TwoWells$Land" 15 1 7 := ⟨_, rfl, by decide, gw_of (tb_1 (List.mem_of_getElem? (i := 105) rfl)) rfl⟩
theorem fl_X1_18 : FL "TwoWells$Land" 18 1 8 := ⟨_, rfl, by decide, gw_of (tb_1 (List.mem_of_getElem? (i := 109) rfl)) rfl⟩
theorem fl_X1_21 : FL "TwoWells$Land" 21 1 9 := ⟨_, rfl, by decide, gw_of (tb_1 (List.mem_of_getElem? (i := 114) rfl)) rfl⟩
theorem fl_X1_24 : FL "TwoWells$Land" 24 1 10 := ⟨_, rfl, by decide, gw_of (tb_1 (List.mem_of_getElem? (i := 118) rfl)) rfl⟩
theorem fl_X1_27 : FL "TwoWells$Land" 27 1 11 := ⟨_, rfl, by decide, gw_of (tb_1 (List.mem_of_getElem? (i := 120) rfl)) rfl⟩
theorem fl_X1_30 : FL "TwoWells$Land" 30 1 12 := ⟨_, rfl, by decide, gw_of (tb_1 (List.mem_of_getElem? (i := 122) rfl)) rfl⟩
theorem fl_X1_33 : FL "TwoWells$Land" 33 1 13 := ⟨_, rfl, by decide, gw_of (tb_1 (List.mem_of_getElem? (i := 125) rfl)) rfl⟩
theorem fl_X1_36 : FL "TwoWells$Land" 36 1 14 := ⟨_, rfl, by decide, gw_of (tb_1 (List.mem_of_getElem? (i := 130) rfl)) rfl⟩
theorem fl_X1_40 : FL "TwoWells$Land" 40 1 15 := ⟨_, rfl, by decide, gw_of (tb_1 (List.mem_of_getElem? (i := 137) rfl)) rfl⟩
theorem fl_X1_43 : FL "TwoWells$Land" 43 1 16 := ⟨_, rfl, by decide, gw_of (tb_1 (List.mem_of_getElem? (i := 145) rfl)) rfl⟩
theorem fl_X1_46 : FL "TwoWells$Land" 46 1 17 := ⟨_, rfl, by decide, gw_of (tb_1 (List.mem_of_getElem? (i := 148) rfl)) rfl⟩
theorem fl_X1_49 : FL "TwoWells$Land" 49 1 3 := ⟨_, rfl, by decide, gw_of (tb_1 (List.mem_of_getElem? (i := 93) rfl)) rfl⟩
theorem fl_X1_53 : FL "TwoWells$Land" 53 1 4 := ⟨_, rfl, by decide, gw_of (tb_1 (List.mem_of_getElem? (i := 97) rfl)) rfl⟩
theorem fl_X1_56 : FL "TwoWells$Land" 56 1 0 := ⟨_, rfl, by decide, gw_of (tb_1 (List.mem_of_getElem? (i := 73) rfl)) rfl⟩
theorem fl_X1_59 : FL "TwoWells$Land" 59 1 1 := ⟨_, rfl, by decide, gw_of (tb_1 (List.mem_of_getElem? (i := 81) rfl)) rfl⟩
theorem fl_X1_62 : FL "TwoWells$Land" 62 1 2 := ⟨_, rfl, by decide, gw_of (tb_1 (List.mem_of_getElem? (i := 90) rfl)) rfl⟩
theorem fl_X1_65 : FL "TwoWells$Land" 65 1 5 := ⟨_, rfl, by decide, gw_of (tb_1 (List.mem_of_getElem? (i := 100) rfl)) rfl⟩
theorem fl_X2_9 : FL "TwoWells$Lonely" 9 2 1 := ⟨_, rfl, by decide, gw_of (tb_2 (List.mem_of_getElem? (i := 14) rfl)) rfl⟩
theorem fl_X2_15 : FL "TwoWells$Lonely" 15 2 2 := ⟨_, rfl, by decide, gw_of (tb_2 (List.mem_of_getElem? (i := 16) rfl)) rfl⟩
theorem fl_X2_20 : FL "TwoWells$Lonely" 20 2 3 := ⟨_, rfl, by decide, gw_of (tb_2 (List.mem_of_getElem? (i := 17) rfl)) rfl⟩
theorem fl_X2_24 : FL "TwoWells$Lonely" 24 2 4 := ⟨_, rfl, by decide, gw_of (tb_2 (List.mem_of_getElem? (i := 18) rfl)) rfl⟩
theorem fl_X2_38 : FL "TwoWells$Lonely" 38 2 5 := ⟨_, rfl, by decide, gw_of (tb_2 (List.mem_of_getElem? (i := 19) rfl)) rfl⟩
theorem fl_X2_42 : FL "TwoWells$Lonely" 42 2 6 := ⟨_, rfl, by decide, gw_of (tb_2 (List.mem_of_getElem? (i := 20) rfl)) rfl⟩
theorem fl_X2_45 : FL "TwoWells$Lonely" 45 2 0 := ⟨_, rfl, by decide, gw_of (tb_2 (List.mem_of_getElem? (i := 12) rfl)) rfl⟩
theorem fl_X2_67 : FL "TwoWells$Lonely" 67 1 1 := ⟨_, rfl, by decide, gw_of (tb_1 (List.mem_of_getElem? (i := 85) rfl)) rfl⟩
theorem fl_X2_91 : FL "TwoWells$Lonely" 91 1 15 := ⟨_, rfl, by decide, gw_of (tb_1 (List.mem_of_getElem? (i := 141) rfl)) rfl⟩
theorem fl_X2_98 : FL "TwoWells$Lonely" 98 1 8 := ⟨_, rfl, by decide, gw_of (tb_1 (List.mem_of_getElem? (i := 112) rfl)) rfl⟩
theorem fl_X2_101 : FL "TwoWells$Lonely" 101 1 14 := ⟨_, rfl, by decide, gw_of (tb_1 (List.mem_of_getElem? (i := 136) rfl)) rfl⟩
theorem fl_X2_105 : FL "TwoWells$Lonely" 105 1 17 := ⟨_, rfl, by decide, gw_of (tb_1 (List.mem_of_getElem? (i := 151) rfl)) rfl⟩
theorem fl_X3_9 : FL "TwoWells$NumberRow" 9 3 1 := ⟨_, rfl, by decide, gw_of (tb_2 (List.mem_of_getElem? (i := 95) rfl)) rfl⟩
theorem fl_X3_15 : FL "TwoWells$NumberRow" 15 3 2 := ⟨_, rfl, by decide, gw_of (tb_2 (List.mem_of_getElem? (i := 96) rfl)) rfl⟩
theorem fl_X3_28 : FL "TwoWells$NumberRow" 28 3 0 := ⟨_, rfl, by decide, gw_of (tb_2 (List.mem_of_getElem? (i := 92) rfl)) rfl⟩
theorem fl_X4_14 : FL "TwoWells$Search" 14 4 0 := ⟨_, rfl, by decide, gw_of (tb_4 (List.mem_of_getElem? (i := 144) rfl)) rfl⟩
theorem fl_X4_18 : FL "TwoWells$Search" 18 4 1 := ⟨_, rfl, by decide, gw_of (tb_4 (List.mem_of_getElem? (i := 145) rfl)) rfl⟩
theorem fl_X4_21 : FL "TwoWells$Search" 21 4 2 := ⟨_, rfl, by decide, gw_of (tb_4 (List.mem_of_getElem? (i := 146) rfl)) rfl⟩
theorem fl_X4_25 : FL "TwoWells$Search" 25 4 4 := ⟨_, rfl, by decide, gw_of (tb_4 (List.mem_of_getElem? (i := 148) rfl)) rfl⟩
theorem fl_X4_28 : FL "TwoWells$Search" 28 4 5 := ⟨_, rfl, by decide, gw_of (tb_4 (List.mem_of_getElem? (i := 149) rfl)) rfl⟩
theorem fl_X4_31 : FL "TwoWells$Search" 31 4 7 := ⟨_, rfl, by decide, gw_of (tb_4 (List.mem_of_getElem? (i := 151) rfl)) rfl⟩
theorem fl_X4_34 : FL "TwoWells$Search" 34 4 8 := ⟨_, rfl, by decide, gw_of (tb_4 (List.mem_of_getElem? (i := 152) rfl)) rfl⟩
theorem fl_X4_37 : FL "TwoWells$Search" 37 4 9 := ⟨_, rfl, by decide, gw_of (tb_4 (List.mem_of_getElem? (i := 153) rfl)) rfl⟩
theorem fl_X4_40 : FL "TwoWells$Search" 40 4 10 := ⟨_, rfl, by decide, gw_of (tb_4 (List.mem_of_getElem? (i := 154) rfl)) rfl⟩
theorem fl_X4_59 : FL "TwoWells$Search" 59 6 0 := ⟨_, rfl, by decide, gw_of (tb_4 (List.mem_of_getElem? (i := 129) rfl)) rfl⟩
theorem fl_X4_63 : FL "TwoWells$Search" 63 4 13 := ⟨_, rfl, by decide, gw_of (tb_4 (List.mem_of_getElem? (i := 157) rfl)) rfl⟩
theorem fl_X4_66 : FL "TwoWells$Search" 66 6 1 := ⟨_, rfl, by decide, gw_of (tb_4 (List.mem_of_getElem? (i := 131) rfl)) rfl⟩
theorem fl_X4_78 : FL "TwoWells$Search" 78 6 2 := ⟨_, rfl, by decide, gw_of (tb_4 (List.mem_of_getElem? (i := 133) rfl)) rfl⟩
theorem fl_X4_81 : FL "TwoWells$Search" 81 4 11 := ⟨_, rfl, by decide, gw_of (tb_4 (List.mem_of_getElem? (i := 155) rfl)) rfl⟩
theorem fl_X4_84 : FL "TwoWells$Search" 84 4 12 := ⟨_, rfl, by decide, gw_of (tb_4 (List.mem_of_getElem? (i := 156) rfl)) rfl⟩
theorem fl_X4_87 : FL "TwoWells$Search" 87 4 3 := ⟨_, rfl, by decide, gw_of (tb_4 (List.mem_of_getElem? (i := 147) rfl)) rfl⟩
theorem fl_X4_90 : FL "TwoWells$Search" 90 1 1 := ⟨_, rfl, by decide, gw_of (tb_1 (List.mem_of_getElem? (i := 86) rfl)) rfl⟩
theorem fl_X4_95 : FL "TwoWells$Search" 95 1 14 := ⟨_, rfl, by decide, gw_of (tb_1 (List.mem_of_getElem? (i := 134) rfl)) rfl⟩
theorem fl_X4_99 : FL "TwoWells$Search" 99 1 0 := ⟨_, rfl, by decide, gw_of (tb_1 (List.mem_of_getElem? (i := 77) rfl)) rfl⟩
theorem fl_X4_105 : FL "TwoWells$Search" 105 4 6 := ⟨_, rfl, by decide, gw_of (tb_4 (List.mem_of_getElem? (i := 150) rfl)) rfl⟩
theorem fl_X4_118 : FL "TwoWells$Search" 118 1 15 := ⟨_, rfl, by decide, gw_of (tb_1 (List.mem_of_getElem? (i := 143) rfl)) rfl⟩
theorem fl_X4_121 : FL "TwoWells$Search" 121 1 13 := ⟨_, rfl, by decide, gw_of (tb_1 (List.mem_of_getElem? (i := 128) rfl)) rfl⟩
theorem fl_X4_124 : FL "TwoWells$Search" 124 1 17 := ⟨_, rfl, by decide, gw_of (tb_1 (List.mem_of_getElem? (i := 150) rfl)) rfl⟩
theorem fl_X4_127 : FL "TwoWells$Search" 127 1 8 := ⟨_, rfl, by decide, gw_of (tb_1 (List.mem_of_getElem? (i := 113) rfl)) rfl⟩
theorem fl_X4_158 : FL "TwoWells$Search" 158 1 3 := ⟨_, rfl, by decide, gw_of (tb_1 (List.mem_of_getElem? (i := 95) rfl)) rfl⟩
theorem fl_X4_161 : FL "TwoWells$Search" 161 1 12 := ⟨_, rfl, by decide, gw_of (tb_1 (List.mem_of_getElem? (i := 124) rfl)) rfl⟩
theorem fl_X4_164 : FL "TwoWells$Search" 164 1 7 := ⟨_, rfl, by decide, gw_of (tb_1 (List.mem_of_getElem? (i := 108) rfl)) rfl⟩
theorem fl_X5_9 : FL "TwoWells$Sight" 9 5 2 := ⟨_, rfl, by decide, gw_of (tb_2 (List.mem_of_getElem? (i := 76) rfl)) rfl⟩
theorem fl_X5_15 : FL "TwoWells$Sight" 15 5 3 := ⟨_, rfl, by decide, gw_of (tb_2 (List.mem_of_getElem? (i := 77) rfl)) rfl⟩
theorem fl_X5_19 : FL "TwoWells$Sight" 19 5 0 := ⟨_, rfl, by decide, gw_of (tb_2 (List.mem_of_getElem? (i := 72) rfl)) rfl⟩
theorem fl_X5_23 : FL "TwoWells$Sight" 23 1 0 := ⟨_, rfl, by decide, gw_of (tb_1 (List.mem_of_getElem? (i := 76) rfl)) rfl⟩
theorem fl_X5_28 : FL "TwoWells$Sight" 28 5 1 := ⟨_, rfl, by decide, gw_of (tb_2 (List.mem_of_getElem? (i := 74) rfl)) rfl⟩
theorem fl_X5_45 : FL "TwoWells$Sight" 45 1 1 := ⟨_, rfl, by decide, gw_of (tb_1 (List.mem_of_getElem? (i := 83) rfl)) rfl⟩
theorem fl_X5_48 : FL "TwoWells$Sight" 48 1 14 := ⟨_, rfl, by decide, gw_of (tb_1 (List.mem_of_getElem? (i := 132) rfl)) rfl⟩
theorem fl_X5_51 : FL "TwoWells$Sight" 51 1 13 := ⟨_, rfl, by decide, gw_of (tb_1 (List.mem_of_getElem? (i := 126) rfl)) rfl⟩
theorem fl_X5_72 : FL "TwoWells$Sight" 72 1 15 := ⟨_, rfl, by decide, gw_of (tb_1 (List.mem_of_getElem? (i := 140) rfl)) rfl⟩
theorem fl_X6_11 : FL "TwoWells$StateSet" 11 6 1 := ⟨_, rfl, by decide, gw_of (tb_4 (List.mem_of_getElem? (i := 130) rfl)) rfl⟩
theorem fl_X6_15 : FL "TwoWells$StateSet" 15 6 2 := ⟨_, rfl, by decide, gw_of (tb_4 (List.mem_of_getElem? (i := 132) rfl)) rfl⟩
theorem fl_X6_19 : FL "TwoWells$StateSet" 19 6 3 := ⟨_, rfl, by decide, gw_of (tb_4 (List.mem_of_getElem? (i := 134) rfl)) rfl⟩
theorem fl_X6_22 : FL "TwoWells$StateSet" 22 6 0 := ⟨_, rfl, by decide, gw_of (tb_4 (List.mem_of_getElem? (i := 128) rfl)) rfl⟩
theorem fl_X7_9 : FL "TwoWells$Tally" 9 7 6 := ⟨_, rfl, by decide, gw_of (tb_1 (List.mem_of_getElem? (i := 212) rfl)) rfl⟩
theorem fl_X7_15 : FL "TwoWells$Tally" 15 7 0 := ⟨_, rfl, by decide, gw_of (tb_1 (List.mem_of_getElem? (i := 200) rfl)) rfl⟩
theorem fl_X7_19 : FL "TwoWells$Tally" 19 7 1 := ⟨_, rfl, by decide, gw_of (tb_1 (List.mem_of_getElem? (i := 202) rfl)) rfl⟩
theorem fl_X7_22 : FL "TwoWells$Tally" 22 7 2 := ⟨_, rfl, by decide, gw_of (tb_1 (List.mem_of_getElem? (i := 204) rfl)) rfl⟩
theorem fl_X7_25 : FL "TwoWells$Tally" 25 7 3 := ⟨_, rfl, by decide, gw_of (tb_1 (List.mem_of_getElem? (i := 206) rfl)) rfl⟩
theorem fl_X7_28 : FL "TwoWells$Tally" 28 7 4 := ⟨_, rfl, by decide, gw_of (tb_1 (List.mem_of_getElem? (i := 208) rfl)) rfl⟩
theorem fl_X7_31 : FL "TwoWells$Tally" 31 7 5 := ⟨_, rfl, by decide, gw_of (tb_1 (List.mem_of_getElem? (i := 210) rfl)) rfl⟩
theorem fl_X7_43 : FL "TwoWells$Tally" 43 7 7 := ⟨_, rfl, by decide, gw_of (tb_1 (List.mem_of_getElem? (i := 213) rfl)) rfl⟩
theorem fl_X7_67 : FL "TwoWells$Tally" 67 3 0 := ⟨_, rfl, by decide, gw_of (tb_2 (List.mem_of_getElem? (i := 93) rfl)) rfl⟩
theorem fl_X7_86 : FL "TwoWells$Tally" 86 1 2 := ⟨_, rfl, by decide, gw_of (tb_1 (List.mem_of_getElem? (i := 92) rfl)) rfl⟩
theorem fl_X7_95 : FL "TwoWells$Tally" 95 1 0 := ⟨_, rfl, by decide, gw_of (tb_1 (List.mem_of_getElem? (i := 79) rfl)) rfl⟩
theorem fl_X7_108 : FL "TwoWells$Tally" 108 1 1 := ⟨_, rfl, by decide, gw_of (tb_1 (List.mem_of_getElem? (i := 88) rfl)) rfl⟩
theorem fl_X7_111 : FL "TwoWells$Tally" 111 1 15 := ⟨_, rfl, by decide, gw_of (tb_1 (List.mem_of_getElem? (i := 144) rfl)) rfl⟩
theorem fl_X8_9 : FL "TwoWells$Tape" 9 8 2 := ⟨_, rfl, by decide, gw_of (tb_1 (List.mem_of_getElem? (i := 39) rfl)) rfl⟩
theorem fl_X8_15 : FL "TwoWells$Tape" 15 8 3 := ⟨_, rfl, by decide, gw_of (tb_1 (List.mem_of_getElem? (i := 41) rfl)) rfl⟩
theorem fl_X8_19 : FL "TwoWells$Tape" 19 8 0 := ⟨_, rfl, by decide, gw_of (tb_1 (List.mem_of_getElem? (i := 36) rfl)) rfl⟩
theorem fl_X8_22 : FL "TwoWells$Tape" 22 8 1 := ⟨_, rfl, by decide, gw_of (tb_1 (List.mem_of_getElem? (i := 37) rfl)) rfl⟩
theorem fl_X8_31 : FL "TwoWells$Tape" 31 8 4 := ⟨_, rfl, by decide, gw_of (tb_1 (List.mem_of_getElem? (i := 42) rfl)) rfl⟩
theorem fl_X8_34 : FL "TwoWells$Tape" 34 8 7 := ⟨_, rfl, by decide, gw_of (tb_1 (List.mem_of_getElem? (i := 45) rfl)) rfl⟩
theorem fl_X8_45 : FL "TwoWells$Tape" 45 8 5 := ⟨_, rfl, by decide, gw_of (tb_1 (List.mem_of_getElem? (i := 43) rfl)) rfl⟩
theorem fl_X8_71 : FL "TwoWells$Tape" 71 1 3 := ⟨_, rfl, by decide, gw_of (tb_1 (List.mem_of_getElem? (i := 94) rfl)) rfl⟩
theorem fl_X8_76 : FL "TwoWells$Tape" 76 1 4 := ⟨_, rfl, by decide, gw_of (tb_1 (List.mem_of_getElem? (i := 98) rfl)) rfl⟩
theorem fl_X8_84 : FL "TwoWells$Tape" 84 1 5 := ⟨_, rfl, by decide, gw_of (tb_1 (List.mem_of_getElem? (i := 102) rfl)) rfl⟩
theorem fl_X8_87 : FL "TwoWells$Tape" 87 1 0 := ⟨_, rfl, by decide, gw_of (tb_1 (List.mem_of_getElem? (i := 78) rfl)) rfl⟩
theorem fl_X8_102 : FL "TwoWells$Tape" 102 1 7 := ⟨_, rfl, by decide, gw_of (tb_1 (List.mem_of_getElem? (i := 106) rfl)) rfl⟩
theorem fl_X8_107 : FL "TwoWells$Tape" 107 1 8 := ⟨_, rfl, by decide, gw_of (tb_1 (List.mem_of_getElem? (i := 110) rfl)) rfl⟩
theorem fl_X8_111 : FL "TwoWells$Tape" 111 1 9 := ⟨_, rfl, by decide, gw_of (tb_1 (List.mem_of_getElem? (i := 116) rfl)) rfl⟩
theorem fl_X8_113 : FL "TwoWells$Tape" 113 1 1 := ⟨_, rfl, by decide, gw_of (tb_1 (List.mem_of_getElem? (i := 87) rfl)) rfl⟩
theorem fl_X8_116 : FL "TwoWells$Tape" 116 8 8 := ⟨_, rfl, by decide, gw_of (tb_1 (List.mem_of_getElem? (i := 46) rfl)) rfl⟩
theorem fl_X8_127 : FL "TwoWells$Tape" 127 1 13 := ⟨_, rfl, by decide, gw_of (tb_1 (List.mem_of_getElem? (i := 127) rfl)) rfl⟩
theorem fl_X8_132 : FL "TwoWells$Tape" 132 1 16 := ⟨_, rfl, by decide, gw_of (tb_1 (List.mem_of_getElem? (i := 146) rfl)) rfl⟩
theorem fl_X8_135 : FL "TwoWells$Tape" 135 8 6 := ⟨_, rfl, by decide, gw_of (tb_1 (List.mem_of_getElem? (i := 44) rfl)) rfl⟩
theorem fl_X9_9 : FL "TwoWells$Ties" 9 9 0 := ⟨_, rfl, by decide, gw_of (tb_1 (List.mem_of_getElem? (i := 237) rfl)) rfl⟩
theorem fl_X9_15 : FL "TwoWells$Ties" 15 1 0 := ⟨_, rfl, by decide, gw_of (tb_1 (List.mem_of_getElem? (i := 74) rfl)) rfl⟩
theorem fl_X9_21 : FL "TwoWells$Ties" 21 9 1 := ⟨_, rfl, by decide, gw_of (tb_1 (List.mem_of_getElem? (i := 238) rfl)) rfl⟩
theorem fl_X9_28 : FL "TwoWells$Ties" 28 1 1 := ⟨_, rfl, by decide, gw_of (tb_1 (List.mem_of_getElem? (i := 82) rfl)) rfl⟩
theorem fl_X9_31 : FL "TwoWells$Ties" 31 1 14 := ⟨_, rfl, by decide, gw_of (tb_1 (List.mem_of_getElem? (i := 131) rfl)) rfl⟩
theorem fl_X9_35 : FL "TwoWells$Ties" 35 1 15 := ⟨_, rfl, by decide, gw_of (tb_1 (List.mem_of_getElem? (i := 138) rfl)) rfl⟩
theorem fl_X11_1 : FL "TwoWellsModel" 1 11 0 := ⟨_, rfl, by decide, gw_of (tb_5 (List.mem_of_getElem? (i := 198) rfl)) rfl⟩
theorem fl_X11_13 : FL "TwoWellsModel" 13 11 1 := ⟨_, rfl, by decide, gw_of (tb_5 (List.mem_of_getElem? (i := 199) rfl)) rfl⟩
theorem fl_X11_17 : FL "TwoWellsModel" 17 11 2 := ⟨_, rfl, by decide, gw_of (tb_5 (List.mem_of_getElem? (i := 200) rfl)) rfl⟩
theorem fl_X11_21 : FL "TwoWellsModel" 21 11 3 := ⟨_, rfl, by decide, gw_of (tb_5 (List.mem_of_getElem? (i := 201) rfl)) rfl⟩
theorem fl_X11_24 : FL "TwoWellsModel" 24 11 4 := ⟨_, rfl, by decide, gw_of (tb_5 (List.mem_of_getElem? (i := 202) rfl)) rfl⟩
theorem fl_X11_27 : FL "TwoWellsModel" 27 11 14 := ⟨_, rfl, by decide, gw_of (tb_5 (List.mem_of_getElem? (i := 212) rfl)) rfl⟩
theorem fl_X11_30 : FL "TwoWellsModel" 30 11 15 := ⟨_, rfl, by decide, gw_of (tb_5 (List.mem_of_getElem? (i := 213) rfl)) rfl⟩
theorem fl_X11_33 : FL "TwoWellsModel" 33 11 16 := ⟨_, rfl, by decide, gw_of (tb_5 (List.mem_of_getElem? (i := 214) rfl)) rfl⟩
theorem fl_X11_36 : FL "TwoWellsModel" 36 11 22 := ⟨_, rfl, by decide, gw_of (tb_5 (List.mem_of_getElem? (i := 220) rfl)) rfl⟩
theorem fl_X11_39 : FL "TwoWellsModel" 39 11 23 := ⟨_, rfl, by decide, gw_of (tb_5 (List.mem_of_getElem? (i := 221) rfl)) rfl⟩
theorem fl_X11_43 : FL "TwoWellsModel" 43 11 24 := ⟨_, rfl, by decide, gw_of (tb_5 (List.mem_of_getElem? (i := 222) rfl)) rfl⟩
theorem fl_X11_46 : FL "TwoWellsModel" 46 11 25 := ⟨_, rfl, by decide, gw_of (tb_5 (List.mem_of_getElem? (i := 223) rfl)) rfl⟩
theorem fl_X11_49 : FL "TwoWellsModel" 49 11 28 := ⟨_, rfl, by decide, gw_of (tb_5 (List.mem_of_getElem? (i := 226) rfl)) rfl⟩
theorem fl_X11_52 : FL "TwoWellsModel" 52 11 29 := ⟨_, rfl, by decide, gw_of (tb_5 (List.mem_of_getElem? (i := 227) rfl)) rfl⟩
theorem fl_X11_55 : FL "TwoWellsModel" 55 11 30 := ⟨_, rfl, by decide, gw_of (tb_5 (List.mem_of_getElem? (i := 228) rfl)) rfl⟩
theorem fl_X11_58 : FL "TwoWellsModel" 58 11 32 := ⟨_, rfl, by decide, gw_of (tb_5 (List.mem_of_getElem? (i := 230) rfl)) rfl⟩
theorem fl_X11_61 : FL "TwoWellsModel" 61 11 33 := ⟨_, rfl, by decide, gw_of (tb_5 (List.mem_of_getElem? (i := 231) rfl)) rfl⟩
theorem fl_X11_64 : FL "TwoWellsModel" 64 11 34 := ⟨_, rfl, by decide, gw_of (tb_5 (List.mem_of_getElem? (i := 232) rfl)) rfl⟩
theorem fl_X11_67 : FL "TwoWellsModel" 67 11 36 := ⟨_, rfl, by decide, gw_of (tb_5 (List.mem_of_getElem? (i := 234) rfl)) rfl⟩
theorem fl_X11_70 : FL "TwoWellsModel" 70 11 37 := ⟨_, rfl, by decide, gw_of (tb_5 (List.mem_of_getElem? (i := 235) rfl)) rfl⟩
theorem fl_X11_73 : FL "TwoWellsModel" 73 11 41 := ⟨_, rfl, by decide, gw_of (tb_5 (List.mem_of_getElem? (i := 239) rfl)) rfl⟩
theorem fl_X11_76 : FL "TwoWellsModel" 76 11 42 := ⟨_, rfl, by decide, gw_of (tb_6 (List.mem_of_getElem? (i := 0) rfl)) rfl⟩
theorem fl_X11_79 : FL "TwoWellsModel" 79 11 43 := ⟨_, rfl, by decide, gw_of (tb_6 (List.mem_of_getElem? (i := 1) rfl)) rfl⟩
theorem fl_X11_86 : FL "TwoWellsModel" 86 11 5 := ⟨_, rfl, by decide, gw_of (tb_5 (List.mem_of_getElem? (i := 203) rfl)) rfl⟩
theorem fl_X11_89 : FL "TwoWellsModel" 89 11 8 := ⟨_, rfl, by decide, gw_of (tb_5 (List.mem_of_getElem? (i := 206) rfl)) rfl⟩
theorem fl_X11_104 : FL "TwoWellsModel" 104 11 6 := ⟨_, rfl, by decide, gw_of (tb_5 (List.mem_of_getElem? (i := 204) rfl)) rfl⟩
theorem fl_X11_107 : FL "TwoWellsModel" 107 11 7 := ⟨_, rfl, by decide, gw_of (tb_5 (List.mem_of_getElem? (i := 205) rfl)) rfl⟩
theorem fl_X11_114 : FL "TwoWellsModel" 114 11 9 := ⟨_, rfl, by decide, gw_of (tb_5 (List.mem_of_getElem? (i := 207) rfl)) rfl⟩
theorem fl_X11_127 : FL "TwoWellsModel" 127 11 10 := ⟨_, rfl, by decide, gw_of (tb_5 (List.mem_of_getElem? (i := 208) rfl)) rfl⟩
theorem fl_X11_130 : FL "TwoWellsModel" 130 11 11 := ⟨_, rfl, by decide, gw_of (tb_5 (List.mem_of_getElem? (i := 209) rfl)) rfl⟩
theorem fl_X11_133 : FL "TwoWellsModel" 133 11 12 := ⟨_, rfl, by decide, gw_of (tb_5 (List.mem_of_getElem? (i := 210) rfl)) rfl⟩
theorem fl_X11_163 : FL "TwoWellsModel" 163 11 13 := ⟨_, rfl, by decide, gw_of (tb_5 (List.mem_of_getElem? (i := 211) rfl)) rfl⟩
theorem fl_X11_208 : FL "TwoWellsModel" 208 11 17 := ⟨_, rfl, by decide, gw_of (tb_5 (List.mem_of_getElem? (i := 215) rfl)) rfl⟩
theorem fl_X11_211 : FL "TwoWellsModel" 211 11 18 := ⟨_, rfl, by decide, gw_of (tb_5 (List.mem_of_getElem? (i := 216) rfl)) rfl⟩
theorem fl_X11_214 : FL "TwoWellsModel" 214 11 19 := ⟨_, rfl, by decide, gw_of (tb_5 (List.mem_of_getElem? (i := 217) rfl)) rfl⟩
theorem fl_X11_217 : FL "TwoWellsModel" 217 11 20 := ⟨_, rfl, by decide, gw_of (tb_5 (List.mem_of_getElem? (i := 218) rfl)) rfl⟩
theorem fl_X11_239 : FL "TwoWellsModel" 239 11 21 := ⟨_, rfl, by decide, gw_of (tb_5 (List.mem_of_getElem? (i := 219) rfl)) rfl⟩
theorem fl_X11_282 : FL "TwoWellsModel" 282 11 27 := ⟨_, rfl, by decide, gw_of (tb_5 (List.mem_of_getElem? (i := 225) rfl)) rfl⟩
theorem fl_X11_293 : FL "TwoWellsModel" 293 11 26 := ⟨_, rfl, by decide, gw_of (tb_5 (List.mem_of_getElem? (i := 224) rfl)) rfl⟩
theorem fl_X11_323 : FL "TwoWellsModel" 323 11 31 := ⟨_, rfl, by decide, gw_of (tb_5 (List.mem_of_getElem? (i := 229) rfl)) rfl⟩
theorem fl_X11_332 : FL "TwoWellsModel" 332 11 35 := ⟨_, rfl, by decide, gw_of (tb_5 (List.mem_of_getElem? (i := 233) rfl)) rfl⟩
theorem fl_X11_351 : FL "TwoWellsModel" 351 11 38 := ⟨_, rfl, by decide, gw_of (tb_5 (List.mem_of_getElem? (i := 236) rfl)) rfl⟩
theorem fl_X11_354 : FL "TwoWellsModel" 354 11 39 := ⟨_, rfl, by decide, gw_of (tb_5 (List.mem_of_getElem? (i := 237) rfl)) rfl⟩
theorem fl_X11_361 : FL "TwoWellsModel" 361 11 40 := ⟨_, rfl, by decide, gw_of (tb_5 (List.mem_of_getElem? (i := 238) rfl)) rfl⟩
theorem tl_J0_9 : Cond.fieldLink "java/lang/String" 9 "java/lang/String" "value" "[B" ∈ gw := gw_of (tb_8 (List.mem_of_getElem? (i := 5) rfl)) rfl
theorem tl_J0_15 : Cond.fieldLink "java/lang/String" 15 "java/lang/String" "coder" "B" ∈ gw := gw_of (tb_8 (List.mem_of_getElem? (i := 6) rfl)) rfl
theorem tl_J0_38 : Cond.fieldLink "java/lang/String" 38 "java/lang/String" "COMPACT_STRINGS" "Z" ∈ gw := gw_of (tb_2 (List.mem_of_getElem? (i := 207) rfl)) rfl
theorem tl_J0_1053 : Cond.fieldLink "java/lang/String" 1053 "jdk/internal/util/Preconditions" "SIOOBE_FORMATTER" "Ljava/util/function/BiFunction;" ∈ gw := gw_of (tb_2 (List.mem_of_getElem? (i := 223) rfl)) rfl
theorem k_X10_319 : Cond.constantLong "TwoWells" 319 (-2) ∈ gw := gw_of (tb_5 (List.mem_of_getElem? (i := 154) rfl)) rfl
theorem k_X10_321 : Cond.constantLong "TwoWells" 321 (-6) ∈ gw := gw_of (tb_5 (List.mem_of_getElem? (i := 155) rfl)) rfl
theorem k_X10_323 : Cond.constantLong "TwoWells" 323 (-7) ∈ gw := gw_of (tb_5 (List.mem_of_getElem? (i := 156) rfl)) rfl
theorem k_X6_32 : Cond.constantLong "TwoWells$StateSet" 32 (-7046029254386353131) ∈ gw := gw_of (tb_4 (List.mem_of_getElem? (i := 217) rfl)) rfl
theorem k_X7_76 : Cond.constantLong "TwoWells$Tally" 76 (-1) ∈ gw := gw_of (tb_3 (List.mem_of_getElem? (i := 202) rfl)) rfl
theorem k_X7_89 : Cond.constantLong "TwoWells$Tally" 89 200 ∈ gw := gw_of (tb_3 (List.mem_of_getElem? (i := 211) rfl)) rfl
theorem k_X7_118 : Cond.constant "TwoWells$Tally" 118 1103515245 ∈ gw := gw_of (tb_4 (List.mem_of_getElem? (i := 17) rfl)) rfl
theorem k_X11_174 : Cond.constantLong "TwoWellsModel" 174 7 ∈ gw := gw_of (tb_6 (List.mem_of_getElem? (i := 159) rfl)) rfl
theorem k_X11_206 : Cond.constantLong "TwoWellsModel" 206 20 ∈ gw := gw_of (tb_6 (List.mem_of_getElem? (i := 235) rfl)) rfl
theorem k_X11_220 : Cond.constantLong "TwoWellsModel" 220 (-1) ∈ gw := gw_of (tb_6 (List.mem_of_getElem? (i := 230) rfl)) rfl
theorem k_X11_226 : Cond.constantLong "TwoWellsModel" 226 3 ∈ gw := gw_of (tb_6 (List.mem_of_getElem? (i := 220) rfl)) rfl
theorem k_X11_228 : Cond.constantLong "TwoWellsModel" 228 4 ∈ gw := gw_of (tb_6 (List.mem_of_getElem? (i := 221) rfl)) rfl
theorem k_X11_245 : Cond.constantLong "TwoWellsModel" 245 10 ∈ gw := gw_of (tb_7 (List.mem_of_getElem? (i := 8) rfl)) rfl
theorem k_X11_247 : Cond.constantLong "TwoWellsModel" 247 99 ∈ gw := gw_of (tb_7 (List.mem_of_getElem? (i := 9) rfl)) rfl
theorem k_X11_255 : Cond.constantLong "TwoWellsModel" 255 60 ∈ gw := gw_of (tb_7 (List.mem_of_getElem? (i := 30) rfl)) rfl
theorem k_X11_257 : Cond.constant "TwoWellsModel" 257 1103515245 ∈ gw := gw_of (tb_7 (List.mem_of_getElem? (i := 31) rfl)) rfl
theorem k_X11_264 : Cond.constantLong "TwoWellsModel" 264 9 ∈ gw := gw_of (tb_7 (List.mem_of_getElem? (i := 48) rfl)) rfl
theorem k_X11_285 : Cond.constantLong "TwoWellsModel" 285 64 ∈ gw := gw_of (tb_7 (List.mem_of_getElem? (i := 120) rfl)) rfl
theorem k_X11_287 : Cond.constantLong "TwoWellsModel" 287 128 ∈ gw := gw_of (tb_7 (List.mem_of_getElem? (i := 121) rfl)) rfl
theorem k_X11_289 : Cond.constantLong "TwoWellsModel" 289 2 ∈ gw := gw_of (tb_7 (List.mem_of_getElem? (i := 135) rfl)) rfl
theorem k_X11_291 : Cond.constantLong "TwoWellsModel" 291 8191 ∈ gw := gw_of (tb_7 (List.mem_of_getElem? (i := 126) rfl)) rfl
theorem k_X11_330 : Cond.constantLong "TwoWellsModel" 330 6 ∈ gw := gw_of (tb_7 (List.mem_of_getElem? (i := 140) rfl)) rfl
theorem k_X11_339 : Cond.constantLong "TwoWellsModel" 339 16 ∈ gw := gw_of (tb_7 (List.mem_of_getElem? (i := 153) rfl)) rfl
theorem k_X11_373 : Cond.constantLong "TwoWellsModel" 373 (-2) ∈ gw := gw_of (tb_7 (List.mem_of_getElem? (i := 218) rfl)) rfl
theorem k_X11_375 : Cond.constantLong "TwoWellsModel" 375 (-6) ∈ gw := gw_of (tb_7 (List.mem_of_getElem? (i := 219) rfl)) rfl
theorem k_X11_377 : Cond.constantLong "TwoWellsModel" 377 (-7) ∈ gw := gw_of (tb_7 (List.mem_of_getElem? (i := 220) rfl)) rfl
theorem k_J6_265 : Cond.constant "java/lang/Integer" 265 1431655765 ∈ gw := gw_of (tb_4 (List.mem_of_getElem? (i := 73) rfl)) rfl
theorem k_J6_266 : Cond.constant "java/lang/Integer" 266 858993459 ∈ gw := gw_of (tb_4 (List.mem_of_getElem? (i := 74) rfl)) rfl
theorem k_J6_267 : Cond.constant "java/lang/Integer" 267 252645135 ∈ gw := gw_of (tb_4 (List.mem_of_getElem? (i := 75) rfl)) rfl
theorem cl_X10_7 : Cond.classLink "TwoWells" 7 "TwoWells$Tape" ∈ gw := gw_of (tb_1 (List.mem_of_getElem? (i := 29) rfl)) rfl
theorem cl_X10_16 : Cond.classLink "TwoWells" 16 "TwoWells$Land" ∈ gw := gw_of (tb_1 (List.mem_of_getElem? (i := 67) rfl)) rfl
theorem cl_X10_34 : Cond.classLink "TwoWells" 34 "TwoWells$NumberRow" ∈ gw := gw_of (tb_1 (List.mem_of_getElem? (i := 192) rfl)) rfl
theorem cl_X10_40 : Cond.classLink "TwoWells" 40 "TwoWells$Tally" ∈ gw := gw_of (tb_1 (List.mem_of_getElem? (i := 194) rfl)) rfl
theorem cl_X10_47 : Cond.classLink "TwoWells" 47 "TwoWells$Ties" ∈ gw := gw_of (tb_1 (List.mem_of_getElem? (i := 231) rfl)) rfl
theorem cl_X10_54 : Cond.classLink "TwoWells" 54 "TwoWells$Lonely" ∈ gw := gw_of (tb_2 (List.mem_of_getElem? (i := 4) rfl)) rfl
theorem cl_X10_61 : Cond.classLink "TwoWells" 61 "TwoWells$Homes" ∈ gw := gw_of (tb_2 (List.mem_of_getElem? (i := 36) rfl)) rfl
theorem cl_X10_68 : Cond.classLink "TwoWells" 68 "TwoWells$Sight" ∈ gw := gw_of (tb_2 (List.mem_of_getElem? (i := 66) rfl)) rfl
theorem cl_X10_248 : Cond.classLink "TwoWells" 248 "TwoWells$Search" ∈ gw := gw_of (tb_4 (List.mem_of_getElem? (i := 116) rfl)) rfl
theorem cl_X0_18 : Cond.classLink "TwoWells$Homes" 18 "[[I" ∈ gw := gw_of (tb_2 (List.mem_of_getElem? (i := 42) rfl)) rfl
theorem cl_X2_18 : Cond.classLink "TwoWells$Lonely" 18 "TwoWells$Land" ∈ gw := gw_of (tb_2 (List.mem_of_getElem? (i := 10) rfl)) rfl
theorem cl_X4_11 : Cond.classLink "TwoWells$Search" 11 "TwoWells$StateSet" ∈ gw := gw_of (tb_4 (List.mem_of_getElem? (i := 122) rfl)) rfl
theorem ml_X10_1 : Cond.methodLink "TwoWells" 1 Lib.objectInit ∈ gw := gw_of (tb_1 (List.mem_of_getElem? (i := 26) rfl)) rfl
theorem cw_X10_9 : Cond.initialized yX8_init.cls ∈ gw ∧ Cond.code yX8_init cX8_init 1 none ∈ gw ∧ (yX8_init.cls ≠ "java/lang/invoke/MethodHandle" ∧ yX8_init.cls ≠ "java/lang/invoke/VarHandle" ∧ (parseMethodDescriptor yX8_init.desc).map (fun d => d.parameters.length) = some 0) ∧ ("TwoWells", 9, yX8_init) ∈ nT ∧ Cond.instanceMethod yX8_init ∈ gw := ⟨in_X8, co_X8_init, ⟨by decide, by decide, by decide +kernel⟩, by decide +kernel, im_X8_init⟩
theorem cw_X10_18 : CW "TwoWells" 18 yX1_init cX1_init 1 none 0 ∧ Cond.instanceMethod yX1_init ∈ gw := ⟨⟨in_X1, co_X1_init, ⟨by decide, by decide, by decide +kernel⟩, gw_of (tb_1 (List.mem_of_getElem? (i := 69) rfl)) rfl⟩, im_X1_init⟩
theorem cw_X10_42 : Cond.initialized yX7_init.cls ∈ gw ∧ Cond.code yX7_init cX7_init 1 none ∈ gw ∧ (yX7_init.cls ≠ "java/lang/invoke/MethodHandle" ∧ yX7_init.cls ≠ "java/lang/invoke/VarHandle" ∧ (parseMethodDescriptor yX7_init.desc).map (fun d => d.parameters.length) = some 0) ∧ ("TwoWells", 42, yX7_init) ∈ nT ∧ Cond.instanceMethod yX7_init ∈ gw := ⟨in_X7, co_X7_init, ⟨by decide, by decide, by decide +kernel⟩, by decide +kernel, im_X7_init⟩
theorem cw_X10_49 : Cond.initialized yX9_init.cls ∈ gw ∧ Cond.code yX9_init cX9_init 1 none ∈ gw ∧ (yX9_init.cls ≠ "java/lang/invoke/MethodHandle" ∧ yX9_init.cls ≠ "java/lang/invoke/VarHandle" ∧ (parseMethodDescriptor yX9_init.desc).map (fun d => d.parameters.length) = some 0) ∧ ("TwoWells", 49, yX9_init) ∈ nT ∧ Cond.instanceMethod yX9_init ∈ gw := ⟨in_X9, co_X9_init, ⟨by decide, by decide, by decide +kernel⟩, by decide +kernel, im_X9_init⟩
theorem cw_X10_56 : CW "TwoWells" 56 yX2_init cX2_init 2 none 0 ∧ Cond.instanceMethod yX2_init ∈ gw := ⟨⟨in_X2, co_X2_init, ⟨by decide, by decide, by decide +kernel⟩, gw_of (tb_2 (List.mem_of_getElem? (i := 6) rfl)) rfl⟩, im_X2_init⟩
theorem cw_X10_63 : Cond.initialized yX0_init.cls ∈ gw ∧ Cond.code yX0_init cX0_init 1 none ∈ gw ∧ (yX0_init.cls ≠ "java/lang/invoke/MethodHandle" ∧ yX0_init.cls ≠ "java/lang/invoke/VarHandle" ∧ (parseMethodDescriptor yX0_init.desc).map (fun d => d.parameters.length) = some 0) ∧ ("TwoWells", 63, yX0_init) ∈ nT ∧ Cond.instanceMethod yX0_init ∈ gw := ⟨in_X0, co_X0_init, ⟨by decide, by decide, by decide +kernel⟩, by decide +kernel, im_X0_init⟩
theorem cw_X10_70 : Cond.initialized yX5_init.cls ∈ gw ∧ Cond.code yX5_init cX5_init 1 none ∈ gw ∧ (yX5_init.cls ≠ "java/lang/invoke/MethodHandle" ∧ yX5_init.cls ≠ "java/lang/invoke/VarHandle" ∧ (parseMethodDescriptor yX5_init.desc).map (fun d => d.parameters.length) = some 0) ∧ ("TwoWells", 70, yX5_init) ∈ nT ∧ Cond.instanceMethod yX5_init ∈ gw := ⟨in_X5, co_X5_init, ⟨by decide, by decide, by decide +kernel⟩, by decide +kernel, im_X5_init⟩
theorem cw_X10_75 : Cond.initialized yX3_init.cls ∈ gw ∧ Cond.code yX3_init cX3_init 1 none ∈ gw ∧ (yX3_init.cls ≠ "java/lang/invoke/MethodHandle" ∧ yX3_init.cls ≠ "java/lang/invoke/VarHandle" ∧ (parseMethodDescriptor yX3_init.desc).map (fun d => d.parameters.length) = some 0) ∧ ("TwoWells", 75, yX3_init) ∈ nT ∧ Cond.instanceMethod yX3_init ∈ gw := ⟨in_X3, co_X3_init, ⟨by decide, by decide, by decide +kernel⟩, by decide +kernel, im_X3_init⟩
theorem cw_X10_80 : CW "TwoWells" 80 yX8_addInt cX8_addInt 3 none 1 ∧ Cond.instanceMethod yX8_addInt ∈ gw ∧ Cond.selects yX8_addInt.cls yX8_addInt yX8_addInt ∈ gw := ⟨⟨in_X8, co_X8_addInt, ⟨by decide, by decide, by decide +kernel⟩, gw_of (tb_2 (List.mem_of_getElem? (i := 146) rfl)) rfl⟩, im_X8_addInt, se_X8_addInt⟩
theorem cw_X10_84 : CW "TwoWells" 84 yX8_readText cX8_readText 4 none 2 ∧ Cond.instanceMethod yX8_readText ∈ gw ∧ Cond.selects yX8_readText.cls yX8_readText yX8_readText ∈ gw := ⟨⟨in_X8, co_X8_readText, ⟨by decide, by decide, by decide +kernel⟩, gw_of (tb_2 (List.mem_of_getElem? (i := 154) rfl)) rfl⟩, im_X8_readText, se_X8_readText⟩
theorem cw_X10_91 : CW "TwoWells" 91 yX1_takeAll cX1_takeAll 2 none 1 ∧ Cond.instanceMethod yX1_takeAll ∈ gw ∧ Cond.selects yX1_takeAll.cls yX1_takeAll yX1_takeAll ∈ gw := ⟨⟨in_X1, co_X1_takeAll, ⟨by decide, by decide, by decide +kernel⟩, gw_of (tb_3 (List.mem_of_getElem? (i := 56) rfl)) rfl⟩, im_X1_takeAll, se_X1_takeAll⟩
theorem cw_X10_101 : CW "TwoWells" 101 yX1_hasHouse cX1_hasHouse 2 (some .boolean) 1 ∧ Cond.instanceMethod yX1_hasHouse ∈ gw ∧ Cond.selects yX1_hasHouse.cls yX1_hasHouse yX1_hasHouse ∈ gw := ⟨⟨in_X1, co_X1_hasHouse, ⟨by decide, by decide, by decide +kernel⟩, gw_of (tb_3 (List.mem_of_getElem? (i := 75) rfl)) rfl⟩, im_X1_hasHouse, se_X1_hasHouse⟩
theorem cw_X10_118 : CW "TwoWells" 118 yX1_had cX1_had 2 (some .int) 1 ∧ Cond.instanceMethod yX1_had ∈ gw ∧ Cond.selects yX1_had.cls yX1_had yX1_had ∈ gw := ⟨⟨in_X1, co_X1_had, ⟨by decide, by decide, by decide +kernel⟩, gw_of (tb_3 (List.mem_of_getElem? (i := 79) rfl)) rfl⟩, im_X1_had, se_X1_had⟩
theorem cw_X10_128 : CW "TwoWells" 128 yX1_ropeBits cX1_ropeBits 4 (some .int) 1 ∧ Cond.instanceMethod yX1_ropeBits ∈ gw ∧ Cond.selects yX1_ropeBits.cls yX1_ropeBits yX1_ropeBits ∈ gw := ⟨⟨in_X1, co_X1_ropeBits, ⟨by decide, by decide, by decide +kernel⟩, gw_of (tb_3 (List.mem_of_getElem? (i := 83) rfl)) rfl⟩, im_X1_ropeBits, se_X1_ropeBits⟩
theorem cw_X10_131 : CW "TwoWells" 131 yX1_hasRope cX1_hasRope 2 (some .boolean) 1 ∧ Cond.instanceMethod yX1_hasRope ∈ gw ∧ Cond.selects yX1_hasRope.cls yX1_hasRope yX1_hasRope ∈ gw := ⟨⟨in_X1, co_X1_hasRope, ⟨by decide, by decide, by decide +kernel⟩, gw_of (tb_3 (List.mem_of_getElem? (i := 100) rfl)) rfl⟩, im_X1_hasRope, se_X1_hasRope⟩
theorem cw_X10_140 : CW "TwoWells" 140 yX1_depthOf cX1_depthOf 3 (some .int) 1 ∧ Cond.instanceMethod yX1_depthOf ∈ gw ∧ Cond.selects yX1_depthOf.cls yX1_depthOf yX1_depthOf ∈ gw := ⟨⟨in_X1, co_X1_depthOf, ⟨by decide, by decide, by decide +kernel⟩, gw_of (tb_3 (List.mem_of_getElem? (i := 101) rfl)) rfl⟩, im_X1_depthOf, se_X1_depthOf⟩
theorem cw_X10_146 : CW "TwoWells" 146 yX1_weight cX1_weight 2 (some .int) 1 ∧ Cond.instanceMethod yX1_weight ∈ gw ∧ Cond.selects yX1_weight.cls yX1_weight yX1_weight ∈ gw := ⟨⟨in_X1, co_X1_weight, ⟨by decide, by decide, by decide +kernel⟩, gw_of (tb_3 (List.mem_of_getElem? (i := 105) rfl)) rfl⟩, im_X1_weight, se_X1_weight⟩
theorem cw_X10_155 : CW "TwoWells" 155 yX7_doHour cX7_doHour 4 none 3 ∧ Cond.instanceMethod yX7_doHour ∈ gw ∧ Cond.selects yX7_doHour.cls yX7_doHour yX7_doHour ∈ gw := ⟨⟨in_X7, co_X7_doHour, ⟨by decide, by decide, by decide +kernel⟩, gw_of (tb_3 (List.mem_of_getElem? (i := 117) rfl)) rfl⟩, im_X7_doHour, se_X7_doHour⟩
theorem cw_X10_162 : CW "TwoWells" 162 yX1_hangs cX1_hangs 3 (some .boolean) 2 ∧ Cond.instanceMethod yX1_hangs ∈ gw ∧ Cond.selects yX1_hangs.cls yX1_hangs yX1_hangs ∈ gw := ⟨⟨in_X1, co_X1_hangs, ⟨by decide, by decide, by decide +kernel⟩, gw_of (tb_3 (List.mem_of_getElem? (i := 182) rfl)) rfl⟩, im_X1_hangs, se_X1_hangs⟩
theorem cw_X10_166 : CW "TwoWells" 166 yX10_isRow cX10_isRow 1 (some .boolean) 1 ∧ Cond.static yX10_isRow ∈ gw := ⟨⟨in_X10, co_X10_isRow, ⟨by decide, by decide, by decide +kernel⟩, gw_of (tb_3 (List.mem_of_getElem? (i := 187) rfl)) rfl⟩, st_X10_isRow⟩
theorem cw_X10_169 : CW "TwoWells" 169 yX3_isMissing cX3_isMissing 1 (some .boolean) 0 ∧ Cond.instanceMethod yX3_isMissing ∈ gw ∧ Cond.selects yX3_isMissing.cls yX3_isMissing yX3_isMissing ∈ gw := ⟨⟨in_X3, co_X3_isMissing, ⟨by decide, by decide, by decide +kernel⟩, gw_of (tb_3 (List.mem_of_getElem? (i := 190) rfl)) rfl⟩, im_X3_isMissing, se_X3_isMissing⟩
theorem cw_X10_173 : CW "TwoWells" 173 yX7_doTold cX7_doTold 6 none 2 ∧ Cond.instanceMethod yX7_doTold ∈ gw ∧ Cond.selects yX7_doTold.cls yX7_doTold yX7_doTold ∈ gw := ⟨⟨in_X7, co_X7_doTold, ⟨by decide, by decide, by decide +kernel⟩, gw_of (tb_3 (List.mem_of_getElem? (i := 194) rfl)) rfl⟩, im_X7_doTold, se_X7_doTold⟩
theorem cw_X10_189 : CW "TwoWells" 189 yX10_customRefusal cX10_customRefusal 2 (some .int) 1 ∧ Cond.instanceMethod yX10_customRefusal ∈ gw ∧ Cond.selects yX10_customRefusal.cls yX10_customRefusal yX10_customRefusal ∈ gw := ⟨⟨in_X10, co_X10_customRefusal, ⟨by decide, by decide, by decide +kernel⟩, gw_of (tb_3 (List.mem_of_getElem? (i := 224) rfl)) rfl⟩, im_X10_customRefusal, se_X10_customRefusal⟩
theorem cw_X10_192 : CW "TwoWells" 192 yX7_doCustom cX7_doCustom 6 none 2 ∧ Cond.instanceMethod yX7_doCustom ∈ gw ∧ Cond.selects yX7_doCustom.cls yX7_doCustom yX7_doCustom ∈ gw := ⟨⟨in_X7, co_X7_doCustom, ⟨by decide, by decide, by decide +kernel⟩, gw_of (tb_3 (List.mem_of_getElem? (i := 228) rfl)) rfl⟩, im_X7_doCustom, se_X7_doCustom⟩
theorem cw_X10_196 : CW "TwoWells" 196 yX1_allQuenched cX1_allQuenched 3 (some .int) 0 ∧ Cond.instanceMethod yX1_allQuenched ∈ gw ∧ Cond.selects yX1_allQuenched.cls yX1_allQuenched yX1_allQuenched ∈ gw := ⟨⟨in_X1, co_X1_allQuenched, ⟨by decide, by decide, by decide +kernel⟩, gw_of (tb_4 (List.mem_of_getElem? (i := 1) rfl)) rfl⟩, im_X1_allQuenched, se_X1_allQuenched⟩
theorem cw_X10_203 : CW "TwoWells" 203 yX7_doDrawn cX7_doDrawn 8 none 3 ∧ Cond.instanceMethod yX7_doDrawn ∈ gw ∧ Cond.selects yX7_doDrawn.cls yX7_doDrawn yX7_doDrawn ∈ gw := ⟨⟨in_X7, co_X7_doDrawn, ⟨by decide, by decide, by decide +kernel⟩, gw_of (tb_4 (List.mem_of_getElem? (i := 13) rfl)) rfl⟩, im_X7_doDrawn, se_X7_doDrawn⟩
theorem cw_X10_209 : CW "TwoWells" 209 yX1_restBits cX1_restBits 3 (some .int) 0 ∧ Cond.instanceMethod yX1_restBits ∈ gw ∧ Cond.selects yX1_restBits.cls yX1_restBits yX1_restBits ∈ gw := ⟨⟨in_X1, co_X1_restBits, ⟨by decide, by decide, by decide +kernel⟩, gw_of (tb_4 (List.mem_of_getElem? (i := 39) rfl)) rfl⟩, im_X1_restBits, se_X1_restBits⟩
theorem ml_X10_215 : Cond.methodLink "TwoWells" 215 Lib.Math.abs.name ∈ gw := gw_of (tb_4 (List.mem_of_getElem? (i := 51) rfl)) rfl
theorem cw_X10_223 : CW "TwoWells" 223 yX1_depthBehind cX1_depthBehind 5 (some .int) 3 ∧ Cond.instanceMethod yX1_depthBehind ∈ gw ∧ Cond.selects yX1_depthBehind.cls yX1_depthBehind yX1_depthBehind ∈ gw := ⟨⟨in_X1, co_X1_depthBehind, ⟨by decide, by decide, by decide +kernel⟩, gw_of (tb_4 (List.mem_of_getElem? (i := 56) rfl)) rfl⟩, im_X1_depthBehind, se_X1_depthBehind⟩
theorem cw_X10_227 : CW "TwoWells" 227 yX9_look cX9_look 6 none 2 ∧ Cond.instanceMethod yX9_look ∈ gw ∧ Cond.selects yX9_look.cls yX9_look yX9_look ∈ gw := ⟨⟨in_X9, co_X9_look, ⟨by decide, by decide, by decide +kernel⟩, gw_of (tb_4 (List.mem_of_getElem? (i := 61) rfl)) rfl⟩, im_X9_look, se_X9_look⟩
theorem cw_X10_230 : CW "TwoWells" 230 yX9_greatestLoose cX9_greatestLoose 3 (some .int) 0 ∧ Cond.instanceMethod yX9_greatestLoose ∈ gw ∧ Cond.selects yX9_greatestLoose.cls yX9_greatestLoose yX9_greatestLoose ∈ gw := ⟨⟨in_X9, co_X9_greatestLoose, ⟨by decide, by decide, by decide +kernel⟩, gw_of (tb_4 (List.mem_of_getElem? (i := 66) rfl)) rfl⟩, im_X9_greatestLoose, se_X9_greatestLoose⟩
theorem cw_X10_233 : CW "TwoWells" 233 yX9_oneSide cX9_oneSide 7 (some .int) 0 ∧ Cond.instanceMethod yX9_oneSide ∈ gw ∧ Cond.selects yX9_oneSide.cls yX9_oneSide yX9_oneSide ∈ gw := ⟨⟨in_X9, co_X9_oneSide, ⟨by decide, by decide, by decide +kernel⟩, gw_of (tb_4 (List.mem_of_getElem? (i := 84) rfl)) rfl⟩, im_X9_oneSide, se_X9_oneSide⟩
theorem cw_X10_236 : CW "TwoWells" 236 yX9_steps cX9_steps 5 (some .int) 2 ∧ Cond.instanceMethod yX9_steps ∈ gw ∧ Cond.selects yX9_steps.cls yX9_steps yX9_steps ∈ gw := ⟨⟨in_X9, co_X9_steps, ⟨by decide, by decide, by decide +kernel⟩, gw_of (tb_4 (List.mem_of_getElem? (i := 92) rfl)) rfl⟩, im_X9_steps, se_X9_steps⟩
theorem cw_X10_240 : CW "TwoWells" 240 yX9_part cX9_part 4 (some .int) 1 ∧ Cond.instanceMethod yX9_part ∈ gw ∧ Cond.selects yX9_part.cls yX9_part yX9_part ∈ gw := ⟨⟨in_X9, co_X9_part, ⟨by decide, by decide, by decide +kernel⟩, gw_of (tb_4 (List.mem_of_getElem? (i := 100) rfl)) rfl⟩, im_X9_part, se_X9_part⟩
theorem cw_X10_243 : CW "TwoWells" 243 yX10_searcher cX10_searcher 1 (some (.object "TwoWells$Search")) 0 ∧ Cond.instanceMethod yX10_searcher ∈ gw ∧ Cond.selects yX10_searcher.cls yX10_searcher yX10_searcher ∈ gw := ⟨⟨in_X10, co_X10_searcher, ⟨by decide, by decide, by decide +kernel⟩, gw_of (tb_4 (List.mem_of_getElem? (i := 112) rfl)) rfl⟩, im_X10_searcher, se_X10_searcher⟩
theorem cw_X10_247 : CW "TwoWells" 247 yX4_fewestHours cX4_fewestHours 8 (some .int) 3 ∧ Cond.instanceMethod yX4_fewestHours ∈ gw ∧ Cond.selects yX4_fewestHours.cls yX4_fewestHours yX4_fewestHours ∈ gw := ⟨⟨in_X4, co_X4_fewestHours, ⟨by decide, by decide, by decide +kernel⟩, gw_of (tb_4 (List.mem_of_getElem? (i := 187) rfl)) rfl⟩, im_X4_fewestHours, se_X4_fewestHours⟩
theorem cw_X10_253 : CW "TwoWells" 253 yX4_fewestPulls cX4_fewestPulls 5 (some .int) 2 ∧ Cond.instanceMethod yX4_fewestPulls ∈ gw ∧ Cond.selects yX4_fewestPulls.cls yX4_fewestPulls yX4_fewestPulls ∈ gw := ⟨⟨in_X4, co_X4_fewestPulls, ⟨by decide, by decide, by decide +kernel⟩, gw_of (tb_5 (List.mem_of_getElem? (i := 20) rfl)) rfl⟩, im_X4_fewestPulls, se_X4_fewestPulls⟩
theorem cw_X10_260 : CW "TwoWells" 260 yX4_init cX4_init 2 none 1 ∧ Cond.instanceMethod yX4_init ∈ gw := ⟨⟨in_X4, co_X4_init, ⟨by decide, by decide, by decide +kernel⟩, gw_of (tb_4 (List.mem_of_getElem? (i := 118) rfl)) rfl⟩, im_X4_init⟩
theorem cw_X10_262 : CW "TwoWells" 262 yX1_openCount cX1_openCount 4 (some .int) 1 ∧ Cond.instanceMethod yX1_openCount ∈ gw ∧ Cond.selects yX1_openCount.cls yX1_openCount yX1_openCount ∈ gw := ⟨⟨in_X1, co_X1_openCount, ⟨by decide, by decide, by decide +kernel⟩, gw_of (tb_5 (List.mem_of_getElem? (i := 28) rfl)) rfl⟩, im_X1_openCount, se_X1_openCount⟩
theorem cw_X10_265 : CW "TwoWells" 265 yX2_seek cX2_seek 5 none 3 ∧ Cond.instanceMethod yX2_seek ∈ gw ∧ Cond.selects yX2_seek.cls yX2_seek yX2_seek ∈ gw := ⟨⟨in_X2, co_X2_seek, ⟨by decide, by decide, by decide +kernel⟩, gw_of (tb_5 (List.mem_of_getElem? (i := 29) rfl)) rfl⟩, im_X2_seek, se_X2_seek⟩
theorem cw_X10_277 : CW "TwoWells" 277 yJ6_bitCount_0f7a4 cJ6_bitCount_0f7a4 1 (some .int) 1 ∧ Cond.static yJ6_bitCount_0f7a4 ∈ gw := ⟨⟨in_J6, co_J6_bitCount_0f7a4, ⟨by decide, by decide, by decide +kernel⟩, gw_of (tb_5 (List.mem_of_getElem? (i := 66) rfl)) rfl⟩, st_J6_bitCount_0f7a4⟩
theorem cw_X10_282 : CW "TwoWells" 282 yX9_tied cX9_tied 3 (some .boolean) 2 ∧ Cond.instanceMethod yX9_tied ∈ gw ∧ Cond.selects yX9_tied.cls yX9_tied yX9_tied ∈ gw := ⟨⟨in_X9, co_X9_tied, ⟨by decide, by decide, by decide +kernel⟩, gw_of (tb_5 (List.mem_of_getElem? (i := 67) rfl)) rfl⟩, im_X9_tied, se_X9_tied⟩
theorem cw_X10_285 : CW "TwoWells" 285 yX0_settle cX0_settle 2 none 1 ∧ Cond.instanceMethod yX0_settle ∈ gw ∧ Cond.selects yX0_settle.cls yX0_settle yX0_settle ∈ gw := ⟨⟨in_X0, co_X0_settle, ⟨by decide, by decide, by decide +kernel⟩, gw_of (tb_5 (List.mem_of_getElem? (i := 75) rfl)) rfl⟩, im_X0_settle, se_X0_settle⟩
theorem cw_X10_297 : CW "TwoWells" 297 yX1_sharedThirst cX1_sharedThirst 2 (some .int) 1 ∧ Cond.instanceMethod yX1_sharedThirst ∈ gw ∧ Cond.selects yX1_sharedThirst.cls yX1_sharedThirst yX1_sharedThirst ∈ gw := ⟨⟨in_X1, co_X1_sharedThirst, ⟨by decide, by decide, by decide +kernel⟩, gw_of (tb_5 (List.mem_of_getElem? (i := 99) rfl)) rfl⟩, im_X1_sharedThirst, se_X1_sharedThirst⟩
theorem cw_X10_300 : CW "TwoWells" 300 yX10_sightRefusal cX10_sightRefusal 2 (some .int) 1 ∧ Cond.instanceMethod yX10_sightRefusal ∈ gw ∧ Cond.selects yX10_sightRefusal.cls yX10_sightRefusal yX10_sightRefusal ∈ gw := ⟨⟨in_X10, co_X10_sightRefusal, ⟨by decide, by decide, by decide +kernel⟩, gw_of (tb_5 (List.mem_of_getElem? (i := 108) rfl)) rfl⟩, im_X10_sightRefusal, se_X10_sightRefusal⟩
theorem cw_X10_303 : CW "TwoWells" 303 yX5_watch cX5_watch 3 none 2 ∧ Cond.instanceMethod yX5_watch ∈ gw ∧ Cond.selects yX5_watch.cls yX5_watch yX5_watch ∈ gw := ⟨⟨in_X5, co_X5_watch, ⟨by decide, by decide, by decide +kernel⟩, gw_of (tb_5 (List.mem_of_getElem? (i := 112) rfl)) rfl⟩, im_X5_watch, se_X5_watch⟩
theorem cw_X10_315 : CW "TwoWells" 315 yX3_begin cX3_begin 3 none 2 ∧ Cond.instanceMethod yX3_begin ∈ gw ∧ Cond.selects yX3_begin.cls yX3_begin yX3_begin ∈ gw := ⟨⟨in_X3, co_X3_begin, ⟨by decide, by decide, by decide +kernel⟩, gw_of (tb_5 (List.mem_of_getElem? (i := 141) rfl)) rfl⟩, im_X3_begin, se_X3_begin⟩
theorem cw_X10_325 : CW "TwoWells" 325 yX3_put cX3_put 4 (some .long) 2 ∧ Cond.instanceMethod yX3_put ∈ gw ∧ Cond.selects yX3_put.cls yX3_put yX3_put ∈ gw := ⟨⟨in_X3, co_X3_put, ⟨by decide, by decide, by decide +kernel⟩, gw_of (tb_5 (List.mem_of_getElem? (i := 157) rfl)) rfl⟩, im_X3_put, se_X3_put⟩
theorem cw_X10_335 : CW "TwoWells" 335 yX1_allStock cX1_allStock 3 (some .int) 0 ∧ Cond.instanceMethod yX1_allStock ∈ gw ∧ Cond.selects yX1_allStock.cls yX1_allStock yX1_allStock ∈ gw := ⟨⟨in_X1, co_X1_allStock, ⟨by decide, by decide, by decide +kernel⟩, gw_of (tb_5 (List.mem_of_getElem? (i := 181) rfl)) rfl⟩, im_X1_allStock, se_X1_allStock⟩
theorem cw_X10_338 : CW "TwoWells" 338 yX1_fullBuckets cX1_fullBuckets 3 (some .int) 0 ∧ Cond.instanceMethod yX1_fullBuckets ∈ gw ∧ Cond.selects yX1_fullBuckets.cls yX1_fullBuckets yX1_fullBuckets ∈ gw := ⟨⟨in_X1, co_X1_fullBuckets, ⟨by decide, by decide, by decide +kernel⟩, gw_of (tb_5 (List.mem_of_getElem? (i := 185) rfl)) rfl⟩, im_X1_fullBuckets, se_X1_fullBuckets⟩
theorem ml_X0_3 : Cond.methodLink "TwoWells$Homes" 3 Lib.objectInit ∈ gw := gw_of (tb_2 (List.mem_of_getElem? (i := 41) rfl)) rfl
theorem ml_X0_29 : Cond.methodLink "TwoWells$Homes" 29 Lib.Math.min.name ∈ gw := gw_of (tb_5 (List.mem_of_getElem? (i := 79) rfl)) rfl
theorem cw_X0_36 : CW "TwoWells$Homes" 36 yX0_countRopes cX0_countRopes 5 none 1 ∧ Cond.instanceMethod yX0_countRopes ∈ gw ∧ Cond.selects yX0_countRopes.cls yX0_countRopes yX0_countRopes ∈ gw := ⟨⟨in_X0, co_X0_countRopes, ⟨by decide, by decide, by decide +kernel⟩, gw_of (tb_5 (List.mem_of_getElem? (i := 80) rfl)) rfl⟩, im_X0_countRopes, se_X0_countRopes⟩
theorem cw_X0_46 : CW "TwoWells$Homes" 46 yX0_place cX0_place 8 none 5 ∧ Cond.instanceMethod yX0_place ∈ gw ∧ Cond.selects yX0_place.cls yX0_place yX0_place ∈ gw := ⟨⟨in_X0, co_X0_place, ⟨by decide, by decide, by decide +kernel⟩, gw_of (tb_5 (List.mem_of_getElem? (i := 85) rfl)) rfl⟩, im_X0_place, se_X0_place⟩
theorem cw_X0_50 : CW "TwoWells$Homes" 50 yJ7_fill_53178 cJ7_fill_53178 4 none 2 ∧ Cond.static yJ7_fill_53178 ∈ gw := ⟨⟨in_J7, co_J7_fill_53178, ⟨by decide, by decide, by decide +kernel⟩, gw_of (tb_5 (List.mem_of_getElem? (i := 84) rfl)) rfl⟩, st_J7_fill_53178⟩
theorem ml_X0_66 : Cond.methodLink "TwoWells$Homes" 66 arraycopyName ∈ gw := gw_of (tb_5 (List.mem_of_getElem? (i := 89) rfl)) rfl
theorem cw_X0_72 : CW "TwoWells$Homes" 72 yX0_clashWithPlaced cX0_clashWithPlaced 6 (some .int) 2 ∧ Cond.instanceMethod yX0_clashWithPlaced ∈ gw ∧ Cond.selects yX0_clashWithPlaced.cls yX0_clashWithPlaced yX0_clashWithPlaced ∈ gw := ⟨⟨in_X0, co_X0_clashWithPlaced, ⟨by decide, by decide, by decide +kernel⟩, gw_of (tb_5 (List.mem_of_getElem? (i := 90) rfl)) rfl⟩, im_X0_clashWithPlaced, se_X0_clashWithPlaced⟩
theorem cw_X0_79 : CW "TwoWells$Homes" 79 yJ6_bitCount_0f7a4 cJ6_bitCount_0f7a4 1 (some .int) 1 ∧ Cond.static yJ6_bitCount_0f7a4 ∈ gw := ⟨⟨in_J6, co_J6_bitCount_0f7a4, ⟨by decide, by decide, by decide +kernel⟩, gw_of (tb_5 (List.mem_of_getElem? (i := 94) rfl)) rfl⟩, st_J6_bitCount_0f7a4⟩
theorem ml_X1_3 : Cond.methodLink "TwoWells$Land" 3 Lib.objectInit ∈ gw := gw_of (tb_1 (List.mem_of_getElem? (i := 72) rfl)) rfl
theorem cw_X1_68 : CW "TwoWells$Land" 68 yX1_setBucket cX1_setBucket 3 none 2 ∧ Cond.instanceMethod yX1_setBucket ∈ gw ∧ Cond.selects yX1_setBucket.cls yX1_setBucket yX1_setBucket ∈ gw := ⟨⟨in_X1, co_X1_setBucket, ⟨by decide, by decide, by decide +kernel⟩, gw_of (tb_3 (List.mem_of_getElem? (i := 44) rfl)) rfl⟩, im_X1_setBucket, se_X1_setBucket⟩
theorem ml_X1_72 : Cond.methodLink "TwoWells$Land" 72 arraycopyName ∈ gw := gw_of (tb_3 (List.mem_of_getElem? (i := 60) rfl)) rfl
theorem cw_X1_78 : CW "TwoWells$Land" 78 yX1_takeMoved cX1_takeMoved 2 none 1 ∧ Cond.instanceMethod yX1_takeMoved ∈ gw ∧ Cond.selects yX1_takeMoved.cls yX1_takeMoved yX1_takeMoved ∈ gw := ⟨⟨in_X1, co_X1_takeMoved, ⟨by decide, by decide, by decide +kernel⟩, gw_of (tb_3 (List.mem_of_getElem? (i := 63) rfl)) rfl⟩, im_X1_takeMoved, se_X1_takeMoved⟩
theorem cw_X1_82 : CW "TwoWells$Land" 82 yX1_hasHouse cX1_hasHouse 2 (some .boolean) 1 ∧ Cond.instanceMethod yX1_hasHouse ∈ gw ∧ Cond.selects yX1_hasHouse.cls yX1_hasHouse yX1_hasHouse ∈ gw := ⟨⟨in_X1, co_X1_hasHouse, ⟨by decide, by decide, by decide +kernel⟩, gw_of (tb_3 (List.mem_of_getElem? (i := 91) rfl)) rfl⟩, im_X1_hasHouse, se_X1_hasHouse⟩
theorem cw_X1_86 : CW "TwoWells$Land" 86 yX1_hasRope cX1_hasRope 2 (some .boolean) 1 ∧ Cond.instanceMethod yX1_hasRope ∈ gw ∧ Cond.selects yX1_hasRope.cls yX1_hasRope yX1_hasRope ∈ gw := ⟨⟨in_X1, co_X1_hasRope, ⟨by decide, by decide, by decide +kernel⟩, gw_of (tb_3 (List.mem_of_getElem? (i := 92) rfl)) rfl⟩, im_X1_hasRope, se_X1_hasRope⟩
theorem cw_X1_89 : CW "TwoWells$Land" 89 yX1_hangs cX1_hangs 3 (some .boolean) 2 ∧ Cond.instanceMethod yX1_hangs ∈ gw ∧ Cond.selects yX1_hangs.cls yX1_hangs yX1_hangs ∈ gw := ⟨⟨in_X1, co_X1_hangs, ⟨by decide, by decide, by decide +kernel⟩, gw_of (tb_3 (List.mem_of_getElem? (i := 87) rfl)) rfl⟩, im_X1_hangs, se_X1_hangs⟩
theorem cw_X1_93 : CW "TwoWells$Land" 93 yX1_hangsOpen cX1_hangsOpen 3 (some .boolean) 2 ∧ Cond.instanceMethod yX1_hangsOpen ∈ gw ∧ Cond.selects yX1_hangsOpen.cls yX1_hangsOpen yX1_hangsOpen ∈ gw := ⟨⟨in_X1, co_X1_hangsOpen, ⟨by decide, by decide, by decide +kernel⟩, gw_of (tb_4 (List.mem_of_getElem? (i := 22) rfl)) rfl⟩, im_X1_hangsOpen, se_X1_hangsOpen⟩
theorem cw_X1_96 : CW "TwoWells$Land" 96 yJ6_bitCount_0f7a4 cJ6_bitCount_0f7a4 1 (some .int) 1 ∧ Cond.static yJ6_bitCount_0f7a4 ∈ gw := ⟨⟨in_J6, co_J6_bitCount_0f7a4, ⟨by decide, by decide, by decide +kernel⟩, gw_of (tb_5 (List.mem_of_getElem? (i := 103) rfl)) rfl⟩, st_J6_bitCount_0f7a4⟩
theorem cw_X1_102 : CW "TwoWells$Land" 102 yX1_emptyWeight cX1_emptyWeight 2 (some .int) 1 ∧ Cond.instanceMethod yX1_emptyWeight ∈ gw ∧ Cond.selects yX1_emptyWeight.cls yX1_emptyWeight yX1_emptyWeight ∈ gw := ⟨⟨in_X1, co_X1_emptyWeight, ⟨by decide, by decide, by decide +kernel⟩, gw_of (tb_3 (List.mem_of_getElem? (i := 109) rfl)) rfl⟩, im_X1_emptyWeight, se_X1_emptyWeight⟩
theorem cw_X1_105 : CW "TwoWells$Land" 105 yX1_weight cX1_weight 2 (some .int) 1 ∧ Cond.instanceMethod yX1_weight ∈ gw ∧ Cond.selects yX1_weight.cls yX1_weight yX1_weight ∈ gw := ⟨⟨in_X1, co_X1_weight, ⟨by decide, by decide, by decide +kernel⟩, gw_of (tb_3 (List.mem_of_getElem? (i := 149) rfl)) rfl⟩, im_X1_weight, se_X1_weight⟩
theorem cw_X1_108 : CW "TwoWells$Land" 108 yX1_pullLean cX1_pullLean 5 (some .int) 3 ∧ Cond.instanceMethod yX1_pullLean ∈ gw ∧ Cond.selects yX1_pullLean.cls yX1_pullLean yX1_pullLean ∈ gw := ⟨⟨in_X1, co_X1_pullLean, ⟨by decide, by decide, by decide +kernel⟩, gw_of (tb_3 (List.mem_of_getElem? (i := 150) rfl)) rfl⟩, im_X1_pullLean, se_X1_pullLean⟩
theorem cw_X1_112 : CW "TwoWells$Land" 112 yX1_depthFrom cX1_depthFrom 5 (some .int) 3 ∧ Cond.instanceMethod yX1_depthFrom ∈ gw ∧ Cond.selects yX1_depthFrom.cls yX1_depthFrom yX1_depthFrom ∈ gw := ⟨⟨in_X1, co_X1_depthFrom, ⟨by decide, by decide, by decide +kernel⟩, gw_of (tb_3 (List.mem_of_getElem? (i := 154) rfl)) rfl⟩, im_X1_depthFrom, se_X1_depthFrom⟩
theorem ml_X1_116 : Cond.methodLink "TwoWells$Land" 116 Lib.Math.abs.name ∈ gw := gw_of (tb_3 (List.mem_of_getElem? (i := 158) rfl)) rfl
theorem ml_X1_121 : Cond.methodLink "TwoWells$Land" 121 Lib.Math.min.name ∈ gw := gw_of (tb_3 (List.mem_of_getElem? (i := 161) rfl)) rfl
theorem ml_X1_125 : Cond.methodLink "TwoWells$Land" 125 Lib.Math.max.name ∈ gw := gw_of (tb_3 (List.mem_of_getElem? (i := 162) rfl)) rfl
theorem cw_X1_128 : CW "TwoWells$Land" 128 yX1_depthBehind cX1_depthBehind 5 (some .int) 3 ∧ Cond.instanceMethod yX1_depthBehind ∈ gw ∧ Cond.selects yX1_depthBehind.cls yX1_depthBehind yX1_depthBehind ∈ gw := ⟨⟨in_X1, co_X1_depthBehind, ⟨by decide, by decide, by decide +kernel⟩, gw_of (tb_3 (List.mem_of_getElem? (i := 145) rfl)) rfl⟩, im_X1_depthBehind, se_X1_depthBehind⟩
theorem cw_X1_131 : CW "TwoWells$Land" 131 yX1_fill cX1_fill 3 none 0 ∧ Cond.instanceMethod yX1_fill ∈ gw ∧ Cond.selects yX1_fill.cls yX1_fill yX1_fill ∈ gw := ⟨⟨in_X1, co_X1_fill, ⟨by decide, by decide, by decide +kernel⟩, gw_of (tb_3 (List.mem_of_getElem? (i := 165) rfl)) rfl⟩, im_X1_fill, se_X1_fill⟩
theorem cw_X1_134 : CW "TwoWells$Land" 134 yX1_drink cX1_drink 4 (some .int) 0 ∧ Cond.instanceMethod yX1_drink ∈ gw ∧ Cond.selects yX1_drink.cls yX1_drink yX1_drink ∈ gw := ⟨⟨in_X1, co_X1_drink, ⟨by decide, by decide, by decide +kernel⟩, gw_of (tb_3 (List.mem_of_getElem? (i := 170) rfl)) rfl⟩, im_X1_drink, se_X1_drink⟩
theorem cw_X1_138 : CW "TwoWells$Land" 138 yX1_depthOf cX1_depthOf 3 (some .int) 1 ∧ Cond.instanceMethod yX1_depthOf ∈ gw ∧ Cond.selects yX1_depthOf.cls yX1_depthOf yX1_depthOf ∈ gw := ⟨⟨in_X1, co_X1_depthOf, ⟨by decide, by decide, by decide +kernel⟩, gw_of (tb_3 (List.mem_of_getElem? (i := 169) rfl)) rfl⟩, im_X1_depthOf, se_X1_depthOf⟩
theorem cw_X1_141 : CW "TwoWells$Land" 141 yX1_thirstsNow cX1_thirstsNow 2 (some .boolean) 1 ∧ Cond.instanceMethod yX1_thirstsNow ∈ gw ∧ Cond.selects yX1_thirstsNow.cls yX1_thirstsNow yX1_thirstsNow ∈ gw := ⟨⟨in_X1, co_X1_thirstsNow, ⟨by decide, by decide, by decide +kernel⟩, gw_of (tb_3 (List.mem_of_getElem? (i := 174) rfl)) rfl⟩, im_X1_thirstsNow, se_X1_thirstsNow⟩
theorem ml_X2_3 : Cond.methodLink "TwoWells$Lonely" 3 Lib.objectInit ∈ gw := gw_of (tb_2 (List.mem_of_getElem? (i := 9) rfl)) rfl
theorem cw_X2_27 : CW "TwoWells$Lonely" 27 yX1_init cX1_init 1 none 0 ∧ Cond.instanceMethod yX1_init ∈ gw := ⟨⟨in_X1, co_X1_init, ⟨by decide, by decide, by decide +kernel⟩, gw_of (tb_2 (List.mem_of_getElem? (i := 11) rfl)) rfl⟩, im_X1_init⟩
theorem cw_X2_28 : CW "TwoWells$Lonely" 28 yX1_takeAll cX1_takeAll 2 none 1 ∧ Cond.instanceMethod yX1_takeAll ∈ gw ∧ Cond.selects yX1_takeAll.cls yX1_takeAll yX1_takeAll ∈ gw := ⟨⟨in_X1, co_X1_takeAll, ⟨by decide, by decide, by decide +kernel⟩, gw_of (tb_5 (List.mem_of_getElem? (i := 33) rfl)) rfl⟩, im_X1_takeAll, se_X1_takeAll⟩
theorem cw_X2_32 : CW "TwoWells$Lonely" 32 yJ7_fill_53178 cJ7_fill_53178 4 none 2 ∧ Cond.static yJ7_fill_53178 ∈ gw := ⟨⟨in_J7, co_J7_fill_53178, ⟨by decide, by decide, by decide +kernel⟩, gw_of (tb_5 (List.mem_of_getElem? (i := 34) rfl)) rfl⟩, st_J7_fill_53178⟩
theorem cw_X2_48 : CW "TwoWells$Lonely" 48 yX2_seekFrom cX2_seekFrom 5 none 1 ∧ Cond.instanceMethod yX2_seekFrom ∈ gw ∧ Cond.selects yX2_seekFrom.cls yX2_seekFrom yX2_seekFrom ∈ gw := ⟨⟨in_X2, co_X2_seekFrom, ⟨by decide, by decide, by decide +kernel⟩, gw_of (tb_5 (List.mem_of_getElem? (i := 35) rfl)) rfl⟩, im_X2_seekFrom, se_X2_seekFrom⟩
theorem cw_X2_52 : CW "TwoWells$Lonely" 52 yX1_had cX1_had 2 (some .int) 1 ∧ Cond.instanceMethod yX1_had ∈ gw ∧ Cond.selects yX1_had.cls yX1_had yX1_had ∈ gw := ⟨⟨in_X1, co_X1_had, ⟨by decide, by decide, by decide +kernel⟩, gw_of (tb_5 (List.mem_of_getElem? (i := 39) rfl)) rfl⟩, im_X1_had, se_X1_had⟩
theorem cw_X2_56 : CW "TwoWells$Lonely" 56 yX2_keepIfMore cX2_keepIfMore 2 none 1 ∧ Cond.instanceMethod yX2_keepIfMore ∈ gw ∧ Cond.selects yX2_keepIfMore.cls yX2_keepIfMore yX2_keepIfMore ∈ gw := ⟨⟨in_X2, co_X2_keepIfMore, ⟨by decide, by decide, by decide +kernel⟩, gw_of (tb_5 (List.mem_of_getElem? (i := 40) rfl)) rfl⟩, im_X2_keepIfMore, se_X2_keepIfMore⟩
theorem cw_X2_59 : CW "TwoWells$Lonely" 59 yX2_mostToCome cX2_mostToCome 7 (some .int) 2 ∧ Cond.instanceMethod yX2_mostToCome ∈ gw ∧ Cond.selects yX2_mostToCome.cls yX2_mostToCome yX2_mostToCome ∈ gw := ⟨⟨in_X2, co_X2_mostToCome, ⟨by decide, by decide, by decide +kernel⟩, gw_of (tb_5 (List.mem_of_getElem? (i := 45) rfl)) rfl⟩, im_X2_mostToCome, se_X2_mostToCome⟩
theorem cw_X2_63 : CW "TwoWells$Lonely" 63 yX2_seekPull cX2_seekPull 3 none 2 ∧ Cond.instanceMethod yX2_seekPull ∈ gw ∧ Cond.selects yX2_seekPull.cls yX2_seekPull yX2_seekPull ∈ gw := ⟨⟨in_X2, co_X2_seekPull, ⟨by decide, by decide, by decide +kernel⟩, gw_of (tb_5 (List.mem_of_getElem? (i := 50) rfl)) rfl⟩, im_X2_seekPull, se_X2_seekPull⟩
theorem cw_X2_70 : CW "TwoWells$Lonely" 70 yX1_hangsOpen cX1_hangsOpen 3 (some .boolean) 2 ∧ Cond.instanceMethod yX1_hangsOpen ∈ gw ∧ Cond.selects yX1_hangsOpen.cls yX1_hangsOpen yX1_hangsOpen ∈ gw := ⟨⟨in_X1, co_X1_hangsOpen, ⟨by decide, by decide, by decide +kernel⟩, gw_of (tb_5 (List.mem_of_getElem? (i := 56) rfl)) rfl⟩, im_X1_hangsOpen, se_X1_hangsOpen⟩
theorem cw_X2_74 : CW "TwoWells$Lonely" 74 yX2_pullMatters cX2_pullMatters 4 (some .boolean) 2 ∧ Cond.instanceMethod yX2_pullMatters ∈ gw ∧ Cond.selects yX2_pullMatters.cls yX2_pullMatters yX2_pullMatters ∈ gw := ⟨⟨in_X2, co_X2_pullMatters, ⟨by decide, by decide, by decide +kernel⟩, gw_of (tb_5 (List.mem_of_getElem? (i := 57) rfl)) rfl⟩, im_X2_pullMatters, se_X2_pullMatters⟩
theorem cw_X2_78 : CW "TwoWells$Lonely" 78 yX1_takeMoved cX1_takeMoved 2 none 1 ∧ Cond.instanceMethod yX1_takeMoved ∈ gw ∧ Cond.selects yX1_takeMoved.cls yX1_takeMoved yX1_takeMoved ∈ gw := ⟨⟨in_X1, co_X1_takeMoved, ⟨by decide, by decide, by decide +kernel⟩, gw_of (tb_5 (List.mem_of_getElem? (i := 54) rfl)) rfl⟩, im_X1_takeMoved, se_X1_takeMoved⟩
theorem cw_X2_81 : CW "TwoWells$Lonely" 81 yX1_goOn cX1_goOn 3 (some .int) 1 ∧ Cond.instanceMethod yX1_goOn ∈ gw ∧ Cond.selects yX1_goOn.cls yX1_goOn yX1_goOn ∈ gw := ⟨⟨in_X1, co_X1_goOn, ⟨by decide, by decide, by decide +kernel⟩, gw_of (tb_5 (List.mem_of_getElem? (i := 55) rfl)) rfl⟩, im_X1_goOn, se_X1_goOn⟩
theorem ml_X2_85 : Cond.methodLink "TwoWells$Lonely" 85 arraycopyName ∈ gw := gw_of (tb_5 (List.mem_of_getElem? (i := 44) rfl)) rfl
theorem cw_X2_94 : CW "TwoWells$Lonely" 94 yX1_depthBehind cX1_depthBehind 5 (some .int) 3 ∧ Cond.instanceMethod yX1_depthBehind ∈ gw ∧ Cond.selects yX1_depthBehind.cls yX1_depthBehind yX1_depthBehind ∈ gw := ⟨⟨in_X1, co_X1_depthBehind, ⟨by decide, by decide, by decide +kernel⟩, gw_of (tb_5 (List.mem_of_getElem? (i := 61) rfl)) rfl⟩, im_X1_depthBehind, se_X1_depthBehind⟩
theorem ml_X2_108 : Cond.methodLink "TwoWells$Lonely" 108 Lib.Math.min.name ∈ gw := gw_of (tb_5 (List.mem_of_getElem? (i := 49) rfl)) rfl
theorem ml_X3_3 : Cond.methodLink "TwoWells$NumberRow" 3 Lib.objectInit ∈ gw := gw_of (tb_2 (List.mem_of_getElem? (i := 91) rfl)) rfl
theorem ml_X3_19 : Cond.methodLink "TwoWells$NumberRow" 19 Lib.Math.min.name ∈ gw := gw_of (tb_5 (List.mem_of_getElem? (i := 145) rfl)) rfl
theorem ml_X3_25 : Cond.methodLink "TwoWells$NumberRow" 25 Lib.Math.max.name ∈ gw := gw_of (tb_5 (List.mem_of_getElem? (i := 146) rfl)) rfl
theorem cw_X3_31 : CW "TwoWells$NumberRow" 31 yJ7_fill_d0a16 cJ7_fill_d0a16 5 none 2 ∧ Cond.static yJ7_fill_d0a16 ∈ gw := ⟨⟨in_J7, co_J7_fill_d0a16, ⟨by decide, by decide, by decide +kernel⟩, gw_of (tb_5 (List.mem_of_getElem? (i := 147) rfl)) rfl⟩, st_J7_fill_d0a16⟩
theorem cw_X3_37 : CW "TwoWells$NumberRow" 37 yX3_cutToSort cX3_cutToSort 3 (some .long) 1 ∧ Cond.instanceMethod yX3_cutToSort ∈ gw ∧ Cond.selects yX3_cutToSort.cls yX3_cutToSort yX3_cutToSort ∈ gw := ⟨⟨in_X3, co_X3_cutToSort, ⟨by decide, by decide, by decide +kernel⟩, gw_of (tb_5 (List.mem_of_getElem? (i := 161) rfl)) rfl⟩, im_X3_cutToSort, se_X3_cutToSort⟩
theorem ml_X4_5 : Cond.methodLink "TwoWells$Search" 5 Lib.objectInit ∈ gw := gw_of (tb_4 (List.mem_of_getElem? (i := 121) rfl)) rfl
theorem cw_X4_13 : Cond.initialized yX6_init.cls ∈ gw ∧ Cond.code yX6_init cX6_init 1 none ∈ gw ∧ (yX6_init.cls ≠ "java/lang/invoke/MethodHandle" ∧ yX6_init.cls ≠ "java/lang/invoke/VarHandle" ∧ (parseMethodDescriptor yX6_init.desc).map (fun d => d.parameters.length) = some 0) ∧ ("TwoWells$Search", 13, yX6_init) ∈ nT ∧ Cond.instanceMethod yX6_init ∈ gw := ⟨in_X6, co_X6_init, ⟨by decide, by decide, by decide +kernel⟩, by decide +kernel, im_X6_init⟩
theorem cw_X4_44 : CW "TwoWells$Search" 44 yX4_prepare cX4_prepare 5 (some .boolean) 3 ∧ Cond.instanceMethod yX4_prepare ∈ gw ∧ Cond.selects yX4_prepare.cls yX4_prepare yX4_prepare ∈ gw := ⟨⟨in_X4, co_X4_prepare, ⟨by decide, by decide, by decide +kernel⟩, gw_of (tb_4 (List.mem_of_getElem? (i := 191) rfl)) rfl⟩, im_X4_prepare, se_X4_prepare⟩
theorem cw_X4_48 : CW "TwoWells$Search" 48 yX6_clear cX6_clear 1 none 0 ∧ Cond.instanceMethod yX6_clear ∈ gw ∧ Cond.selects yX6_clear.cls yX6_clear yX6_clear ∈ gw := ⟨⟨in_X6, co_X6_clear, ⟨by decide, by decide, by decide +kernel⟩, gw_of (tb_4 (List.mem_of_getElem? (i := 204) rfl)) rfl⟩, im_X6_clear, se_X6_clear⟩
theorem cw_X4_51 : CW "TwoWells$Search" 51 yX4_stateNow cX4_stateNow 5 (some .long) 0 ∧ Cond.instanceMethod yX4_stateNow ∈ gw ∧ Cond.selects yX4_stateNow.cls yX4_stateNow yX4_stateNow ∈ gw := ⟨⟨in_X4, co_X4_stateNow, ⟨by decide, by decide, by decide +kernel⟩, gw_of (tb_4 (List.mem_of_getElem? (i := 209) rfl)) rfl⟩, im_X4_stateNow, se_X4_stateNow⟩
theorem cw_X4_55 : CW "TwoWells$Search" 55 yX6_add cX6_add 7 none 2 ∧ Cond.instanceMethod yX6_add ∈ gw ∧ Cond.selects yX6_add.cls yX6_add yX6_add ∈ gw := ⟨⟨in_X6, co_X6_add, ⟨by decide, by decide, by decide +kernel⟩, gw_of (tb_4 (List.mem_of_getElem? (i := 213) rfl)) rfl⟩, im_X6_add, se_X6_add⟩
theorem cw_X4_70 : CW "TwoWells$Search" 70 yX4_spread cX4_spread 12 none 3 ∧ Cond.instanceMethod yX4_spread ∈ gw ∧ Cond.selects yX4_spread.cls yX4_spread yX4_spread ∈ gw := ⟨⟨in_X4, co_X4_spread, ⟨by decide, by decide, by decide +kernel⟩, gw_of (tb_4 (List.mem_of_getElem? (i := 223) rfl)) rfl⟩, im_X4_spread, se_X4_spread⟩
theorem cw_X4_74 : CW "TwoWells$Search" 74 yX6_overflows cX6_overflows 1 (some .boolean) 0 ∧ Cond.instanceMethod yX6_overflows ∈ gw ∧ Cond.selects yX6_overflows.cls yX6_overflows yX6_overflows ∈ gw := ⟨⟨in_X6, co_X6_overflows, ⟨by decide, by decide, by decide +kernel⟩, gw_of (tb_5 (List.mem_of_getElem? (i := 11) rfl)) rfl⟩, im_X6_overflows, se_X6_overflows⟩
theorem cw_X4_102 : CW "TwoWells$Search" 102 yX4_listChoices cX4_listChoices 2 none 0 ∧ Cond.instanceMethod yX4_listChoices ∈ gw ∧ Cond.selects yX4_listChoices.cls yX4_listChoices yX4_listChoices ∈ gw := ⟨⟨in_X4, co_X4_listChoices, ⟨by decide, by decide, by decide +kernel⟩, gw_of (tb_4 (List.mem_of_getElem? (i := 195) rfl)) rfl⟩, im_X4_listChoices, se_X4_listChoices⟩
theorem cw_X4_108 : CW "TwoWells$Search" 108 yX4_listFrom cX4_listFrom 6 none 3 ∧ Cond.instanceMethod yX4_listFrom ∈ gw ∧ Cond.selects yX4_listFrom.cls yX4_listFrom yX4_listFrom ∈ gw := ⟨⟨in_X4, co_X4_listFrom, ⟨by decide, by decide, by decide +kernel⟩, gw_of (tb_4 (List.mem_of_getElem? (i := 199) rfl)) rfl⟩, im_X4_listFrom, se_X4_listFrom⟩
theorem cw_X4_112 : CW "TwoWells$Search" 112 yJ6_bitCount_0f7a4 cJ6_bitCount_0f7a4 1 (some .int) 1 ∧ Cond.static yJ6_bitCount_0f7a4 ∈ gw := ⟨⟨in_J6, co_J6_bitCount_0f7a4, ⟨by decide, by decide, by decide +kernel⟩, gw_of (tb_4 (List.mem_of_getElem? (i := 203) rfl)) rfl⟩, st_J6_bitCount_0f7a4⟩
theorem cw_X4_128 : CW "TwoWells$Search" 128 yX4_lookAhead cX4_lookAhead 9 none 1 ∧ Cond.instanceMethod yX4_lookAhead ∈ gw ∧ Cond.selects yX4_lookAhead.cls yX4_lookAhead yX4_lookAhead ∈ gw := ⟨⟨in_X4, co_X4_lookAhead, ⟨by decide, by decide, by decide +kernel⟩, gw_of (tb_4 (List.mem_of_getElem? (i := 227) rfl)) rfl⟩, im_X4_lookAhead, se_X4_lookAhead⟩
theorem cw_X4_132 : CW "TwoWells$Search" 132 yX4_likeChoice cX4_likeChoice 4 (some .int) 1 ∧ Cond.instanceMethod yX4_likeChoice ∈ gw ∧ Cond.selects yX4_likeChoice.cls yX4_likeChoice yX4_likeChoice ∈ gw := ⟨⟨in_X4, co_X4_likeChoice, ⟨by decide, by decide, by decide +kernel⟩, gw_of (tb_5 (List.mem_of_getElem? (i := 2) rfl)) rfl⟩, im_X4_likeChoice, se_X4_likeChoice⟩
theorem cw_X4_135 : CW "TwoWells$Search" 135 yX4_behindHour cX4_behindHour 14 (some .long) 2 ∧ Cond.instanceMethod yX4_behindHour ∈ gw ∧ Cond.selects yX4_behindHour.cls yX4_behindHour yX4_behindHour ∈ gw := ⟨⟨in_X4, co_X4_behindHour, ⟨by decide, by decide, by decide +kernel⟩, gw_of (tb_5 (List.mem_of_getElem? (i := 6) rfl)) rfl⟩, im_X4_behindHour, se_X4_behindHour⟩
theorem cw_X4_139 : CW "TwoWells$Search" 139 yX4_weightIn cX4_weightIn 6 (some .int) 3 ∧ Cond.instanceMethod yX4_weightIn ∈ gw ∧ Cond.selects yX4_weightIn.cls yX4_weightIn yX4_weightIn ∈ gw := ⟨⟨in_X4, co_X4_weightIn, ⟨by decide, by decide, by decide +kernel⟩, gw_of (tb_4 (List.mem_of_getElem? (i := 231) rfl)) rfl⟩, im_X4_weightIn, se_X4_weightIn⟩
theorem cw_X4_143 : CW "TwoWells$Search" 143 yX1_pullLean cX1_pullLean 5 (some .int) 3 ∧ Cond.instanceMethod yX1_pullLean ∈ gw ∧ Cond.selects yX1_pullLean.cls yX1_pullLean yX1_pullLean ∈ gw := ⟨⟨in_X1, co_X1_pullLean, ⟨by decide, by decide, by decide +kernel⟩, gw_of (tb_4 (List.mem_of_getElem? (i := 236) rfl)) rfl⟩, im_X1_pullLean, se_X1_pullLean⟩
theorem cw_X4_147 : CW "TwoWells$Search" 147 yX1_depthFrom cX1_depthFrom 5 (some .int) 3 ∧ Cond.instanceMethod yX1_depthFrom ∈ gw ∧ Cond.selects yX1_depthFrom.cls yX1_depthFrom yX1_depthFrom ∈ gw := ⟨⟨in_X1, co_X1_depthFrom, ⟨by decide, by decide, by decide +kernel⟩, gw_of (tb_4 (List.mem_of_getElem? (i := 237) rfl)) rfl⟩, im_X1_depthFrom, se_X1_depthFrom⟩
theorem cw_X4_151 : CW "TwoWells$Search" 151 yX4_firstLike cX4_firstLike 5 (some .int) 2 ∧ Cond.instanceMethod yX4_firstLike ∈ gw ∧ Cond.selects yX4_firstLike.cls yX4_firstLike yX4_firstLike ∈ gw := ⟨⟨in_X4, co_X4_firstLike, ⟨by decide, by decide, by decide +kernel⟩, gw_of (tb_4 (List.mem_of_getElem? (i := 238) rfl)) rfl⟩, im_X4_firstLike, se_X4_firstLike⟩
theorem cw_X4_155 : CW "TwoWells$Search" 155 yX1_emptyWeight cX1_emptyWeight 2 (some .int) 1 ∧ Cond.instanceMethod yX1_emptyWeight ∈ gw ∧ Cond.selects yX1_emptyWeight.cls yX1_emptyWeight yX1_emptyWeight ∈ gw := ⟨⟨in_X1, co_X1_emptyWeight, ⟨by decide, by decide, by decide +kernel⟩, gw_of (tb_4 (List.mem_of_getElem? (i := 235) rfl)) rfl⟩, im_X1_emptyWeight, se_X1_emptyWeight⟩
theorem ml_X4_167 : Cond.methodLink "TwoWells$Search" 167 Lib.Math.min.name ∈ gw := gw_of (tb_5 (List.mem_of_getElem? (i := 10) rfl)) rfl
theorem ml_X5_3 : Cond.methodLink "TwoWells$Sight" 3 Lib.objectInit ∈ gw := gw_of (tb_2 (List.mem_of_getElem? (i := 71) rfl)) rfl
theorem cw_X5_31 : CW "TwoWells$Sight" 31 yJ7_fill_53178 cJ7_fill_53178 4 none 2 ∧ Cond.static yJ7_fill_53178 ∈ gw := ⟨⟨in_J7, co_J7_fill_53178, ⟨by decide, by decide, by decide +kernel⟩, gw_of (tb_5 (List.mem_of_getElem? (i := 116) rfl)) rfl⟩, st_J7_fill_53178⟩
theorem cw_X5_37 : CW "TwoWells$Sight" 37 yX5_compare cX5_compare 6 (some .boolean) 2 ∧ Cond.instanceMethod yX5_compare ∈ gw ∧ Cond.selects yX5_compare.cls yX5_compare yX5_compare ∈ gw := ⟨⟨in_X5, co_X5_compare, ⟨by decide, by decide, by decide +kernel⟩, gw_of (tb_5 (List.mem_of_getElem? (i := 117) rfl)) rfl⟩, im_X5_compare, se_X5_compare⟩
theorem cw_X5_41 : CW "TwoWells$Sight" 41 yX5_choose cX5_choose 5 none 3 ∧ Cond.instanceMethod yX5_choose ∈ gw ∧ Cond.selects yX5_choose.cls yX5_choose yX5_choose ∈ gw := ⟨⟨in_X5, co_X5_choose, ⟨by decide, by decide, by decide +kernel⟩, gw_of (tb_5 (List.mem_of_getElem? (i := 123) rfl)) rfl⟩, im_X5_choose, se_X5_choose⟩
theorem cw_X5_54 : CW "TwoWells$Sight" 54 yX3_get cX3_get 2 (some .long) 1 ∧ Cond.instanceMethod yX3_get ∈ gw ∧ Cond.selects yX3_get.cls yX3_get yX3_get ∈ gw := ⟨⟨in_X3, co_X3_get, ⟨by decide, by decide, by decide +kernel⟩, gw_of (tb_5 (List.mem_of_getElem? (i := 121) rfl)) rfl⟩, im_X3_get, se_X3_get⟩
theorem cw_X5_60 : CW "TwoWells$Sight" 60 yX1_depthBehind cX1_depthBehind 5 (some .int) 3 ∧ Cond.instanceMethod yX1_depthBehind ∈ gw ∧ Cond.selects yX1_depthBehind.cls yX1_depthBehind yX1_depthBehind ∈ gw := ⟨⟨in_X1, co_X1_depthBehind, ⟨by decide, by decide, by decide +kernel⟩, gw_of (tb_5 (List.mem_of_getElem? (i := 122) rfl)) rfl⟩, im_X1_depthBehind, se_X1_depthBehind⟩
theorem cw_X5_64 : CW "TwoWells$Sight" 64 yX5_fitsUpTo cX5_fitsUpTo 7 (some .boolean) 2 ∧ Cond.instanceMethod yX5_fitsUpTo ∈ gw ∧ Cond.selects yX5_fitsUpTo.cls yX5_fitsUpTo yX5_fitsUpTo ∈ gw := ⟨⟨in_X5, co_X5_fitsUpTo, ⟨by decide, by decide, by decide +kernel⟩, gw_of (tb_5 (List.mem_of_getElem? (i := 127) rfl)) rfl⟩, im_X5_fitsUpTo, se_X5_fitsUpTo⟩
theorem cw_X5_68 : CW "TwoWells$Sight" 68 yX1_hangsOpen cX1_hangsOpen 3 (some .boolean) 2 ∧ Cond.instanceMethod yX1_hangsOpen ∈ gw ∧ Cond.selects yX1_hangsOpen.cls yX1_hangsOpen yX1_hangsOpen ∈ gw := ⟨⟨in_X1, co_X1_hangsOpen, ⟨by decide, by decide, by decide +kernel⟩, gw_of (tb_5 (List.mem_of_getElem? (i := 132) rfl)) rfl⟩, im_X1_hangsOpen, se_X1_hangsOpen⟩
theorem ml_X5_75 : Cond.methodLink "TwoWells$Sight" 75 Lib.Math.max.name ∈ gw := gw_of (tb_5 (List.mem_of_getElem? (i := 131) rfl)) rfl
theorem ml_X6_5 : Cond.methodLink "TwoWells$StateSet" 5 Lib.objectInit ∈ gw := gw_of (tb_4 (List.mem_of_getElem? (i := 127) rfl)) rfl
theorem cw_X6_26 : CW "TwoWells$StateSet" 26 yJ7_fill_53178 cJ7_fill_53178 4 none 2 ∧ Cond.static yJ7_fill_53178 ∈ gw := ⟨⟨in_J7, co_J7_fill_53178, ⟨by decide, by decide, by decide +kernel⟩, gw_of (tb_4 (List.mem_of_getElem? (i := 208) rfl)) rfl⟩, st_J7_fill_53178⟩
theorem ml_X6_34 : Cond.methodLink "TwoWells$StateSet" 34 Lib.Math.min.name ∈ gw := gw_of (tb_4 (List.mem_of_getElem? (i := 218) rfl)) rfl
theorem cw_X6_40 : CW "TwoWells$StateSet" 40 yX6_overflows cX6_overflows 1 (some .boolean) 0 ∧ Cond.instanceMethod yX6_overflows ∈ gw ∧ Cond.selects yX6_overflows.cls yX6_overflows yX6_overflows ∈ gw := ⟨⟨in_X6, co_X6_overflows, ⟨by decide, by decide, by decide +kernel⟩, gw_of (tb_4 (List.mem_of_getElem? (i := 219) rfl)) rfl⟩, im_X6_overflows, se_X6_overflows⟩
theorem ml_X7_3 : Cond.methodLink "TwoWells$Tally" 3 Lib.objectInit ∈ gw := gw_of (tb_1 (List.mem_of_getElem? (i := 199) rfl)) rfl
theorem cw_X7_34 : CW "TwoWells$Tally" 34 yX7_clearPulls cX7_clearPulls 1 none 0 ∧ Cond.instanceMethod yX7_clearPulls ∈ gw ∧ Cond.selects yX7_clearPulls.cls yX7_clearPulls yX7_clearPulls ∈ gw := ⟨⟨in_X7, co_X7_clearPulls, ⟨by decide, by decide, by decide +kernel⟩, gw_of (tb_3 (List.mem_of_getElem? (i := 125) rfl)) rfl⟩, im_X7_clearPulls, se_X7_clearPulls⟩
theorem cw_X7_37 : CW "TwoWells$Tally" 37 yJ7_fill_53178 cJ7_fill_53178 4 none 2 ∧ Cond.static yJ7_fill_53178 ∈ gw := ⟨⟨in_J7, co_J7_fill_53178, ⟨by decide, by decide, by decide +kernel⟩, gw_of (tb_3 (List.mem_of_getElem? (i := 129) rfl)) rfl⟩, st_J7_fill_53178⟩
theorem cw_X7_46 : CW "TwoWells$Tally" 46 yX7_begin cX7_begin 1 none 0 ∧ Cond.instanceMethod yX7_begin ∈ gw ∧ Cond.selects yX7_begin.cls yX7_begin yX7_begin ∈ gw := ⟨⟨in_X7, co_X7_begin, ⟨by decide, by decide, by decide +kernel⟩, gw_of (tb_3 (List.mem_of_getElem? (i := 121) rfl)) rfl⟩, im_X7_begin, se_X7_begin⟩
theorem cw_X7_49 : CW "TwoWells$Tally" 49 yX1_hasHouse cX1_hasHouse 2 (some .boolean) 1 ∧ Cond.instanceMethod yX1_hasHouse ∈ gw ∧ Cond.selects yX1_hasHouse.cls yX1_hasHouse yX1_hasHouse ∈ gw := ⟨⟨in_X1, co_X1_hasHouse, ⟨by decide, by decide, by decide +kernel⟩, gw_of (tb_3 (List.mem_of_getElem? (i := 132) rfl)) rfl⟩, im_X1_hasHouse, se_X1_hasHouse⟩
theorem cw_X7_55 : CW "TwoWells$Tally" 55 yX7_addPull cX7_addPull 3 none 2 ∧ Cond.instanceMethod yX7_addPull ∈ gw ∧ Cond.selects yX7_addPull.cls yX7_addPull yX7_addPull ∈ gw := ⟨⟨in_X7, co_X7_addPull, ⟨by decide, by decide, by decide +kernel⟩, gw_of (tb_3 (List.mem_of_getElem? (i := 133) rfl)) rfl⟩, im_X7_addPull, se_X7_addPull⟩
theorem cw_X7_59 : CW "TwoWells$Tally" 59 yX7_endHour cX7_endHour 2 none 1 ∧ Cond.instanceMethod yX7_endHour ∈ gw ∧ Cond.selects yX7_endHour.cls yX7_endHour yX7_endHour ∈ gw := ⟨⟨in_X7, co_X7_endHour, ⟨by decide, by decide, by decide +kernel⟩, gw_of (tb_3 (List.mem_of_getElem? (i := 137) rfl)) rfl⟩, im_X7_endHour, se_X7_endHour⟩
theorem cw_X7_63 : CW "TwoWells$Tally" 63 yX1_goOn cX1_goOn 3 (some .int) 1 ∧ Cond.instanceMethod yX1_goOn ∈ gw ∧ Cond.selects yX1_goOn.cls yX1_goOn yX1_goOn ∈ gw := ⟨⟨in_X1, co_X1_goOn, ⟨by decide, by decide, by decide +kernel⟩, gw_of (tb_3 (List.mem_of_getElem? (i := 141) rfl)) rfl⟩, im_X1_goOn, se_X1_goOn⟩
theorem cw_X7_72 : CW "TwoWells$Tally" 72 yX3_get cX3_get 2 (some .long) 1 ∧ Cond.instanceMethod yX3_get ∈ gw ∧ Cond.selects yX3_get.cls yX3_get yX3_get ∈ gw := ⟨⟨in_X3, co_X3_get, ⟨by decide, by decide, by decide +kernel⟩, gw_of (tb_3 (List.mem_of_getElem? (i := 198) rfl)) rfl⟩, im_X3_get, se_X3_get⟩
theorem cw_X7_78 : CW "TwoWells$Tally" 78 yX7_tellHourEnd cX7_tellHourEnd 2 (some .int) 1 ∧ Cond.instanceMethod yX7_tellHourEnd ∈ gw ∧ Cond.selects yX7_tellHourEnd.cls yX7_tellHourEnd yX7_tellHourEnd ∈ gw := ⟨⟨in_X7, co_X7_tellHourEnd, ⟨by decide, by decide, by decide +kernel⟩, gw_of (tb_3 (List.mem_of_getElem? (i := 203) rfl)) rfl⟩, im_X7_tellHourEnd, se_X7_tellHourEnd⟩
theorem cw_X7_82 : CW "TwoWells$Tally" 82 yX7_tellPull cX7_tellPull 6 (some .int) 2 ∧ Cond.instanceMethod yX7_tellPull ∈ gw ∧ Cond.selects yX7_tellPull.cls yX7_tellPull yX7_tellPull ∈ gw := ⟨⟨in_X7, co_X7_tellPull, ⟨by decide, by decide, by decide +kernel⟩, gw_of (tb_3 (List.mem_of_getElem? (i := 207) rfl)) rfl⟩, im_X7_tellPull, se_X7_tellPull⟩
theorem cw_X7_91 : CW "TwoWells$Tally" 91 yX1_hangsOpen cX1_hangsOpen 3 (some .boolean) 2 ∧ Cond.instanceMethod yX1_hangsOpen ∈ gw ∧ Cond.selects yX1_hangsOpen.cls yX1_hangsOpen yX1_hangsOpen ∈ gw := ⟨⟨in_X1, co_X1_hangsOpen, ⟨by decide, by decide, by decide +kernel⟩, gw_of (tb_3 (List.mem_of_getElem? (i := 212) rfl)) rfl⟩, im_X1_hangsOpen, se_X1_hangsOpen⟩
theorem cw_X7_98 : CW "TwoWells$Tally" 98 yX1_thirstsNow cX1_thirstsNow 2 (some .boolean) 1 ∧ Cond.instanceMethod yX1_thirstsNow ∈ gw ∧ Cond.selects yX1_thirstsNow.cls yX1_thirstsNow yX1_thirstsNow ∈ gw := ⟨⟨in_X1, co_X1_thirstsNow, ⟨by decide, by decide, by decide +kernel⟩, gw_of (tb_3 (List.mem_of_getElem? (i := 232) rfl)) rfl⟩, im_X1_thirstsNow, se_X1_thirstsNow⟩
theorem cw_X7_101 : CW "TwoWells$Tally" 101 yX7_firstToLift cX7_firstToLift 4 (some .int) 2 ∧ Cond.static yX7_firstToLift ∈ gw := ⟨⟨in_X7, co_X7_firstToLift, ⟨by decide, by decide, by decide +kernel⟩, gw_of (tb_3 (List.mem_of_getElem? (i := 233) rfl)) rfl⟩, st_X7_firstToLift⟩
theorem cw_X7_105 : CW "TwoWells$Tally" 105 yX7_countBoth cX7_countBoth 3 none 1 ∧ Cond.instanceMethod yX7_countBoth ∈ gw ∧ Cond.selects yX7_countBoth.cls yX7_countBoth yX7_countBoth ∈ gw := ⟨⟨in_X7, co_X7_countBoth, ⟨by decide, by decide, by decide +kernel⟩, gw_of (tb_3 (List.mem_of_getElem? (i := 237) rfl)) rfl⟩, im_X7_countBoth, se_X7_countBoth⟩
theorem cw_X7_114 : CW "TwoWells$Tally" 114 yX1_depthOf cX1_depthOf 3 (some .int) 1 ∧ Cond.instanceMethod yX1_depthOf ∈ gw ∧ Cond.selects yX1_depthOf.cls yX1_depthOf yX1_depthOf ∈ gw := ⟨⟨in_X1, co_X1_depthOf, ⟨by decide, by decide, by decide +kernel⟩, gw_of (tb_3 (List.mem_of_getElem? (i := 236) rfl)) rfl⟩, im_X1_depthOf, se_X1_depthOf⟩
theorem cw_X7_119 : CW "TwoWells$Tally" 119 yX1_openCount cX1_openCount 4 (some .int) 1 ∧ Cond.instanceMethod yX1_openCount ∈ gw ∧ Cond.selects yX1_openCount.cls yX1_openCount yX1_openCount ∈ gw := ⟨⟨in_X1, co_X1_openCount, ⟨by decide, by decide, by decide +kernel⟩, gw_of (tb_4 (List.mem_of_getElem? (i := 18) rfl)) rfl⟩, im_X1_openCount, se_X1_openCount⟩
theorem cw_X7_122 : CW "TwoWells$Tally" 122 yX1_openRope cX1_openRope 5 (some .int) 2 ∧ Cond.instanceMethod yX1_openRope ∈ gw ∧ Cond.selects yX1_openRope.cls yX1_openRope yX1_openRope ∈ gw := ⟨⟨in_X1, co_X1_openRope, ⟨by decide, by decide, by decide +kernel⟩, gw_of (tb_4 (List.mem_of_getElem? (i := 23) rfl)) rfl⟩, im_X1_openRope, se_X1_openRope⟩
theorem ml_X8_3 : Cond.methodLink "TwoWells$Tape" 3 Lib.objectInit ∈ gw := gw_of (tb_1 (List.mem_of_getElem? (i := 34) rfl)) rfl
theorem ml_X8_25 : Cond.methodLink "TwoWells$Tape" 25 Lib.Math.min.name ∈ gw := gw_of (tb_2 (List.mem_of_getElem? (i := 158) rfl)) rfl
theorem cw_X8_37 : CW "TwoWells$Tape" 37 yX1_begin cX1_begin 1 none 0 ∧ Cond.instanceMethod yX1_begin ∈ gw ∧ Cond.selects yX1_begin.cls yX1_begin yX1_begin ∈ gw := ⟨⟨in_X1, co_X1_begin, ⟨by decide, by decide, by decide +kernel⟩, gw_of (tb_2 (List.mem_of_getElem? (i := 161) rfl)) rfl⟩, im_X1_begin, se_X1_begin⟩
theorem cw_X8_42 : CW "TwoWells$Tape" 42 yX8_advance cX8_advance 1 none 0 ∧ Cond.instanceMethod yX8_advance ∈ gw ∧ Cond.selects yX8_advance.cls yX8_advance yX8_advance ∈ gw := ⟨⟨in_X8, co_X8_advance, ⟨by decide, by decide, by decide +kernel⟩, gw_of (tb_2 (List.mem_of_getElem? (i := 165) rfl)) rfl⟩, im_X8_advance, se_X8_advance⟩
theorem cw_X8_48 : CW "TwoWells$Tape" 48 yX8_readLine cX8_readLine 2 none 1 ∧ Cond.instanceMethod yX8_readLine ∈ gw ∧ Cond.selects yX8_readLine.cls yX8_readLine yX8_readLine ∈ gw := ⟨⟨in_X8, co_X8_readLine, ⟨by decide, by decide, by decide +kernel⟩, gw_of (tb_2 (List.mem_of_getElem? (i := 190) rfl)) rfl⟩, im_X8_readLine, se_X8_readLine⟩
theorem cw_X8_54 : CW "TwoWells$Tape" 54 yX8_isWord cX8_isWord 3 (some .boolean) 1 ∧ Cond.instanceMethod yX8_isWord ∈ gw ∧ Cond.selects yX8_isWord.cls yX8_isWord yX8_isWord ∈ gw := ⟨⟨in_X8, co_X8_isWord, ⟨by decide, by decide, by decide +kernel⟩, gw_of (tb_2 (List.mem_of_getElem? (i := 195) rfl)) rfl⟩, im_X8_isWord, se_X8_isWord⟩
theorem cw_X8_58 : CW "TwoWells$Tape" 58 yX8_readHouse cX8_readHouse 3 none 1 ∧ Cond.instanceMethod yX8_readHouse ∈ gw ∧ Cond.selects yX8_readHouse.cls yX8_readHouse yX8_readHouse ∈ gw := ⟨⟨in_X8, co_X8_readHouse, ⟨by decide, by decide, by decide +kernel⟩, gw_of (tb_3 (List.mem_of_getElem? (i := 7) rfl)) rfl⟩, im_X8_readHouse, se_X8_readHouse⟩
theorem cw_X8_63 : CW "TwoWells$Tape" 63 yX8_readRope cX8_readRope 6 none 1 ∧ Cond.instanceMethod yX8_readRope ∈ gw ∧ Cond.selects yX8_readRope.cls yX8_readRope yX8_readRope ∈ gw := ⟨⟨in_X8, co_X8_readRope, ⟨by decide, by decide, by decide +kernel⟩, gw_of (tb_3 (List.mem_of_getElem? (i := 35) rfl)) rfl⟩, im_X8_readRope, se_X8_readRope⟩
theorem cw_X8_68 : CW "TwoWells$Tape" 68 yX8_takeNumber cX8_takeNumber 4 (some .int) 2 ∧ Cond.instanceMethod yX8_takeNumber ∈ gw ∧ Cond.selects yX8_takeNumber.cls yX8_takeNumber yX8_takeNumber ∈ gw := ⟨⟨in_X8, co_X8_takeNumber, ⟨by decide, by decide, by decide +kernel⟩, gw_of (tb_3 (List.mem_of_getElem? (i := 15) rfl)) rfl⟩, im_X8_takeNumber, se_X8_takeNumber⟩
theorem cw_X8_78 : CW "TwoWells$Tape" 78 yX8_tellWrongToken cX8_tellWrongToken 1 none 0 ∧ Cond.instanceMethod yX8_tellWrongToken ∈ gw ∧ Cond.selects yX8_tellWrongToken.cls yX8_tellWrongToken yX8_tellWrongToken ∈ gw := ⟨⟨in_X8, co_X8_tellWrongToken, ⟨by decide, by decide, by decide +kernel⟩, gw_of (tb_3 (List.mem_of_getElem? (i := 19) rfl)) rfl⟩, im_X8_tellWrongToken, se_X8_tellWrongToken⟩
theorem cw_X8_81 : CW "TwoWells$Tape" 81 yX8_takeSemicolon cX8_takeSemicolon 1 none 0 ∧ Cond.instanceMethod yX8_takeSemicolon ∈ gw ∧ Cond.selects yX8_takeSemicolon.cls yX8_takeSemicolon yX8_takeSemicolon ∈ gw := ⟨⟨in_X8, co_X8_takeSemicolon, ⟨by decide, by decide, by decide +kernel⟩, gw_of (tb_3 (List.mem_of_getElem? (i := 52) rfl)) rfl⟩, im_X8_takeSemicolon, se_X8_takeSemicolon⟩
theorem cw_X8_90 : CW "TwoWells$Tape" 90 yX8_tellFault cX8_tellFault 2 none 1 ∧ Cond.instanceMethod yX8_tellFault ∈ gw ∧ Cond.selects yX8_tellFault.cls yX8_tellFault yX8_tellFault ∈ gw := ⟨⟨in_X8, co_X8_tellFault, ⟨by decide, by decide, by decide +kernel⟩, gw_of (tb_3 (List.mem_of_getElem? (i := 11) rfl)) rfl⟩, im_X8_tellFault, se_X8_tellFault⟩
theorem cw_X8_94 : CW "TwoWells$Tape" 94 yX1_addHouse cX1_addHouse 2 none 1 ∧ Cond.instanceMethod yX1_addHouse ∈ gw ∧ Cond.selects yX1_addHouse.cls yX1_addHouse yX1_addHouse ∈ gw := ⟨⟨in_X1, co_X1_addHouse, ⟨by decide, by decide, by decide +kernel⟩, gw_of (tb_3 (List.mem_of_getElem? (i := 23) rfl)) rfl⟩, im_X1_addHouse, se_X1_addHouse⟩
theorem cw_X8_99 : CW "TwoWells$Tape" 99 yX8_takeWord cX8_takeWord 2 (some .boolean) 1 ∧ Cond.instanceMethod yX8_takeWord ∈ gw ∧ Cond.selects yX8_takeWord.cls yX8_takeWord yX8_takeWord ∈ gw := ⟨⟨in_X8, co_X8_takeWord, ⟨by decide, by decide, by decide +kernel⟩, gw_of (tb_3 (List.mem_of_getElem? (i := 28) rfl)) rfl⟩, im_X8_takeWord, se_X8_takeWord⟩
theorem cw_X8_121 : CW "TwoWells$Tape" 121 yX1_addRope cX1_addRope 4 none 3 ∧ Cond.instanceMethod yX1_addRope ∈ gw ∧ Cond.selects yX1_addRope.cls yX1_addRope yX1_addRope ∈ gw := ⟨⟨in_X1, co_X1_addRope, ⟨by decide, by decide, by decide +kernel⟩, gw_of (tb_3 (List.mem_of_getElem? (i := 40) rfl)) rfl⟩, im_X1_addRope, se_X1_addRope⟩
theorem cw_X8_138 : CW "TwoWells$Tape" 138 yJ0_length_8abf5 cJ0_length_8abf5 1 (some .int) 0 ∧ Cond.instanceMethod yJ0_length_8abf5 ∈ gw ∧ Cond.selects yJ0_length_8abf5.cls yJ0_length_8abf5 yJ0_length_8abf5 ∈ gw := ⟨⟨in_J0, co_J0_length_8abf5, ⟨by decide, by decide, by decide +kernel⟩, gw_of (tb_2 (List.mem_of_getElem? (i := 199) rfl)) rfl⟩, im_J0_length_8abf5, se_J0_length_8abf5⟩
theorem cw_X8_144 : CW "TwoWells$Tape" 144 yX8_byteAt cX8_byteAt 2 (some .int) 1 ∧ Cond.instanceMethod yX8_byteAt ∈ gw ∧ Cond.selects yX8_byteAt.cls yX8_byteAt yX8_byteAt ∈ gw := ⟨⟨in_X8, co_X8_byteAt, ⟨by decide, by decide, by decide +kernel⟩, gw_of (tb_2 (List.mem_of_getElem? (i := 169) rfl)) rfl⟩, im_X8_byteAt, se_X8_byteAt⟩
theorem cw_X8_148 : CW "TwoWells$Tape" 148 yJ0_charAt_5068e cJ0_charAt_5068e 2 (some .char) 1 ∧ Cond.instanceMethod yJ0_charAt_5068e ∈ gw ∧ Cond.selects yJ0_charAt_5068e.cls yJ0_charAt_5068e yJ0_charAt_5068e ∈ gw := ⟨⟨in_J0, co_J0_charAt_5068e, ⟨by decide, by decide, by decide +kernel⟩, gw_of (tb_2 (List.mem_of_getElem? (i := 209) rfl)) rfl⟩, im_J0_charAt_5068e, se_J0_charAt_5068e⟩
theorem cw_X8_152 : CW "TwoWells$Tape" 152 yX8_isBlank cX8_isBlank 1 (some .boolean) 1 ∧ Cond.static yX8_isBlank ∈ gw := ⟨⟨in_X8, co_X8_isBlank, ⟨by decide, by decide, by decide +kernel⟩, gw_of (tb_2 (List.mem_of_getElem? (i := 173) rfl)) rfl⟩, st_X8_isBlank⟩
theorem cw_X8_156 : CW "TwoWells$Tape" 156 yX8_isLetter cX8_isLetter 1 (some .boolean) 1 ∧ Cond.static yX8_isLetter ∈ gw := ⟨⟨in_X8, co_X8_isLetter, ⟨by decide, by decide, by decide +kernel⟩, gw_of (tb_2 (List.mem_of_getElem? (i := 176) rfl)) rfl⟩, st_X8_isLetter⟩
theorem cw_X8_159 : CW "TwoWells$Tape" 159 yX8_takeLetters cX8_takeLetters 1 none 0 ∧ Cond.instanceMethod yX8_takeLetters ∈ gw ∧ Cond.selects yX8_takeLetters.cls yX8_takeLetters yX8_takeLetters ∈ gw := ⟨⟨in_X8, co_X8_takeLetters, ⟨by decide, by decide, by decide +kernel⟩, gw_of (tb_2 (List.mem_of_getElem? (i := 179) rfl)) rfl⟩, im_X8_takeLetters, se_X8_takeLetters⟩
theorem cw_X8_162 : CW "TwoWells$Tape" 162 yX8_isDigit cX8_isDigit 1 (some .boolean) 1 ∧ Cond.static yX8_isDigit ∈ gw := ⟨⟨in_X8, co_X8_isDigit, ⟨by decide, by decide, by decide +kernel⟩, gw_of (tb_2 (List.mem_of_getElem? (i := 183) rfl)) rfl⟩, st_X8_isDigit⟩
theorem cw_X8_165 : CW "TwoWells$Tape" 165 yX8_takeDigits cX8_takeDigits 1 none 0 ∧ Cond.instanceMethod yX8_takeDigits ∈ gw ∧ Cond.selects yX8_takeDigits.cls yX8_takeDigits yX8_takeDigits ∈ gw := ⟨⟨in_X8, co_X8_takeDigits, ⟨by decide, by decide, by decide +kernel⟩, gw_of (tb_2 (List.mem_of_getElem? (i := 186) rfl)) rfl⟩, im_X8_takeDigits, se_X8_takeDigits⟩
theorem ml_X9_3 : Cond.methodLink "TwoWells$Ties" 3 Lib.objectInit ∈ gw := gw_of (tb_1 (List.mem_of_getElem? (i := 236) rfl)) rfl
theorem cw_X9_22 : CW "TwoWells$Ties" 22 yJ7_fill_53178 cJ7_fill_53178 4 none 2 ∧ Cond.static yJ7_fill_53178 ∈ gw := ⟨⟨in_J7, co_J7_fill_53178, ⟨by decide, by decide, by decide +kernel⟩, gw_of (tb_4 (List.mem_of_getElem? (i := 65) rfl)) rfl⟩, st_J7_fill_53178⟩
theorem cw_X9_38 : CW "TwoWells$Ties" 38 yX9_nearAny cX9_nearAny 4 (some .int) 1 ∧ Cond.instanceMethod yX9_nearAny ∈ gw ∧ Cond.selects yX9_nearAny.cls yX9_nearAny yX9_nearAny ∈ gw := ⟨⟨in_X9, co_X9_nearAny, ⟨by decide, by decide, by decide +kernel⟩, gw_of (tb_4 (List.mem_of_getElem? (i := 76) rfl)) rfl⟩, im_X9_nearAny, se_X9_nearAny⟩
theorem cw_X9_42 : CW "TwoWells$Ties" 42 yJ6_bitCount_0f7a4 cJ6_bitCount_0f7a4 1 (some .int) 1 ∧ Cond.static yJ6_bitCount_0f7a4 ∈ gw := ⟨⟨in_J6, co_J6_bitCount_0f7a4, ⟨by decide, by decide, by decide +kernel⟩, gw_of (tb_4 (List.mem_of_getElem? (i := 70) rfl)) rfl⟩, st_J6_bitCount_0f7a4⟩
theorem ml_X11_7 : Cond.methodLink "TwoWellsModel" 7 Lib.objectInit ∈ gw := gw_of (tb_5 (List.mem_of_getElem? (i := 194) rfl)) rfl
theorem cw_X11_82 : CW "TwoWellsModel" 82 yX11_plain cX11_plain 2 none 1 ∧ Cond.static yX11_plain ∈ gw := ⟨⟨in_X11, co_X11_plain, ⟨by decide, by decide, by decide +kernel⟩, gw_of (tb_5 (List.mem_of_getElem? (i := 195) rfl)) rfl⟩, st_X11_plain⟩
theorem cw_X11_94 : CW "TwoWellsModel" 94 yJ0_length_8abf5 cJ0_length_8abf5 1 (some .int) 0 ∧ Cond.instanceMethod yJ0_length_8abf5 ∈ gw ∧ Cond.selects yJ0_length_8abf5.cls yJ0_length_8abf5 yJ0_length_8abf5 ∈ gw := ⟨⟨in_J0, co_J0_length_8abf5, ⟨by decide, by decide, by decide +kernel⟩, gw_of (tb_6 (List.mem_of_getElem? (i := 118) rfl)) rfl⟩, im_J0_length_8abf5, se_J0_length_8abf5⟩
theorem cw_X11_100 : CW "TwoWellsModel" 100 yJ0_charAt_5068e cJ0_charAt_5068e 2 (some .char) 1 ∧ Cond.instanceMethod yJ0_charAt_5068e ∈ gw ∧ Cond.selects yJ0_charAt_5068e.cls yJ0_charAt_5068e yJ0_charAt_5068e ∈ gw := ⟨⟨in_J0, co_J0_charAt_5068e, ⟨by decide, by decide, by decide +kernel⟩, gw_of (tb_6 (List.mem_of_getElem? (i := 119) rfl)) rfl⟩, im_J0_charAt_5068e, se_J0_charAt_5068e⟩
theorem cw_X11_110 : CW "TwoWellsModel" 110 yX11_see cX11_see 2 (some .int) 1 ∧ Cond.instanceMethod yX11_see ∈ gw ∧ Cond.selects yX11_see.cls yX11_see yX11_see ∈ gw := ⟨⟨in_X11, co_X11_see, ⟨by decide, by decide, by decide +kernel⟩, gw_of (tb_6 (List.mem_of_getElem? (i := 106) rfl)) rfl⟩, im_X11_see, se_X11_see⟩
theorem cw_X11_117 : CW "TwoWellsModel" 117 yX11_isSmall cX11_isSmall 1 (some .boolean) 1 ∧ Cond.static yX11_isSmall ∈ gw := ⟨⟨in_X11, co_X11_isSmall, ⟨by decide, by decide, by decide +kernel⟩, gw_of (tb_6 (List.mem_of_getElem? (i := 110) rfl)) rfl⟩, st_X11_isSmall⟩
theorem cw_X11_121 : CW "TwoWellsModel" 121 yX11_keyAt cX11_keyAt 4 (some .int) 0 ∧ Cond.instanceMethod yX11_keyAt ∈ gw ∧ Cond.selects yX11_keyAt.cls yX11_keyAt yX11_keyAt ∈ gw := ⟨⟨in_X11, co_X11_keyAt, ⟨by decide, by decide, by decide +kernel⟩, gw_of (tb_6 (List.mem_of_getElem? (i := 113) rfl)) rfl⟩, im_X11_keyAt, se_X11_keyAt⟩
theorem cw_X11_124 : CW "TwoWellsModel" 124 yX11_isDigit cX11_isDigit 1 (some .boolean) 1 ∧ Cond.static yX11_isDigit ∈ gw := ⟨⟨in_X11, co_X11_isDigit, ⟨by decide, by decide, by decide +kernel⟩, gw_of (tb_6 (List.mem_of_getElem? (i := 120) rfl)) rfl⟩, st_X11_isDigit⟩
theorem cw_X11_136 : CW "TwoWellsModel" 136 yX11_is cX11_is 2 (some .boolean) 1 ∧ Cond.instanceMethod yX11_is ∈ gw ∧ Cond.selects yX11_is.cls yX11_is yX11_is ∈ gw := ⟨⟨in_X11, co_X11_is, ⟨by decide, by decide, by decide +kernel⟩, gw_of (tb_6 (List.mem_of_getElem? (i := 123) rfl)) rfl⟩, im_X11_is, se_X11_is⟩
theorem cw_X11_139 : CW "TwoWellsModel" 139 yX11_next cX11_next 1 none 0 ∧ Cond.instanceMethod yX11_next ∈ gw ∧ Cond.selects yX11_next.cls yX11_next yX11_next ∈ gw := ⟨⟨in_X11, co_X11_next, ⟨by decide, by decide, by decide +kernel⟩, gw_of (tb_6 (List.mem_of_getElem? (i := 102) rfl)) rfl⟩, im_X11_next, se_X11_next⟩
theorem cw_X11_142 : CW "TwoWellsModel" 142 yX11_fails cX11_fails 2 none 1 ∧ Cond.instanceMethod yX11_fails ∈ gw ∧ Cond.selects yX11_fails.cls yX11_fails yX11_fails ∈ gw := ⟨⟨in_X11, co_X11_fails, ⟨by decide, by decide, by decide +kernel⟩, gw_of (tb_6 (List.mem_of_getElem? (i := 131) rfl)) rfl⟩, im_X11_fails, se_X11_fails⟩
theorem cw_X11_146 : CW "TwoWellsModel" 146 yX11_within cX11_within 6 (some .boolean) 3 ∧ Cond.static yX11_within ∈ gw := ⟨⟨in_X11, co_X11_within, ⟨by decide, by decide, by decide +kernel⟩, gw_of (tb_6 (List.mem_of_getElem? (i := 99) rfl)) rfl⟩, st_X11_within⟩
theorem cw_X11_150 : CW "TwoWellsModel" 150 yX11_takes cX11_takes 4 (some .int) 2 ∧ Cond.instanceMethod yX11_takes ∈ gw ∧ Cond.selects yX11_takes.cls yX11_takes yX11_takes ∈ gw := ⟨⟨in_X11, co_X11_takes, ⟨by decide, by decide, by decide +kernel⟩, gw_of (tb_6 (List.mem_of_getElem? (i := 135) rfl)) rfl⟩, im_X11_takes, se_X11_takes⟩
theorem cw_X11_154 : CW "TwoWellsModel" 154 yX11_eats cX11_eats 2 (some .boolean) 1 ∧ Cond.instanceMethod yX11_eats ∈ gw ∧ Cond.selects yX11_eats.cls yX11_eats yX11_eats ∈ gw := ⟨⟨in_X11, co_X11_eats, ⟨by decide, by decide, by decide +kernel⟩, gw_of (tb_6 (List.mem_of_getElem? (i := 139) rfl)) rfl⟩, im_X11_eats, se_X11_eats⟩
theorem cw_X11_157 : CW "TwoWellsModel" 157 yX11_readHouse cX11_readHouse 6 none 0 ∧ Cond.instanceMethod yX11_readHouse ∈ gw ∧ Cond.selects yX11_readHouse.cls yX11_readHouse yX11_readHouse ∈ gw := ⟨⟨in_X11, co_X11_readHouse, ⟨by decide, by decide, by decide +kernel⟩, gw_of (tb_6 (List.mem_of_getElem? (i := 127) rfl)) rfl⟩, im_X11_readHouse, se_X11_readHouse⟩
theorem cw_X11_160 : CW "TwoWellsModel" 160 yX11_readRope cX11_readRope 9 none 0 ∧ Cond.instanceMethod yX11_readRope ∈ gw ∧ Cond.selects yX11_readRope.cls yX11_readRope yX11_readRope ∈ gw := ⟨⟨in_X11, co_X11_readRope, ⟨by decide, by decide, by decide +kernel⟩, gw_of (tb_6 (List.mem_of_getElem? (i := 143) rfl)) rfl⟩, im_X11_readRope, se_X11_readRope⟩
theorem cw_X11_166 : CW "TwoWellsModel" 166 yX11_isEnd cX11_isEnd 3 (some .boolean) 2 ∧ Cond.instanceMethod yX11_isEnd ∈ gw ∧ Cond.selects yX11_isEnd.cls yX11_isEnd yX11_isEnd ∈ gw := ⟨⟨in_X11, co_X11_isEnd, ⟨by decide, by decide, by decide +kernel⟩, gw_of (tb_6 (List.mem_of_getElem? (i := 164) rfl)) rfl⟩, im_X11_isEnd, se_X11_isEnd⟩
theorem cw_X11_170 : CW "TwoWellsModel" 170 yX11_isHouse cX11_isHouse 3 (some .boolean) 1 ∧ Cond.instanceMethod yX11_isHouse ∈ gw ∧ Cond.selects yX11_isHouse.cls yX11_isHouse yX11_isHouse ∈ gw := ⟨⟨in_X11, co_X11_isHouse, ⟨by decide, by decide, by decide +kernel⟩, gw_of (tb_6 (List.mem_of_getElem? (i := 155) rfl)) rfl⟩, im_X11_isHouse, se_X11_isHouse⟩
theorem cw_X11_176 : CW "TwoWellsModel" 176 yX11_ropesOf cX11_ropesOf 4 (some .int) 1 ∧ Cond.instanceMethod yX11_ropesOf ∈ gw ∧ Cond.selects yX11_ropesOf.cls yX11_ropesOf yX11_ropesOf ∈ gw := ⟨⟨in_X11, co_X11_ropesOf, ⟨by decide, by decide, by decide +kernel⟩, gw_of (tb_6 (List.mem_of_getElem? (i := 160) rfl)) rfl⟩, im_X11_ropesOf, se_X11_ropesOf⟩
theorem cw_X11_179 : CW "TwoWellsModel" 179 yX11_isRope cX11_isRope 3 (some .boolean) 1 ∧ Cond.instanceMethod yX11_isRope ∈ gw ∧ Cond.selects yX11_isRope.cls yX11_isRope yX11_isRope ∈ gw := ⟨⟨in_X11, co_X11_isRope, ⟨by decide, by decide, by decide +kernel⟩, gw_of (tb_6 (List.mem_of_getElem? (i := 172) rfl)) rfl⟩, im_X11_isRope, se_X11_isRope⟩
theorem cw_X11_182 : CW "TwoWellsModel" 182 yX11_depth cX11_depth 3 (some .int) 2 ∧ Cond.instanceMethod yX11_depth ∈ gw ∧ Cond.selects yX11_depth.cls yX11_depth yX11_depth ∈ gw := ⟨⟨in_X11, co_X11_depth, ⟨by decide, by decide, by decide +kernel⟩, gw_of (tb_6 (List.mem_of_getElem? (i := 176) rfl)) rfl⟩, im_X11_depth, se_X11_depth⟩
theorem cw_X11_185 : CW "TwoWellsModel" 185 yX11_weight cX11_weight 3 (some .int) 2 ∧ Cond.instanceMethod yX11_weight ∈ gw ∧ Cond.selects yX11_weight.cls yX11_weight yX11_weight ∈ gw := ⟨⟨in_X11, co_X11_weight, ⟨by decide, by decide, by decide +kernel⟩, gw_of (tb_6 (List.mem_of_getElem? (i := 180) rfl)) rfl⟩, im_X11_weight, se_X11_weight⟩
theorem cw_X11_188 : CW "TwoWellsModel" 188 yX11_strengthOn cX11_strengthOn 4 (some .int) 2 ∧ Cond.instanceMethod yX11_strengthOn ∈ gw ∧ Cond.selects yX11_strengthOn.cls yX11_strengthOn yX11_strengthOn ∈ gw := ⟨⟨in_X11, co_X11_strengthOn, ⟨by decide, by decide, by decide +kernel⟩, gw_of (tb_6 (List.mem_of_getElem? (i := 200) rfl)) rfl⟩, im_X11_strengthOn, se_X11_strengthOn⟩
theorem cw_X11_191 : CW "TwoWellsModel" 191 yX11_hangs cX11_hangs 2 (some .boolean) 1 ∧ Cond.instanceMethod yX11_hangs ∈ gw ∧ Cond.selects yX11_hangs.cls yX11_hangs yX11_hangs ∈ gw := ⟨⟨in_X11, co_X11_hangs, ⟨by decide, by decide, by decide +kernel⟩, gw_of (tb_6 (List.mem_of_getElem? (i := 204) rfl)) rfl⟩, im_X11_hangs, se_X11_hangs⟩
theorem cw_X11_194 : CW "TwoWellsModel" 194 yX11_depthThen cX11_depthThen 6 (some .int) 1 ∧ Cond.instanceMethod yX11_depthThen ∈ gw ∧ Cond.selects yX11_depthThen.cls yX11_depthThen yX11_depthThen ∈ gw := ⟨⟨in_X11, co_X11_depthThen, ⟨by decide, by decide, by decide +kernel⟩, gw_of (tb_6 (List.mem_of_getElem? (i := 196) rfl)) rfl⟩, im_X11_depthThen, se_X11_depthThen⟩
theorem cw_X11_197 : CW "TwoWellsModel" 197 yX11_thirsts cX11_thirsts 2 (some .boolean) 1 ∧ Cond.instanceMethod yX11_thirsts ∈ gw ∧ Cond.selects yX11_thirsts.cls yX11_thirsts yX11_thirsts ∈ gw := ⟨⟨in_X11, co_X11_thirsts, ⟨by decide, by decide, by decide +kernel⟩, gw_of (tb_6 (List.mem_of_getElem? (i := 208) rfl)) rfl⟩, im_X11_thirsts, se_X11_thirsts⟩
theorem cw_X11_200 : CW "TwoWellsModel" 200 yX11_nobody cX11_nobody 2 none 0 ∧ Cond.instanceMethod yX11_nobody ∈ gw ∧ Cond.selects yX11_nobody.cls yX11_nobody yX11_nobody ∈ gw := ⟨⟨in_X11, co_X11_nobody, ⟨by decide, by decide, by decide +kernel⟩, gw_of (tb_6 (List.mem_of_getElem? (i := 188) rfl)) rfl⟩, im_X11_nobody, se_X11_nobody⟩
theorem cw_X11_203 : CW "TwoWellsModel" 203 yX11_goes cX11_goes 5 (some .int) 0 ∧ Cond.instanceMethod yX11_goes ∈ gw ∧ Cond.selects yX11_goes.cls yX11_goes yX11_goes ∈ gw := ⟨⟨in_X11, co_X11_goes, ⟨by decide, by decide, by decide +kernel⟩, gw_of (tb_6 (List.mem_of_getElem? (i := 192) rfl)) rfl⟩, im_X11_goes, se_X11_goes⟩
theorem cw_X11_222 : CW "TwoWellsModel" 222 yX11_refuses cX11_refuses 3 (some .int) 1 ∧ Cond.instanceMethod yX11_refuses ∈ gw ∧ Cond.selects yX11_refuses.cls yX11_refuses yX11_refuses ∈ gw := ⟨⟨in_X11, co_X11_refuses, ⟨by decide, by decide, by decide +kernel⟩, gw_of (tb_6 (List.mem_of_getElem? (i := 231) rfl)) rfl⟩, im_X11_refuses, se_X11_refuses⟩
theorem cw_X11_230 : CW "TwoWellsModel" 230 yX11_keeps cX11_keeps 2 none 0 ∧ Cond.instanceMethod yX11_keeps ∈ gw ∧ Cond.selects yX11_keeps.cls yX11_keeps yX11_keeps ∈ gw := ⟨⟨in_X11, co_X11_keeps, ⟨by decide, by decide, by decide +kernel⟩, gw_of (tb_6 (List.mem_of_getElem? (i := 222) rfl)) rfl⟩, im_X11_keeps, se_X11_keeps⟩
theorem cw_X11_233 : CW "TwoWellsModel" 233 yX11_hoursOf cX11_hoursOf 4 (some .int) 1 ∧ Cond.instanceMethod yX11_hoursOf ∈ gw ∧ Cond.selects yX11_hoursOf.cls yX11_hoursOf yX11_hoursOf ∈ gw := ⟨⟨in_X11, co_X11_hoursOf, ⟨by decide, by decide, by decide +kernel⟩, gw_of (tb_6 (List.mem_of_getElem? (i := 226) rfl)) rfl⟩, im_X11_hoursOf, se_X11_hoursOf⟩
theorem cw_X11_236 : CW "TwoWellsModel" 236 yX11_isAgain cX11_isAgain 2 none 0 ∧ Cond.instanceMethod yX11_isAgain ∈ gw ∧ Cond.selects yX11_isAgain.cls yX11_isAgain yX11_isAgain ∈ gw := ⟨⟨in_X11, co_X11_isAgain, ⟨by decide, by decide, by decide +kernel⟩, gw_of (tb_6 (List.mem_of_getElem? (i := 236) rfl)) rfl⟩, im_X11_isAgain, se_X11_isAgain⟩
theorem cw_X11_242 : CW "TwoWellsModel" 242 yX11_byCustom cX11_byCustom 4 none 0 ∧ Cond.instanceMethod yX11_byCustom ∈ gw ∧ Cond.selects yX11_byCustom.cls yX11_byCustom yX11_byCustom ∈ gw := ⟨⟨in_X11, co_X11_byCustom, ⟨by decide, by decide, by decide +kernel⟩, gw_of (tb_7 (List.mem_of_getElem? (i := 18) rfl)) rfl⟩, im_X11_byCustom, se_X11_byCustom⟩
theorem cw_X11_249 : CW "TwoWellsModel" 249 yX11_sumOf cX11_sumOf 4 (some .int) 1 ∧ Cond.instanceMethod yX11_sumOf ∈ gw ∧ Cond.selects yX11_sumOf.cls yX11_sumOf yX11_sumOf ∈ gw := ⟨⟨in_X11, co_X11_sumOf, ⟨by decide, by decide, by decide +kernel⟩, gw_of (tb_7 (List.mem_of_getElem? (i := 10) rfl)) rfl⟩, im_X11_sumOf, se_X11_sumOf⟩
theorem cw_X11_252 : CW "TwoWellsModel" 252 yX11_lives cX11_lives 4 (some .int) 1 ∧ Cond.instanceMethod yX11_lives ∈ gw ∧ Cond.selects yX11_lives.cls yX11_lives yX11_lives ∈ gw := ⟨⟨in_X11, co_X11_lives, ⟨by decide, by decide, by decide +kernel⟩, gw_of (tb_7 (List.mem_of_getElem? (i := 14) rfl)) rfl⟩, im_X11_lives, se_X11_lives⟩
theorem cw_X11_258 : CW "TwoWellsModel" 258 yX11_hanging cX11_hanging 4 (some .int) 1 ∧ Cond.instanceMethod yX11_hanging ∈ gw ∧ Cond.selects yX11_hanging.cls yX11_hanging yX11_hanging ∈ gw := ⟨⟨in_X11, co_X11_hanging, ⟨by decide, by decide, by decide +kernel⟩, gw_of (tb_7 (List.mem_of_getElem? (i := 32) rfl)) rfl⟩, im_X11_hanging, se_X11_hanging⟩
theorem cw_X11_261 : CW "TwoWellsModel" 261 yX11_hangingAt cX11_hangingAt 5 (some .int) 2 ∧ Cond.instanceMethod yX11_hangingAt ∈ gw ∧ Cond.selects yX11_hangingAt.cls yX11_hangingAt yX11_hangingAt ∈ gw := ⟨⟨in_X11, co_X11_hangingAt, ⟨by decide, by decide, by decide +kernel⟩, gw_of (tb_7 (List.mem_of_getElem? (i := 36) rfl)) rfl⟩, im_X11_hangingAt, se_X11_hangingAt⟩
theorem cw_X11_266 : CW "TwoWellsModel" 266 yX11_resting cX11_resting 3 (some .int) 0 ∧ Cond.instanceMethod yX11_resting ∈ gw ∧ Cond.selects yX11_resting.cls yX11_resting yX11_resting ∈ gw := ⟨⟨in_X11, co_X11_resting, ⟨by decide, by decide, by decide +kernel⟩, gw_of (tb_7 (List.mem_of_getElem? (i := 53) rfl)) rfl⟩, im_X11_resting, se_X11_resting⟩
theorem cw_X11_269 : CW "TwoWellsModel" 269 yX11_bitsOf cX11_bitsOf 3 (some .int) 1 ∧ Cond.static yX11_bitsOf ∈ gw := ⟨⟨in_X11, co_X11_bitsOf, ⟨by decide, by decide, by decide +kernel⟩, gw_of (tb_7 (List.mem_of_getElem? (i := 73) rfl)) rfl⟩, st_X11_bitsOf⟩
theorem cw_X11_272 : CW "TwoWellsModel" 272 yX11_isIn cX11_isIn 3 (some .boolean) 2 ∧ Cond.instanceMethod yX11_isIn ∈ gw ∧ Cond.selects yX11_isIn.cls yX11_isIn yX11_isIn ∈ gw := ⟨⟨in_X11, co_X11_isIn, ⟨by decide, by decide, by decide +kernel⟩, gw_of (tb_7 (List.mem_of_getElem? (i := 76) rfl)) rfl⟩, im_X11_isIn, se_X11_isIn⟩
theorem cw_X11_275 : CW "TwoWellsModel" 275 yX11_wayBut cX11_wayBut 8 (some .int) 3 ∧ Cond.instanceMethod yX11_wayBut ∈ gw ∧ Cond.selects yX11_wayBut.cls yX11_wayBut yX11_wayBut ∈ gw := ⟨⟨in_X11, co_X11_wayBut, ⟨by decide, by decide, by decide +kernel⟩, gw_of (tb_7 (List.mem_of_getElem? (i := 88) rfl)) rfl⟩, im_X11_wayBut, se_X11_wayBut⟩
theorem cw_X11_279 : CW "TwoWellsModel" 279 yX11_partOf cX11_partOf 6 (some .int) 2 ∧ Cond.instanceMethod yX11_partOf ∈ gw ∧ Cond.selects yX11_partOf.cls yX11_partOf yX11_partOf ∈ gw := ⟨⟨in_X11, co_X11_partOf, ⟨by decide, by decide, by decide +kernel⟩, gw_of (tb_7 (List.mem_of_getElem? (i := 96) rfl)) rfl⟩, im_X11_partOf, se_X11_partOf⟩
theorem cw_X11_296 : CW "TwoWellsModel" 296 yX11_becomes cX11_becomes 8 none 3 ∧ Cond.instanceMethod yX11_becomes ∈ gw ∧ Cond.selects yX11_becomes.cls yX11_becomes yX11_becomes ∈ gw := ⟨⟨in_X11, co_X11_becomes, ⟨by decide, by decide, by decide +kernel⟩, gw_of (tb_7 (List.mem_of_getElem? (i := 131) rfl)) rfl⟩, im_X11_becomes, se_X11_becomes⟩
theorem cw_X11_300 : CW "TwoWellsModel" 300 yX11_state cX11_state 6 (some .long) 2 ∧ Cond.instanceMethod yX11_state ∈ gw ∧ Cond.selects yX11_state.cls yX11_state yX11_state ∈ gw := ⟨⟨in_X11, co_X11_state, ⟨by decide, by decide, by decide +kernel⟩, gw_of (tb_7 (List.mem_of_getElem? (i := 116) rfl)) rfl⟩, im_X11_state, se_X11_state⟩
theorem cw_X11_304 : CW "TwoWellsModel" 304 yX11_meets cX11_meets 4 none 1 ∧ Cond.instanceMethod yX11_meets ∈ gw ∧ Cond.selects yX11_meets.cls yX11_meets yX11_meets ∈ gw := ⟨⟨in_X11, co_X11_meets, ⟨by decide, by decide, by decide +kernel⟩, gw_of (tb_7 (List.mem_of_getElem? (i := 122) rfl)) rfl⟩, im_X11_meets, se_X11_meets⟩
theorem cw_X11_308 : CW "TwoWellsModel" 308 yX11_pullsAll cX11_pullsAll 8 (some .boolean) 5 ∧ Cond.instanceMethod yX11_pullsAll ∈ gw ∧ Cond.selects yX11_pullsAll.cls yX11_pullsAll yX11_pullsAll ∈ gw := ⟨⟨in_X11, co_X11_pullsAll, ⟨by decide, by decide, by decide +kernel⟩, gw_of (tb_7 (List.mem_of_getElem? (i := 127) rfl)) rfl⟩, im_X11_pullsAll, se_X11_pullsAll⟩
theorem cw_X11_312 : CW "TwoWellsModel" 312 yX11_areFew cX11_areFew 2 (some .boolean) 0 ∧ Cond.instanceMethod yX11_areFew ∈ gw ∧ Cond.selects yX11_areFew.cls yX11_areFew yX11_areFew ∈ gw := ⟨⟨in_X11, co_X11_areFew, ⟨by decide, by decide, by decide +kernel⟩, gw_of (tb_7 (List.mem_of_getElem? (i := 112) rfl)) rfl⟩, im_X11_areFew, se_X11_areFew⟩
theorem cw_X11_316 : CW "TwoWellsModel" 316 yX11_soonestOf cX11_soonestOf 9 (some .int) 2 ∧ Cond.instanceMethod yX11_soonestOf ∈ gw ∧ Cond.selects yX11_soonestOf.cls yX11_soonestOf yX11_soonestOf ∈ gw := ⟨⟨in_X11, co_X11_soonestOf, ⟨by decide, by decide, by decide +kernel⟩, gw_of (tb_7 (List.mem_of_getElem? (i := 108) rfl)) rfl⟩, im_X11_soonestOf, se_X11_soonestOf⟩
theorem cw_X11_319 : CW "TwoWellsModel" 319 yX11_meetsFor cX11_meetsFor 6 none 2 ∧ Cond.instanceMethod yX11_meetsFor ∈ gw ∧ Cond.selects yX11_meetsFor.cls yX11_meetsFor yX11_meetsFor ∈ gw := ⟨⟨in_X11, co_X11_meetsFor, ⟨by decide, by decide, by decide +kernel⟩, gw_of (tb_7 (List.mem_of_getElem? (i := 145) rfl)) rfl⟩, im_X11_meetsFor, se_X11_meetsFor⟩
theorem cw_X11_326 : CW "TwoWellsModel" 326 yX11_pullsFor cX11_pullsFor 8 none 5 ∧ Cond.instanceMethod yX11_pullsFor ∈ gw ∧ Cond.selects yX11_pullsFor.cls yX11_pullsFor yX11_pullsFor ∈ gw := ⟨⟨in_X11, co_X11_pullsFor, ⟨by decide, by decide, by decide +kernel⟩, gw_of (tb_7 (List.mem_of_getElem? (i := 141) rfl)) rfl⟩, im_X11_pullsFor, se_X11_pullsFor⟩
theorem cw_X11_335 : CW "TwoWellsModel" 335 yX11_pullsAlone cX11_pullsAlone 7 none 4 ∧ Cond.instanceMethod yX11_pullsAlone ∈ gw ∧ Cond.selects yX11_pullsAlone.cls yX11_pullsAlone yX11_pullsAlone ∈ gw := ⟨⟨in_X11, co_X11_pullsAlone, ⟨by decide, by decide, by decide +kernel⟩, gw_of (tb_7 (List.mem_of_getElem? (i := 154) rfl)) rfl⟩, im_X11_pullsAlone, se_X11_pullsAlone⟩
theorem cw_X11_341 : CW "TwoWellsModel" 341 yX11_haveRope cX11_haveRope 4 (some .boolean) 2 ∧ Cond.instanceMethod yX11_haveRope ∈ gw ∧ Cond.selects yX11_haveRope.cls yX11_haveRope yX11_haveRope ∈ gw := ⟨⟨in_X11, co_X11_haveRope, ⟨by decide, by decide, by decide +kernel⟩, gw_of (tb_7 (List.mem_of_getElem? (i := 162) rfl)) rfl⟩, im_X11_haveRope, se_X11_haveRope⟩
theorem cw_X11_344 : CW "TwoWellsModel" 344 yX11_clashOf cX11_clashOf 4 (some .int) 3 ∧ Cond.instanceMethod yX11_clashOf ∈ gw ∧ Cond.selects yX11_clashOf.cls yX11_clashOf yX11_clashOf ∈ gw := ⟨⟨in_X11, co_X11_clashOf, ⟨by decide, by decide, by decide +kernel⟩, gw_of (tb_7 (List.mem_of_getElem? (i := 182) rfl)) rfl⟩, im_X11_clashOf, se_X11_clashOf⟩
theorem cw_X11_347 : CW "TwoWellsModel" 347 yX11_clashes cX11_clashes 6 (some .int) 1 ∧ Cond.instanceMethod yX11_clashes ∈ gw ∧ Cond.selects yX11_clashes.cls yX11_clashes yX11_clashes ∈ gw := ⟨⟨in_X11, co_X11_clashes, ⟨by decide, by decide, by decide +kernel⟩, gw_of (tb_7 (List.mem_of_getElem? (i := 178) rfl)) rfl⟩, im_X11_clashes, se_X11_clashes⟩
theorem cw_X11_357 : CW "TwoWellsModel" 357 yX11_orders cX11_orders 6 none 3 ∧ Cond.instanceMethod yX11_orders ∈ gw ∧ Cond.selects yX11_orders.cls yX11_orders yX11_orders ∈ gw := ⟨⟨in_X11, co_X11_orders, ⟨by decide, by decide, by decide +kernel⟩, gw_of (tb_7 (List.mem_of_getElem? (i := 174) rfl)) rfl⟩, im_X11_orders, se_X11_orders⟩
theorem cw_X11_364 : CW "TwoWellsModel" 364 yX11_waysFrom cX11_waysFrom 5 (some .int) 2 ∧ Cond.instanceMethod yX11_waysFrom ∈ gw ∧ Cond.selects yX11_waysFrom.cls yX11_waysFrom yX11_waysFrom ∈ gw := ⟨⟨in_X11, co_X11_waysFrom, ⟨by decide, by decide, by decide +kernel⟩, gw_of (tb_7 (List.mem_of_getElem? (i := 202) rfl)) rfl⟩, im_X11_waysFrom, se_X11_waysFrom⟩
theorem cw_X11_367 : CW "TwoWellsModel" 367 yX11_refusesSeen cX11_refusesSeen 2 (some .int) 1 ∧ Cond.instanceMethod yX11_refusesSeen ∈ gw ∧ Cond.selects yX11_refusesSeen.cls yX11_refusesSeen yX11_refusesSeen ∈ gw := ⟨⟨in_X11, co_X11_refusesSeen, ⟨by decide, by decide, by decide +kernel⟩, gw_of (tb_7 (List.mem_of_getElem? (i := 194) rfl)) rfl⟩, im_X11_refusesSeen, se_X11_refusesSeen⟩
theorem cw_X11_370 : CW "TwoWellsModel" 370 yX11_laysSeen cX11_laysSeen 2 (some .int) 1 ∧ Cond.instanceMethod yX11_laysSeen ∈ gw ∧ Cond.selects yX11_laysSeen.cls yX11_laysSeen yX11_laysSeen ∈ gw := ⟨⟨in_X11, co_X11_laysSeen, ⟨by decide, by decide, by decide +kernel⟩, gw_of (tb_7 (List.mem_of_getElem? (i := 198) rfl)) rfl⟩, im_X11_laysSeen, se_X11_laysSeen⟩
theorem cw_X11_379 : CW "TwoWellsModel" 379 yX11_cutTo cX11_cutTo 3 (some .long) 2 ∧ Cond.static yX11_cutTo ∈ gw := ⟨⟨in_X11, co_X11_cutTo, ⟨by decide, by decide, by decide +kernel⟩, gw_of (tb_7 (List.mem_of_getElem? (i := 221) rfl)) rfl⟩, st_X11_cutTo⟩
theorem cw_X11_383 : CW "TwoWellsModel" 383 yX11_fullMany cX11_fullMany 3 (some .int) 0 ∧ Cond.instanceMethod yX11_fullMany ∈ gw ∧ Cond.selects yX11_fullMany.cls yX11_fullMany yX11_fullMany ∈ gw := ⟨⟨in_X11, co_X11_fullMany, ⟨by decide, by decide, by decide +kernel⟩, gw_of (tb_8 (List.mem_of_getElem? (i := 0) rfl)) rfl⟩, im_X11_fullMany, se_X11_fullMany⟩
theorem cw_J0_335 : CW "java/lang/String" 335 yJ0_coder_7d493 cJ0_coder_7d493 1 (some .byte) 0 ∧ Cond.instanceMethod yJ0_coder_7d493 ∈ gw ∧ Cond.selects yJ0_coder_7d493.cls yJ0_coder_7d493 yJ0_coder_7d493 ∈ gw := ⟨⟨in_J0, co_J0_coder_7d493, ⟨by decide, by decide, by decide +kernel⟩, gw_of (tb_2 (List.mem_of_getElem? (i := 203) rfl)) rfl⟩, im_J0_coder_7d493, se_J0_coder_7d493⟩
theorem cw_J0_492 : CW "java/lang/String" 492 yJ0_isLatin1_aae02 cJ0_isLatin1_aae02 1 (some .boolean) 0 ∧ Cond.instanceMethod yJ0_isLatin1_aae02 ∈ gw ∧ Cond.selects yJ0_isLatin1_aae02.cls yJ0_isLatin1_aae02 yJ0_isLatin1_aae02 ∈ gw := ⟨⟨in_J0, co_J0_isLatin1_aae02, ⟨by decide, by decide, by decide +kernel⟩, gw_of (tb_2 (List.mem_of_getElem? (i := 213) rfl)) rfl⟩, im_J0_isLatin1_aae02, se_J0_isLatin1_aae02⟩
theorem cw_J0_495 : CW "java/lang/String" 495 yJ1_charAt_3b067 cJ1_charAt_3b067 2 (some .char) 2 ∧ Cond.static yJ1_charAt_3b067 ∈ gw := ⟨⟨in_J1, co_J1_charAt_3b067, ⟨by decide, by decide, by decide +kernel⟩, gw_of (tb_2 (List.mem_of_getElem? (i := 217) rfl)) rfl⟩, st_J1_charAt_3b067⟩
theorem cw_J0_1059 : CW "java/lang/String" 1059 yJ3_checkIndex_8e157 cJ3_checkIndex_8e157 3 (some .int) 3 ∧ Cond.static yJ3_checkIndex_8e157 ∈ gw := ⟨⟨in_J3, co_J3_checkIndex_8e157, ⟨by decide, by decide, by decide +kernel⟩, gw_of (tb_2 (List.mem_of_getElem? (i := 225) rfl)) rfl⟩, st_J3_checkIndex_8e157⟩
theorem cw_J1_9 : CW "java/lang/StringLatin1" 9 yJ0_checkIndex_df160 cJ0_checkIndex_df160 2 none 2 ∧ Cond.static yJ0_checkIndex_df160 ∈ gw := ⟨⟨in_J0, co_J0_checkIndex_df160, ⟨by decide, by decide, by decide +kernel⟩, gw_of (tb_2 (List.mem_of_getElem? (i := 220) rfl)) rfl⟩, st_J0_checkIndex_df160⟩
