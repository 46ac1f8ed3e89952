abbrev m_UF_init : MM := (R_UF, ⟨R_UF, "<init>", "()V"⟩, prog_1_method_1_code, 2, none)
abbrev m_Obj_init : MM := ("java/lang/Object", ⟨"java/lang/Object", "<init>", "()V"⟩, object_method_1_code, 1, none)
abbrev m_Town_init : MM := (R_Town, ⟨R_Town, "<init>", "()V"⟩, prog_12_method_1_code, 1, none)
abbrev m_Dusk_init : MM := (R_Dusk, ⟨R_Dusk, "<init>", "()V"⟩, prog_4_method_1_code, 1, none)
abbrev m_Reader_init : MM := (R_Reader, ⟨R_Reader, "<init>", "()V"⟩, prog_9_method_1_code, 1, none)
abbrev m_House_init : MM := (R_House, ⟨R_House, "<init>", "(III)V"⟩, prog_6_method_1_code, 4, none)
abbrev m_Law_init : MM := (R_Law, ⟨R_Law, "<init>", "()V"⟩, prog_8_method_1_code, 1, none)
abbrev m_Sheet_init : MM := (R_Sheet, ⟨R_Sheet, "<init>", "()V"⟩, prog_10_method_1_code, 1, none)
abbrev m_Str_length : MM := ("java/lang/String", ⟨"java/lang/String", "length", "()I"⟩, prog_17_method_54_code, 1, (some .int))
abbrev m_Str_coder : MM := ("java/lang/String", ⟨"java/lang/String", "coder", "()B"⟩, prog_17_method_152_code, 1, (some .byte))
abbrev m_Str_charAt : MM := ("java/lang/String", ⟨"java/lang/String", "charAt", "(I)C"⟩, prog_17_method_56_code, 2, (some .char))
abbrev m_Str_isLatin1 : MM := ("java/lang/String", ⟨"java/lang/String", "isLatin1", "()Z"⟩, prog_17_method_154_code, 1, (some .boolean))
abbrev m_Lat_charAt : MM := ("java/lang/StringLatin1", ⟨"java/lang/StringLatin1", "charAt", "([BI)C"⟩, prog_18_method_2_code, 2, (some .char))
abbrev m_Str_checkIndex : MM := ("java/lang/String", ⟨"java/lang/String", "checkIndex", "(II)V"⟩, prog_17_method_155_code, 2, none)
abbrev m_Prec_checkIndex : MM := ("jdk/internal/util/Preconditions", ⟨"jdk/internal/util/Preconditions", "checkIndex", "(IILjava/util/function/BiFunction;)I"⟩, prog_21_method_11_code, 3, (some .int))
abbrev m_Utf_charAt : MM := ("java/lang/StringUTF16", ⟨"java/lang/StringUTF16", "charAt", "([BI)C"⟩, prog_19_method_83_code, 2, (some .char))
abbrev m_Utf_checkIndex : MM := ("java/lang/StringUTF16", ⟨"java/lang/StringUTF16", "checkIndex", "(I[B)V"⟩, prog_19_method_91_code, 2, none)
abbrev m_Utf_length : MM := ("java/lang/StringUTF16", ⟨"java/lang/StringUTF16", "length", "([B)I"⟩, prog_19_method_6_code, 1, (some .int))
abbrev m_Utf_getChar : MM := ("java/lang/StringUTF16", ⟨"java/lang/StringUTF16", "getChar", "([BI)C"⟩, prog_19_method_5_code, 2, (some .char))
abbrev m_Reader_read : MM := (R_Reader, ⟨R_Reader, "read", "([IILUpperFloors$Law;)I"⟩, prog_9_method_2_code, 5, (some .int))
abbrev m_Math_min : MM := ("java/lang/Math", ⟨"java/lang/Math", "min", "(II)I"⟩, prog_16_method_69_code, 2, (some .int))
abbrev m_Reader_next : MM := (R_Reader, ⟨R_Reader, "next", "()V"⟩, prog_9_method_11_code, 1, none)
abbrev m_Reader_isLetter : MM := (R_Reader, ⟨R_Reader, "isLetter", "(I)Z"⟩, prog_9_method_17_code, 1, (some .boolean))
abbrev m_UF_within : MM := (R_UF, ⟨R_UF, "within", "(III)Z"⟩, prog_1_method_37_code, 3, (some .boolean))
abbrev m_Reader_word : MM := (R_Reader, ⟨R_Reader, "word", "()V"⟩, prog_9_method_12_code, 1, none)
abbrev m_Reader_isWord : MM := (R_Reader, ⟨R_Reader, "isWord", "(Ljava/lang/String;)Z"⟩, prog_9_method_14_code, 3, (some .boolean))
abbrev m_Reader_nameRead : MM := (R_Reader, ⟨R_Reader, "nameRead", "()I"⟩, prog_9_method_13_code, 1, (some .int))
abbrev m_Reader_isDigit : MM := (R_Reader, ⟨R_Reader, "isDigit", "(I)Z"⟩, prog_9_method_18_code, 1, (some .boolean))
abbrev m_Reader_number : MM := (R_Reader, ⟨R_Reader, "number", "()V"⟩, prog_9_method_15_code, 1, none)
abbrev m_Reader_sign : MM := (R_Reader, ⟨R_Reader, "sign", "()V"⟩, prog_9_method_16_code, 3, none)
abbrev m_Reader_take : MM := (R_Reader, ⟨R_Reader, "take", "(I)Z"⟩, prog_9_method_3_code, 2, (some .boolean))
abbrev m_Reader_either : MM := (R_Reader, ⟨R_Reader, "either", "(I)Z"⟩, prog_9_method_4_code, 3, (some .boolean))
abbrev m_Reader_both : MM := (R_Reader, ⟨R_Reader, "both", "(I)Z"⟩, prog_9_method_5_code, 3, (some .boolean))
abbrev m_Reader_unless : MM := (R_Reader, ⟨R_Reader, "unless", "(I)Z"⟩, prog_9_method_6_code, 2, (some .boolean))
abbrev m_Reader_compared : MM := (R_Reader, ⟨R_Reader, "compared", "(I)Z"⟩, prog_9_method_7_code, 3, (some .boolean))
abbrev m_Reader_sum : MM := (R_Reader, ⟨R_Reader, "sum", "(I)Z"⟩, prog_9_method_8_code, 4, (some .boolean))
abbrev m_Reader_term : MM := (R_Reader, ⟨R_Reader, "term", "(I)Z"⟩, prog_9_method_9_code, 3, (some .boolean))
abbrev m_Reader_one : MM := (R_Reader, ⟨R_Reader, "one", "(I)Z"⟩, prog_9_method_10_code, 3, (some .boolean))
abbrev m_Law_add : MM := (R_Law, ⟨R_Law, "add", "(I)V"⟩, prog_8_method_2_code, 2, none)
abbrev m_Law_addName : MM := (R_Law, ⟨R_Law, "addName", "(I)V"⟩, prog_8_method_3_code, 2, none)
abbrev m_UF_count : MM := (R_UF, ⟨R_UF, "count", "(I)I"⟩, prog_1_method_2_code, 2, (some .int))
abbrev m_Town_chains : MM := (R_Town, ⟨R_Town, "chains", "()I"⟩, prog_12_method_8_code, 3, (some .int))
abbrev m_Town_leads : MM := (R_Town, ⟨R_Town, "leads", "(I)Z"⟩, prog_12_method_6_code, 2, (some .boolean))
abbrev m_Town_crowd : MM := (R_Town, ⟨R_Town, "crowd", "()I"⟩, prog_12_method_9_code, 3, (some .int))
abbrev m_UF_feed : MM := (R_UF, ⟨R_UF, "feed", "(IIIIII)I"⟩, prog_1_method_3_code, 7, (some .int))
abbrev m_UF_isByte : MM := (R_UF, ⟨R_UF, "isByte", "(I)Z"⟩, prog_1_method_38_code, 1, (some .boolean))
abbrev m_UF_put : MM := (R_UF, ⟨R_UF, "put", "(I)V"⟩, prog_1_method_43_code, 2, none)
abbrev m_UF_text : MM := (R_UF, ⟨R_UF, "text", "()I"⟩, prog_1_method_4_code, 2, (some .int))
abbrev m_UF_force : MM := (R_UF, ⟨R_UF, "force", "(I)I"⟩, prog_1_method_5_code, 3, (some .int))
abbrev m_UF_asks : MM := (R_UF, ⟨R_UF, "asks", "(III)I"⟩, prog_1_method_6_code, 4, (some .int))
abbrev m_UF_isHouse : MM := (R_UF, ⟨R_UF, "isHouse", "(I)Z"⟩, prog_1_method_42_code, 2, (some .boolean))
abbrev m_UF_ready : MM := (R_UF, ⟨R_UF, "ready", "()V"⟩, prog_1_method_47_code, 1, none)
abbrev m_Dusk_begin : MM := (R_Dusk, ⟨R_Dusk, "begin", "(LUpperFloors$Town;[LUpperFloors$House;LUpperFloors$Law;)V"⟩, prog_4_method_2_code, 5, none)
abbrev m_Town_become : MM := (R_Town, ⟨R_Town, "become", "(LUpperFloors$Town;)V"⟩, prog_12_method_2_code, 2, none)
abbrev m_Dusk_says : MM := (R_Dusk, ⟨R_Dusk, "says", "(IIII)I"⟩, prog_4_method_12_code, 5, (some .int))
abbrev m_Law_answer : MM := (R_Law, ⟨R_Law, "answer", "(I[I[I)I"⟩, prog_8_method_4_code, 7, (some .int))
abbrev m_Law_signed : MM := (R_Law, ⟨R_Law, "signed", "(II)I"⟩, prog_8_method_5_code, 2, (some .int))
abbrev m_Law_joined : MM := (R_Law, ⟨R_Law, "joined", "(III)I"⟩, prog_8_method_6_code, 3, (some .int))
abbrev m_Math_max : MM := ("java/lang/Math", ⟨"java/lang/Math", "max", "(II)I"⟩, prog_16_method_65_code, 2, (some .int))
abbrev m_UF_house : MM := (R_UF, ⟨R_UF, "house", "(III)I"⟩, prog_1_method_7_code, 4, (some .int))
abbrev m_UF_settle : MM := (R_UF, ⟨R_UF, "settle", "(III)I"⟩, prog_1_method_44_code, 4, (some .int))
abbrev m_UF_build : MM := (R_UF, ⟨R_UF, "build", "(III)LUpperFloors$House;"⟩, prog_1_method_45_code, 3, (some (.object "UpperFloors$House")))
abbrev m_Heavy_init : MM := (R_Heavy, ⟨R_Heavy, "<init>", "(III)V"⟩, prog_5_method_1_code, 4, none)
abbrev m_Braked_init : MM := (R_Braked, ⟨R_Braked, "<init>", "(III)V"⟩, prog_3_method_1_code, 4, none)
abbrev m_Aunt_init : MM := (R_Aunt, ⟨R_Aunt, "<init>", "(III)V"⟩, prog_2_method_1_code, 4, none)
abbrev m_Stuck_init : MM := (R_Stuck, ⟨R_Stuck, "<init>", "(III)V"⟩, prog_11_method_1_code, 4, none)
abbrev m_Late_init : MM := (R_Late, ⟨R_Late, "<init>", "(III)V"⟩, prog_7_method_1_code, 4, none)
abbrev m_Town_grow : MM := (R_Town, ⟨R_Town, "grow", "()V"⟩, prog_12_method_3_code, 1, none)
abbrev m_UF_set : MM := (R_UF, ⟨R_UF, "set", "(III)I"⟩, prog_1_method_8_code, 5, (some .int))
abbrev m_UF_chain : MM := (R_UF, ⟨R_UF, "chain", "(II)I"⟩, prog_1_method_9_code, 4, (some .int))
abbrev m_Town_join : MM := (R_Town, ⟨R_Town, "join", "(II)V"⟩, prog_12_method_5_code, 3, none)
abbrev m_Town_loosen : MM := (R_Town, ⟨R_Town, "loosen", "(I)V"⟩, prog_12_method_4_code, 3, none)
abbrev m_UF_told : MM := (R_UF, ⟨R_UF, "told", "(II)I"⟩, prog_1_method_10_code, 3, (some .int))
abbrev m_UF_of : MM := (R_UF, ⟨R_UF, "of", "(III)I"⟩, prog_1_method_11_code, 4, (some .int))
abbrev m_UF_isSpan : MM := (R_UF, ⟨R_UF, "isSpan", "(I)Z"⟩, prog_1_method_39_code, 1, (some .boolean))
abbrev m_Dusk_go : MM := (R_Dusk, ⟨R_Dusk, "go", "(I)V"⟩, prog_4_method_3_code, 3, none)
abbrev m_Dusk_pass : MM := (R_Dusk, ⟨R_Dusk, "pass", "(II)V"⟩, prog_4_method_5_code, 4, none)
abbrev m_Dusk_alone : MM := (R_Dusk, ⟨R_Dusk, "alone", "(II)V"⟩, prog_4_method_6_code, 4, none)
abbrev m_Late_isFree : MM := (R_Late, ⟨R_Late, "isFree", "(II)Z"⟩, prog_7_method_3_code, 3, (some .boolean))
abbrev m_Stuck_isFree : MM := (R_Stuck, ⟨R_Stuck, "isFree", "(II)Z"⟩, prog_11_method_2_code, 3, (some .boolean))
abbrev m_House_isFree : MM := (R_House, ⟨R_House, "isFree", "(II)Z"⟩, prog_6_method_4_code, 3, (some .boolean))
abbrev m_Dusk_weighs : MM := (R_Dusk, ⟨R_Dusk, "weighs", "(II)I"⟩, prog_4_method_10_code, 3, (some .int))
abbrev m_Aunt_weighsBy : MM := (R_Aunt, ⟨R_Aunt, "weighsBy", "(II)I"⟩, prog_2_method_2_code, 4, (some .int))
abbrev m_Heavy_weighsBy : MM := (R_Heavy, ⟨R_Heavy, "weighsBy", "(II)I"⟩, prog_5_method_2_code, 3, (some .int))
abbrev m_Late_weighsBy : MM := (R_Late, ⟨R_Late, "weighsBy", "(II)I"⟩, prog_7_method_2_code, 3, (some .int))
abbrev m_House_weighsBy : MM := (R_House, ⟨R_House, "weighsBy", "(II)I"⟩, prog_6_method_2_code, 3, (some .int))
abbrev m_Dusk_holds : MM := (R_Dusk, ⟨R_Dusk, "holds", "(II)I"⟩, prog_4_method_11_code, 3, (some .int))
abbrev m_Braked_holdsBy : MM := (R_Braked, ⟨R_Braked, "holdsBy", "(I)I"⟩, prog_3_method_2_code, 2, (some .int))
abbrev m_House_holdsBy : MM := (R_House, ⟨R_House, "holdsBy", "(I)I"⟩, prog_6_method_3_code, 2, (some .int))
abbrev m_Dusk_sink : MM := (R_Dusk, ⟨R_Dusk, "sink", "(II)V"⟩, prog_4_method_8_code, 3, none)
abbrev m_Dusk_pair : MM := (R_Dusk, ⟨R_Dusk, "pair", "(IIZ)V"⟩, prog_4_method_7_code, 9, none)
abbrev m_Math_abs : MM := ("java/lang/Math", ⟨"java/lang/Math", "abs", "(I)I"⟩, prog_16_method_59_code, 1, (some .int))
abbrev m_Dusk_rise : MM := (R_Dusk, ⟨R_Dusk, "rise", "(I)V"⟩, prog_4_method_9_code, 2, none)
abbrev m_UF_all : MM := (R_UF, ⟨R_UF, "all", "(II)I"⟩, prog_1_method_12_code, 3, (some .int))
abbrev m_Town_downBits : MM := (R_Town, ⟨R_Town, "downBits", "()I"⟩, prog_12_method_11_code, 3, (some .int))
abbrev m_Town_isDown : MM := (R_Town, ⟨R_Town, "isDown", "(I)Z"⟩, prog_12_method_7_code, 2, (some .boolean))
abbrev m_Dusk_hitsTogether : MM := (R_Dusk, ⟨R_Dusk, "hitsTogether", "()I"⟩, prog_4_method_13_code, 3, (some .int))
abbrev m_Town_highTogether : MM := (R_Town, ⟨R_Town, "highTogether", "()I"⟩, prog_12_method_10_code, 3, (some .int))
abbrev m_Dusk_stillBits : MM := (R_Dusk, ⟨R_Dusk, "stillBits", "()I"⟩, prog_4_method_14_code, 3, (some .int))
abbrev m_UF_when : MM := (R_UF, ⟨R_UF, "when", "(I)I"⟩, prog_1_method_13_code, 2, (some .int))
abbrev m_Dusk_firstDown : MM := (R_Dusk, ⟨R_Dusk, "firstDown", "(I)I"⟩, prog_4_method_4_code, 3, (some .int))
abbrev m_UF_first : MM := (R_UF, ⟨R_UF, "first", "(I)I"⟩, prog_1_method_14_code, 7, (some .int))
abbrev m_UF_bring : MM := (R_UF, ⟨R_UF, "bring", "(II)I"⟩, prog_1_method_15_code, 4, (some .int))
abbrev m_UF_weight : MM := (R_UF, ⟨R_UF, "weight", "(III)I"⟩, prog_1_method_16_code, 8, (some .int))
abbrev m_Town_downCount : MM := (R_Town, ⟨R_Town, "downCount", "()I"⟩, prog_12_method_12_code, 1, (some .int))
abbrev m_Integer_bitCount : MM := ("java/lang/Integer", ⟨"java/lang/Integer", "bitCount", "(I)I"⟩, prog_15_method_49_code, 1, (some .int))
abbrev m_UF_over : MM := (R_UF, ⟨R_UF, "over", "(II)I"⟩, prog_1_method_17_code, 8, (some .int))
abbrev m_UF_link : MM := (R_UF, ⟨R_UF, "link", "(II)I"⟩, prog_1_method_18_code, 8, (some .int))
abbrev m_UF_frees : MM := (R_UF, ⟨R_UF, "frees", "(III)I"⟩, prog_1_method_19_code, 7, (some .int))
abbrev m_UF_hang : MM := (R_UF, ⟨R_UF, "hang", "(III)I"⟩, prog_1_method_20_code, 8, (some .int))
abbrev m_UF_night : MM := (R_UF, ⟨R_UF, "night", "(I)I"⟩, prog_1_method_21_code, 3, (some .int))
abbrev m_UF_dawn : MM := (R_UF, ⟨R_UF, "dawn", "(I)I"⟩, prog_1_method_22_code, 5, (some .int))
abbrev m_UF_judge : MM := (R_UF, ⟨R_UF, "judge", "(II)I"⟩, prog_1_method_23_code, 4, (some .int))
abbrev m_UF_tellingRefusal : MM := (R_UF, ⟨R_UF, "tellingRefusal", "(I)I"⟩, prog_1_method_46_code, 2, (some .int))
abbrev m_UF_isSheet : MM := (R_UF, ⟨R_UF, "isSheet", "(I)Z"⟩, prog_1_method_40_code, 1, (some .boolean))
abbrev m_Sheet_firstOtherwise : MM := (R_Sheet, ⟨R_Sheet, "firstOtherwise", "(LUpperFloors$Town;)I"⟩, prog_10_method_5_code, 3, (some .int))
abbrev m_UF_times : MM := (R_UF, ⟨R_UF, "times", "(I)I"⟩, prog_1_method_24_code, 5, (some .int))
abbrev m_UF_laws : MM := (R_UF, ⟨R_UF, "laws", "(II)I"⟩, prog_1_method_25_code, 6, (some .int))
abbrev m_UF_thief : MM := (R_UF, ⟨R_UF, "thief", "(III)I"⟩, prog_1_method_26_code, 7, (some .int))
abbrev m_UF_film : MM := (R_UF, ⟨R_UF, "film", "(II)I"⟩, prog_1_method_27_code, 4, (some .int))
abbrev m_Sheet_renew : MM := (R_Sheet, ⟨R_Sheet, "renew", "(II)V"⟩, prog_10_method_2_code, 4, none)
abbrev m_Sheet_write : MM := (R_Sheet, ⟨R_Sheet, "write", "(II)V"⟩, prog_10_method_4_code, 3, none)
abbrev m_Sheet_has : MM := (R_Sheet, ⟨R_Sheet, "has", "(I)Z"⟩, prog_10_method_3_code, 2, (some .boolean))
abbrev m_UF_drawn : MM := (R_UF, ⟨R_UF, "drawn", "(III)I"⟩, prog_1_method_28_code, 4, (some .int))
abbrev m_UF_isDraw : MM := (R_UF, ⟨R_UF, "isDraw", "(III)Z"⟩, prog_1_method_41_code, 3, (some .boolean))
abbrev m_UF_drawnDown : MM := (R_UF, ⟨R_UF, "drawnDown", "(III)I"⟩, prog_1_method_48_code, 9, (some .int))
abbrev m_UF_odds : MM := (R_UF, ⟨R_UF, "odds", "(IIII)J"⟩, prog_1_method_29_code, 8, (some .long))
abbrev m_UF_image : MM := (R_UF, ⟨R_UF, "image", "()I"⟩, prog_1_method_30_code, 1, (some .int))
abbrev m_UF_back : MM := (R_UF, ⟨R_UF, "back", "()I"⟩, prog_1_method_31_code, 1, (some .int))
abbrev m_UF_sheet : MM := (R_UF, ⟨R_UF, "sheet", "(III)I"⟩, prog_1_method_32_code, 4, (some .int))
abbrev m_UF_cell : MM := (R_UF, ⟨R_UF, "cell", "(III)I"⟩, prog_1_method_33_code, 4, (some .int))
abbrev m_UF_copy : MM := (R_UF, ⟨R_UF, "copy", "(IIIII)I"⟩, prog_1_method_34_code, 8, (some .int))
abbrev m_UF_housesBy : MM := (R_UF, ⟨R_UF, "housesBy", "(IIII)I"⟩, prog_1_method_35_code, 9, (some .int))
abbrev m_UF_taken : MM := (R_UF, ⟨R_UF, "taken", "(II)I"⟩, prog_1_method_36_code, 5, (some .int))
abbrev m_House_isOf : MM := (R_House, ⟨R_House, "isOf", "(I)Z"⟩, prog_6_method_5_code, 2, (some .boolean))
abbrev m_MO_init : MM := (R_MO, ⟨R_MO, "<init>", "()V"⟩, prog_14_method_1_code, 2, none)
abbrev m_MO_text : MM := (R_MO, ⟨R_MO, "text", "()I"⟩, prog_14_method_22_code, 3, (some .int))
abbrev m_MO_next : MM := (R_MO, ⟨R_MO, "next", "()V"⟩, prog_14_method_13_code, 3, none)
abbrev m_MO_in : MM := (R_MO, ⟨R_MO, "in", "(III)Z"⟩, prog_14_method_3_code, 3, (some .boolean))
abbrev m_MO_wordFrom : MM := (R_MO, ⟨R_MO, "wordFrom", "(II)I"⟩, prog_14_method_12_code, 6, (some .int))
abbrev m_MO_eRead : MM := (R_MO, ⟨R_MO, "eRead", "()Z"⟩, prog_14_method_21_code, 4, (some .boolean))
abbrev m_MO_puts : MM := (R_MO, ⟨R_MO, "puts", "(I)V"⟩, prog_14_method_15_code, 2, none)
abbrev m_MO_unwinds : MM := (R_MO, ⟨R_MO, "unwinds", "(I)V"⟩, prog_14_method_16_code, 3, none)
abbrev m_MO_rank : MM := (R_MO, ⟨R_MO, "rank", "(I)I"⟩, prog_14_method_14_code, 1, (some .int))
abbrev m_MO_opensOne : MM := (R_MO, ⟨R_MO, "opensOne", "(I)Z"⟩, prog_14_method_18_code, 2, (some .boolean))
abbrev m_MO_holds : MM := (R_MO, ⟨R_MO, "holds", "(I)V"⟩, prog_14_method_17_code, 2, none)
abbrev m_MO_signOf : MM := (R_MO, ⟨R_MO, "signOf", "()I"⟩, prog_14_method_20_code, 1, (some .int))
abbrev m_MO_between : MM := (R_MO, ⟨R_MO, "between", "(I)Z"⟩, prog_14_method_19_code, 2, (some .boolean))
abbrev m_MO_count : MM := (R_MO, ⟨R_MO, "count", "(I)I"⟩, prog_14_method_9_code, 2, (some .int))
abbrev m_MO_chains : MM := (R_MO, ⟨R_MO, "chains", "()I"⟩, prog_14_method_7_code, 3, (some .int))
abbrev m_MO_isLesser : MM := (R_MO, ⟨R_MO, "isLesser", "(I)Z"⟩, prog_14_method_6_code, 2, (some .boolean))
abbrev m_MO_peopleAll : MM := (R_MO, ⟨R_MO, "peopleAll", "()I"⟩, prog_14_method_8_code, 3, (some .int))
abbrev m_MO_feed : MM := (R_MO, ⟨R_MO, "feed", "(IIIIII)I"⟩, prog_14_method_11_code, 8, (some .int))
abbrev m_MO_isByte : MM := (R_MO, ⟨R_MO, "isByte", "(I)Z"⟩, prog_14_method_10_code, 1, (some .boolean))
abbrev m_MO_force : MM := (R_MO, ⟨R_MO, "force", "(I)I"⟩, prog_14_method_25_code, 3, (some .int))
abbrev m_MO_asks : MM := (R_MO, ⟨R_MO, "asks", "(III)I"⟩, prog_14_method_28_code, 4, (some .int))
abbrev m_MO_isHouse : MM := (R_MO, ⟨R_MO, "isHouse", "(I)Z"⟩, prog_14_method_5_code, 2, (some .boolean))
abbrev m_MO_isMany : MM := (R_MO, ⟨R_MO, "isMany", "(I)Z"⟩, prog_14_method_27_code, 1, (some .boolean))
abbrev m_MO_asksOf : MM := (R_MO, ⟨R_MO, "asksOf", "(IIIII)I"⟩, prog_14_method_26_code, 6, (some .int))
abbrev m_MO_says : MM := (R_MO, ⟨R_MO, "says", "(I)I"⟩, prog_14_method_24_code, 5, (some .int))
abbrev m_MO_two : MM := (R_MO, ⟨R_MO, "two", "(III)I"⟩, prog_14_method_23_code, 3, (some .int))
abbrev m_MO_within : MM := (R_MO, ⟨R_MO, "within", "(III)I"⟩, prog_14_method_4_code, 3, (some .int))
abbrev m_MO_house : MM := (R_MO, ⟨R_MO, "house", "(III)I"⟩, prog_14_method_29_code, 4, (some .int))
abbrev m_MO_set : MM := (R_MO, ⟨R_MO, "set", "(III)I"⟩, prog_14_method_30_code, 5, (some .int))
abbrev m_MO_chain : MM := (R_MO, ⟨R_MO, "chain", "(II)I"⟩, prog_14_method_33_code, 4, (some .int))
abbrev m_MO_links : MM := (R_MO, ⟨R_MO, "links", "(II)V"⟩, prog_14_method_32_code, 3, none)
abbrev m_MO_comesFree : MM := (R_MO, ⟨R_MO, "comesFree", "(I)V"⟩, prog_14_method_31_code, 3, none)
abbrev m_MO_told : MM := (R_MO, ⟨R_MO, "told", "(II)I"⟩, prog_14_method_34_code, 3, (some .int))
abbrev m_MO_of : MM := (R_MO, ⟨R_MO, "of", "(III)I"⟩, prog_14_method_45_code, 4, (some .int))
abbrev m_MO_lives : MM := (R_MO, ⟨R_MO, "lives", "(I)V"⟩, prog_14_method_44_code, 2, none)
abbrev m_MO_livesBy : MM := (R_MO, ⟨R_MO, "livesBy", "(I)V"⟩, prog_14_method_43_code, 3, none)
abbrev m_MO_minute : MM := (R_MO, ⟨R_MO, "minute", "(I)V"⟩, prog_14_method_42_code, 3, none)
abbrev m_MO_alone : MM := (R_MO, ⟨R_MO, "alone", "(II)V"⟩, prog_14_method_39_code, 3, none)
abbrev m_MO_isFree : MM := (R_MO, ⟨R_MO, "isFree", "(II)Z"⟩, prog_14_method_37_code, 3, (some .boolean))
abbrev m_MO_weighs : MM := (R_MO, ⟨R_MO, "weighs", "(II)I"⟩, prog_14_method_35_code, 6, (some .int))
abbrev m_MO_holdsIt : MM := (R_MO, ⟨R_MO, "holdsIt", "(II)I"⟩, prog_14_method_36_code, 4, (some .int))
abbrev m_MO_goesDown : MM := (R_MO, ⟨R_MO, "goesDown", "(II)V"⟩, prog_14_method_38_code, 3, none)
abbrev m_MO_catches : MM := (R_MO, ⟨R_MO, "catches", "()Z"⟩, prog_14_method_41_code, 1, (some .boolean))
abbrev m_MO_chained : MM := (R_MO, ⟨R_MO, "chained", "(IIIZ)V"⟩, prog_14_method_40_code, 11, none)
abbrev m_MO_all : MM := (R_MO, ⟨R_MO, "all", "(II)I"⟩, prog_14_method_47_code, 3, (some .int))
abbrev m_MO_sumOf : MM := (R_MO, ⟨R_MO, "sumOf", "(I)I"⟩, prog_14_method_46_code, 4, (some .int))
abbrev m_MO_when : MM := (R_MO, ⟨R_MO, "when", "(I)I"⟩, prog_14_method_49_code, 2, (some .int))
abbrev m_MO_whenOf : MM := (R_MO, ⟨R_MO, "whenOf", "(I)I"⟩, prog_14_method_48_code, 3, (some .int))
abbrev m_MO_first : MM := (R_MO, ⟨R_MO, "first", "(I)I"⟩, prog_14_method_50_code, 7, (some .int))
abbrev m_MO_bring : MM := (R_MO, ⟨R_MO, "bring", "(II)I"⟩, prog_14_method_53_code, 6, (some .int))
abbrev m_MO_weight : MM := (R_MO, ⟨R_MO, "weight", "(III)I"⟩, prog_14_method_54_code, 8, (some .int))
abbrev m_MO_downs : MM := (R_MO, ⟨R_MO, "downs", "(I)I"⟩, prog_14_method_51_code, 2, (some .int))
abbrev m_MO_downNow : MM := (R_MO, ⟨R_MO, "downNow", "()I"⟩, prog_14_method_52_code, 3, (some .int))
abbrev m_MO_over : MM := (R_MO, ⟨R_MO, "over", "(II)I"⟩, prog_14_method_55_code, 8, (some .int))
abbrev m_MO_link : MM := (R_MO, ⟨R_MO, "link", "(II)I"⟩, prog_14_method_58_code, 8, (some .int))
abbrev m_MO_keeps : MM := (R_MO, ⟨R_MO, "keeps", "()V"⟩, prog_14_method_56_code, 2, none)
abbrev m_MO_laysBack : MM := (R_MO, ⟨R_MO, "laysBack", "()V"⟩, prog_14_method_57_code, 2, none)
abbrev m_MO_frees : MM := (R_MO, ⟨R_MO, "frees", "(III)I"⟩, prog_14_method_59_code, 9, (some .int))
abbrev m_MO_hang : MM := (R_MO, ⟨R_MO, "hang", "(III)I"⟩, prog_14_method_60_code, 10, (some .int))
abbrev m_MO_night : MM := (R_MO, ⟨R_MO, "night", "(I)I"⟩, prog_14_method_61_code, 3, (some .int))
abbrev m_MO_dawn : MM := (R_MO, ⟨R_MO, "dawn", "(I)I"⟩, prog_14_method_62_code, 5, (some .int))
abbrev m_MO_judge : MM := (R_MO, ⟨R_MO, "judge", "(II)I"⟩, prog_14_method_66_code, 4, (some .int))
abbrev m_MO_toldWrong : MM := (R_MO, ⟨R_MO, "toldWrong", "(II)I"⟩, prog_14_method_64_code, 4, (some .int))
abbrev m_MO_sheetWrong : MM := (R_MO, ⟨R_MO, "sheetWrong", "(I)I"⟩, prog_14_method_63_code, 2, (some .int))
abbrev m_MO_unlike : MM := (R_MO, ⟨R_MO, "unlike", "(II)I"⟩, prog_14_method_65_code, 4, (some .int))
abbrev m_MO_times : MM := (R_MO, ⟨R_MO, "times", "(I)I"⟩, prog_14_method_67_code, 5, (some .int))
abbrev m_MO_laws : MM := (R_MO, ⟨R_MO, "laws", "(II)I"⟩, prog_14_method_68_code, 7, (some .int))
abbrev m_MO_thief : MM := (R_MO, ⟨R_MO, "thief", "(III)I"⟩, prog_14_method_69_code, 8, (some .int))
abbrev m_MO_film : MM := (R_MO, ⟨R_MO, "film", "(II)I"⟩, prog_14_method_70_code, 4, (some .int))
abbrev m_MO_drawn : MM := (R_MO, ⟨R_MO, "drawn", "(III)I"⟩, prog_14_method_73_code, 4, (some .int))
abbrev m_MO_isDrawn : MM := (R_MO, ⟨R_MO, "isDrawn", "(III)Z"⟩, prog_14_method_72_code, 3, (some .boolean))
abbrev m_MO_downsBy : MM := (R_MO, ⟨R_MO, "downsBy", "(III)I"⟩, prog_14_method_71_code, 4, (some .int))
abbrev m_MO_odds : MM := (R_MO, ⟨R_MO, "odds", "(IIII)J"⟩, prog_14_method_75_code, 8, (some .long))
abbrev m_MO_lowest : MM := (R_MO, ⟨R_MO, "lowest", "(JJI)J"⟩, prog_14_method_74_code, 11, (some .long))
abbrev m_MO_image : MM := (R_MO, ⟨R_MO, "image", "()I"⟩, prog_14_method_76_code, 2, (some .int))
abbrev m_MO_back : MM := (R_MO, ⟨R_MO, "back", "()I"⟩, prog_14_method_77_code, 2, (some .int))
abbrev m_MO_sheet : MM := (R_MO, ⟨R_MO, "sheet", "(III)I"⟩, prog_14_method_78_code, 5, (some .int))
abbrev m_MO_cell : MM := (R_MO, ⟨R_MO, "cell", "(III)I"⟩, prog_14_method_79_code, 4, (some .int))
abbrev m_MO_copy : MM := (R_MO, ⟨R_MO, "copy", "(IIIII)I"⟩, prog_14_method_80_code, 10, (some .int))
abbrev m_MO_housesBy : MM := (R_MO, ⟨R_MO, "housesBy", "(IIII)I"⟩, prog_14_method_81_code, 9, (some .int))
abbrev m_MO_taken : MM := (R_MO, ⟨R_MO, "taken", "(II)I"⟩, prog_14_method_83_code, 4, (some .int))
abbrev m_MO_isUnder : MM := (R_MO, ⟨R_MO, "isUnder", "(II)Z"⟩, prog_14_method_82_code, 2, (some .boolean))
theorem ck_Aunt : CLK 0 R_Aunt F_Aunt := ⟨rfl, by decide, i_Aunt, ⟨t_Aunt, t_Aunt_ok⟩, n_Aunt⟩
theorem ft_0_0 : FTY 0 0 (t_Aunt 0) true "UpperFloors$House" := ⟨_, _, _, rfl, by decide +kernel, rfl, rfl⟩
theorem ft_0_1 : FTY 0 1 (t_Aunt 1) true "UpperFloors$House" := ⟨_, _, _, rfl, by decide +kernel, rfl, rfl⟩
theorem ft_0_2 : FTY 0 2 (t_Aunt 2) true "UpperFloors$House" := ⟨_, _, _, rfl, by decide +kernel, rfl, rfl⟩
theorem ck_Braked : CLK 1 R_Braked F_Braked := ⟨rfl, by decide, i_Braked, ⟨t_Braked, t_Braked_ok⟩, n_Braked⟩
theorem ft_1_0 : FTY 1 0 (t_Braked 0) true "UpperFloors$House" := ⟨_, _, _, rfl, by decide +kernel, rfl, rfl⟩
theorem ft_1_1 : FTY 1 1 (t_Braked 1) true "UpperFloors$House" := ⟨_, _, _, rfl, by decide +kernel, rfl, rfl⟩
theorem ft_1_2 : FTY 1 2 (t_Braked 2) true "UpperFloors$House" := ⟨_, _, _, rfl, by decide +kernel, rfl, rfl⟩
theorem ck_Dusk : CLK 2 R_Dusk F_Dusk := ⟨rfl, by decide, i_Dusk, ⟨t_Dusk, t_Dusk_ok⟩, n_Dusk⟩
theorem ft_2_0 : FTY 2 0 (t_Dusk 0) true "UpperFloors$Dusk" := ⟨_, _, _, rfl, by decide +kernel, rfl, rfl⟩
theorem ft_2_1 : FTY 2 1 (t_Dusk 1) true "UpperFloors$Dusk" := ⟨_, _, _, rfl, by decide +kernel, rfl, rfl⟩
theorem ft_2_2 : FTY 2 2 (t_Dusk 2) true "UpperFloors$Dusk" := ⟨_, _, _, rfl, by decide +kernel, rfl, rfl⟩
theorem ft_2_3 : FTY 2 3 (t_Dusk 3) true "UpperFloors$Dusk" := ⟨_, _, _, rfl, by decide +kernel, rfl, rfl⟩
theorem ft_2_4 : FTY 2 4 (t_Dusk 4) true "UpperFloors$Dusk" := ⟨_, _, _, rfl, by decide +kernel, rfl, rfl⟩
theorem ft_2_5 : FTY 2 5 (t_Dusk 5) true "UpperFloors$Dusk" := ⟨_, _, _, rfl, by decide +kernel, rfl, rfl⟩
theorem ft_2_6 : FTY 2 6 (t_Dusk 6) true "UpperFloors$Dusk" := ⟨_, _, _, rfl, by decide +kernel, rfl, rfl⟩
theorem ft_2_7 : FTY 2 7 (t_Dusk 7) true "UpperFloors$Dusk" := ⟨_, _, _, rfl, by decide +kernel, rfl, rfl⟩
theorem ft_2_8 : FTY 2 8 (t_Dusk 8) false "UpperFloors$Dusk" := ⟨_, _, _, rfl, by decide +kernel, rfl, rfl⟩
theorem ck_Heavy : CLK 3 R_Heavy F_Heavy := ⟨rfl, by decide, i_Heavy, ⟨t_Heavy, t_Heavy_ok⟩, n_Heavy⟩
theorem ft_3_0 : FTY 3 0 (t_Heavy 0) true "UpperFloors$House" := ⟨_, _, _, rfl, by decide +kernel, rfl, rfl⟩
theorem ft_3_1 : FTY 3 1 (t_Heavy 1) true "UpperFloors$House" := ⟨_, _, _, rfl, by decide +kernel, rfl, rfl⟩
theorem ft_3_2 : FTY 3 2 (t_Heavy 2) true "UpperFloors$House" := ⟨_, _, _, rfl, by decide +kernel, rfl, rfl⟩
theorem ck_House : CLK 4 R_House F_House := ⟨rfl, by decide, i_House, ⟨t_House, t_House_ok⟩, n_House⟩
theorem ft_4_0 : FTY 4 0 (t_House 0) true "UpperFloors$House" := ⟨_, _, _, rfl, by decide +kernel, rfl, rfl⟩
theorem ft_4_1 : FTY 4 1 (t_House 1) true "UpperFloors$House" := ⟨_, _, _, rfl, by decide +kernel, rfl, rfl⟩
theorem ft_4_2 : FTY 4 2 (t_House 2) true "UpperFloors$House" := ⟨_, _, _, rfl, by decide +kernel, rfl, rfl⟩
theorem ck_Late : CLK 5 R_Late F_Late := ⟨rfl, by decide, i_Late, ⟨t_Late, t_Late_ok⟩, n_Late⟩
theorem ft_5_0 : FTY 5 0 (t_Late 0) true "UpperFloors$House" := ⟨_, _, _, rfl, by decide +kernel, rfl, rfl⟩
theorem ft_5_1 : FTY 5 1 (t_Late 1) true "UpperFloors$House" := ⟨_, _, _, rfl, by decide +kernel, rfl, rfl⟩
theorem ft_5_2 : FTY 5 2 (t_Late 2) true "UpperFloors$House" := ⟨_, _, _, rfl, by decide +kernel, rfl, rfl⟩
theorem ck_Law : CLK 6 R_Law F_Law := ⟨rfl, by decide, i_Law, ⟨t_Law, t_Law_ok⟩, n_Law⟩
theorem ft_6_0 : FTY 6 0 (t_Law 0) true "UpperFloors$Law" := ⟨_, _, _, rfl, by decide +kernel, rfl, rfl⟩
theorem ft_6_1 : FTY 6 1 (t_Law 1) true "UpperFloors$Law" := ⟨_, _, _, rfl, by decide +kernel, rfl, rfl⟩
theorem ft_6_2 : FTY 6 2 (t_Law 2) false "UpperFloors$Law" := ⟨_, _, _, rfl, by decide +kernel, rfl, rfl⟩
theorem ck_Reader : CLK 7 R_Reader F_Reader := ⟨rfl, by decide, i_Reader, ⟨t_Reader, t_Reader_ok⟩, n_Reader⟩
theorem ft_7_0 : FTY 7 0 (t_Reader 0) false "UpperFloors$Reader" := ⟨_, _, _, rfl, by decide +kernel, rfl, rfl⟩
theorem ft_7_1 : FTY 7 1 (t_Reader 1) false "UpperFloors$Reader" := ⟨_, _, _, rfl, by decide +kernel, rfl, rfl⟩
theorem ft_7_2 : FTY 7 2 (t_Reader 2) false "UpperFloors$Reader" := ⟨_, _, _, rfl, by decide +kernel, rfl, rfl⟩
theorem ft_7_3 : FTY 7 3 (t_Reader 3) false "UpperFloors$Reader" := ⟨_, _, _, rfl, by decide +kernel, rfl, rfl⟩
theorem ft_7_4 : FTY 7 4 (t_Reader 4) false "UpperFloors$Reader" := ⟨_, _, _, rfl, by decide +kernel, rfl, rfl⟩
theorem ft_7_5 : FTY 7 5 (t_Reader 5) false "UpperFloors$Reader" := ⟨_, _, _, rfl, by decide +kernel, rfl, rfl⟩
theorem ft_7_6 : FTY 7 6 (t_Reader 6) false "UpperFloors$Reader" := ⟨_, _, _, rfl, by decide +kernel, rfl, rfl⟩
theorem ck_Sheet : CLK 8 R_Sheet F_Sheet := ⟨rfl, by decide, i_Sheet, ⟨t_Sheet, t_Sheet_ok⟩, n_Sheet⟩
theorem ft_8_0 : FTY 8 0 (t_Sheet 0) true "UpperFloors$Sheet" := ⟨_, _, _, rfl, by decide +kernel, rfl, rfl⟩
theorem ft_8_1 : FTY 8 1 (t_Sheet 1) false "UpperFloors$Sheet" := ⟨_, _, _, rfl, by decide +kernel, rfl, rfl⟩
theorem ft_8_2 : FTY 8 2 (t_Sheet 2) false "UpperFloors$Sheet" := ⟨_, _, _, rfl, by decide +kernel, rfl, rfl⟩
theorem ck_Stuck : CLK 9 R_Stuck F_Stuck := ⟨rfl, by decide, i_Stuck, ⟨t_Stuck, t_Stuck_ok⟩, n_Stuck⟩
theorem ft_9_0 : FTY 9 0 (t_Stuck 0) true "UpperFloors$House" := ⟨_, _, _, rfl, by decide +kernel, rfl, rfl⟩
theorem ft_9_1 : FTY 9 1 (t_Stuck 1) true "UpperFloors$House" := ⟨_, _, _, rfl, by decide +kernel, rfl, rfl⟩
theorem ft_9_2 : FTY 9 2 (t_Stuck 2) true "UpperFloors$House" := ⟨_, _, _, rfl, by decide +kernel, rfl, rfl⟩
theorem ck_Town : CLK 10 R_Town F_Town := ⟨rfl, by decide, i_Town, ⟨t_Town, t_Town_ok⟩, n_Town⟩
theorem ft_10_0 : FTY 10 0 (t_Town 0) true "UpperFloors$Town" := ⟨_, _, _, rfl, by decide +kernel, rfl, rfl⟩
theorem ft_10_1 : FTY 10 1 (t_Town 1) true "UpperFloors$Town" := ⟨_, _, _, rfl, by decide +kernel, rfl, rfl⟩
theorem ft_10_2 : FTY 10 2 (t_Town 2) true "UpperFloors$Town" := ⟨_, _, _, rfl, by decide +kernel, rfl, rfl⟩
theorem ft_10_3 : FTY 10 3 (t_Town 3) false "UpperFloors$Town" := ⟨_, _, _, rfl, by decide +kernel, rfl, rfl⟩
theorem ft_10_4 : FTY 10 4 (t_Town 4) false "UpperFloors$Town" := ⟨_, _, _, rfl, by decide +kernel, rfl, rfl⟩
theorem ck_UF : CLK 11 R_UF F_UF := ⟨rfl, by decide, i_UF, ⟨t_UF, t_UF_ok⟩, n_UF⟩
theorem ft_11_0 : FTY 11 0 (t_UF 0) true "UpperFloors" := ⟨_, _, _, rfl, by decide +kernel, rfl, rfl⟩
theorem ft_11_1 : FTY 11 1 (t_UF 1) true "UpperFloors" := ⟨_, _, _, rfl, by decide +kernel, rfl, rfl⟩
theorem ft_11_2 : FTY 11 2 (t_UF 2) true "UpperFloors" := ⟨_, _, _, rfl, by decide +kernel, rfl, rfl⟩
theorem ft_11_3 : FTY 11 3 (t_UF 3) true "UpperFloors" := ⟨_, _, _, rfl, by decide +kernel, rfl, rfl⟩
theorem ft_11_4 : FTY 11 4 (t_UF 4) true "UpperFloors" := ⟨_, _, _, rfl, by decide +kernel, rfl, rfl⟩
theorem ft_11_5 : FTY 11 5 (t_UF 5) true "UpperFloors" := ⟨_, _, _, rfl, by decide +kernel, rfl, rfl⟩
theorem ft_11_6 : FTY 11 6 (t_UF 6) true "UpperFloors" := ⟨_, _, _, rfl, by decide +kernel, rfl, rfl⟩
theorem ft_11_7 : FTY 11 7 (t_UF 7) true "UpperFloors" := ⟨_, _, _, rfl, by decide +kernel, rfl, rfl⟩
theorem ft_11_8 : FTY 11 8 (t_UF 8) false "UpperFloors" := ⟨_, _, _, rfl, by decide +kernel, rfl, rfl⟩
theorem ft_11_9 : FTY 11 9 (t_UF 9) false "UpperFloors" := ⟨_, _, _, rfl, by decide +kernel, rfl, rfl⟩
theorem ft_11_10 : FTY 11 10 (t_UF 10) false "UpperFloors" := ⟨_, _, _, rfl, by decide +kernel, rfl, rfl⟩
theorem ck_MO : CLK 12 R_MO F_MO := ⟨rfl, by decide, i_MO, ⟨t_MO, t_MO_ok⟩, n_MO⟩
theorem ft_12_0 : FTY 12 0 (t_MO 0) false "UpperFloorsModel" := ⟨_, _, _, rfl, by decide +kernel, rfl, rfl⟩
theorem ft_12_1 : FTY 12 1 (t_MO 1) true "UpperFloorsModel" := ⟨_, _, _, rfl, by decide +kernel, rfl, rfl⟩
theorem ft_12_2 : FTY 12 2 (t_MO 2) true "UpperFloorsModel" := ⟨_, _, _, rfl, by decide +kernel, rfl, rfl⟩
theorem ft_12_3 : FTY 12 3 (t_MO 3) true "UpperFloorsModel" := ⟨_, _, _, rfl, by decide +kernel, rfl, rfl⟩
theorem ft_12_4 : FTY 12 4 (t_MO 4) true "UpperFloorsModel" := ⟨_, _, _, rfl, by decide +kernel, rfl, rfl⟩
theorem ft_12_5 : FTY 12 5 (t_MO 5) true "UpperFloorsModel" := ⟨_, _, _, rfl, by decide +kernel, rfl, rfl⟩
theorem ft_12_6 : FTY 12 6 (t_MO 6) true "UpperFloorsModel" := ⟨_, _, _, rfl, by decide +kernel, rfl, rfl⟩
theorem ft_12_7 : FTY 12 7 (t_MO 7) true "UpperFloorsModel" := ⟨_, _, _, rfl, by decide +kernel, rfl, rfl⟩
theorem ft_12_8 : FTY 12 8 (t_MO 8) false "UpperFloorsModel" := ⟨_, _, _, rfl, by decide +kernel, rfl, rfl⟩
theorem ft_12_9 : FTY 12 9 (t_MO 9) true "UpperFloorsModel" := ⟨_, _, _, rfl, by decide +kernel, rfl, rfl⟩
theorem ft_12_10 : FTY 12 10 (t_MO 10) true "UpperFloorsModel" := ⟨_, _, _, rfl, by decide +kernel, rfl, rfl⟩
theorem ft_12_11 : FTY 12 11 (t_MO 11) false "UpperFloorsModel" := ⟨_, _, _, rfl, by decide +kernel, rfl, rfl⟩
theorem ft_12_12 : FTY 12 12 (t_MO 12) false "UpperFloorsModel" := ⟨_, _, _, rfl, by decide +kernel, rfl, rfl⟩
theorem ft_12_13 : FTY 12 13 (t_MO 13) false "UpperFloorsModel" := ⟨_, _, _, rfl, by decide +kernel, rfl, rfl⟩
theorem ft_12_14 : FTY 12 14 (t_MO 14) false "UpperFloorsModel" := ⟨_, _, _, rfl, by decide +kernel, rfl, rfl⟩
theorem ft_12_15 : FTY 12 15 (t_MO 15) false "UpperFloorsModel" := ⟨_, _, _, rfl, by decide +kernel, rfl, rfl⟩
theorem ft_12_16 : FTY 12 16 (t_MO 16) true "UpperFloorsModel" := ⟨_, _, _, rfl, by decide +kernel, rfl, rfl⟩
theorem ft_12_17 : FTY 12 17 (t_MO 17) true "UpperFloorsModel" := ⟨_, _, _, rfl, by decide +kernel, rfl, rfl⟩
theorem ft_12_18 : FTY 12 18 (t_MO 18) true "UpperFloorsModel" := ⟨_, _, _, rfl, by decide +kernel, rfl, rfl⟩
theorem ft_12_19 : FTY 12 19 (t_MO 19) true "UpperFloorsModel" := ⟨_, _, _, rfl, by decide +kernel, rfl, rfl⟩
theorem ft_12_20 : FTY 12 20 (t_MO 20) true "UpperFloorsModel" := ⟨_, _, _, rfl, by decide +kernel, rfl, rfl⟩
theorem ft_12_21 : FTY 12 21 (t_MO 21) false "UpperFloorsModel" := ⟨_, _, _, rfl, by decide +kernel, rfl, rfl⟩
theorem ft_12_22 : FTY 12 22 (t_MO 22) false "UpperFloorsModel" := ⟨_, _, _, rfl, by decide +kernel, rfl, rfl⟩
theorem ft_12_23 : FTY 12 23 (t_MO 23) false "UpperFloorsModel" := ⟨_, _, _, rfl, by decide +kernel, rfl, rfl⟩
theorem ft_12_24 : FTY 12 24 (t_MO 24) false "UpperFloorsModel" := ⟨_, _, _, rfl, by decide +kernel, rfl, rfl⟩
theorem ft_12_25 : FTY 12 25 (t_MO 25) true "UpperFloorsModel" := ⟨_, _, _, rfl, by decide +kernel, rfl, rfl⟩
theorem ft_12_26 : FTY 12 26 (t_MO 26) true "UpperFloorsModel" := ⟨_, _, _, rfl, by decide +kernel, rfl, rfl⟩
theorem ft_12_27 : FTY 12 27 (t_MO 27) false "UpperFloorsModel" := ⟨_, _, _, rfl, by decide +kernel, rfl, rfl⟩
theorem ft_12_28 : FTY 12 28 (t_MO 28) false "UpperFloorsModel" := ⟨_, _, _, rfl, by decide +kernel, rfl, rfl⟩
theorem ft_12_29 : FTY 12 29 (t_MO 29) false "UpperFloorsModel" := ⟨_, _, _, rfl, by decide +kernel, rfl, rfl⟩
theorem ft_12_30 : FTY 12 30 (t_MO 30) true "UpperFloorsModel" := ⟨_, _, _, rfl, by decide +kernel, rfl, rfl⟩
theorem ft_12_31 : FTY 12 31 (t_MO 31) true "UpperFloorsModel" := ⟨_, _, _, rfl, by decide +kernel, rfl, rfl⟩
theorem ft_12_32 : FTY 12 32 (t_MO 32) true "UpperFloorsModel" := ⟨_, _, _, rfl, by decide +kernel, rfl, rfl⟩
theorem ft_12_33 : FTY 12 33 (t_MO 33) true "UpperFloorsModel" := ⟨_, _, _, rfl, by decide +kernel, rfl, rfl⟩
theorem ft_12_34 : FTY 12 34 (t_MO 34) true "UpperFloorsModel" := ⟨_, _, _, rfl, by decide +kernel, rfl, rfl⟩
theorem ft_12_35 : FTY 12 35 (t_MO 35) true "UpperFloorsModel" := ⟨_, _, _, rfl, by decide +kernel, rfl, rfl⟩
theorem ft_12_36 : FTY 12 36 (t_MO 36) true "UpperFloorsModel" := ⟨_, _, _, rfl, by decide +kernel, rfl, rfl⟩
theorem ft_12_37 : FTY 12 37 (t_MO 37) false "UpperFloorsModel" := ⟨_, _, _, rfl, by decide +kernel, rfl, rfl⟩
theorem ft_12_38 : FTY 12 38 (t_MO 38) false "UpperFloorsModel" := ⟨_, _, _, rfl, by decide +kernel, rfl, rfl⟩
theorem ft_12_39 : FTY 12 39 (t_MO 39) true "UpperFloorsModel" := ⟨_, _, _, rfl, by decide +kernel, rfl, rfl⟩
theorem fo_Town_9_10 {o : String} (ho : o = R_Town) : FOK o 9 10 0 := by subst ho; exact ⟨R_Town, F_Town, "UpperFloors$Town", ck_Town, by decide, tG 41 (by decide +kernel) (by decide +kernel), Or.inl rfl⟩
theorem fo_Sheet_29_10 {o : String} (ho : o = R_Sheet) : FOK o 29 10 0 := by subst ho; exact ⟨R_Town, F_Town, "UpperFloors$Town", ck_Town, by decide, tG 42 (by decide +kernel) (by decide +kernel), Or.inl rfl⟩
theorem fo_Dusk_78_10 {o : String} (ho : o = R_Dusk) : FOK o 78 10 0 := by subst ho; exact ⟨R_Town, F_Town, "UpperFloors$Town", ck_Town, by decide, tG 43 (by decide +kernel) (by decide +kernel), Or.inl rfl⟩
theorem fo_UF_121_10 {o : String} (ho : o = R_UF) : FOK o 121 10 0 := by subst ho; exact ⟨R_Town, F_Town, "UpperFloors$Town", ck_Town, by decide, tG 44 (by decide +kernel) (by decide +kernel), Or.inl rfl⟩
theorem fo_Town_15_10 {o : String} (ho : o = R_Town) : FOK o 15 10 1 := by subst ho; exact ⟨R_Town, F_Town, "UpperFloors$Town", ck_Town, by decide, tG 45 (by decide +kernel) (by decide +kernel), Or.inl rfl⟩
theorem fo_UF_124_10 {o : String} (ho : o = R_UF) : FOK o 124 10 1 := by subst ho; exact ⟨R_Town, F_Town, "UpperFloors$Town", ck_Town, by decide, tG 46 (by decide +kernel) (by decide +kernel), Or.inl rfl⟩
theorem fo_Dusk_118_10 {o : String} (ho : o = R_Dusk) : FOK o 118 10 1 := by subst ho; exact ⟨R_Town, F_Town, "UpperFloors$Town", ck_Town, by decide, tG 47 (by decide +kernel) (by decide +kernel), Or.inl rfl⟩
theorem fo_Town_18_10 {o : String} (ho : o = R_Town) : FOK o 18 10 2 := by subst ho; exact ⟨R_Town, F_Town, "UpperFloors$Town", ck_Town, by decide, tG 48 (by decide +kernel) (by decide +kernel), Or.inl rfl⟩
theorem fo_Dusk_65_10 {o : String} (ho : o = R_Dusk) : FOK o 65 10 2 := by subst ho; exact ⟨R_Town, F_Town, "UpperFloors$Town", ck_Town, by decide, tG 49 (by decide +kernel) (by decide +kernel), Or.inl rfl⟩
theorem fo_UF_127_10 {o : String} (ho : o = R_UF) : FOK o 127 10 2 := by subst ho; exact ⟨R_Town, F_Town, "UpperFloors$Town", ck_Town, by decide, tG 50 (by decide +kernel) (by decide +kernel), Or.inl rfl⟩
theorem fo_Town_21_10 {o : String} (ho : o = R_Town) : FOK o 21 10 3 := by subst ho; exact ⟨R_Town, F_Town, "UpperFloors$Town", ck_Town, by decide, tG 51 (by decide +kernel) (by decide +kernel), Or.inl rfl⟩
theorem fo_UF_80_10 {o : String} (ho : o = R_UF) : FOK o 80 10 3 := by subst ho; exact ⟨R_Town, F_Town, "UpperFloors$Town", ck_Town, by decide, tG 52 (by decide +kernel) (by decide +kernel), Or.inl rfl⟩
theorem fo_Sheet_26_10 {o : String} (ho : o = R_Sheet) : FOK o 26 10 3 := by subst ho; exact ⟨R_Town, F_Town, "UpperFloors$Town", ck_Town, by decide, tG 53 (by decide +kernel) (by decide +kernel), Or.inl rfl⟩
theorem fo_Dusk_61_10 {o : String} (ho : o = R_Dusk) : FOK o 61 10 3 := by subst ho; exact ⟨R_Town, F_Town, "UpperFloors$Town", ck_Town, by decide, tG 54 (by decide +kernel) (by decide +kernel), Or.inl rfl⟩
theorem fo_Town_25_10 {o : String} (ho : o = R_Town) : FOK o 25 10 4 := by subst ho; exact ⟨R_Town, F_Town, "UpperFloors$Town", ck_Town, by decide, tG 55 (by decide +kernel) (by decide +kernel), Or.inl rfl⟩
theorem fo_UF_89_10 {o : String} (ho : o = R_UF) : FOK o 89 10 4 := by subst ho; exact ⟨R_Town, F_Town, "UpperFloors$Town", ck_Town, by decide, tG 56 (by decide +kernel) (by decide +kernel), Or.inl rfl⟩
theorem fo_Dusk_12_2 {o : String} (ho : o = R_Dusk) : FOK o 12 2 0 := by subst ho; exact ⟨R_Dusk, F_Dusk, "UpperFloors$Dusk", ck_Dusk, by decide, tG 78 (by decide +kernel) (by decide +kernel), Or.inl rfl⟩
theorem fo_UF_149_2 {o : String} (ho : o = R_UF) : FOK o 149 2 0 := by subst ho; exact ⟨R_Dusk, F_Dusk, "UpperFloors$Dusk", ck_Dusk, by decide, tG 79 (by decide +kernel) (by decide +kernel), Or.inl rfl⟩
theorem fo_Dusk_20_2 {o : String} (ho : o = R_Dusk) : FOK o 20 2 1 := by subst ho; exact ⟨R_Dusk, F_Dusk, "UpperFloors$Dusk", ck_Dusk, by decide, tG 80 (by decide +kernel) (by decide +kernel), Or.inl rfl⟩
theorem fo_Dusk_24_2 {o : String} (ho : o = R_Dusk) : FOK o 24 2 2 := by subst ho; exact ⟨R_Dusk, F_Dusk, "UpperFloors$Dusk", ck_Dusk, by decide, tG 81 (by decide +kernel) (by decide +kernel), Or.inl rfl⟩
theorem fo_Dusk_28_2 {o : String} (ho : o = R_Dusk) : FOK o 28 2 3 := by subst ho; exact ⟨R_Dusk, F_Dusk, "UpperFloors$Dusk", ck_Dusk, by decide, tG 82 (by decide +kernel) (by decide +kernel), Or.inl rfl⟩
theorem fo_UF_152_2 {o : String} (ho : o = R_UF) : FOK o 152 2 3 := by subst ho; exact ⟨R_Dusk, F_Dusk, "UpperFloors$Dusk", ck_Dusk, by decide, tG 83 (by decide +kernel) (by decide +kernel), Or.inl rfl⟩
theorem fo_Dusk_31_2 {o : String} (ho : o = R_Dusk) : FOK o 31 2 4 := by subst ho; exact ⟨R_Dusk, F_Dusk, "UpperFloors$Dusk", ck_Dusk, by decide, tG 84 (by decide +kernel) (by decide +kernel), Or.inl rfl⟩
theorem fo_UF_158_2 {o : String} (ho : o = R_UF) : FOK o 158 2 4 := by subst ho; exact ⟨R_Dusk, F_Dusk, "UpperFloors$Dusk", ck_Dusk, by decide, tG 85 (by decide +kernel) (by decide +kernel), Or.inl rfl⟩
theorem fo_Dusk_34_2 {o : String} (ho : o = R_Dusk) : FOK o 34 2 5 := by subst ho; exact ⟨R_Dusk, F_Dusk, "UpperFloors$Dusk", ck_Dusk, by decide, tG 86 (by decide +kernel) (by decide +kernel), Or.inl rfl⟩
theorem fo_UF_155_2 {o : String} (ho : o = R_UF) : FOK o 155 2 5 := by subst ho; exact ⟨R_Dusk, F_Dusk, "UpperFloors$Dusk", ck_Dusk, by decide, tG 87 (by decide +kernel) (by decide +kernel), Or.inl rfl⟩
theorem fo_Dusk_39_2 {o : String} (ho : o = R_Dusk) : FOK o 39 2 6 := by subst ho; exact ⟨R_Dusk, F_Dusk, "UpperFloors$Dusk", ck_Dusk, by decide, tG 88 (by decide +kernel) (by decide +kernel), Or.inl rfl⟩
theorem fo_Dusk_42_2 {o : String} (ho : o = R_Dusk) : FOK o 42 2 7 := by subst ho; exact ⟨R_Dusk, F_Dusk, "UpperFloors$Dusk", ck_Dusk, by decide, tG 89 (by decide +kernel) (by decide +kernel), Or.inl rfl⟩
theorem fo_Dusk_49_2 {o : String} (ho : o = R_Dusk) : FOK o 49 2 8 := by subst ho; exact ⟨R_Dusk, F_Dusk, "UpperFloors$Dusk", ck_Dusk, by decide, tG 90 (by decide +kernel) (by decide +kernel), Or.inl rfl⟩
theorem fo_UF_208_2 {o : String} (ho : o = R_UF) : FOK o 208 2 8 := by subst ho; exact ⟨R_Dusk, F_Dusk, "UpperFloors$Dusk", ck_Dusk, by decide, tG 91 (by decide +kernel) (by decide +kernel), Or.inl rfl⟩
theorem fo_Reader_9_7 {o : String} (ho : o = R_Reader) : FOK o 9 7 0 := by subst ho; exact ⟨R_Reader, F_Reader, "UpperFloors$Reader", ck_Reader, by decide, tG 117 (by decide +kernel) (by decide +kernel), Or.inl rfl⟩
theorem fo_Reader_21_7 {o : String} (ho : o = R_Reader) : FOK o 21 7 1 := by subst ho; exact ⟨R_Reader, F_Reader, "UpperFloors$Reader", ck_Reader, by decide, tG 118 (by decide +kernel) (by decide +kernel), Or.inl rfl⟩
theorem fo_Reader_25_7 {o : String} (ho : o = R_Reader) : FOK o 25 7 2 := by subst ho; exact ⟨R_Reader, F_Reader, "UpperFloors$Reader", ck_Reader, by decide, tG 119 (by decide +kernel) (by decide +kernel), Or.inl rfl⟩
theorem fo_Reader_34_7 {o : String} (ho : o = R_Reader) : FOK o 34 7 3 := by subst ho; exact ⟨R_Reader, F_Reader, "UpperFloors$Reader", ck_Reader, by decide, tG 120 (by decide +kernel) (by decide +kernel), Or.inl rfl⟩
theorem fo_Reader_50_7 {o : String} (ho : o = R_Reader) : FOK o 50 7 4 := by subst ho; exact ⟨R_Reader, F_Reader, "UpperFloors$Reader", ck_Reader, by decide, tG 121 (by decide +kernel) (by decide +kernel), Or.inl rfl⟩
theorem fo_Reader_53_7 {o : String} (ho : o = R_Reader) : FOK o 53 7 5 := by subst ho; exact ⟨R_Reader, F_Reader, "UpperFloors$Reader", ck_Reader, by decide, tG 122 (by decide +kernel) (by decide +kernel), Or.inl rfl⟩
theorem fo_Reader_78_7 {o : String} (ho : o = R_Reader) : FOK o 78 7 6 := by subst ho; exact ⟨R_Reader, F_Reader, "UpperFloors$Reader", ck_Reader, by decide, tG 123 (by decide +kernel) (by decide +kernel), Or.inl rfl⟩
theorem fo_House_7_4 {o : String} (ho : o = R_House) : FOK o 7 4 0 := by subst ho; exact ⟨R_House, F_House, "UpperFloors$House", ck_House, by decide, tG 144 (by decide +kernel) (by decide +kernel), Or.inl rfl⟩
theorem fo_House_7_3 {o : String} (ho : o = R_House) : FOK o 7 3 0 := by subst ho; exact ⟨R_Heavy, F_Heavy, "UpperFloors$House", ck_Heavy, by decide, tG 144 (by decide +kernel) (by decide +kernel), Or.inl rfl⟩
theorem fo_House_7_1 {o : String} (ho : o = R_House) : FOK o 7 1 0 := by subst ho; exact ⟨R_Braked, F_Braked, "UpperFloors$House", ck_Braked, by decide, tG 144 (by decide +kernel) (by decide +kernel), Or.inl rfl⟩
theorem fo_House_7_0 {o : String} (ho : o = R_House) : FOK o 7 0 0 := by subst ho; exact ⟨R_Aunt, F_Aunt, "UpperFloors$House", ck_Aunt, by decide, tG 144 (by decide +kernel) (by decide +kernel), Or.inl rfl⟩
theorem fo_House_7_9 {o : String} (ho : o = R_House) : FOK o 7 9 0 := by subst ho; exact ⟨R_Stuck, F_Stuck, "UpperFloors$House", ck_Stuck, by decide, tG 144 (by decide +kernel) (by decide +kernel), Or.inl rfl⟩
theorem fo_House_7_5 {o : String} (ho : o = R_House) : FOK o 7 5 0 := by subst ho; exact ⟨R_Late, F_Late, "UpperFloors$House", ck_Late, by decide, tG 144 (by decide +kernel) (by decide +kernel), Or.inl rfl⟩
theorem foh_House_7 {o : String} (ho : o = R_House) : ∀ c, famP c → FOK o 7 c 0 := by
  intro c hc
  rcases hc with rfl | rfl | rfl | rfl | rfl | rfl
  · exact fo_House_7_0 ho
  · exact fo_House_7_1 ho
  · exact fo_House_7_3 ho
  · exact fo_House_7_4 ho
  · exact fo_House_7_5 ho
  · exact fo_House_7_9 ho
theorem fo_UF_134_4 {o : String} (ho : o = R_UF) : FOK o 134 4 0 := by subst ho; exact ⟨R_House, F_House, "UpperFloors$House", ck_House, by decide, tG 145 (by decide +kernel) (by decide +kernel), Or.inl rfl⟩
theorem fo_UF_134_3 {o : String} (ho : o = R_UF) : FOK o 134 3 0 := by subst ho; exact ⟨R_Heavy, F_Heavy, "UpperFloors$House", ck_Heavy, by decide, tG 145 (by decide +kernel) (by decide +kernel), Or.inl rfl⟩
theorem fo_UF_134_1 {o : String} (ho : o = R_UF) : FOK o 134 1 0 := by subst ho; exact ⟨R_Braked, F_Braked, "UpperFloors$House", ck_Braked, by decide, tG 145 (by decide +kernel) (by decide +kernel), Or.inl rfl⟩
theorem fo_UF_134_0 {o : String} (ho : o = R_UF) : FOK o 134 0 0 := by subst ho; exact ⟨R_Aunt, F_Aunt, "UpperFloors$House", ck_Aunt, by decide, tG 145 (by decide +kernel) (by decide +kernel), Or.inl rfl⟩
theorem fo_UF_134_9 {o : String} (ho : o = R_UF) : FOK o 134 9 0 := by subst ho; exact ⟨R_Stuck, F_Stuck, "UpperFloors$House", ck_Stuck, by decide, tG 145 (by decide +kernel) (by decide +kernel), Or.inl rfl⟩
theorem fo_UF_134_5 {o : String} (ho : o = R_UF) : FOK o 134 5 0 := by subst ho; exact ⟨R_Late, F_Late, "UpperFloors$House", ck_Late, by decide, tG 145 (by decide +kernel) (by decide +kernel), Or.inl rfl⟩
theorem foh_UF_134 {o : String} (ho : o = R_UF) : ∀ c, famP c → FOK o 134 c 0 := by
  intro c hc
  rcases hc with rfl | rfl | rfl | rfl | rfl | rfl
  · exact fo_UF_134_0 ho
  · exact fo_UF_134_1 ho
  · exact fo_UF_134_3 ho
  · exact fo_UF_134_4 ho
  · exact fo_UF_134_5 ho
  · exact fo_UF_134_9 ho
theorem fo_House_13_4 {o : String} (ho : o = R_House) : FOK o 13 4 1 := by subst ho; exact ⟨R_House, F_House, "UpperFloors$House", ck_House, by decide, tG 146 (by decide +kernel) (by decide +kernel), Or.inl rfl⟩
theorem fo_House_13_3 {o : String} (ho : o = R_House) : FOK o 13 3 1 := by subst ho; exact ⟨R_Heavy, F_Heavy, "UpperFloors$House", ck_Heavy, by decide, tG 146 (by decide +kernel) (by decide +kernel), Or.inl rfl⟩
theorem fo_House_13_1 {o : String} (ho : o = R_House) : FOK o 13 1 1 := by subst ho; exact ⟨R_Braked, F_Braked, "UpperFloors$House", ck_Braked, by decide, tG 146 (by decide +kernel) (by decide +kernel), Or.inl rfl⟩
theorem fo_House_13_0 {o : String} (ho : o = R_House) : FOK o 13 0 1 := by subst ho; exact ⟨R_Aunt, F_Aunt, "UpperFloors$House", ck_Aunt, by decide, tG 146 (by decide +kernel) (by decide +kernel), Or.inl rfl⟩
theorem fo_House_13_9 {o : String} (ho : o = R_House) : FOK o 13 9 1 := by subst ho; exact ⟨R_Stuck, F_Stuck, "UpperFloors$House", ck_Stuck, by decide, tG 146 (by decide +kernel) (by decide +kernel), Or.inl rfl⟩
theorem fo_House_13_5 {o : String} (ho : o = R_House) : FOK o 13 5 1 := by subst ho; exact ⟨R_Late, F_Late, "UpperFloors$House", ck_Late, by decide, tG 146 (by decide +kernel) (by decide +kernel), Or.inl rfl⟩
theorem foh_House_13 {o : String} (ho : o = R_House) : ∀ c, famP c → FOK o 13 c 1 := by
  intro c hc
  rcases hc with rfl | rfl | rfl | rfl | rfl | rfl
  · exact fo_House_13_0 ho
  · exact fo_House_13_1 ho
  · exact fo_House_13_3 ho
  · exact fo_House_13_4 ho
  · exact fo_House_13_5 ho
  · exact fo_House_13_9 ho
theorem fo_UF_137_4 {o : String} (ho : o = R_UF) : FOK o 137 4 1 := by subst ho; exact ⟨R_House, F_House, "UpperFloors$House", ck_House, by decide, tG 147 (by decide +kernel) (by decide +kernel), Or.inl rfl⟩
theorem fo_UF_137_3 {o : String} (ho : o = R_UF) : FOK o 137 3 1 := by subst ho; exact ⟨R_Heavy, F_Heavy, "UpperFloors$House", ck_Heavy, by decide, tG 147 (by decide +kernel) (by decide +kernel), Or.inl rfl⟩
theorem fo_UF_137_1 {o : String} (ho : o = R_UF) : FOK o 137 1 1 := by subst ho; exact ⟨R_Braked, F_Braked, "UpperFloors$House", ck_Braked, by decide, tG 147 (by decide +kernel) (by decide +kernel), Or.inl rfl⟩
theorem fo_UF_137_0 {o : String} (ho : o = R_UF) : FOK o 137 0 1 := by subst ho; exact ⟨R_Aunt, F_Aunt, "UpperFloors$House", ck_Aunt, by decide, tG 147 (by decide +kernel) (by decide +kernel), Or.inl rfl⟩
theorem fo_UF_137_9 {o : String} (ho : o = R_UF) : FOK o 137 9 1 := by subst ho; exact ⟨R_Stuck, F_Stuck, "UpperFloors$House", ck_Stuck, by decide, tG 147 (by decide +kernel) (by decide +kernel), Or.inl rfl⟩
theorem fo_UF_137_5 {o : String} (ho : o = R_UF) : FOK o 137 5 1 := by subst ho; exact ⟨R_Late, F_Late, "UpperFloors$House", ck_Late, by decide, tG 147 (by decide +kernel) (by decide +kernel), Or.inl rfl⟩
theorem foh_UF_137 {o : String} (ho : o = R_UF) : ∀ c, famP c → FOK o 137 c 1 := by
  intro c hc
  rcases hc with rfl | rfl | rfl | rfl | rfl | rfl
  · exact fo_UF_137_0 ho
  · exact fo_UF_137_1 ho
  · exact fo_UF_137_3 ho
  · exact fo_UF_137_4 ho
  · exact fo_UF_137_5 ho
  · exact fo_UF_137_9 ho
theorem fo_Dusk_115_4 {o : String} (ho : o = R_Dusk) : FOK o 115 4 1 := by subst ho; exact ⟨R_House, F_House, "UpperFloors$House", ck_House, by decide, tG 148 (by decide +kernel) (by decide +kernel), Or.inl rfl⟩
theorem fo_Dusk_115_3 {o : String} (ho : o = R_Dusk) : FOK o 115 3 1 := by subst ho; exact ⟨R_Heavy, F_Heavy, "UpperFloors$House", ck_Heavy, by decide, tG 148 (by decide +kernel) (by decide +kernel), Or.inl rfl⟩
theorem fo_Dusk_115_1 {o : String} (ho : o = R_Dusk) : FOK o 115 1 1 := by subst ho; exact ⟨R_Braked, F_Braked, "UpperFloors$House", ck_Braked, by decide, tG 148 (by decide +kernel) (by decide +kernel), Or.inl rfl⟩
theorem fo_Dusk_115_0 {o : String} (ho : o = R_Dusk) : FOK o 115 0 1 := by subst ho; exact ⟨R_Aunt, F_Aunt, "UpperFloors$House", ck_Aunt, by decide, tG 148 (by decide +kernel) (by decide +kernel), Or.inl rfl⟩
theorem fo_Dusk_115_9 {o : String} (ho : o = R_Dusk) : FOK o 115 9 1 := by subst ho; exact ⟨R_Stuck, F_Stuck, "UpperFloors$House", ck_Stuck, by decide, tG 148 (by decide +kernel) (by decide +kernel), Or.inl rfl⟩
theorem fo_Dusk_115_5 {o : String} (ho : o = R_Dusk) : FOK o 115 5 1 := by subst ho; exact ⟨R_Late, F_Late, "UpperFloors$House", ck_Late, by decide, tG 148 (by decide +kernel) (by decide +kernel), Or.inl rfl⟩
theorem foh_Dusk_115 {o : String} (ho : o = R_Dusk) : ∀ c, famP c → FOK o 115 c 1 := by
  intro c hc
  rcases hc with rfl | rfl | rfl | rfl | rfl | rfl
  · exact fo_Dusk_115_0 ho
  · exact fo_Dusk_115_1 ho
  · exact fo_Dusk_115_3 ho
  · exact fo_Dusk_115_4 ho
  · exact fo_Dusk_115_5 ho
  · exact fo_Dusk_115_9 ho
theorem fo_House_16_4 {o : String} (ho : o = R_House) : FOK o 16 4 2 := by subst ho; exact ⟨R_House, F_House, "UpperFloors$House", ck_House, by decide, tG 149 (by decide +kernel) (by decide +kernel), Or.inl rfl⟩
theorem fo_House_16_3 {o : String} (ho : o = R_House) : FOK o 16 3 2 := by subst ho; exact ⟨R_Heavy, F_Heavy, "UpperFloors$House", ck_Heavy, by decide, tG 149 (by decide +kernel) (by decide +kernel), Or.inl rfl⟩
theorem fo_House_16_1 {o : String} (ho : o = R_House) : FOK o 16 1 2 := by subst ho; exact ⟨R_Braked, F_Braked, "UpperFloors$House", ck_Braked, by decide, tG 149 (by decide +kernel) (by decide +kernel), Or.inl rfl⟩
theorem fo_House_16_0 {o : String} (ho : o = R_House) : FOK o 16 0 2 := by subst ho; exact ⟨R_Aunt, F_Aunt, "UpperFloors$House", ck_Aunt, by decide, tG 149 (by decide +kernel) (by decide +kernel), Or.inl rfl⟩
theorem fo_House_16_9 {o : String} (ho : o = R_House) : FOK o 16 9 2 := by subst ho; exact ⟨R_Stuck, F_Stuck, "UpperFloors$House", ck_Stuck, by decide, tG 149 (by decide +kernel) (by decide +kernel), Or.inl rfl⟩
theorem fo_House_16_5 {o : String} (ho : o = R_House) : FOK o 16 5 2 := by subst ho; exact ⟨R_Late, F_Late, "UpperFloors$House", ck_Late, by decide, tG 149 (by decide +kernel) (by decide +kernel), Or.inl rfl⟩
theorem foh_House_16 {o : String} (ho : o = R_House) : ∀ c, famP c → FOK o 16 c 2 := by
  intro c hc
  rcases hc with rfl | rfl | rfl | rfl | rfl | rfl
  · exact fo_House_16_0 ho
  · exact fo_House_16_1 ho
  · exact fo_House_16_3 ho
  · exact fo_House_16_4 ho
  · exact fo_House_16_5 ho
  · exact fo_House_16_9 ho
theorem fo_Stuck_7_4 {o : String} (ho : o = R_Stuck) : FOK o 7 4 2 := by subst ho; exact ⟨R_House, F_House, "UpperFloors$Stuck", ck_House, by decide, tG 150 (by decide +kernel) (by decide +kernel), Or.inr (tG 151 (by decide +kernel) (by decide +kernel))⟩
theorem fo_Stuck_7_3 {o : String} (ho : o = R_Stuck) : FOK o 7 3 2 := by subst ho; exact ⟨R_Heavy, F_Heavy, "UpperFloors$Stuck", ck_Heavy, by decide, tG 150 (by decide +kernel) (by decide +kernel), Or.inr (tG 151 (by decide +kernel) (by decide +kernel))⟩
theorem fo_Stuck_7_1 {o : String} (ho : o = R_Stuck) : FOK o 7 1 2 := by subst ho; exact ⟨R_Braked, F_Braked, "UpperFloors$Stuck", ck_Braked, by decide, tG 150 (by decide +kernel) (by decide +kernel), Or.inr (tG 151 (by decide +kernel) (by decide +kernel))⟩
theorem fo_Stuck_7_0 {o : String} (ho : o = R_Stuck) : FOK o 7 0 2 := by subst ho; exact ⟨R_Aunt, F_Aunt, "UpperFloors$Stuck", ck_Aunt, by decide, tG 150 (by decide +kernel) (by decide +kernel), Or.inr (tG 151 (by decide +kernel) (by decide +kernel))⟩
theorem fo_Stuck_7_9 {o : String} (ho : o = R_Stuck) : FOK o 7 9 2 := by subst ho; exact ⟨R_Stuck, F_Stuck, "UpperFloors$Stuck", ck_Stuck, by decide, tG 150 (by decide +kernel) (by decide +kernel), Or.inr (tG 151 (by decide +kernel) (by decide +kernel))⟩
theorem fo_Stuck_7_5 {o : String} (ho : o = R_Stuck) : FOK o 7 5 2 := by subst ho; exact ⟨R_Late, F_Late, "UpperFloors$Stuck", ck_Late, by decide, tG 150 (by decide +kernel) (by decide +kernel), Or.inr (tG 151 (by decide +kernel) (by decide +kernel))⟩
theorem foh_Stuck_7 {o : String} (ho : o = R_Stuck) : ∀ c, famP c → FOK o 7 c 2 := by
  intro c hc
  rcases hc with rfl | rfl | rfl | rfl | rfl | rfl
  · exact fo_Stuck_7_0 ho
  · exact fo_Stuck_7_1 ho
  · exact fo_Stuck_7_3 ho
  · exact fo_Stuck_7_4 ho
  · exact fo_Stuck_7_5 ho
  · exact fo_Stuck_7_9 ho
theorem fo_Braked_11_4 {o : String} (ho : o = R_Braked) : FOK o 11 4 2 := by subst ho; exact ⟨R_House, F_House, "UpperFloors$Braked", ck_House, by decide, tG 152 (by decide +kernel) (by decide +kernel), Or.inr (tG 153 (by decide +kernel) (by decide +kernel))⟩
theorem fo_Braked_11_3 {o : String} (ho : o = R_Braked) : FOK o 11 3 2 := by subst ho; exact ⟨R_Heavy, F_Heavy, "UpperFloors$Braked", ck_Heavy, by decide, tG 152 (by decide +kernel) (by decide +kernel), Or.inr (tG 153 (by decide +kernel) (by decide +kernel))⟩
theorem fo_Braked_11_1 {o : String} (ho : o = R_Braked) : FOK o 11 1 2 := by subst ho; exact ⟨R_Braked, F_Braked, "UpperFloors$Braked", ck_Braked, by decide, tG 152 (by decide +kernel) (by decide +kernel), Or.inr (tG 153 (by decide +kernel) (by decide +kernel))⟩
theorem fo_Braked_11_0 {o : String} (ho : o = R_Braked) : FOK o 11 0 2 := by subst ho; exact ⟨R_Aunt, F_Aunt, "UpperFloors$Braked", ck_Aunt, by decide, tG 152 (by decide +kernel) (by decide +kernel), Or.inr (tG 153 (by decide +kernel) (by decide +kernel))⟩
theorem fo_Braked_11_9 {o : String} (ho : o = R_Braked) : FOK o 11 9 2 := by subst ho; exact ⟨R_Stuck, F_Stuck, "UpperFloors$Braked", ck_Stuck, by decide, tG 152 (by decide +kernel) (by decide +kernel), Or.inr (tG 153 (by decide +kernel) (by decide +kernel))⟩
theorem fo_Braked_11_5 {o : String} (ho : o = R_Braked) : FOK o 11 5 2 := by subst ho; exact ⟨R_Late, F_Late, "UpperFloors$Braked", ck_Late, by decide, tG 152 (by decide +kernel) (by decide +kernel), Or.inr (tG 153 (by decide +kernel) (by decide +kernel))⟩
theorem foh_Braked_11 {o : String} (ho : o = R_Braked) : ∀ c, famP c → FOK o 11 c 2 := by
  intro c hc
  rcases hc with rfl | rfl | rfl | rfl | rfl | rfl
  · exact fo_Braked_11_0 ho
  · exact fo_Braked_11_1 ho
  · exact fo_Braked_11_3 ho
  · exact fo_Braked_11_4 ho
  · exact fo_Braked_11_5 ho
  · exact fo_Braked_11_9 ho
theorem fo_Heavy_11_4 {o : String} (ho : o = R_Heavy) : FOK o 11 4 2 := by subst ho; exact ⟨R_House, F_House, "UpperFloors$Heavy", ck_House, by decide, tG 154 (by decide +kernel) (by decide +kernel), Or.inr (tG 155 (by decide +kernel) (by decide +kernel))⟩
theorem fo_Heavy_11_3 {o : String} (ho : o = R_Heavy) : FOK o 11 3 2 := by subst ho; exact ⟨R_Heavy, F_Heavy, "UpperFloors$Heavy", ck_Heavy, by decide, tG 154 (by decide +kernel) (by decide +kernel), Or.inr (tG 155 (by decide +kernel) (by decide +kernel))⟩
theorem fo_Heavy_11_1 {o : String} (ho : o = R_Heavy) : FOK o 11 1 2 := by subst ho; exact ⟨R_Braked, F_Braked, "UpperFloors$Heavy", ck_Braked, by decide, tG 154 (by decide +kernel) (by decide +kernel), Or.inr (tG 155 (by decide +kernel) (by decide +kernel))⟩
theorem fo_Heavy_11_0 {o : String} (ho : o = R_Heavy) : FOK o 11 0 2 := by subst ho; exact ⟨R_Aunt, F_Aunt, "UpperFloors$Heavy", ck_Aunt, by decide, tG 154 (by decide +kernel) (by decide +kernel), Or.inr (tG 155 (by decide +kernel) (by decide +kernel))⟩
theorem fo_Heavy_11_9 {o : String} (ho : o = R_Heavy) : FOK o 11 9 2 := by subst ho; exact ⟨R_Stuck, F_Stuck, "UpperFloors$Heavy", ck_Stuck, by decide, tG 154 (by decide +kernel) (by decide +kernel), Or.inr (tG 155 (by decide +kernel) (by decide +kernel))⟩
theorem fo_Heavy_11_5 {o : String} (ho : o = R_Heavy) : FOK o 11 5 2 := by subst ho; exact ⟨R_Late, F_Late, "UpperFloors$Heavy", ck_Late, by decide, tG 154 (by decide +kernel) (by decide +kernel), Or.inr (tG 155 (by decide +kernel) (by decide +kernel))⟩
theorem foh_Heavy_11 {o : String} (ho : o = R_Heavy) : ∀ c, famP c → FOK o 11 c 2 := by
  intro c hc
  rcases hc with rfl | rfl | rfl | rfl | rfl | rfl
  · exact fo_Heavy_11_0 ho
  · exact fo_Heavy_11_1 ho
  · exact fo_Heavy_11_3 ho
  · exact fo_Heavy_11_4 ho
  · exact fo_Heavy_11_5 ho
  · exact fo_Heavy_11_9 ho
theorem fo_Late_11_4 {o : String} (ho : o = R_Late) : FOK o 11 4 2 := by subst ho; exact ⟨R_House, F_House, "UpperFloors$Late", ck_House, by decide, tG 156 (by decide +kernel) (by decide +kernel), Or.inr (tG 157 (by decide +kernel) (by decide +kernel))⟩
theorem fo_Late_11_3 {o : String} (ho : o = R_Late) : FOK o 11 3 2 := by subst ho; exact ⟨R_Heavy, F_Heavy, "UpperFloors$Late", ck_Heavy, by decide, tG 156 (by decide +kernel) (by decide +kernel), Or.inr (tG 157 (by decide +kernel) (by decide +kernel))⟩
theorem fo_Late_11_1 {o : String} (ho : o = R_Late) : FOK o 11 1 2 := by subst ho; exact ⟨R_Braked, F_Braked, "UpperFloors$Late", ck_Braked, by decide, tG 156 (by decide +kernel) (by decide +kernel), Or.inr (tG 157 (by decide +kernel) (by decide +kernel))⟩
theorem fo_Late_11_0 {o : String} (ho : o = R_Late) : FOK o 11 0 2 := by subst ho; exact ⟨R_Aunt, F_Aunt, "UpperFloors$Late", ck_Aunt, by decide, tG 156 (by decide +kernel) (by decide +kernel), Or.inr (tG 157 (by decide +kernel) (by decide +kernel))⟩
theorem fo_Late_11_9 {o : String} (ho : o = R_Late) : FOK o 11 9 2 := by subst ho; exact ⟨R_Stuck, F_Stuck, "UpperFloors$Late", ck_Stuck, by decide, tG 156 (by decide +kernel) (by decide +kernel), Or.inr (tG 157 (by decide +kernel) (by decide +kernel))⟩
theorem fo_Late_11_5 {o : String} (ho : o = R_Late) : FOK o 11 5 2 := by subst ho; exact ⟨R_Late, F_Late, "UpperFloors$Late", ck_Late, by decide, tG 156 (by decide +kernel) (by decide +kernel), Or.inr (tG 157 (by decide +kernel) (by decide +kernel))⟩
theorem foh_Late_11 {o : String} (ho : o = R_Late) : ∀ c, famP c → FOK o 11 c 2 := by
  intro c hc
  rcases hc with rfl | rfl | rfl | rfl | rfl | rfl
  · exact fo_Late_11_0 ho
  · exact fo_Late_11_1 ho
  · exact fo_Late_11_3 ho
  · exact fo_Late_11_4 ho
  · exact fo_Late_11_5 ho
  · exact fo_Late_11_9 ho
theorem fo_UF_140_4 {o : String} (ho : o = R_UF) : FOK o 140 4 2 := by subst ho; exact ⟨R_House, F_House, "UpperFloors$House", ck_House, by decide, tG 158 (by decide +kernel) (by decide +kernel), Or.inl rfl⟩
theorem fo_UF_140_3 {o : String} (ho : o = R_UF) : FOK o 140 3 2 := by subst ho; exact ⟨R_Heavy, F_Heavy, "UpperFloors$House", ck_Heavy, by decide, tG 158 (by decide +kernel) (by decide +kernel), Or.inl rfl⟩
theorem fo_UF_140_1 {o : String} (ho : o = R_UF) : FOK o 140 1 2 := by subst ho; exact ⟨R_Braked, F_Braked, "UpperFloors$House", ck_Braked, by decide, tG 158 (by decide +kernel) (by decide +kernel), Or.inl rfl⟩
theorem fo_UF_140_0 {o : String} (ho : o = R_UF) : FOK o 140 0 2 := by subst ho; exact ⟨R_Aunt, F_Aunt, "UpperFloors$House", ck_Aunt, by decide, tG 158 (by decide +kernel) (by decide +kernel), Or.inl rfl⟩
theorem fo_UF_140_9 {o : String} (ho : o = R_UF) : FOK o 140 9 2 := by subst ho; exact ⟨R_Stuck, F_Stuck, "UpperFloors$House", ck_Stuck, by decide, tG 158 (by decide +kernel) (by decide +kernel), Or.inl rfl⟩
theorem fo_UF_140_5 {o : String} (ho : o = R_UF) : FOK o 140 5 2 := by subst ho; exact ⟨R_Late, F_Late, "UpperFloors$House", ck_Late, by decide, tG 158 (by decide +kernel) (by decide +kernel), Or.inl rfl⟩
theorem foh_UF_140 {o : String} (ho : o = R_UF) : ∀ c, famP c → FOK o 140 c 2 := by
  intro c hc
  rcases hc with rfl | rfl | rfl | rfl | rfl | rfl
  · exact fo_UF_140_0 ho
  · exact fo_UF_140_1 ho
  · exact fo_UF_140_3 ho
  · exact fo_UF_140_4 ho
  · exact fo_UF_140_5 ho
  · exact fo_UF_140_9 ho
theorem fo_Dusk_121_4 {o : String} (ho : o = R_Dusk) : FOK o 121 4 2 := by subst ho; exact ⟨R_House, F_House, "UpperFloors$House", ck_House, by decide, tG 159 (by decide +kernel) (by decide +kernel), Or.inl rfl⟩
theorem fo_Dusk_121_3 {o : String} (ho : o = R_Dusk) : FOK o 121 3 2 := by subst ho; exact ⟨R_Heavy, F_Heavy, "UpperFloors$House", ck_Heavy, by decide, tG 159 (by decide +kernel) (by decide +kernel), Or.inl rfl⟩
theorem fo_Dusk_121_1 {o : String} (ho : o = R_Dusk) : FOK o 121 1 2 := by subst ho; exact ⟨R_Braked, F_Braked, "UpperFloors$House", ck_Braked, by decide, tG 159 (by decide +kernel) (by decide +kernel), Or.inl rfl⟩
theorem fo_Dusk_121_0 {o : String} (ho : o = R_Dusk) : FOK o 121 0 2 := by subst ho; exact ⟨R_Aunt, F_Aunt, "UpperFloors$House", ck_Aunt, by decide, tG 159 (by decide +kernel) (by decide +kernel), Or.inl rfl⟩
theorem fo_Dusk_121_9 {o : String} (ho : o = R_Dusk) : FOK o 121 9 2 := by subst ho; exact ⟨R_Stuck, F_Stuck, "UpperFloors$House", ck_Stuck, by decide, tG 159 (by decide +kernel) (by decide +kernel), Or.inl rfl⟩
theorem fo_Dusk_121_5 {o : String} (ho : o = R_Dusk) : FOK o 121 5 2 := by subst ho; exact ⟨R_Late, F_Late, "UpperFloors$House", ck_Late, by decide, tG 159 (by decide +kernel) (by decide +kernel), Or.inl rfl⟩
theorem foh_Dusk_121 {o : String} (ho : o = R_Dusk) : ∀ c, famP c → FOK o 121 c 2 := by
  intro c hc
  rcases hc with rfl | rfl | rfl | rfl | rfl | rfl
  · exact fo_Dusk_121_0 ho
  · exact fo_Dusk_121_1 ho
  · exact fo_Dusk_121_3 ho
  · exact fo_Dusk_121_4 ho
  · exact fo_Dusk_121_5 ho
  · exact fo_Dusk_121_9 ho
theorem fo_Law_11_6 {o : String} (ho : o = R_Law) : FOK o 11 6 0 := by subst ho; exact ⟨R_Law, F_Law, "UpperFloors$Law", ck_Law, by decide, tG 172 (by decide +kernel) (by decide +kernel), Or.inl rfl⟩
theorem fo_Law_15_6 {o : String} (ho : o = R_Law) : FOK o 15 6 1 := by subst ho; exact ⟨R_Law, F_Law, "UpperFloors$Law", ck_Law, by decide, tG 173 (by decide +kernel) (by decide +kernel), Or.inl rfl⟩
theorem fo_Reader_40_6 {o : String} (ho : o = R_Reader) : FOK o 40 6 1 := by subst ho; exact ⟨R_Law, F_Law, "UpperFloors$Law", ck_Law, by decide, tG 174 (by decide +kernel) (by decide +kernel), Or.inl rfl⟩
theorem fo_Law_18_6 {o : String} (ho : o = R_Law) : FOK o 18 6 2 := by subst ho; exact ⟨R_Law, F_Law, "UpperFloors$Law", ck_Law, by decide, tG 175 (by decide +kernel) (by decide +kernel), Or.inl rfl⟩
theorem fo_Reader_29_6 {o : String} (ho : o = R_Reader) : FOK o 29 6 2 := by subst ho; exact ⟨R_Law, F_Law, "UpperFloors$Law", ck_Law, by decide, tG 176 (by decide +kernel) (by decide +kernel), Or.inl rfl⟩
theorem fo_Sheet_9_8 {o : String} (ho : o = R_Sheet) : FOK o 9 8 0 := by subst ho; exact ⟨R_Sheet, F_Sheet, "UpperFloors$Sheet", ck_Sheet, by decide, tG 189 (by decide +kernel) (by decide +kernel), Or.inl rfl⟩
theorem fo_UF_243_8 {o : String} (ho : o = R_UF) : FOK o 243 8 0 := by subst ho; exact ⟨R_Sheet, F_Sheet, "UpperFloors$Sheet", ck_Sheet, by decide, tG 190 (by decide +kernel) (by decide +kernel), Or.inl rfl⟩
theorem fo_Sheet_15_8 {o : String} (ho : o = R_Sheet) : FOK o 15 8 1 := by subst ho; exact ⟨R_Sheet, F_Sheet, "UpperFloors$Sheet", ck_Sheet, by decide, tG 191 (by decide +kernel) (by decide +kernel), Or.inl rfl⟩
theorem fo_UF_236_8 {o : String} (ho : o = R_UF) : FOK o 236 8 1 := by subst ho; exact ⟨R_Sheet, F_Sheet, "UpperFloors$Sheet", ck_Sheet, by decide, tG 192 (by decide +kernel) (by decide +kernel), Or.inl rfl⟩
theorem fo_Sheet_19_8 {o : String} (ho : o = R_Sheet) : FOK o 19 8 2 := by subst ho; exact ⟨R_Sheet, F_Sheet, "UpperFloors$Sheet", ck_Sheet, by decide, tG 193 (by decide +kernel) (by decide +kernel), Or.inl rfl⟩
theorem fo_UF_242_8 {o : String} (ho : o = R_UF) : FOK o 242 8 2 := by subst ho; exact ⟨R_Sheet, F_Sheet, "UpperFloors$Sheet", ck_Sheet, by decide, tG 194 (by decide +kernel) (by decide +kernel), Or.inl rfl⟩
theorem fo_UF_11_11 {o : String} (ho : o = R_UF) : FOK o 11 11 0 := by subst ho; exact ⟨R_UF, F_UF, "UpperFloors", ck_UF, by decide, tG 346 (by decide +kernel) (by decide +kernel), Or.inl rfl⟩
theorem fo_UF_17_11 {o : String} (ho : o = R_UF) : FOK o 17 11 1 := by subst ho; exact ⟨R_UF, F_UF, "UpperFloors", ck_UF, by decide, tG 347 (by decide +kernel) (by decide +kernel), Or.inl rfl⟩
theorem fo_UF_23_11 {o : String} (ho : o = R_UF) : FOK o 23 11 2 := by subst ho; exact ⟨R_UF, F_UF, "UpperFloors", ck_UF, by decide, tG 348 (by decide +kernel) (by decide +kernel), Or.inl rfl⟩
theorem fo_UF_27_11 {o : String} (ho : o = R_UF) : FOK o 27 11 3 := by subst ho; exact ⟨R_UF, F_UF, "UpperFloors", ck_UF, by decide, tG 349 (by decide +kernel) (by decide +kernel), Or.inl rfl⟩
theorem fo_UF_34_11 {o : String} (ho : o = R_UF) : FOK o 34 11 4 := by subst ho; exact ⟨R_UF, F_UF, "UpperFloors", ck_UF, by decide, tG 350 (by decide +kernel) (by decide +kernel), Or.inl rfl⟩
theorem fo_UF_38_11 {o : String} (ho : o = R_UF) : FOK o 38 11 5 := by subst ho; exact ⟨R_UF, F_UF, "UpperFloors", ck_UF, by decide, tG 351 (by decide +kernel) (by decide +kernel), Or.inl rfl⟩
theorem fo_UF_44_11 {o : String} (ho : o = R_UF) : FOK o 44 11 6 := by subst ho; exact ⟨R_UF, F_UF, "UpperFloors", ck_UF, by decide, tG 352 (by decide +kernel) (by decide +kernel), Or.inl rfl⟩
theorem fo_UF_51_11 {o : String} (ho : o = R_UF) : FOK o 51 11 7 := by subst ho; exact ⟨R_UF, F_UF, "UpperFloors", ck_UF, by decide, tG 353 (by decide +kernel) (by decide +kernel), Or.inl rfl⟩
theorem fo_UF_76_11 {o : String} (ho : o = R_UF) : FOK o 76 11 8 := by subst ho; exact ⟨R_UF, F_UF, "UpperFloors", ck_UF, by decide, tG 354 (by decide +kernel) (by decide +kernel), Or.inl rfl⟩
theorem fo_UF_92_11 {o : String} (ho : o = R_UF) : FOK o 92 11 9 := by subst ho; exact ⟨R_UF, F_UF, "UpperFloors", ck_UF, by decide, tG 355 (by decide +kernel) (by decide +kernel), Or.inl rfl⟩
theorem fo_UF_232_11 {o : String} (ho : o = R_UF) : FOK o 232 11 10 := by subst ho; exact ⟨R_UF, F_UF, "UpperFloors", ck_UF, by decide, tG 356 (by decide +kernel) (by decide +kernel), Or.inl rfl⟩
theorem fo_MO_90_12 {o : String} (ho : o = R_MO) : FOK o 90 12 0 := by subst ho; exact ⟨R_MO, F_MO, "UpperFloorsModel", ck_MO, by decide, tG 883 (by decide +kernel) (by decide +kernel), Or.inl rfl⟩
theorem fo_MO_7_12 {o : String} (ho : o = R_MO) : FOK o 7 12 1 := by subst ho; exact ⟨R_MO, F_MO, "UpperFloorsModel", ck_MO, by decide, tG 884 (by decide +kernel) (by decide +kernel), Or.inl rfl⟩
theorem fo_MO_13_12 {o : String} (ho : o = R_MO) : FOK o 13 12 2 := by subst ho; exact ⟨R_MO, F_MO, "UpperFloorsModel", ck_MO, by decide, tG 885 (by decide +kernel) (by decide +kernel), Or.inl rfl⟩
theorem fo_MO_16_12 {o : String} (ho : o = R_MO) : FOK o 16 12 3 := by subst ho; exact ⟨R_MO, F_MO, "UpperFloorsModel", ck_MO, by decide, tG 886 (by decide +kernel) (by decide +kernel), Or.inl rfl⟩
theorem fo_MO_19_12 {o : String} (ho : o = R_MO) : FOK o 19 12 4 := by subst ho; exact ⟨R_MO, F_MO, "UpperFloorsModel", ck_MO, by decide, tG 887 (by decide +kernel) (by decide +kernel), Or.inl rfl⟩
theorem fo_MO_22_12 {o : String} (ho : o = R_MO) : FOK o 22 12 5 := by subst ho; exact ⟨R_MO, F_MO, "UpperFloorsModel", ck_MO, by decide, tG 888 (by decide +kernel) (by decide +kernel), Or.inl rfl⟩
theorem fo_MO_25_12 {o : String} (ho : o = R_MO) : FOK o 25 12 6 := by subst ho; exact ⟨R_MO, F_MO, "UpperFloorsModel", ck_MO, by decide, tG 889 (by decide +kernel) (by decide +kernel), Or.inl rfl⟩
theorem fo_MO_28_12 {o : String} (ho : o = R_MO) : FOK o 28 12 7 := by subst ho; exact ⟨R_MO, F_MO, "UpperFloorsModel", ck_MO, by decide, tG 890 (by decide +kernel) (by decide +kernel), Or.inl rfl⟩
theorem fo_MO_82_12 {o : String} (ho : o = R_MO) : FOK o 82 12 8 := by subst ho; exact ⟨R_MO, F_MO, "UpperFloorsModel", ck_MO, by decide, tG 891 (by decide +kernel) (by decide +kernel), Or.inl rfl⟩
theorem fo_MO_31_12 {o : String} (ho : o = R_MO) : FOK o 31 12 9 := by subst ho; exact ⟨R_MO, F_MO, "UpperFloorsModel", ck_MO, by decide, tG 892 (by decide +kernel) (by decide +kernel), Or.inl rfl⟩
theorem fo_MO_34_12 {o : String} (ho : o = R_MO) : FOK o 34 12 10 := by subst ho; exact ⟨R_MO, F_MO, "UpperFloorsModel", ck_MO, by decide, tG 893 (by decide +kernel) (by decide +kernel), Or.inl rfl⟩
theorem fo_MO_107_12 {o : String} (ho : o = R_MO) : FOK o 107 12 11 := by subst ho; exact ⟨R_MO, F_MO, "UpperFloorsModel", ck_MO, by decide, tG 894 (by decide +kernel) (by decide +kernel), Or.inl rfl⟩
theorem fo_MO_110_12 {o : String} (ho : o = R_MO) : FOK o 110 12 12 := by subst ho; exact ⟨R_MO, F_MO, "UpperFloorsModel", ck_MO, by decide, tG 895 (by decide +kernel) (by decide +kernel), Or.inl rfl⟩
theorem fo_MO_286_12 {o : String} (ho : o = R_MO) : FOK o 286 12 13 := by subst ho; exact ⟨R_MO, F_MO, "UpperFloorsModel", ck_MO, by decide, tG 896 (by decide +kernel) (by decide +kernel), Or.inl rfl⟩
theorem fo_MO_290_12 {o : String} (ho : o = R_MO) : FOK o 290 12 14 := by subst ho; exact ⟨R_MO, F_MO, "UpperFloorsModel", ck_MO, by decide, tG 897 (by decide +kernel) (by decide +kernel), Or.inl rfl⟩
theorem fo_MO_293_12 {o : String} (ho : o = R_MO) : FOK o 293 12 15 := by subst ho; exact ⟨R_MO, F_MO, "UpperFloorsModel", ck_MO, by decide, tG 898 (by decide +kernel) (by decide +kernel), Or.inl rfl⟩
theorem fo_MO_37_12 {o : String} (ho : o = R_MO) : FOK o 37 12 16 := by subst ho; exact ⟨R_MO, F_MO, "UpperFloorsModel", ck_MO, by decide, tG 899 (by decide +kernel) (by decide +kernel), Or.inl rfl⟩
theorem fo_MO_40_12 {o : String} (ho : o = R_MO) : FOK o 40 12 17 := by subst ho; exact ⟨R_MO, F_MO, "UpperFloorsModel", ck_MO, by decide, tG 900 (by decide +kernel) (by decide +kernel), Or.inl rfl⟩
theorem fo_MO_43_12 {o : String} (ho : o = R_MO) : FOK o 43 12 18 := by subst ho; exact ⟨R_MO, F_MO, "UpperFloorsModel", ck_MO, by decide, tG 901 (by decide +kernel) (by decide +kernel), Or.inl rfl⟩
theorem fo_MO_46_12 {o : String} (ho : o = R_MO) : FOK o 46 12 19 := by subst ho; exact ⟨R_MO, F_MO, "UpperFloorsModel", ck_MO, by decide, tG 902 (by decide +kernel) (by decide +kernel), Or.inl rfl⟩
theorem fo_MO_49_12 {o : String} (ho : o = R_MO) : FOK o 49 12 20 := by subst ho; exact ⟨R_MO, F_MO, "UpperFloorsModel", ck_MO, by decide, tG 903 (by decide +kernel) (by decide +kernel), Or.inl rfl⟩
theorem fo_MO_116_12 {o : String} (ho : o = R_MO) : FOK o 116 12 21 := by subst ho; exact ⟨R_MO, F_MO, "UpperFloorsModel", ck_MO, by decide, tG 904 (by decide +kernel) (by decide +kernel), Or.inl rfl⟩
theorem fo_MO_119_12 {o : String} (ho : o = R_MO) : FOK o 119 12 22 := by subst ho; exact ⟨R_MO, F_MO, "UpperFloorsModel", ck_MO, by decide, tG 905 (by decide +kernel) (by decide +kernel), Or.inl rfl⟩
theorem fo_MO_122_12 {o : String} (ho : o = R_MO) : FOK o 122 12 23 := by subst ho; exact ⟨R_MO, F_MO, "UpperFloorsModel", ck_MO, by decide, tG 906 (by decide +kernel) (by decide +kernel), Or.inl rfl⟩
theorem fo_MO_125_12 {o : String} (ho : o = R_MO) : FOK o 125 12 24 := by subst ho; exact ⟨R_MO, F_MO, "UpperFloorsModel", ck_MO, by decide, tG 907 (by decide +kernel) (by decide +kernel), Or.inl rfl⟩
theorem fo_MO_52_12 {o : String} (ho : o = R_MO) : FOK o 52 12 25 := by subst ho; exact ⟨R_MO, F_MO, "UpperFloorsModel", ck_MO, by decide, tG 908 (by decide +kernel) (by decide +kernel), Or.inl rfl⟩
theorem fo_MO_55_12 {o : String} (ho : o = R_MO) : FOK o 55 12 26 := by subst ho; exact ⟨R_MO, F_MO, "UpperFloorsModel", ck_MO, by decide, tG 909 (by decide +kernel) (by decide +kernel), Or.inl rfl⟩
theorem fo_MO_135_12 {o : String} (ho : o = R_MO) : FOK o 135 12 27 := by subst ho; exact ⟨R_MO, F_MO, "UpperFloorsModel", ck_MO, by decide, tG 910 (by decide +kernel) (by decide +kernel), Or.inl rfl⟩
theorem fo_MO_142_12 {o : String} (ho : o = R_MO) : FOK o 142 12 28 := by subst ho; exact ⟨R_MO, F_MO, "UpperFloorsModel", ck_MO, by decide, tG 911 (by decide +kernel) (by decide +kernel), Or.inl rfl⟩
theorem fo_MO_132_12 {o : String} (ho : o = R_MO) : FOK o 132 12 29 := by subst ho; exact ⟨R_MO, F_MO, "UpperFloorsModel", ck_MO, by decide, tG 912 (by decide +kernel) (by decide +kernel), Or.inl rfl⟩
theorem fo_MO_58_12 {o : String} (ho : o = R_MO) : FOK o 58 12 30 := by subst ho; exact ⟨R_MO, F_MO, "UpperFloorsModel", ck_MO, by decide, tG 913 (by decide +kernel) (by decide +kernel), Or.inl rfl⟩
theorem fo_MO_61_12 {o : String} (ho : o = R_MO) : FOK o 61 12 31 := by subst ho; exact ⟨R_MO, F_MO, "UpperFloorsModel", ck_MO, by decide, tG 914 (by decide +kernel) (by decide +kernel), Or.inl rfl⟩
theorem fo_MO_64_12 {o : String} (ho : o = R_MO) : FOK o 64 12 32 := by subst ho; exact ⟨R_MO, F_MO, "UpperFloorsModel", ck_MO, by decide, tG 915 (by decide +kernel) (by decide +kernel), Or.inl rfl⟩
theorem fo_MO_67_12 {o : String} (ho : o = R_MO) : FOK o 67 12 33 := by subst ho; exact ⟨R_MO, F_MO, "UpperFloorsModel", ck_MO, by decide, tG 916 (by decide +kernel) (by decide +kernel), Or.inl rfl⟩
theorem fo_MO_70_12 {o : String} (ho : o = R_MO) : FOK o 70 12 34 := by subst ho; exact ⟨R_MO, F_MO, "UpperFloorsModel", ck_MO, by decide, tG 917 (by decide +kernel) (by decide +kernel), Or.inl rfl⟩
theorem fo_MO_73_12 {o : String} (ho : o = R_MO) : FOK o 73 12 35 := by subst ho; exact ⟨R_MO, F_MO, "UpperFloorsModel", ck_MO, by decide, tG 918 (by decide +kernel) (by decide +kernel), Or.inl rfl⟩
theorem fo_MO_76_12 {o : String} (ho : o = R_MO) : FOK o 76 12 36 := by subst ho; exact ⟨R_MO, F_MO, "UpperFloorsModel", ck_MO, by decide, tG 919 (by decide +kernel) (by decide +kernel), Or.inl rfl⟩
theorem fo_MO_212_12 {o : String} (ho : o = R_MO) : FOK o 212 12 37 := by subst ho; exact ⟨R_MO, F_MO, "UpperFloorsModel", ck_MO, by decide, tG 920 (by decide +kernel) (by decide +kernel), Or.inl rfl⟩
theorem fo_MO_215_12 {o : String} (ho : o = R_MO) : FOK o 215 12 38 := by subst ho; exact ⟨R_MO, F_MO, "UpperFloorsModel", ck_MO, by decide, tG 921 (by decide +kernel) (by decide +kernel), Or.inl rfl⟩
theorem fo_MO_79_12 {o : String} (ho : o = R_MO) : FOK o 79 12 39 := by subst ho; exact ⟨R_MO, F_MO, "UpperFloorsModel", ck_MO, by decide, tG 922 (by decide +kernel) (by decide +kernel), Or.inl rfl⟩
theorem ct_Dusk_101 {q : MM} (hq : q.1 = R_Dusk) : CallTo q m_Dusk_rise (.invokevirtual 101) 2 (some (some R_Dusk)) := ct_V (by rw [hq]; exact tG 631 (by decide +kernel) (by decide +kernel)) (tG 633 (by decide +kernel) (by decide +kernel)) (sG 22 (by decide +kernel) (by decide +kernel)) (tG 3 (by decide +kernel) (by decide +kernel)) (tG 634 (by decide +kernel) (by decide +kernel)) (by decide +kernel)
theorem ct_Dusk_105 {q : MM} (hq : q.1 = R_Dusk) : CallTo q m_Dusk_says (.invokevirtual 105) 5 (some (some R_Dusk)) := ct_V (by rw [hq]; exact tG 582 (by decide +kernel) (by decide +kernel)) (tG 441 (by decide +kernel) (by decide +kernel)) (tG 442 (by decide +kernel) (by decide +kernel)) (tG 3 (by decide +kernel) (by decide +kernel)) (tG 443 (by decide +kernel) (by decide +kernel)) (by decide +kernel)
theorem ct_Dusk_124 {q : MM} (hq : q.1 = R_Dusk) : CallTo q m_Law_answer (.invokevirtual 124) 4 (some (some R_Law)) := ct_V (by rw [hq]; exact tG 444 (by decide +kernel) (by decide +kernel)) (tG 445 (by decide +kernel) (by decide +kernel)) (tG 446 (by decide +kernel) (by decide +kernel)) (tG 6 (by decide +kernel) (by decide +kernel)) (tG 447 (by decide +kernel) (by decide +kernel)) (by decide +kernel)
theorem ct_Dusk_45 {q : MM} (hq : q.1 = R_Dusk) : CallTo q m_Town_become (.invokevirtual 45) 2 (some (some R_Town)) := ct_V (by rw [hq]; exact tG 433 (by decide +kernel) (by decide +kernel)) (tG 434 (by decide +kernel) (by decide +kernel)) (tG 435 (by decide +kernel) (by decide +kernel)) (tG 2 (by decide +kernel) (by decide +kernel)) (tG 436 (by decide +kernel) (by decide +kernel)) (by decide +kernel)
theorem ct_Dusk_53 {q : MM} (hq : q.1 = R_Dusk) : CallTo q m_Dusk_pass (.invokevirtual 53) 3 (some (some R_Dusk)) := ct_V (by rw [hq]; exact tG 556 (by decide +kernel) (by decide +kernel)) (tG 557 (by decide +kernel) (by decide +kernel)) (tG 558 (by decide +kernel) (by decide +kernel)) (tG 3 (by decide +kernel) (by decide +kernel)) (tG 559 (by decide +kernel) (by decide +kernel)) (by decide +kernel)
theorem ct_Dusk_57 {q : MM} (hq : q.1 = R_Dusk) : CallTo q m_Town_isDown (.invokevirtual 57) 2 (some (some R_Town)) := ct_V (by rw [hq]; exact tG 668 (by decide +kernel) (by decide +kernel)) (tG 645 (by decide +kernel) (by decide +kernel)) (tG 646 (by decide +kernel) (by decide +kernel)) (tG 2 (by decide +kernel) (by decide +kernel)) (tG 647 (by decide +kernel) (by decide +kernel)) (by decide +kernel)
theorem ct_Dusk_68 {q : MM} (hq : q.1 = R_Dusk) : CallTo q m_Dusk_alone (.invokevirtual 68) 3 (some (some R_Dusk)) := ct_V (by rw [hq]; exact tG 560 (by decide +kernel) (by decide +kernel)) (tG 562 (by decide +kernel) (by decide +kernel)) (sG 18 (by decide +kernel) (by decide +kernel)) (tG 3 (by decide +kernel) (by decide +kernel)) (tG 563 (by decide +kernel) (by decide +kernel)) (by decide +kernel)
theorem ct_Dusk_71 {q : MM} (hq : q.1 = R_Dusk) : CallTo q m_Town_leads (.invokevirtual 71) 2 (some (some R_Town)) := ct_V (by rw [hq]; exact tG 623 (by decide +kernel) (by decide +kernel)) (tG 390 (by decide +kernel) (by decide +kernel)) (tG 391 (by decide +kernel) (by decide +kernel)) (tG 2 (by decide +kernel) (by decide +kernel)) (tG 392 (by decide +kernel) (by decide +kernel)) (by decide +kernel)
theorem ct_Dusk_74 {q : MM} (hq : q.1 = R_Dusk) : CallTo q m_Dusk_pair (.invokevirtual 74) 4 (some (some R_Dusk)) := ct_V (by rw [hq]; exact tG 624 (by decide +kernel) (by decide +kernel)) (tG 626 (by decide +kernel) (by decide +kernel)) (sG 21 (by decide +kernel) (by decide +kernel)) (tG 3 (by decide +kernel) (by decide +kernel)) (tG 627 (by decide +kernel) (by decide +kernel)) (by decide +kernel)
theorem ct_Dusk_85 {q : MM} (hq : q.1 = R_Dusk) : CallTo q m_Dusk_weighs (.invokevirtual 85) 3 (some (some R_Dusk)) := ct_V (by rw [hq]; exact tG 578 (by decide +kernel) (by decide +kernel)) (tG 579 (by decide +kernel) (by decide +kernel)) (tG 580 (by decide +kernel) (by decide +kernel)) (tG 3 (by decide +kernel) (by decide +kernel)) (tG 581 (by decide +kernel) (by decide +kernel)) (by decide +kernel)
theorem ct_Dusk_89 {q : MM} (hq : q.1 = R_Dusk) : CallTo q m_Dusk_holds (.invokevirtual 89) 3 (some (some R_Dusk)) := ct_V (by rw [hq]; exact tG 602 (by decide +kernel) (by decide +kernel)) (tG 604 (by decide +kernel) (by decide +kernel)) (sG 19 (by decide +kernel) (by decide +kernel)) (tG 3 (by decide +kernel) (by decide +kernel)) (tG 605 (by decide +kernel) (by decide +kernel)) (by decide +kernel)
theorem ct_Dusk_92 {q : MM} (hq : q.1 = R_Dusk) : CallTo q m_Dusk_sink (.invokevirtual 92) 3 (some (some R_Dusk)) := ct_V (by rw [hq]; exact tG 619 (by decide +kernel) (by decide +kernel)) (tG 621 (by decide +kernel) (by decide +kernel)) (sG 20 (by decide +kernel) (by decide +kernel)) (tG 3 (by decide +kernel) (by decide +kernel)) (tG 622 (by decide +kernel) (by decide +kernel)) (by decide +kernel)
theorem ct_Dusk_95 {q : MM} (hq : q.1 = R_Dusk) : CallTo q m_Math_abs (.invokestatic 95) 1 none := ct_So (by rw [hq]; exact tG 628 (by decide +kernel) (by decide +kernel)) (tG 629 (by decide +kernel) (by decide +kernel)) (tG 12 (by decide +kernel) (by decide +kernel)) (tG 630 (by decide +kernel) (by decide +kernel)) (by decide +kernel)
theorem ct_Law_22 {q : MM} (hq : q.1 = R_Law) : CallTo q m_Law_add (.invokevirtual 22) 2 (some (some R_Law)) := ct_V (by rw [hq]; exact tG 345 (by decide +kernel) (by decide +kernel)) (tG 338 (by decide +kernel) (by decide +kernel)) (tG 339 (by decide +kernel) (by decide +kernel)) (tG 6 (by decide +kernel) (by decide +kernel)) (tG 340 (by decide +kernel) (by decide +kernel)) (by decide +kernel)
theorem ct_Law_26 {q : MM} (hq : q.1 = R_Law) : CallTo q m_UF_within (.invokestatic 26) 3 none := ct_SN (host := "UpperFloors") (by rw [hq]; decide +kernel) (tG 266 (by decide +kernel) (by decide +kernel)) (tG 1 (by decide +kernel) (by decide +kernel)) (tG 267 (by decide +kernel) (by decide +kernel)) (by decide +kernel)
theorem ct_Law_30 {q : MM} (hq : q.1 = R_Law) : CallTo q m_Law_signed (.invokestatic 30) 2 none := ct_So (by rw [hq]; exact tG 449 (by decide +kernel) (by decide +kernel)) (tG 450 (by decide +kernel) (by decide +kernel)) (tG 6 (by decide +kernel) (by decide +kernel)) (tG 451 (by decide +kernel) (by decide +kernel)) (by decide +kernel)
theorem ct_Law_34 {q : MM} (hq : q.1 = R_Law) : CallTo q m_Law_joined (.invokestatic 34) 3 none := ct_So (by rw [hq]; exact tG 452 (by decide +kernel) (by decide +kernel)) (tG 453 (by decide +kernel) (by decide +kernel)) (tG 6 (by decide +kernel) (by decide +kernel)) (tG 454 (by decide +kernel) (by decide +kernel)) (by decide +kernel)
theorem ct_Law_38 {q : MM} (hq : q.1 = R_Law) : CallTo q m_Math_min (.invokestatic 38) 2 none := ct_So (by rw [hq]; exact tG 455 (by decide +kernel) (by decide +kernel)) (tG 256 (by decide +kernel) (by decide +kernel)) (tG 12 (by decide +kernel) (by decide +kernel)) (tG 257 (by decide +kernel) (by decide +kernel)) (by decide +kernel)
theorem ct_Law_43 {q : MM} (hq : q.1 = R_Law) : CallTo q m_Math_max (.invokestatic 43) 2 none := ct_So (by rw [hq]; exact tG 456 (by decide +kernel) (by decide +kernel)) (tG 457 (by decide +kernel) (by decide +kernel)) (tG 12 (by decide +kernel) (by decide +kernel)) (tG 458 (by decide +kernel) (by decide +kernel)) (by decide +kernel)
theorem ct_MO_101 {q : MM} (hq : q.1 = R_MO) : CallTo q m_MO_chains (.invokevirtual 101) 1 (some (some R_MO)) := ct_V (by rw [hq]; exact tG 1008 (by decide +kernel) (by decide +kernel)) (tG 1010 (by decide +kernel) (by decide +kernel)) (sG 34 (by decide +kernel) (by decide +kernel)) (tG 13 (by decide +kernel) (by decide +kernel)) (tG 1011 (by decide +kernel) (by decide +kernel)) (by decide +kernel)
theorem ct_MO_104 {q : MM} (hq : q.1 = R_MO) : CallTo q m_MO_peopleAll (.invokevirtual 104) 1 (some (some R_MO)) := ct_V (by rw [hq]; exact tG 1016 (by decide +kernel) (by decide +kernel)) (tG 1018 (by decide +kernel) (by decide +kernel)) (sG 36 (by decide +kernel) (by decide +kernel)) (tG 13 (by decide +kernel) (by decide +kernel)) (tG 1019 (by decide +kernel) (by decide +kernel)) (by decide +kernel)
theorem ct_MO_113 {q : MM} (hq : q.1 = R_MO) : CallTo q m_MO_isByte (.invokestatic 113) 1 none := ct_So (by rw [hq]; exact tG 1024 (by decide +kernel) (by decide +kernel)) (tG 1025 (by decide +kernel) (by decide +kernel)) (tG 13 (by decide +kernel) (by decide +kernel)) (tG 1026 (by decide +kernel) (by decide +kernel)) (by decide +kernel)
theorem ct_MO_128 {q : MM} (hq : q.1 = R_MO) : CallTo q m_MO_wordFrom (.invokevirtual 128) 3 (some (some R_MO)) := ct_V (by rw [hq]; exact tG 847 (by decide +kernel) (by decide +kernel)) (tG 849 (by decide +kernel) (by decide +kernel)) (sG 26 (by decide +kernel) (by decide +kernel)) (tG 13 (by decide +kernel) (by decide +kernel)) (tG 850 (by decide +kernel) (by decide +kernel)) (by decide +kernel)
theorem ct_MO_138 {q : MM} (hq : q.1 = R_MO) : CallTo q m_MO_rank (.invokestatic 138) 1 none := ct_So (by rw [hq]; exact tG 864 (by decide +kernel) (by decide +kernel)) (tG 865 (by decide +kernel) (by decide +kernel)) (tG 13 (by decide +kernel) (by decide +kernel)) (tG 866 (by decide +kernel) (by decide +kernel)) (by decide +kernel)
theorem ct_MO_145 {q : MM} (hq : q.1 = R_MO) : CallTo q m_MO_puts (.invokevirtual 145) 2 (some (some R_MO)) := ct_V (by rw [hq]; exact tG 856 (by decide +kernel) (by decide +kernel)) (tG 858 (by decide +kernel) (by decide +kernel)) (sG 28 (by decide +kernel) (by decide +kernel)) (tG 13 (by decide +kernel) (by decide +kernel)) (tG 859 (by decide +kernel) (by decide +kernel)) (by decide +kernel)
theorem ct_MO_149 {q : MM} (hq : q.1 = R_MO) : CallTo q m_MO_holds (.invokevirtual 149) 2 (some (some R_MO)) := ct_V (by rw [hq]; exact tG 871 (by decide +kernel) (by decide +kernel)) (tG 873 (by decide +kernel) (by decide +kernel)) (sG 31 (by decide +kernel) (by decide +kernel)) (tG 13 (by decide +kernel) (by decide +kernel)) (tG 874 (by decide +kernel) (by decide +kernel)) (by decide +kernel)
theorem ct_MO_152 {q : MM} (hq : q.1 = R_MO) : CallTo q m_MO_unwinds (.invokevirtual 152) 2 (some (some R_MO)) := ct_V (by rw [hq]; exact tG 860 (by decide +kernel) (by decide +kernel)) (tG 862 (by decide +kernel) (by decide +kernel)) (sG 29 (by decide +kernel) (by decide +kernel)) (tG 13 (by decide +kernel) (by decide +kernel)) (tG 863 (by decide +kernel) (by decide +kernel)) (by decide +kernel)
theorem ct_MO_155 {q : MM} (hq : q.1 = R_MO) : CallTo q m_MO_next (.invokevirtual 155) 1 (some (some R_MO)) := ct_V (by rw [hq]; exact tG 840 (by decide +kernel) (by decide +kernel)) (tG 842 (by decide +kernel) (by decide +kernel)) (sG 25 (by decide +kernel) (by decide +kernel)) (tG 13 (by decide +kernel) (by decide +kernel)) (tG 843 (by decide +kernel) (by decide +kernel)) (by decide +kernel)
theorem ct_MO_159 {q : MM} (hq : q.1 = R_MO) : CallTo q m_MO_opensOne (.invokevirtual 159) 2 (some (some R_MO)) := ct_V (by rw [hq]; exact tG 867 (by decide +kernel) (by decide +kernel)) (tG 869 (by decide +kernel) (by decide +kernel)) (sG 30 (by decide +kernel) (by decide +kernel)) (tG 13 (by decide +kernel) (by decide +kernel)) (tG 870 (by decide +kernel) (by decide +kernel)) (by decide +kernel)
theorem ct_MO_162 {q : MM} (hq : q.1 = R_MO) : CallTo q m_MO_signOf (.invokevirtual 162) 1 (some (some R_MO)) := ct_V (by rw [hq]; exact tG 875 (by decide +kernel) (by decide +kernel)) (tG 877 (by decide +kernel) (by decide +kernel)) (sG 32 (by decide +kernel) (by decide +kernel)) (tG 13 (by decide +kernel) (by decide +kernel)) (tG 878 (by decide +kernel) (by decide +kernel)) (by decide +kernel)
theorem ct_MO_165 {q : MM} (hq : q.1 = R_MO) : CallTo q m_MO_between (.invokevirtual 165) 2 (some (some R_MO)) := ct_V (by rw [hq]; exact tG 879 (by decide +kernel) (by decide +kernel)) (tG 881 (by decide +kernel) (by decide +kernel)) (sG 33 (by decide +kernel) (by decide +kernel)) (tG 13 (by decide +kernel) (by decide +kernel)) (tG 882 (by decide +kernel) (by decide +kernel)) (by decide +kernel)
theorem ct_MO_168 {q : MM} (hq : q.1 = R_MO) : CallTo q m_MO_eRead (.invokevirtual 168) 1 (some (some R_MO)) := ct_V (by rw [hq]; exact tG 851 (by decide +kernel) (by decide +kernel)) (tG 853 (by decide +kernel) (by decide +kernel)) (sG 27 (by decide +kernel) (by decide +kernel)) (tG 13 (by decide +kernel) (by decide +kernel)) (tG 854 (by decide +kernel) (by decide +kernel)) (by decide +kernel)
theorem ct_MO_172 {q : MM} (hq : q.1 = R_MO) : CallTo q m_MO_two (.invokestatic 172) 3 none := ct_So (by rw [hq]; exact tG 1051 (by decide +kernel) (by decide +kernel)) (tG 1052 (by decide +kernel) (by decide +kernel)) (tG 13 (by decide +kernel) (by decide +kernel)) (tG 1053 (by decide +kernel) (by decide +kernel)) (by decide +kernel)
theorem ct_MO_176 {q : MM} (hq : q.1 = R_MO) : CallTo q m_MO_says (.invokevirtual 176) 2 (some (some R_MO)) := ct_V (by rw [hq]; exact tG 1047 (by decide +kernel) (by decide +kernel)) (tG 1049 (by decide +kernel) (by decide +kernel)) (sG 39 (by decide +kernel) (by decide +kernel)) (tG 13 (by decide +kernel) (by decide +kernel)) (tG 1050 (by decide +kernel) (by decide +kernel)) (by decide +kernel)
theorem ct_MO_179 {q : MM} (hq : q.1 = R_MO) : CallTo q m_MO_within (.invokestatic 179) 3 none := ct_So (by rw [hq]; exact tG 1054 (by decide +kernel) (by decide +kernel)) (tG 1055 (by decide +kernel) (by decide +kernel)) (tG 13 (by decide +kernel) (by decide +kernel)) (tG 1056 (by decide +kernel) (by decide +kernel)) (by decide +kernel)
theorem ct_MO_182 {q : MM} (hq : q.1 = R_MO) : CallTo q m_MO_isHouse (.invokevirtual 182) 2 (some (some R_MO)) := ct_V (by rw [hq]; exact tG 1036 (by decide +kernel) (by decide +kernel)) (tG 1038 (by decide +kernel) (by decide +kernel)) (sG 37 (by decide +kernel) (by decide +kernel)) (tG 13 (by decide +kernel) (by decide +kernel)) (tG 1039 (by decide +kernel) (by decide +kernel)) (by decide +kernel)
theorem ct_MO_185 {q : MM} (hq : q.1 = R_MO) : CallTo q m_MO_isMany (.invokestatic 185) 1 none := ct_So (by rw [hq]; exact tG 1040 (by decide +kernel) (by decide +kernel)) (tG 1041 (by decide +kernel) (by decide +kernel)) (tG 13 (by decide +kernel) (by decide +kernel)) (tG 1042 (by decide +kernel) (by decide +kernel)) (by decide +kernel)
theorem ct_MO_188 {q : MM} (hq : q.1 = R_MO) : CallTo q m_MO_asksOf (.invokevirtual 188) 6 (some (some R_MO)) := ct_V (by rw [hq]; exact tG 1043 (by decide +kernel) (by decide +kernel)) (tG 1045 (by decide +kernel) (by decide +kernel)) (sG 38 (by decide +kernel) (by decide +kernel)) (tG 13 (by decide +kernel) (by decide +kernel)) (tG 1046 (by decide +kernel) (by decide +kernel)) (by decide +kernel)
theorem ct_MO_192 {q : MM} (hq : q.1 = R_MO) : CallTo q m_MO_comesFree (.invokevirtual 192) 2 (some (some R_MO)) := ct_V (by rw [hq]; exact tG 1073 (by decide +kernel) (by decide +kernel)) (tG 1075 (by decide +kernel) (by decide +kernel)) (sG 41 (by decide +kernel) (by decide +kernel)) (tG 13 (by decide +kernel) (by decide +kernel)) (tG 1076 (by decide +kernel) (by decide +kernel)) (by decide +kernel)
theorem ct_MO_195 {q : MM} (hq : q.1 = R_MO) : CallTo q m_MO_links (.invokevirtual 195) 3 (some (some R_MO)) := ct_V (by rw [hq]; exact tG 1069 (by decide +kernel) (by decide +kernel)) (tG 1071 (by decide +kernel) (by decide +kernel)) (sG 40 (by decide +kernel) (by decide +kernel)) (tG 13 (by decide +kernel) (by decide +kernel)) (tG 1072 (by decide +kernel) (by decide +kernel)) (by decide +kernel)
theorem ct_MO_199 {q : MM} (hq : q.1 = R_MO) : CallTo q m_MO_isFree (.invokevirtual 199) 3 (some (some R_MO)) := ct_V (by rw [hq]; exact tG 1101 (by decide +kernel) (by decide +kernel)) (tG 1103 (by decide +kernel) (by decide +kernel)) (sG 46 (by decide +kernel) (by decide +kernel)) (tG 13 (by decide +kernel) (by decide +kernel)) (tG 1104 (by decide +kernel) (by decide +kernel)) (by decide +kernel)
theorem ct_MO_203 {q : MM} (hq : q.1 = R_MO) : CallTo q m_MO_weighs (.invokevirtual 203) 3 (some (some R_MO)) := ct_V (by rw [hq]; exact tG 1105 (by decide +kernel) (by decide +kernel)) (tG 1107 (by decide +kernel) (by decide +kernel)) (sG 47 (by decide +kernel) (by decide +kernel)) (tG 13 (by decide +kernel) (by decide +kernel)) (tG 1108 (by decide +kernel) (by decide +kernel)) (by decide +kernel)
theorem ct_MO_206 {q : MM} (hq : q.1 = R_MO) : CallTo q m_MO_holdsIt (.invokevirtual 206) 3 (some (some R_MO)) := ct_V (by rw [hq]; exact tG 1109 (by decide +kernel) (by decide +kernel)) (tG 1111 (by decide +kernel) (by decide +kernel)) (sG 48 (by decide +kernel) (by decide +kernel)) (tG 13 (by decide +kernel) (by decide +kernel)) (tG 1112 (by decide +kernel) (by decide +kernel)) (by decide +kernel)
theorem ct_MO_209 {q : MM} (hq : q.1 = R_MO) : CallTo q m_MO_goesDown (.invokevirtual 209) 3 (some (some R_MO)) := ct_V (by rw [hq]; exact tG 1113 (by decide +kernel) (by decide +kernel)) (tG 1115 (by decide +kernel) (by decide +kernel)) (sG 49 (by decide +kernel) (by decide +kernel)) (tG 13 (by decide +kernel) (by decide +kernel)) (tG 1116 (by decide +kernel) (by decide +kernel)) (by decide +kernel)
theorem ct_MO_225 {q : MM} (hq : q.1 = R_MO) : CallTo q m_MO_alone (.invokevirtual 225) 3 (some (some R_MO)) := ct_V (by rw [hq]; exact tG 1097 (by decide +kernel) (by decide +kernel)) (tG 1099 (by decide +kernel) (by decide +kernel)) (sG 45 (by decide +kernel) (by decide +kernel)) (tG 13 (by decide +kernel) (by decide +kernel)) (tG 1100 (by decide +kernel) (by decide +kernel)) (by decide +kernel)
theorem ct_MO_228 {q : MM} (hq : q.1 = R_MO) : CallTo q m_MO_catches (.invokevirtual 228) 1 (some (some R_MO)) := ct_V (by rw [hq]; exact tG 1117 (by decide +kernel) (by decide +kernel)) (tG 1119 (by decide +kernel) (by decide +kernel)) (sG 50 (by decide +kernel) (by decide +kernel)) (tG 13 (by decide +kernel) (by decide +kernel)) (tG 1120 (by decide +kernel) (by decide +kernel)) (by decide +kernel)
theorem ct_MO_231 {q : MM} (hq : q.1 = R_MO) : CallTo q m_MO_chained (.invokevirtual 231) 5 (some (some R_MO)) := ct_V (by rw [hq]; exact tG 1124 (by decide +kernel) (by decide +kernel)) (tG 1126 (by decide +kernel) (by decide +kernel)) (sG 51 (by decide +kernel) (by decide +kernel)) (tG 13 (by decide +kernel) (by decide +kernel)) (tG 1127 (by decide +kernel) (by decide +kernel)) (by decide +kernel)
theorem ct_MO_235 {q : MM} (hq : q.1 = R_MO) : CallTo q m_MO_minute (.invokevirtual 235) 2 (some (some R_MO)) := ct_V (by rw [hq]; exact tG 1093 (by decide +kernel) (by decide +kernel)) (tG 1095 (by decide +kernel) (by decide +kernel)) (sG 44 (by decide +kernel) (by decide +kernel)) (tG 13 (by decide +kernel) (by decide +kernel)) (tG 1096 (by decide +kernel) (by decide +kernel)) (by decide +kernel)
theorem ct_MO_238 {q : MM} (hq : q.1 = R_MO) : CallTo q m_MO_livesBy (.invokevirtual 238) 2 (some (some R_MO)) := ct_V (by rw [hq]; exact tG 1089 (by decide +kernel) (by decide +kernel)) (tG 1091 (by decide +kernel) (by decide +kernel)) (sG 43 (by decide +kernel) (by decide +kernel)) (tG 13 (by decide +kernel) (by decide +kernel)) (tG 1092 (by decide +kernel) (by decide +kernel)) (by decide +kernel)
theorem ct_MO_241 {q : MM} (hq : q.1 = R_MO) : CallTo q m_MO_lives (.invokevirtual 241) 2 (some (some R_MO)) := ct_V (by rw [hq]; exact tG 1085 (by decide +kernel) (by decide +kernel)) (tG 1087 (by decide +kernel) (by decide +kernel)) (sG 42 (by decide +kernel) (by decide +kernel)) (tG 13 (by decide +kernel) (by decide +kernel)) (tG 1088 (by decide +kernel) (by decide +kernel)) (by decide +kernel)
theorem ct_MO_244 {q : MM} (hq : q.1 = R_MO) : CallTo q m_MO_sumOf (.invokevirtual 244) 2 (some (some R_MO)) := ct_V (by rw [hq]; exact tG 1132 (by decide +kernel) (by decide +kernel)) (tG 1134 (by decide +kernel) (by decide +kernel)) (sG 52 (by decide +kernel) (by decide +kernel)) (tG 13 (by decide +kernel) (by decide +kernel)) (tG 1135 (by decide +kernel) (by decide +kernel)) (by decide +kernel)
theorem ct_MO_247 {q : MM} (hq : q.1 = R_MO) : CallTo q m_MO_whenOf (.invokevirtual 247) 2 (some (some R_MO)) := ct_V (by rw [hq]; exact tG 1140 (by decide +kernel) (by decide +kernel)) (tG 1142 (by decide +kernel) (by decide +kernel)) (sG 53 (by decide +kernel) (by decide +kernel)) (tG 13 (by decide +kernel) (by decide +kernel)) (tG 1143 (by decide +kernel) (by decide +kernel)) (by decide +kernel)
theorem ct_MO_250 {q : MM} (hq : q.1 = R_MO) : CallTo q m_MO_downNow (.invokevirtual 250) 1 (some (some R_MO)) := ct_V (by rw [hq]; exact tG 1160 (by decide +kernel) (by decide +kernel)) (tG 1162 (by decide +kernel) (by decide +kernel)) (sG 55 (by decide +kernel) (by decide +kernel)) (tG 13 (by decide +kernel) (by decide +kernel)) (tG 1163 (by decide +kernel) (by decide +kernel)) (by decide +kernel)
theorem ct_MO_253 {q : MM} (hq : q.1 = R_MO) : CallTo q m_MO_downs (.invokevirtual 253) 2 (some (some R_MO)) := ct_V (by rw [hq]; exact tG 1156 (by decide +kernel) (by decide +kernel)) (tG 1158 (by decide +kernel) (by decide +kernel)) (sG 54 (by decide +kernel) (by decide +kernel)) (tG 13 (by decide +kernel) (by decide +kernel)) (tG 1159 (by decide +kernel) (by decide +kernel)) (by decide +kernel)
theorem ct_MO_256 {q : MM} (hq : q.1 = R_MO) : CallTo q m_MO_keeps (.invokevirtual 256) 1 (some (some R_MO)) := ct_V (by rw [hq]; exact tG 1172 (by decide +kernel) (by decide +kernel)) (tG 1174 (by decide +kernel) (by decide +kernel)) (sG 56 (by decide +kernel) (by decide +kernel)) (tG 13 (by decide +kernel) (by decide +kernel)) (tG 1175 (by decide +kernel) (by decide +kernel)) (by decide +kernel)
theorem ct_MO_259 {q : MM} (hq : q.1 = R_MO) : CallTo q m_MO_laysBack (.invokevirtual 259) 1 (some (some R_MO)) := ct_V (by rw [hq]; exact tG 1176 (by decide +kernel) (by decide +kernel)) (tG 1178 (by decide +kernel) (by decide +kernel)) (sG 57 (by decide +kernel) (by decide +kernel)) (tG 13 (by decide +kernel) (by decide +kernel)) (tG 1179 (by decide +kernel) (by decide +kernel)) (by decide +kernel)
theorem ct_MO_262 {q : MM} (hq : q.1 = R_MO) : CallTo q m_MO_sheetWrong (.invokevirtual 262) 2 (some (some R_MO)) := ct_V (by rw [hq]; exact tG 1204 (by decide +kernel) (by decide +kernel)) (tG 1206 (by decide +kernel) (by decide +kernel)) (sG 59 (by decide +kernel) (by decide +kernel)) (tG 13 (by decide +kernel) (by decide +kernel)) (tG 1207 (by decide +kernel) (by decide +kernel)) (by decide +kernel)
theorem ct_MO_265 {q : MM} (hq : q.1 = R_MO) : CallTo q m_MO_toldWrong (.invokevirtual 265) 3 (some (some R_MO)) := ct_V (by rw [hq]; exact tG 1200 (by decide +kernel) (by decide +kernel)) (tG 1202 (by decide +kernel) (by decide +kernel)) (sG 58 (by decide +kernel) (by decide +kernel)) (tG 13 (by decide +kernel) (by decide +kernel)) (tG 1203 (by decide +kernel) (by decide +kernel)) (by decide +kernel)
theorem ct_MO_268 {q : MM} (hq : q.1 = R_MO) : CallTo q m_MO_unlike (.invokevirtual 268) 3 (some (some R_MO)) := ct_V (by rw [hq]; exact tG 1208 (by decide +kernel) (by decide +kernel)) (tG 1210 (by decide +kernel) (by decide +kernel)) (sG 60 (by decide +kernel) (by decide +kernel)) (tG 13 (by decide +kernel) (by decide +kernel)) (tG 1211 (by decide +kernel) (by decide +kernel)) (by decide +kernel)
theorem ct_MO_272 {q : MM} (hq : q.1 = R_MO) : CallTo q m_MO_isDrawn (.invokestatic 272) 3 none := ct_So (by rw [hq]; exact tG 1232 (by decide +kernel) (by decide +kernel)) (tG 1233 (by decide +kernel) (by decide +kernel)) (tG 13 (by decide +kernel) (by decide +kernel)) (tG 1234 (by decide +kernel) (by decide +kernel)) (by decide +kernel)
theorem ct_MO_275 {q : MM} (hq : q.1 = R_MO) : CallTo q m_MO_downsBy (.invokevirtual 275) 4 (some (some R_MO)) := ct_V (by rw [hq]; exact tG 1236 (by decide +kernel) (by decide +kernel)) (tG 1238 (by decide +kernel) (by decide +kernel)) (sG 61 (by decide +kernel) (by decide +kernel)) (tG 13 (by decide +kernel) (by decide +kernel)) (tG 1239 (by decide +kernel) (by decide +kernel)) (by decide +kernel)
theorem ct_MO_282 {q : MM} (hq : q.1 = R_MO) : CallTo q m_MO_lowest (.invokestatic 282) 3 none := ct_So (by rw [hq]; exact tG 1246 (by decide +kernel) (by decide +kernel)) (tG 1247 (by decide +kernel) (by decide +kernel)) (tG 13 (by decide +kernel) (by decide +kernel)) (tG 1248 (by decide +kernel) (by decide +kernel)) (by decide +kernel)
theorem ct_MO_296 {q : MM} (hq : q.1 = R_MO) : CallTo q m_MO_house (.invokevirtual 296) 4 (some (some R_MO)) := ct_V (by rw [hq]; exact tG 1273 (by decide +kernel) (by decide +kernel)) (tG 1058 (by decide +kernel) (by decide +kernel)) (tG 1059 (by decide +kernel) (by decide +kernel)) (tG 13 (by decide +kernel) (by decide +kernel)) (tG 1060 (by decide +kernel) (by decide +kernel)) (by decide +kernel)
theorem ct_MO_299 {q : MM} (hq : q.1 = R_MO) : CallTo q m_MO_isUnder (.invokestatic 299) 2 none := ct_So (by rw [hq]; exact tG 1278 (by decide +kernel) (by decide +kernel)) (tG 1279 (by decide +kernel) (by decide +kernel)) (tG 13 (by decide +kernel) (by decide +kernel)) (tG 1280 (by decide +kernel) (by decide +kernel)) (by decide +kernel)
theorem ct_MO_93 {q : MM} (hq : q.1 = R_MO) : CallTo q m_MO_in (.invokestatic 93) 3 none := ct_So (by rw [hq]; exact tG 844 (by decide +kernel) (by decide +kernel)) (tG 845 (by decide +kernel) (by decide +kernel)) (tG 13 (by decide +kernel) (by decide +kernel)) (tG 846 (by decide +kernel) (by decide +kernel)) (by decide +kernel)
theorem ct_MO_97 {q : MM} (hq : q.1 = R_MO) : CallTo q m_MO_isLesser (.invokevirtual 97) 2 (some (some R_MO)) := ct_V (by rw [hq]; exact tG 1012 (by decide +kernel) (by decide +kernel)) (tG 1014 (by decide +kernel) (by decide +kernel)) (sG 35 (by decide +kernel) (by decide +kernel)) (tG 13 (by decide +kernel) (by decide +kernel)) (tG 1015 (by decide +kernel) (by decide +kernel)) (by decide +kernel)
theorem ct_Reader_101 {q : MM} (hq : q.1 = R_Reader) : CallTo q m_Reader_isWord (.invokevirtual 101) 2 (some (some R_Reader)) := ct_V (by rw [hq]; exact tG 273 (by decide +kernel) (by decide +kernel)) (tG 275 (by decide +kernel) (by decide +kernel)) (sG 2 (by decide +kernel) (by decide +kernel)) (tG 4 (by decide +kernel) (by decide +kernel)) (tG 276 (by decide +kernel) (by decide +kernel)) (by decide +kernel)
theorem ct_Reader_115 {q : MM} (hq : q.1 = R_Reader) : CallTo q m_Reader_nameRead (.invokevirtual 115) 1 (some (some R_Reader)) := ct_V (by rw [hq]; exact tG 284 (by decide +kernel) (by decide +kernel)) (tG 286 (by decide +kernel) (by decide +kernel)) (sG 3 (by decide +kernel) (by decide +kernel)) (tG 4 (by decide +kernel) (by decide +kernel)) (tG 287 (by decide +kernel) (by decide +kernel)) (by decide +kernel)
theorem ct_Reader_131 {q : MM} (hq : q.1 = R_Reader) : CallTo q m_Str_length (.invokevirtual 131) 1 (some (some "java/lang/String")) := ct_V (by rw [hq]; exact tG 277 (by decide +kernel) (by decide +kernel)) (tG 204 (by decide +kernel) (by decide +kernel)) (tG 205 (by decide +kernel) (by decide +kernel)) (tG 8 (by decide +kernel) (by decide +kernel)) (tG 206 (by decide +kernel) (by decide +kernel)) (by decide +kernel)
theorem ct_Reader_136 {q : MM} (hq : q.1 = R_Reader) : CallTo q m_Str_charAt (.invokevirtual 136) 2 (some (some "java/lang/String")) := ct_V (by rw [hq]; exact tG 278 (by decide +kernel) (by decide +kernel)) (tG 214 (by decide +kernel) (by decide +kernel)) (tG 215 (by decide +kernel) (by decide +kernel)) (tG 8 (by decide +kernel) (by decide +kernel)) (tG 216 (by decide +kernel) (by decide +kernel)) (by decide +kernel)
theorem ct_Reader_140 {q : MM} (hq : q.1 = R_Reader) : CallTo q m_UF_within (.invokestatic 140) 3 none := ct_SN (host := "UpperFloors") (by rw [hq]; decide +kernel) (tG 266 (by decide +kernel) (by decide +kernel)) (tG 1 (by decide +kernel) (by decide +kernel)) (tG 267 (by decide +kernel) (by decide +kernel)) (by decide +kernel)
theorem ct_Reader_15 {q : MM} (hq : q.1 = R_Reader) : CallTo q m_Math_min (.invokestatic 15) 2 none := ct_So (by rw [hq]; exact tG 255 (by decide +kernel) (by decide +kernel)) (tG 256 (by decide +kernel) (by decide +kernel)) (tG 12 (by decide +kernel) (by decide +kernel)) (tG 257 (by decide +kernel) (by decide +kernel)) (by decide +kernel)
theorem ct_Reader_37 {q : MM} (hq : q.1 = R_Reader) : CallTo q m_Reader_next (.invokevirtual 37) 1 (some (some R_Reader)) := ct_V (by rw [hq]; exact tG 258 (by decide +kernel) (by decide +kernel)) (tG 260 (by decide +kernel) (by decide +kernel)) (sG 0 (by decide +kernel) (by decide +kernel)) (tG 4 (by decide +kernel) (by decide +kernel)) (tG 261 (by decide +kernel) (by decide +kernel)) (by decide +kernel)
theorem ct_Reader_43 {q : MM} (hq : q.1 = R_Reader) : CallTo q m_Reader_take (.invokevirtual 43) 2 (some (some R_Reader)) := ct_V (by rw [hq]; exact tG 305 (by decide +kernel) (by decide +kernel)) (tG 307 (by decide +kernel) (by decide +kernel)) (sG 6 (by decide +kernel) (by decide +kernel)) (tG 4 (by decide +kernel) (by decide +kernel)) (tG 308 (by decide +kernel) (by decide +kernel)) (by decide +kernel)
theorem ct_Reader_47 {q : MM} (hq : q.1 = R_Reader) : CallTo q m_Reader_either (.invokevirtual 47) 2 (some (some R_Reader)) := ct_V (by rw [hq]; exact tG 309 (by decide +kernel) (by decide +kernel)) (tG 311 (by decide +kernel) (by decide +kernel)) (sG 7 (by decide +kernel) (by decide +kernel)) (tG 4 (by decide +kernel) (by decide +kernel)) (tG 312 (by decide +kernel) (by decide +kernel)) (by decide +kernel)
theorem ct_Reader_56 {q : MM} (hq : q.1 = R_Reader) : CallTo q m_Reader_both (.invokevirtual 56) 2 (some (some R_Reader)) := ct_V (by rw [hq]; exact tG 313 (by decide +kernel) (by decide +kernel)) (tG 315 (by decide +kernel) (by decide +kernel)) (sG 8 (by decide +kernel) (by decide +kernel)) (tG 4 (by decide +kernel) (by decide +kernel)) (tG 316 (by decide +kernel) (by decide +kernel)) (by decide +kernel)
theorem ct_Reader_59 {q : MM} (hq : q.1 = R_Reader) : CallTo q m_Law_add (.invokevirtual 59) 2 (some (some R_Law)) := ct_V (by rw [hq]; exact tG 337 (by decide +kernel) (by decide +kernel)) (tG 338 (by decide +kernel) (by decide +kernel)) (tG 339 (by decide +kernel) (by decide +kernel)) (tG 6 (by decide +kernel) (by decide +kernel)) (tG 340 (by decide +kernel) (by decide +kernel)) (by decide +kernel)
theorem ct_Reader_63 {q : MM} (hq : q.1 = R_Reader) : CallTo q m_Reader_unless (.invokevirtual 63) 2 (some (some R_Reader)) := ct_V (by rw [hq]; exact tG 317 (by decide +kernel) (by decide +kernel)) (tG 319 (by decide +kernel) (by decide +kernel)) (sG 9 (by decide +kernel) (by decide +kernel)) (tG 4 (by decide +kernel) (by decide +kernel)) (tG 320 (by decide +kernel) (by decide +kernel)) (by decide +kernel)
theorem ct_Reader_66 {q : MM} (hq : q.1 = R_Reader) : CallTo q m_Reader_compared (.invokevirtual 66) 2 (some (some R_Reader)) := ct_V (by rw [hq]; exact tG 321 (by decide +kernel) (by decide +kernel)) (tG 323 (by decide +kernel) (by decide +kernel)) (sG 10 (by decide +kernel) (by decide +kernel)) (tG 4 (by decide +kernel) (by decide +kernel)) (tG 324 (by decide +kernel) (by decide +kernel)) (by decide +kernel)
theorem ct_Reader_69 {q : MM} (hq : q.1 = R_Reader) : CallTo q m_Reader_sum (.invokevirtual 69) 2 (some (some R_Reader)) := ct_V (by rw [hq]; exact tG 325 (by decide +kernel) (by decide +kernel)) (tG 327 (by decide +kernel) (by decide +kernel)) (sG 11 (by decide +kernel) (by decide +kernel)) (tG 4 (by decide +kernel) (by decide +kernel)) (tG 328 (by decide +kernel) (by decide +kernel)) (by decide +kernel)
theorem ct_Reader_72 {q : MM} (hq : q.1 = R_Reader) : CallTo q m_Reader_term (.invokevirtual 72) 2 (some (some R_Reader)) := ct_V (by rw [hq]; exact tG 329 (by decide +kernel) (by decide +kernel)) (tG 331 (by decide +kernel) (by decide +kernel)) (sG 12 (by decide +kernel) (by decide +kernel)) (tG 4 (by decide +kernel) (by decide +kernel)) (tG 332 (by decide +kernel) (by decide +kernel)) (by decide +kernel)
theorem ct_Reader_75 {q : MM} (hq : q.1 = R_Reader) : CallTo q m_Reader_one (.invokevirtual 75) 2 (some (some R_Reader)) := ct_V (by rw [hq]; exact tG 333 (by decide +kernel) (by decide +kernel)) (tG 335 (by decide +kernel) (by decide +kernel)) (sG 13 (by decide +kernel) (by decide +kernel)) (tG 4 (by decide +kernel) (by decide +kernel)) (tG 336 (by decide +kernel) (by decide +kernel)) (by decide +kernel)
theorem ct_Reader_81 {q : MM} (hq : q.1 = R_Reader) : CallTo q m_Law_addName (.invokevirtual 81) 2 (some (some R_Law)) := ct_V (by rw [hq]; exact tG 341 (by decide +kernel) (by decide +kernel)) (tG 342 (by decide +kernel) (by decide +kernel)) (tG 343 (by decide +kernel) (by decide +kernel)) (tG 6 (by decide +kernel) (by decide +kernel)) (tG 344 (by decide +kernel) (by decide +kernel)) (by decide +kernel)
theorem ct_Reader_84 {q : MM} (hq : q.1 = R_Reader) : CallTo q m_Reader_isLetter (.invokestatic 84) 1 none := ct_So (by rw [hq]; exact tG 262 (by decide +kernel) (by decide +kernel)) (tG 263 (by decide +kernel) (by decide +kernel)) (tG 4 (by decide +kernel) (by decide +kernel)) (tG 264 (by decide +kernel) (by decide +kernel)) (by decide +kernel)
theorem ct_Reader_87 {q : MM} (hq : q.1 = R_Reader) : CallTo q m_Reader_word (.invokevirtual 87) 1 (some (some R_Reader)) := ct_V (by rw [hq]; exact tG 268 (by decide +kernel) (by decide +kernel)) (tG 270 (by decide +kernel) (by decide +kernel)) (sG 1 (by decide +kernel) (by decide +kernel)) (tG 4 (by decide +kernel) (by decide +kernel)) (tG 271 (by decide +kernel) (by decide +kernel)) (by decide +kernel)
theorem ct_Reader_90 {q : MM} (hq : q.1 = R_Reader) : CallTo q m_Reader_isDigit (.invokestatic 90) 1 none := ct_So (by rw [hq]; exact tG 294 (by decide +kernel) (by decide +kernel)) (tG 295 (by decide +kernel) (by decide +kernel)) (tG 4 (by decide +kernel) (by decide +kernel)) (tG 296 (by decide +kernel) (by decide +kernel)) (by decide +kernel)
theorem ct_Reader_93 {q : MM} (hq : q.1 = R_Reader) : CallTo q m_Reader_number (.invokevirtual 93) 1 (some (some R_Reader)) := ct_V (by rw [hq]; exact tG 297 (by decide +kernel) (by decide +kernel)) (tG 299 (by decide +kernel) (by decide +kernel)) (sG 4 (by decide +kernel) (by decide +kernel)) (tG 4 (by decide +kernel) (by decide +kernel)) (tG 300 (by decide +kernel) (by decide +kernel)) (by decide +kernel)
theorem ct_Reader_96 {q : MM} (hq : q.1 = R_Reader) : CallTo q m_Reader_sign (.invokevirtual 96) 1 (some (some R_Reader)) := ct_V (by rw [hq]; exact tG 301 (by decide +kernel) (by decide +kernel)) (tG 303 (by decide +kernel) (by decide +kernel)) (sG 5 (by decide +kernel) (by decide +kernel)) (tG 4 (by decide +kernel) (by decide +kernel)) (tG 304 (by decide +kernel) (by decide +kernel)) (by decide +kernel)
theorem ct_Sheet_22 {q : MM} (hq : q.1 = R_Sheet) : CallTo q m_Sheet_has (.invokevirtual 22) 2 (some (some R_Sheet)) := ct_V (by rw [hq]; exact tG 760 (by decide +kernel) (by decide +kernel)) (tG 761 (by decide +kernel) (by decide +kernel)) (tG 762 (by decide +kernel) (by decide +kernel)) (tG 7 (by decide +kernel) (by decide +kernel)) (tG 763 (by decide +kernel) (by decide +kernel)) (by decide +kernel)
theorem ct_Town_34 {q : MM} (hq : q.1 = R_Town) : CallTo q m_UF_within (.invokestatic 34) 3 none := ct_SN (host := "UpperFloors") (by rw [hq]; decide +kernel) (tG 266 (by decide +kernel) (by decide +kernel)) (tG 1 (by decide +kernel) (by decide +kernel)) (tG 267 (by decide +kernel) (by decide +kernel)) (by decide +kernel)
theorem ct_Town_38 {q : MM} (hq : q.1 = R_Town) : CallTo q m_Town_loosen (.invokevirtual 38) 2 (some (some R_Town)) := ct_V (by rw [hq]; exact tG 536 (by decide +kernel) (by decide +kernel)) (tG 537 (by decide +kernel) (by decide +kernel)) (tG 538 (by decide +kernel) (by decide +kernel)) (tG 2 (by decide +kernel) (by decide +kernel)) (tG 539 (by decide +kernel) (by decide +kernel)) (by decide +kernel)
theorem ct_Town_42 {q : MM} (hq : q.1 = R_Town) : CallTo q m_Town_leads (.invokevirtual 42) 2 (some (some R_Town)) := ct_V (by rw [hq]; exact tG 389 (by decide +kernel) (by decide +kernel)) (tG 390 (by decide +kernel) (by decide +kernel)) (tG 391 (by decide +kernel) (by decide +kernel)) (tG 2 (by decide +kernel) (by decide +kernel)) (tG 392 (by decide +kernel) (by decide +kernel)) (by decide +kernel)
theorem ct_Town_46 {q : MM} (hq : q.1 = R_Town) : CallTo q m_Town_isDown (.invokevirtual 46) 2 (some (some R_Town)) := ct_V (by rw [hq]; exact tG 644 (by decide +kernel) (by decide +kernel)) (tG 645 (by decide +kernel) (by decide +kernel)) (tG 646 (by decide +kernel) (by decide +kernel)) (tG 2 (by decide +kernel) (by decide +kernel)) (tG 647 (by decide +kernel) (by decide +kernel)) (by decide +kernel)
theorem ct_Town_49 {q : MM} (hq : q.1 = R_Town) : CallTo q m_Town_downBits (.invokevirtual 49) 1 (some (some R_Town)) := ct_V (by rw [hq]; exact tG 686 (by decide +kernel) (by decide +kernel)) (tG 641 (by decide +kernel) (by decide +kernel)) (tG 642 (by decide +kernel) (by decide +kernel)) (tG 2 (by decide +kernel) (by decide +kernel)) (tG 643 (by decide +kernel) (by decide +kernel)) (by decide +kernel)
theorem ct_Town_53 {q : MM} (hq : q.1 = R_Town) : CallTo q m_Integer_bitCount (.invokestatic 53) 1 none := ct_So (by rw [hq]; exact tG 687 (by decide +kernel) (by decide +kernel)) (tG 688 (by decide +kernel) (by decide +kernel)) (tG 20 (by decide +kernel) (by decide +kernel)) (tG 689 (by decide +kernel) (by decide +kernel)) (by decide +kernel)
theorem ct_UF_103 {q : MM} (hq : q.1 = R_UF) : CallTo q m_UF_put (.invokevirtual 103) 2 (some (some R_UF)) := ct_V (by rw [hq]; exact tG 405 (by decide +kernel) (by decide +kernel)) (tG 407 (by decide +kernel) (by decide +kernel)) (sG 14 (by decide +kernel) (by decide +kernel)) (tG 1 (by decide +kernel) (by decide +kernel)) (tG 408 (by decide +kernel) (by decide +kernel)) (by decide +kernel)
theorem ct_UF_107 {q : MM} (hq : q.1 = R_UF) : CallTo q m_UF_isHouse (.invokevirtual 107) 2 (some (some R_UF)) := ct_V (by rw [hq]; exact tG 421 (by decide +kernel) (by decide +kernel)) (tG 423 (by decide +kernel) (by decide +kernel)) (sG 15 (by decide +kernel) (by decide +kernel)) (tG 1 (by decide +kernel) (by decide +kernel)) (tG 424 (by decide +kernel) (by decide +kernel)) (by decide +kernel)
theorem ct_UF_110 {q : MM} (hq : q.1 = R_UF) : CallTo q m_UF_ready (.invokevirtual 110) 1 (some (some R_UF)) := ct_V (by rw [hq]; exact tG 425 (by decide +kernel) (by decide +kernel)) (tG 427 (by decide +kernel) (by decide +kernel)) (sG 16 (by decide +kernel) (by decide +kernel)) (tG 1 (by decide +kernel) (by decide +kernel)) (tG 428 (by decide +kernel) (by decide +kernel)) (by decide +kernel)
theorem ct_UF_113 {q : MM} (hq : q.1 = R_UF) : CallTo q m_Dusk_says (.invokevirtual 113) 5 (some (some R_Dusk)) := ct_V (by rw [hq]; exact tG 440 (by decide +kernel) (by decide +kernel)) (tG 441 (by decide +kernel) (by decide +kernel)) (tG 442 (by decide +kernel) (by decide +kernel)) (tG 3 (by decide +kernel) (by decide +kernel)) (tG 443 (by decide +kernel) (by decide +kernel)) (by decide +kernel)
theorem ct_UF_130 {q : MM} (hq : q.1 = R_UF) : CallTo q m_Town_join (.invokevirtual 130) 3 (some (some R_Town)) := ct_V (by rw [hq]; exact tG 532 (by decide +kernel) (by decide +kernel)) (tG 533 (by decide +kernel) (by decide +kernel)) (tG 534 (by decide +kernel) (by decide +kernel)) (tG 2 (by decide +kernel) (by decide +kernel)) (tG 535 (by decide +kernel) (by decide +kernel)) (by decide +kernel)
theorem ct_UF_143 {q : MM} (hq : q.1 = R_UF) : CallTo q m_UF_isSpan (.invokestatic 143) 1 none := ct_So (by rw [hq]; exact tG 549 (by decide +kernel) (by decide +kernel)) (tG 550 (by decide +kernel) (by decide +kernel)) (tG 1 (by decide +kernel) (by decide +kernel)) (tG 551 (by decide +kernel) (by decide +kernel)) (by decide +kernel)
theorem ct_UF_146 {q : MM} (hq : q.1 = R_UF) : CallTo q m_Dusk_go (.invokevirtual 146) 2 (some (some R_Dusk)) := ct_V (by rw [hq]; exact tG 552 (by decide +kernel) (by decide +kernel)) (tG 553 (by decide +kernel) (by decide +kernel)) (tG 554 (by decide +kernel) (by decide +kernel)) (tG 3 (by decide +kernel) (by decide +kernel)) (tG 555 (by decide +kernel) (by decide +kernel)) (by decide +kernel)
theorem ct_UF_161 {q : MM} (hq : q.1 = R_UF) : CallTo q m_Dusk_weighs (.invokevirtual 161) 3 (some (some R_Dusk)) := ct_V (by rw [hq]; exact tG 635 (by decide +kernel) (by decide +kernel)) (tG 579 (by decide +kernel) (by decide +kernel)) (tG 580 (by decide +kernel) (by decide +kernel)) (tG 3 (by decide +kernel) (by decide +kernel)) (tG 581 (by decide +kernel) (by decide +kernel)) (by decide +kernel)
theorem ct_UF_165 {q : MM} (hq : q.1 = R_UF) : CallTo q m_Town_downBits (.invokevirtual 165) 1 (some (some R_Town)) := ct_V (by rw [hq]; exact tG 640 (by decide +kernel) (by decide +kernel)) (tG 641 (by decide +kernel) (by decide +kernel)) (tG 642 (by decide +kernel) (by decide +kernel)) (tG 2 (by decide +kernel) (by decide +kernel)) (tG 643 (by decide +kernel) (by decide +kernel)) (by decide +kernel)
theorem ct_UF_168 {q : MM} (hq : q.1 = R_UF) : CallTo q m_Dusk_hitsTogether (.invokevirtual 168) 1 (some (some R_Dusk)) := ct_V (by rw [hq]; exact tG 648 (by decide +kernel) (by decide +kernel)) (tG 649 (by decide +kernel) (by decide +kernel)) (tG 650 (by decide +kernel) (by decide +kernel)) (tG 3 (by decide +kernel) (by decide +kernel)) (tG 651 (by decide +kernel) (by decide +kernel)) (by decide +kernel)
theorem ct_UF_171 {q : MM} (hq : q.1 = R_UF) : CallTo q m_Town_highTogether (.invokevirtual 171) 1 (some (some R_Town)) := ct_V (by rw [hq]; exact tG 652 (by decide +kernel) (by decide +kernel)) (tG 653 (by decide +kernel) (by decide +kernel)) (tG 654 (by decide +kernel) (by decide +kernel)) (tG 2 (by decide +kernel) (by decide +kernel)) (tG 655 (by decide +kernel) (by decide +kernel)) (by decide +kernel)
theorem ct_UF_174 {q : MM} (hq : q.1 = R_UF) : CallTo q m_Dusk_stillBits (.invokevirtual 174) 1 (some (some R_Dusk)) := ct_V (by rw [hq]; exact tG 656 (by decide +kernel) (by decide +kernel)) (tG 657 (by decide +kernel) (by decide +kernel)) (tG 658 (by decide +kernel) (by decide +kernel)) (tG 3 (by decide +kernel) (by decide +kernel)) (tG 659 (by decide +kernel) (by decide +kernel)) (by decide +kernel)
theorem ct_UF_177 {q : MM} (hq : q.1 = R_UF) : CallTo q m_Dusk_firstDown (.invokevirtual 177) 2 (some (some R_Dusk)) := ct_V (by rw [hq]; exact tG 664 (by decide +kernel) (by decide +kernel)) (tG 665 (by decide +kernel) (by decide +kernel)) (tG 666 (by decide +kernel) (by decide +kernel)) (tG 3 (by decide +kernel) (by decide +kernel)) (tG 667 (by decide +kernel) (by decide +kernel)) (by decide +kernel)
theorem ct_UF_181 {q : MM} (hq : q.1 = R_UF) : CallTo q m_Town_isDown (.invokevirtual 181) 2 (some (some R_Town)) := ct_V (by rw [hq]; exact tG 677 (by decide +kernel) (by decide +kernel)) (tG 645 (by decide +kernel) (by decide +kernel)) (tG 646 (by decide +kernel) (by decide +kernel)) (tG 2 (by decide +kernel) (by decide +kernel)) (tG 647 (by decide +kernel) (by decide +kernel)) (by decide +kernel)
theorem ct_UF_184 {q : MM} (hq : q.1 = R_UF) : CallTo q m_Town_downCount (.invokevirtual 184) 1 (some (some R_Town)) := ct_V (by rw [hq]; exact tG 682 (by decide +kernel) (by decide +kernel)) (tG 683 (by decide +kernel) (by decide +kernel)) (tG 684 (by decide +kernel) (by decide +kernel)) (tG 2 (by decide +kernel) (by decide +kernel)) (tG 685 (by decide +kernel) (by decide +kernel)) (by decide +kernel)
theorem ct_UF_187 {q : MM} (hq : q.1 = R_UF) : CallTo q m_Town_leads (.invokevirtual 187) 2 (some (some R_Town)) := ct_V (by rw [hq]; exact tG 705 (by decide +kernel) (by decide +kernel)) (tG 390 (by decide +kernel) (by decide +kernel)) (tG 391 (by decide +kernel) (by decide +kernel)) (tG 2 (by decide +kernel) (by decide +kernel)) (tG 392 (by decide +kernel) (by decide +kernel)) (by decide +kernel)
theorem ct_UF_190 {q : MM} (hq : q.1 = R_UF) : CallTo q m_Town_loosen (.invokevirtual 190) 2 (some (some R_Town)) := ct_V (by rw [hq]; exact tG 706 (by decide +kernel) (by decide +kernel)) (tG 537 (by decide +kernel) (by decide +kernel)) (tG 538 (by decide +kernel) (by decide +kernel)) (tG 2 (by decide +kernel) (by decide +kernel)) (tG 539 (by decide +kernel) (by decide +kernel)) (by decide +kernel)
theorem ct_UF_193 {q : MM} (hq : q.1 = R_UF) : CallTo q m_Math_min (.invokestatic 193) 2 none := ct_So (by rw [hq]; exact tG 719 (by decide +kernel) (by decide +kernel)) (tG 256 (by decide +kernel) (by decide +kernel)) (tG 12 (by decide +kernel) (by decide +kernel)) (tG 257 (by decide +kernel) (by decide +kernel)) (by decide +kernel)
theorem ct_UF_198 {q : MM} (hq : q.1 = R_UF) : CallTo q m_UF_tellingRefusal (.invokevirtual 198) 2 (some (some R_UF)) := ct_V (by rw [hq]; exact tG 724 (by decide +kernel) (by decide +kernel)) (tG 726 (by decide +kernel) (by decide +kernel)) (sG 23 (by decide +kernel) (by decide +kernel)) (tG 1 (by decide +kernel) (by decide +kernel)) (tG 727 (by decide +kernel) (by decide +kernel)) (by decide +kernel)
theorem ct_UF_201 {q : MM} (hq : q.1 = R_UF) : CallTo q m_Sheet_firstOtherwise (.invokevirtual 201) 2 (some (some R_Sheet)) := ct_V (by rw [hq]; exact tG 731 (by decide +kernel) (by decide +kernel)) (tG 732 (by decide +kernel) (by decide +kernel)) (tG 733 (by decide +kernel) (by decide +kernel)) (tG 7 (by decide +kernel) (by decide +kernel)) (tG 734 (by decide +kernel) (by decide +kernel)) (by decide +kernel)
theorem ct_UF_205 {q : MM} (hq : q.1 = R_UF) : CallTo q m_Dusk_pass (.invokevirtual 205) 3 (some (some R_Dusk)) := ct_V (by rw [hq]; exact tG 739 (by decide +kernel) (by decide +kernel)) (tG 557 (by decide +kernel) (by decide +kernel)) (tG 558 (by decide +kernel) (by decide +kernel)) (tG 3 (by decide +kernel) (by decide +kernel)) (tG 559 (by decide +kernel) (by decide +kernel)) (by decide +kernel)
theorem ct_UF_211 {q : MM} (hq : q.1 = R_UF) : CallTo q m_UF_isSheet (.invokestatic 211) 1 none := ct_So (by rw [hq]; exact tG 728 (by decide +kernel) (by decide +kernel)) (tG 729 (by decide +kernel) (by decide +kernel)) (tG 1 (by decide +kernel) (by decide +kernel)) (tG 730 (by decide +kernel) (by decide +kernel)) (by decide +kernel)
theorem ct_UF_214 {q : MM} (hq : q.1 = R_UF) : CallTo q m_Sheet_renew (.invokevirtual 214) 3 (some (some R_Sheet)) := ct_V (by rw [hq]; exact tG 752 (by decide +kernel) (by decide +kernel)) (tG 753 (by decide +kernel) (by decide +kernel)) (tG 754 (by decide +kernel) (by decide +kernel)) (tG 7 (by decide +kernel) (by decide +kernel)) (tG 755 (by decide +kernel) (by decide +kernel)) (by decide +kernel)
theorem ct_UF_217 {q : MM} (hq : q.1 = R_UF) : CallTo q m_Sheet_write (.invokevirtual 217) 3 (some (some R_Sheet)) := ct_V (by rw [hq]; exact tG 756 (by decide +kernel) (by decide +kernel)) (tG 757 (by decide +kernel) (by decide +kernel)) (tG 758 (by decide +kernel) (by decide +kernel)) (tG 7 (by decide +kernel) (by decide +kernel)) (tG 759 (by decide +kernel) (by decide +kernel)) (by decide +kernel)
theorem ct_UF_220 {q : MM} (hq : q.1 = R_UF) : CallTo q m_UF_isDraw (.invokestatic 220) 3 none := ct_So (by rw [hq]; exact tG 768 (by decide +kernel) (by decide +kernel)) (tG 769 (by decide +kernel) (by decide +kernel)) (tG 1 (by decide +kernel) (by decide +kernel)) (tG 770 (by decide +kernel) (by decide +kernel)) (by decide +kernel)
theorem ct_UF_223 {q : MM} (hq : q.1 = R_UF) : CallTo q m_UF_drawnDown (.invokevirtual 223) 4 (some (some R_UF)) := ct_V (by rw [hq]; exact tG 772 (by decide +kernel) (by decide +kernel)) (tG 774 (by decide +kernel) (by decide +kernel)) (sG 24 (by decide +kernel) (by decide +kernel)) (tG 1 (by decide +kernel) (by decide +kernel)) (tG 775 (by decide +kernel) (by decide +kernel)) (by decide +kernel)
theorem ct_UF_228 {q : MM} (hq : q.1 = R_UF) : CallTo q m_Town_become (.invokevirtual 228) 2 (some (some R_Town)) := ct_V (by rw [hq]; exact tG 788 (by decide +kernel) (by decide +kernel)) (tG 434 (by decide +kernel) (by decide +kernel)) (tG 435 (by decide +kernel) (by decide +kernel)) (tG 2 (by decide +kernel) (by decide +kernel)) (tG 436 (by decide +kernel) (by decide +kernel)) (by decide +kernel)
theorem ct_UF_239 {q : MM} (hq : q.1 = R_UF) : CallTo q m_Sheet_has (.invokevirtual 239) 2 (some (some R_Sheet)) := ct_V (by rw [hq]; exact tG 801 (by decide +kernel) (by decide +kernel)) (tG 761 (by decide +kernel) (by decide +kernel)) (tG 762 (by decide +kernel) (by decide +kernel)) (tG 7 (by decide +kernel) (by decide +kernel)) (tG 763 (by decide +kernel) (by decide +kernel)) (by decide +kernel)
theorem ct_UF_278 {q : MM} (hq : q.1 = R_UF) : CallTo q m_Dusk_begin (.invokevirtual 278) 4 (some (some R_Dusk)) := ct_V (by rw [hq]; exact tG 429 (by decide +kernel) (by decide +kernel)) (tG 430 (by decide +kernel) (by decide +kernel)) (tG 431 (by decide +kernel) (by decide +kernel)) (tG 3 (by decide +kernel) (by decide +kernel)) (tG 432 (by decide +kernel) (by decide +kernel)) (by decide +kernel)
theorem ct_UF_72 {q : MM} (hq : q.1 = R_UF) : CallTo q m_Reader_read (.invokevirtual 72) 4 (some (some R_Reader)) := ct_V (by rw [hq]; exact tG 251 (by decide +kernel) (by decide +kernel)) (tG 252 (by decide +kernel) (by decide +kernel)) (tG 253 (by decide +kernel) (by decide +kernel)) (tG 4 (by decide +kernel) (by decide +kernel)) (tG 254 (by decide +kernel) (by decide +kernel)) (by decide +kernel)
theorem ct_UF_83 {q : MM} (hq : q.1 = R_UF) : CallTo q m_Town_chains (.invokevirtual 83) 1 (some (some R_Town)) := ct_V (by rw [hq]; exact tG 385 (by decide +kernel) (by decide +kernel)) (tG 386 (by decide +kernel) (by decide +kernel)) (tG 387 (by decide +kernel) (by decide +kernel)) (tG 2 (by decide +kernel) (by decide +kernel)) (tG 388 (by decide +kernel) (by decide +kernel)) (by decide +kernel)
theorem ct_UF_86 {q : MM} (hq : q.1 = R_UF) : CallTo q m_Town_crowd (.invokevirtual 86) 1 (some (some R_Town)) := ct_V (by rw [hq]; exact tG 393 (by decide +kernel) (by decide +kernel)) (tG 394 (by decide +kernel) (by decide +kernel)) (tG 395 (by decide +kernel) (by decide +kernel)) (tG 2 (by decide +kernel) (by decide +kernel)) (tG 396 (by decide +kernel) (by decide +kernel)) (by decide +kernel)
theorem ct_UF_95 {q : MM} (hq : q.1 = R_UF) : CallTo q m_UF_within (.invokestatic 95) 3 none := ct_So (by rw [hq]; exact tG 401 (by decide +kernel) (by decide +kernel)) (tG 266 (by decide +kernel) (by decide +kernel)) (tG 1 (by decide +kernel) (by decide +kernel)) (tG 267 (by decide +kernel) (by decide +kernel)) (by decide +kernel)
theorem ct_UF_99 {q : MM} (hq : q.1 = R_UF) : CallTo q m_UF_isByte (.invokestatic 99) 1 none := ct_So (by rw [hq]; exact tG 402 (by decide +kernel) (by decide +kernel)) (tG 403 (by decide +kernel) (by decide +kernel)) (tG 1 (by decide +kernel) (by decide +kernel)) (tG 404 (by decide +kernel) (by decide +kernel)) (by decide +kernel)
