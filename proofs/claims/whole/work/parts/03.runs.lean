/-! THE METHODS, by program: own class, name, bytes, locals, answer, code. -/
def mm_tab : List (String × MethodName × ByteArray × Nat × Option FieldType × List (List (Nat × mm_E))) := [
  ("GasTown", ⟨"GasTown", "<init>", "()V"⟩, prog_1_method_1_code, 1, none, mc_G_init),
  ("GasTown$Sky", ⟨"GasTown$Sky", "<init>", "()V"⟩, prog_10_method_1_code, 1, none, mc_Sky_init),
  ("GasTown$Works", ⟨"GasTown$Works", "<init>", "()V"⟩, prog_12_method_1_code, 1, none, mc_Works_init),
  ("GasTown$Things", ⟨"GasTown$Things", "<init>", "()V"⟩, prog_11_method_1_code, 1, none, mc_Things_init),
  ("GasTown$Net", ⟨"GasTown$Net", "<init>", "()V"⟩, prog_7_method_1_code, 1, none, mc_Net_init),
  ("GasTown$Laws", ⟨"GasTown$Laws", "<init>", "()V"⟩, prog_6_method_1_code, 2, none, mc_Laws_init),
  ("GasTown$Act", ⟨"GasTown$Act", "<init>", "()V"⟩, prog_2_method_1_code, 1, none, mc_Act_init),
  ("GasTown$Parser", ⟨"GasTown$Parser", "<init>", "([ILGasTown$Act;)V"⟩, prog_9_method_1_code, 3, none, mc_Parser_init),
  ("GasTown$Books", ⟨"GasTown$Books", "<init>", "()V"⟩, prog_3_method_1_code, 1, none, mc_Books_init),
  ("GasTown$Night", ⟨"GasTown$Night", "<init>", "()V"⟩, prog_8_method_1_code, 1, none, mc_Night_init),
  ("GasTown$Eyes", ⟨"GasTown$Eyes", "<init>", "()V"⟩, prog_4_method_1_code, 2, none, mc_Eyes_init),
  ("GasTown$Improvements", ⟨"GasTown$Improvements", "<init>", "()V"⟩, prog_5_method_1_code, 1, none, mc_Improvements_init),
  ("GasTown", ⟨"GasTown", "coal", "(IIII)Z"⟩, prog_1_method_2_code, 5, some .boolean, mc_G_coal),
  ("GasTown$Works", ⟨"GasTown$Works", "isCoal", "(I)Z"⟩, prog_12_method_2_code, 2, some .boolean, mc_Works_isCoal),
  ("GasTown", ⟨"GasTown", "within", "(III)Z"⟩, prog_1_method_44_code, 3, some .boolean, mc_G_within),
  ("GasTown", ⟨"GasTown", "buy", "(III)I"⟩, prog_1_method_3_code, 4, some .int, mc_G_buy),
  ("GasTown", ⟨"GasTown", "bench", "()I"⟩, prog_1_method_4_code, 1, some .int, mc_G_bench),
  ("GasTown$Works", ⟨"GasTown$Works", "build", "()I"⟩, prog_12_method_3_code, 1, some .int, mc_Works_build),
  ("GasTown", ⟨"GasTown", "charge", "(III)I"⟩, prog_1_method_5_code, 4, some .int, mc_G_charge),
  ("GasTown$Works", ⟨"GasTown$Works", "light", "(III)I"⟩, prog_12_method_4_code, 4, some .int, mc_Works_light),
  ("GasTown", ⟨"GasTown", "hands", "(I)Z"⟩, prog_1_method_6_code, 2, some .boolean, mc_G_hands),
  ("GasTown", ⟨"GasTown", "holder", "(I)Z"⟩, prog_1_method_7_code, 2, some .boolean, mc_G_holder),
  ("GasTown$Works", ⟨"GasTown$Works", "letOff", "()V"⟩, prog_12_method_8_code, 1, none, mc_Works_letOff),
  ("GasTown", ⟨"GasTown", "round", "(II)Z"⟩, prog_1_method_8_code, 3, some .boolean, mc_G_round),
  ("GasTown", ⟨"GasTown", "fog", "(II)Z"⟩, prog_1_method_9_code, 3, some .boolean, mc_G_fog),
  ("GasTown", ⟨"GasTown", "gate", "(I)Z"⟩, prog_1_method_10_code, 2, some .boolean, mc_G_gate),
  ("GasTown", ⟨"GasTown", "node", "(III)I"⟩, prog_1_method_11_code, 4, some .int, mc_G_node),
  ("GasTown$Net", ⟨"GasTown$Net", "has", "(I)Z"⟩, prog_7_method_2_code, 2, some .boolean, mc_Net_has),
  ("GasTown$Net", ⟨"GasTown$Net", "lay", "(III)I"⟩, prog_7_method_4_code, 4, some .int, mc_Net_lay),
  ("GasTown", ⟨"GasTown", "water", "(IZ)Z"⟩, prog_1_method_12_code, 3, some .boolean, mc_G_water),
  ("GasTown$Net", ⟨"GasTown$Net", "hasPipe", "(I)Z"⟩, prog_7_method_3_code, 2, some .boolean, mc_Net_hasPipe),
  ("GasTown", ⟨"GasTown", "thing", "(IIII)I"⟩, prog_1_method_13_code, 5, some .int, mc_G_thing),
  ("GasTown$Things", ⟨"GasTown$Things", "put", "(IIII)I"⟩, prog_11_method_4_code, 5, some .int, mc_Things_put),
  ("GasTown", ⟨"GasTown", "cut", "(IZ)Z"⟩, prog_1_method_14_code, 3, some .boolean, mc_G_cut),
  ("GasTown$Things", ⟨"GasTown$Things", "has", "(I)Z"⟩, prog_11_method_2_code, 2, some .boolean, mc_Things_has),
  ("GasTown", ⟨"GasTown", "coin", "(II)I"⟩, prog_1_method_15_code, 3, some .int, mc_G_coin),
  ("GasTown$Things", ⟨"GasTown$Things", "isA", "(II)Z"⟩, prog_11_method_3_code, 3, some .boolean, mc_Things_isA),
  ("GasTown", ⟨"GasTown", "frost", "(IZ)Z"⟩, prog_1_method_16_code, 3, some .boolean, mc_G_frost),
  ("GasTown", ⟨"GasTown", "steps", "(I)I"⟩, prog_1_method_17_code, 3, some .int, mc_G_steps),
  ("GasTown", ⟨"GasTown", "goOneStep", "()V"⟩, prog_1_method_18_code, 2, none, mc_G_goOneStep),
  ("GasTown$Works", ⟨"GasTown$Works", "bake", "()V"⟩, prog_12_method_7_code, 3, none, mc_Works_bake),
  ("GasTown$Works", ⟨"GasTown$Works", "gasLater", "(I)I"⟩, prog_12_method_6_code, 4, some .int, mc_Works_gasLater),
  ("GasTown$Works", ⟨"GasTown$Works", "gasOf", "(II)I"⟩, prog_12_method_5_code, 2, some .int, mc_Works_gasOf),
  ("GasTown$Things", ⟨"GasTown$Things", "askAll", "(ILGasTown$Sky;)V"⟩, prog_11_method_7_code, 4, none, mc_Things_askAll),
  ("GasTown$Things", ⟨"GasTown$Things", "wantOf", "(IILGasTown$Sky;)I"⟩, prog_11_method_5_code, 4, some .int, mc_Things_wantOf),
  ("GasTown$Sky", ⟨"GasTown$Sky", "houseWant", "(II)I"⟩, prog_10_method_5_code, 3, some .int, mc_Sky_houseWant),
  ("GasTown$Sky", ⟨"GasTown$Sky", "hourOf", "(I)I"⟩, prog_10_method_3_code, 1, some .int, mc_Sky_hourOf),
  ("GasTown$Sky", ⟨"GasTown$Sky", "dayOf", "(I)I"⟩, prog_10_method_2_code, 1, some .int, mc_Sky_dayOf),
  ("GasTown$Sky", ⟨"GasTown$Sky", "hourlyWant", "(II)I"⟩, prog_10_method_6_code, 2, some .int, mc_Sky_hourlyWant),
  ("GasTown$Sky", ⟨"GasTown$Sky", "fogIn", "(I)I"⟩, prog_10_method_4_code, 3, some .int, mc_Sky_fogIn),
  ("GasTown$Sky", ⟨"GasTown$Sky", "lampBurns", "(II)Z"⟩, prog_10_method_7_code, 4, some .boolean, mc_Sky_lampBurns),
  ("GasTown$Net", ⟨"GasTown$Net", "settle", "(LGasTown$Things;[I)Z"⟩, prog_7_method_5_code, 6, some .boolean, mc_Net_settle),
  ("GasTown$Things", ⟨"GasTown$Things", "takeWants", "()V"⟩, prog_11_method_8_code, 2, none, mc_Things_takeWants),
  ("GasTown$Net", ⟨"GasTown$Net", "gatherFlow", "(LGasTown$Things;)V"⟩, prog_7_method_6_code, 4, none, mc_Net_gatherFlow),
  ("GasTown$Net", ⟨"GasTown$Net", "press", "([I)Z"⟩, prog_7_method_7_code, 6, some .boolean, mc_Net_press),
  ("GasTown$Net", ⟨"GasTown$Net", "pressureBehind", "(II)I"⟩, prog_7_method_8_code, 4, some .int, mc_Net_pressureBehind),
  ("GasTown$Things", ⟨"GasTown$Things", "takeBy", "([I)V"⟩, prog_11_method_10_code, 6, none, mc_Things_takeBy),
  ("GasTown$Things", ⟨"GasTown$Things", "usedInAll", "()I"⟩, prog_11_method_11_code, 3, some .int, mc_Things_usedInAll),
  ("GasTown$Things", ⟨"GasTown$Things", "takeNothing", "()V"⟩, prog_11_method_9_code, 2, none, mc_Things_takeNothing),
  ("GasTown$Things", ⟨"GasTown$Things", "keep", "()V"⟩, prog_11_method_12_code, 2, none, mc_Things_keep),
  ("GasTown$Net", ⟨"GasTown$Net", "keep", "(LGasTown$Things;Z)V"⟩, prog_7_method_9_code, 4, none, mc_Net_keep),
  ("GasTown", ⟨"GasTown", "countFails", "()V"⟩, prog_1_method_19_code, 2, none, mc_G_countFails),
  ("GasTown$Laws", ⟨"GasTown$Laws", "judge", "(IIILGasTown$Sky;)V"⟩, prog_6_method_4_code, 5, none, mc_Laws_judge),
  ("GasTown$Laws", ⟨"GasTown$Laws", "weigh", "(I)V"⟩, prog_6_method_5_code, 5, none, mc_Laws_weigh),
  ("GasTown$Act", ⟨"GasTown$Act", "tells", "(I[I)Z"⟩, prog_2_method_7_code, 7, some .boolean, mc_Act_tells),
  ("GasTown$Act", ⟨"GasTown$Act", "valueOf", "(II[I)I"⟩, prog_2_method_8_code, 7, some .int, mc_Act_valueOf),
  ("GasTown$Act", ⟨"GasTown$Act", "isLeaf", "(I)Z"⟩, prog_2_method_9_code, 1, some .boolean, mc_Act_isLeaf),
  ("GasTown$Act", ⟨"GasTown$Act", "leaf", "(II[I)I"⟩, prog_2_method_10_code, 3, some .int, mc_Act_leaf),
  ("GasTown$Act", ⟨"GasTown$Act", "joined", "(III)I"⟩, prog_2_method_11_code, 3, some .int, mc_Act_joined),
  ("GasTown$Things", ⟨"GasTown$Things", "anyWantsAt", "(I)Z"⟩, prog_11_method_13_code, 3, some .boolean, mc_Things_anyWantsAt),
  ("GasTown", ⟨"GasTown", "read", "(I)I"⟩, prog_1_method_20_code, 2, some .int, mc_G_read),
  ("GasTown$Books", ⟨"GasTown$Books", "note", "(IIIZ)I"⟩, prog_3_method_2_code, 7, some .int, mc_Books_note),
  ("GasTown", ⟨"GasTown", "right", "(III)Z"⟩, prog_1_method_21_code, 5, some .boolean, mc_G_right),
  ("GasTown$Books", ⟨"GasTown$Books", "readingOf", "(II)I"⟩, prog_3_method_3_code, 4, some .int, mc_Books_readingOf),
  ("GasTown$Books", ⟨"GasTown$Books", "correct", "(III)Z"⟩, prog_3_method_4_code, 4, some .boolean, mc_Books_correct),
  ("GasTown", ⟨"GasTown", "bill", "(IIII)J"⟩, prog_1_method_22_code, 6, some .long, mc_G_bill),
  ("GasTown$Books", ⟨"GasTown$Books", "know", "(I)V"⟩, prog_3_method_5_code, 4, none, mc_Books_know),
  ("GasTown$Books", ⟨"GasTown$Books", "unitsOf", "(I)J"⟩, prog_3_method_6_code, 5, some .long, mc_Books_unitsOf),
  ("GasTown", ⟨"GasTown", "billOf", "(I)J"⟩, prog_1_method_23_code, 2, some .long, mc_G_billOf),
  ("GasTown", ⟨"GasTown", "sell", "(II)I"⟩, prog_1_method_24_code, 3, some .int, mc_G_sell),
  ("GasTown", ⟨"GasTown", "feed", "(IIIII)I"⟩, prog_1_method_25_code, 6, some .int, mc_G_feed),
  ("GasTown$Laws", ⟨"GasTown$Laws", "store", "(I)V"⟩, prog_6_method_2_code, 3, none, mc_Laws_store),
  ("GasTown", ⟨"GasTown", "end", "(I)Z"⟩, prog_1_method_26_code, 2, some .boolean, mc_G_end),
  ("GasTown", ⟨"GasTown", "act", "(II)I"⟩, prog_1_method_27_code, 3, some .int, mc_G_act),
  ("GasTown$Laws", ⟨"GasTown$Laws", "enact", "(II)I"⟩, prog_6_method_3_code, 5, some .int, mc_Laws_enact),
  ("GasTown$Parser", ⟨"GasTown$Parser", "readInto", "(LGasTown$Act;I)Z"⟩, prog_9_method_2_code, 4, some .boolean, mc_Parser_readInto),
  ("GasTown$Act", ⟨"GasTown$Act", "clear", "()V"⟩, prog_2_method_2_code, 1, none, mc_Act_clear),
  ("GasTown$Parser", ⟨"GasTown$Parser", "advance", "()V"⟩, prog_9_method_17_code, 2, none, mc_Parser_advance),
  ("GasTown$Parser", ⟨"GasTown$Parser", "signAt", "(I)I"⟩, prog_9_method_16_code, 2, some .int, mc_Parser_signAt),
  ("GasTown$Parser", ⟨"GasTown$Parser", "isBlank", "(I)Z"⟩, prog_9_method_20_code, 1, some .boolean, mc_Parser_isBlank),
  ("GasTown$Parser", ⟨"GasTown$Parser", "isLetter", "(I)Z"⟩, prog_9_method_21_code, 1, some .boolean, mc_Parser_isLetter),
  ("GasTown$Parser", ⟨"GasTown$Parser", "readWord", "()V"⟩, prog_9_method_18_code, 2, none, mc_Parser_readWord),
  ("GasTown$Parser", ⟨"GasTown$Parser", "kindOfWord", "()I"⟩, prog_9_method_24_code, 1, some .int, mc_Parser_kindOfWord),
  ("GasTown$Parser", ⟨"GasTown$Parser", "isWord", "(Ljava/lang/String;)Z"⟩, prog_9_method_25_code, 3, some .boolean, mc_Parser_isWord),
  ("GasTown$Parser", ⟨"GasTown$Parser", "isDigit", "(I)Z"⟩, prog_9_method_22_code, 1, some .boolean, mc_Parser_isDigit),
  ("GasTown$Parser", ⟨"GasTown$Parser", "readNumber", "()V"⟩, prog_9_method_19_code, 2, none, mc_Parser_readNumber),
  ("GasTown$Parser", ⟨"GasTown$Parser", "kindOfSign", "(I)I"⟩, prog_9_method_23_code, 1, some .int, mc_Parser_kindOfSign),
  ("GasTown$Parser", ⟨"GasTown$Parser", "take", "()V"⟩, prog_9_method_4_code, 1, none, mc_Parser_take),
  ("GasTown$Parser", ⟨"GasTown$Parser", "takeSubject", "()V"⟩, prog_9_method_5_code, 1, none, mc_Parser_takeSubject),
  ("GasTown$Parser", ⟨"GasTown$Parser", "fail", "(I)V"⟩, prog_9_method_3_code, 2, none, mc_Parser_fail),
  ("GasTown$Act", ⟨"GasTown$Act", "beginLine", "(I)V"⟩, prog_2_method_3_code, 2, none, mc_Act_beginLine),
  ("GasTown$Parser", ⟨"GasTown$Parser", "takePart", "()V"⟩, prog_9_method_6_code, 1, none, mc_Parser_takePart),
  ("GasTown$Act", ⟨"GasTown$Act", "emit", "(II)V"⟩, prog_2_method_6_code, 3, none, mc_Act_emit),
  ("GasTown$Parser", ⟨"GasTown$Parser", "takeDivisor", "()V"⟩, prog_9_method_7_code, 1, none, mc_Parser_takeDivisor),
  ("GasTown$Parser", ⟨"GasTown$Parser", "takeTest", "()V"⟩, prog_9_method_8_code, 1, none, mc_Parser_takeTest),
  ("GasTown$Parser", ⟨"GasTown$Parser", "putAside", "()V"⟩, prog_9_method_11_code, 1, none, mc_Parser_putAside),
  ("GasTown$Parser", ⟨"GasTown$Parser", "takeBehind", "()V"⟩, prog_9_method_9_code, 2, none, mc_Parser_takeBehind),
  ("GasTown$Parser", ⟨"GasTown$Parser", "operate", "(I)V"⟩, prog_9_method_10_code, 2, none, mc_Parser_operate),
  ("GasTown$Parser", ⟨"GasTown$Parser", "rankOf", "(I)I"⟩, prog_9_method_15_code, 1, some .int, mc_Parser_rankOf),
  ("GasTown$Parser", ⟨"GasTown$Parser", "unwind", "(I)V"⟩, prog_9_method_12_code, 3, none, mc_Parser_unwind),
  ("GasTown$Parser", ⟨"GasTown$Parser", "closeBracket", "()V"⟩, prog_9_method_13_code, 1, none, mc_Parser_closeBracket),
  ("GasTown$Act", ⟨"GasTown$Act", "beginCondition", "()V"⟩, prog_2_method_4_code, 1, none, mc_Act_beginCondition),
  ("GasTown$Parser", ⟨"GasTown$Parser", "closeLine", "()V"⟩, prog_9_method_14_code, 1, none, mc_Parser_closeLine),
  ("GasTown$Act", ⟨"GasTown$Act", "closeLine", "()V"⟩, prog_2_method_5_code, 1, none, mc_Act_closeLine),
  ("GasTown", ⟨"GasTown", "fault", "(I)I"⟩, prog_1_method_28_code, 2, some .int, mc_G_fault),
  ("GasTown", ⟨"GasTown", "due", "(IIII)I"⟩, prog_1_method_29_code, 5, some .int, mc_G_due),
  ("GasTown", ⟨"GasTown", "tries", "(I)I"⟩, prog_1_method_30_code, 3, some .int, mc_G_tries),
  ("GasTown", ⟨"GasTown", "share", "(I)J"⟩, prog_1_method_31_code, 2, some .long, mc_G_share),
  ("GasTown", ⟨"GasTown", "gain", "()J"⟩, prog_1_method_32_code, 4, some .long, mc_G_gain),
  ("GasTown", ⟨"GasTown", "mayBePaid", "()J"⟩, prog_1_method_33_code, 1, some .long, mc_G_mayBePaid),
  ("GasTown", ⟨"GasTown", "at", "(II)I"⟩, prog_1_method_34_code, 3, some .int, mc_G_at),
  ("GasTown", ⟨"GasTown", "of", "(II)I"⟩, prog_1_method_35_code, 3, some .int, mc_G_of),
  ("GasTown", ⟨"GasTown", "why", "(II)I"⟩, prog_1_method_36_code, 4, some .int, mc_G_why),
  ("GasTown$Net", ⟨"GasTown$Net", "firstWetOnWay", "(I)I"⟩, prog_7_method_11_code, 5, some .int, mc_Net_firstWetOnWay),
  ("GasTown$Net", ⟨"GasTown$Net", "walkTo", "(I)I"⟩, prog_7_method_10_code, 5, some .int, mc_Net_walkTo),
  ("GasTown$Net", ⟨"GasTown$Net", "greatestLossOnWay", "(I)I"⟩, prog_7_method_12_code, 8, some .int, mc_Net_greatestLossOnWay),
  ("GasTown", ⟨"GasTown", "best", "(III)I"⟩, prog_1_method_37_code, 4, some .int, mc_G_best),
  ("GasTown$Night", ⟨"GasTown$Night", "foresee", "(ILGasTown$Works;LGasTown$Things;LGasTown$Sky;)V"⟩, prog_8_method_3_code, 6, none, mc_Night_foresee),
  ("GasTown$Things", ⟨"GasTown$Things", "allWants", "(ILGasTown$Sky;)I"⟩, prog_11_method_6_code, 5, some .int, mc_Things_allWants),
  ("GasTown$Night", ⟨"GasTown$Night", "plan", "(LGasTown$Works;II)Z"⟩, prog_8_method_4_code, 6, some .boolean, mc_Night_plan),
  ("GasTown$Works", ⟨"GasTown$Works", "coldLater", "(I)I"⟩, prog_12_method_10_code, 4, some .int, mc_Works_coldLater),
  ("GasTown$Night", ⟨"GasTown$Night", "seek", "(III)V"⟩, prog_8_method_5_code, 7, none, mc_Night_seek),
  ("GasTown$Night", ⟨"GasTown$Night", "stillBurning", "(I)I"⟩, prog_8_method_6_code, 4, some .int, mc_Night_stillBurning),
  ("GasTown$Night", ⟨"GasTown$Night", "levelBehind", "(II)I"⟩, prog_8_method_7_code, 5, some .int, mc_Night_levelBehind),
  ("GasTown$Night", ⟨"GasTown$Night", "gasOfPlan", "(II)I"⟩, prog_8_method_8_code, 6, some .int, mc_Night_gasOfPlan),
  ("GasTown", ⟨"GasTown", "last", "()I"⟩, prog_1_method_38_code, 1, some .int, mc_G_last),
  ("GasTown$Night", ⟨"GasTown$Night", "firstShort", "(ILGasTown$Works;LGasTown$Things;LGasTown$Sky;)I"⟩, prog_8_method_2_code, 7, some .int, mc_Night_firstShort),
  ("GasTown", ⟨"GasTown", "sees", "(II)Z"⟩, prog_1_method_39_code, 3, some .boolean, mc_G_sees),
  ("GasTown", ⟨"GasTown", "find", "(I)I"⟩, prog_1_method_40_code, 2, some .int, mc_G_find),
  ("GasTown$Eyes", ⟨"GasTown$Eyes", "explain", "(LGasTown$Net;)Z"⟩, prog_4_method_2_code, 4, some .boolean, mc_Eyes_explain),
  ("GasTown$Eyes", ⟨"GasTown$Eyes", "weigh", "(I)V"⟩, prog_4_method_3_code, 4, none, mc_Eyes_weigh),
  ("GasTown$Eyes", ⟨"GasTown$Eyes", "reach", "(LGasTown$Net;)V"⟩, prog_4_method_4_code, 5, none, mc_Eyes_reach),
  ("GasTown$Eyes", ⟨"GasTown$Eyes", "fewest", "()I"⟩, prog_4_method_5_code, 1, some .int, mc_Eyes_fewest),
  ("GasTown$Eyes", ⟨"GasTown$Eyes", "howManySets", "()I"⟩, prog_4_method_6_code, 1, some .int, mc_Eyes_howManySets),
  ("GasTown$Eyes", ⟨"GasTown$Eyes", "sharePipe", "(I)I"⟩, prog_4_method_7_code, 2, some .int, mc_Eyes_sharePipe),
  ("GasTown", ⟨"GasTown", "work", "(III)I"⟩, prog_1_method_41_code, 4, some .int, mc_G_work),
  ("GasTown$Improvements", ⟨"GasTown$Improvements", "offer", "(III)I"⟩, prog_5_method_2_code, 4, some .int, mc_Improvements_offer),
  ("GasTown", ⟨"GasTown", "choice", "(III)I"⟩, prog_1_method_42_code, 4, some .int, mc_G_choice),
  ("GasTown$Improvements", ⟨"GasTown$Improvements", "choose", "(ILGasTown$Net;LGasTown$Things;)V"⟩, prog_5_method_3_code, 7, none, mc_Improvements_choose),
  ("GasTown$Improvements", ⟨"GasTown$Improvements", "priceOf", "(I)I"⟩, prog_5_method_4_code, 4, some .int, mc_Improvements_priceOf),
  ("GasTown$Improvements", ⟨"GasTown$Improvements", "putIn", "(ILGasTown$Net;)V"⟩, prog_5_method_5_code, 5, none, mc_Improvements_putIn),
  ("GasTown$Things", ⟨"GasTown$Things", "burnFully", "([I)I"⟩, prog_11_method_14_code, 6, some .int, mc_Things_burnFully),
  ("GasTown", ⟨"GasTown", "look", "(I)J"⟩, prog_1_method_43_code, 2, some .long, mc_G_look),
  ("GasTown$Works", ⟨"GasTown$Works", "burning", "()I"⟩, prog_12_method_9_code, 3, some .int, mc_Works_burning),
  ("GasTownModel", ⟨"GasTownModel", "<init>", "()V"⟩, prog_14_method_1_code, 2, none, mc_M_init),
  ("GasTownModel", ⟨"GasTownModel", "coal", "(IIII)Z"⟩, prog_14_method_8_code, 5, some .boolean, mc_M_coal),
  ("GasTownModel", ⟨"GasTownModel", "isCoal", "(I)Z"⟩, prog_14_method_3_code, 1, some .boolean, mc_M_isCoal),
  ("GasTownModel", ⟨"GasTownModel", "isIn", "(III)Z"⟩, prog_14_method_2_code, 3, some .boolean, mc_M_isIn),
  ("GasTownModel", ⟨"GasTownModel", "buy", "(III)I"⟩, prog_14_method_9_code, 4, some .int, mc_M_buy),
  ("GasTownModel", ⟨"GasTownModel", "bench", "()I"⟩, prog_14_method_10_code, 1, some .int, mc_M_bench),
  ("GasTownModel", ⟨"GasTownModel", "charge", "(III)I"⟩, prog_14_method_11_code, 4, some .int, mc_M_charge),
  ("GasTownModel", ⟨"GasTownModel", "hands", "(I)Z"⟩, prog_14_method_12_code, 2, some .boolean, mc_M_hands),
  ("GasTownModel", ⟨"GasTownModel", "holder", "(I)Z"⟩, prog_14_method_14_code, 2, some .boolean, mc_M_holder),
  ("GasTownModel", ⟨"GasTownModel", "fills", "(I)V"⟩, prog_14_method_13_code, 2, none, mc_M_fills),
  ("GasTownModel", ⟨"GasTownModel", "round", "(II)Z"⟩, prog_14_method_16_code, 3, some .boolean, mc_M_round),
  ("GasTownModel", ⟨"GasTownModel", "fog", "(II)Z"⟩, prog_14_method_17_code, 3, some .boolean, mc_M_fog),
  ("GasTownModel", ⟨"GasTownModel", "gate", "(I)Z"⟩, prog_14_method_19_code, 2, some .boolean, mc_M_gate),
  ("GasTownModel", ⟨"GasTownModel", "node", "(III)I"⟩, prog_14_method_20_code, 4, some .int, mc_M_node),
  ("GasTownModel", ⟨"GasTownModel", "isNode", "(I)Z"⟩, prog_14_method_4_code, 2, some .boolean, mc_M_isNode),
  ("GasTownModel", ⟨"GasTownModel", "water", "(IZ)Z"⟩, prog_14_method_21_code, 3, some .boolean, mc_M_water),
  ("GasTownModel", ⟨"GasTownModel", "thing", "(IIII)I"⟩, prog_14_method_22_code, 5, some .int, mc_M_thing),
  ("GasTownModel", ⟨"GasTownModel", "cut", "(IZ)Z"⟩, prog_14_method_23_code, 3, some .boolean, mc_M_cut),
  ("GasTownModel", ⟨"GasTownModel", "isThing", "(I)Z"⟩, prog_14_method_5_code, 2, some .boolean, mc_M_isThing),
  ("GasTownModel", ⟨"GasTownModel", "coin", "(II)I"⟩, prog_14_method_24_code, 3, some .int, mc_M_coin),
  ("GasTownModel", ⟨"GasTownModel", "frost", "(IZ)Z"⟩, prog_14_method_25_code, 3, some .boolean, mc_M_frost),
  ("GasTownModel", ⟨"GasTownModel", "isHouse", "(I)Z"⟩, prog_14_method_6_code, 2, some .boolean, mc_M_isHouse),
  ("GasTownModel", ⟨"GasTownModel", "steps", "(I)I"⟩, prog_14_method_35_code, 3, some .int, mc_M_steps),
  ("GasTownModel", ⟨"GasTownModel", "step", "()V"⟩, prog_14_method_34_code, 6, none, mc_M_step),
  ("GasTownModel", ⟨"GasTownModel", "burns", "()V"⟩, prog_14_method_31_code, 3, none, mc_M_burns),
  ("GasTownModel", ⟨"GasTownModel", "inStep", "(II)I"⟩, prog_14_method_15_code, 3, some .int, mc_M_inStep),
  ("GasTownModel", ⟨"GasTownModel", "settles", "(I)Z"⟩, prog_14_method_30_code, 5, some .boolean, mc_M_settles),
  ("GasTownModel", ⟨"GasTownModel", "wants", "(II)I"⟩, prog_14_method_27_code, 4, some .int, mc_M_wants),
  ("GasTownModel", ⟨"GasTownModel", "byHour", "(II)I"⟩, prog_14_method_26_code, 5, some .int, mc_M_byHour),
  ("GasTownModel", ⟨"GasTownModel", "fogIn", "(I)I"⟩, prog_14_method_18_code, 2, some .int, mc_M_fogIn),
  ("GasTownModel", ⟨"GasTownModel", "sweep", "()V"⟩, prog_14_method_29_code, 4, none, mc_M_sweep),
  ("GasTownModel", ⟨"GasTownModel", "flows", "()V"⟩, prog_14_method_28_code, 2, none, mc_M_flows),
  ("GasTownModel", ⟨"GasTownModel", "keeps", "()V"⟩, prog_14_method_33_code, 2, none, mc_M_keeps),
  ("GasTownModel", ⟨"GasTownModel", "dueOf", "(III)I"⟩, prog_14_method_69_code, 9, some .int, mc_M_dueOf),
  ("GasTownModel", ⟨"GasTownModel", "asks", "(III)V"⟩, prog_14_method_68_code, 4, none, mc_M_asks),
  ("GasTownModel", ⟨"GasTownModel", "tells", "(III)Z"⟩, prog_14_method_67_code, 6, some .boolean, mc_M_tells),
  ("GasTownModel", ⟨"GasTownModel", "comesTo", "(III)I"⟩, prog_14_method_66_code, 8, some .int, mc_M_comesTo),
  ("GasTownModel", ⟨"GasTownModel", "both", "(III)I"⟩, prog_14_method_65_code, 3, some .int, mc_M_both),
  ("GasTownModel", ⟨"GasTownModel", "ends", "()V"⟩, prog_14_method_32_code, 2, none, mc_M_ends),
  ("GasTownModel", ⟨"GasTownModel", "read", "(I)I"⟩, prog_14_method_36_code, 4, some .int, mc_M_read),
  ("GasTownModel", ⟨"GasTownModel", "right", "(III)Z"⟩, prog_14_method_38_code, 4, some .boolean, mc_M_right),
  ("GasTownModel", ⟨"GasTownModel", "readingOf", "(II)I"⟩, prog_14_method_37_code, 5, some .int, mc_M_readingOf),
  ("GasTownModel", ⟨"GasTownModel", "bill", "(IIII)J"⟩, prog_14_method_42_code, 6, some .long, mc_M_bill),
  ("GasTownModel", ⟨"GasTownModel", "shows", "(II)I"⟩, prog_14_method_39_code, 5, some .int, mc_M_shows),
  ("GasTownModel", ⟨"GasTownModel", "units", "(III)J"⟩, prog_14_method_40_code, 10, some .long, mc_M_units),
  ("GasTownModel", ⟨"GasTownModel", "billOf", "(III)J"⟩, prog_14_method_41_code, 6, some .long, mc_M_billOf),
  ("GasTownModel", ⟨"GasTownModel", "sell", "(II)I"⟩, prog_14_method_43_code, 3, some .int, mc_M_sell),
  ("GasTownModel", ⟨"GasTownModel", "feed", "(IIIII)I"⟩, prog_14_method_44_code, 8, some .int, mc_M_feed),
  ("GasTownModel", ⟨"GasTownModel", "end", "(I)Z"⟩, prog_14_method_45_code, 2, some .boolean, mc_M_end),
  ("GasTownModel", ⟨"GasTownModel", "act", "(II)I"⟩, prog_14_method_63_code, 5, some .int, mc_M_act),
  ("GasTownModel", ⟨"GasTownModel", "next0", "()V"⟩, prog_14_method_51_code, 3, none, mc_M_next0),
  ("GasTownModel", ⟨"GasTownModel", "see", "(I)I"⟩, prog_14_method_46_code, 2, some .int, mc_M_see),
  ("GasTownModel", ⟨"GasTownModel", "isLetter", "(I)Z"⟩, prog_14_method_47_code, 1, some .boolean, mc_M_isLetter),
  ("GasTownModel", ⟨"GasTownModel", "word", "()I"⟩, prog_14_method_50_code, 1, some .int, mc_M_word),
  ("GasTownModel", ⟨"GasTownModel", "is", "(Ljava/lang/String;)Z"⟩, prog_14_method_49_code, 4, some .boolean, mc_M_is),
  ("GasTownModel", ⟨"GasTownModel", "isDigit", "(I)Z"⟩, prog_14_method_48_code, 1, some .boolean, mc_M_isDigit),
  ("GasTownModel", ⟨"GasTownModel", "aLine", "()Z"⟩, prog_14_method_62_code, 2, some .boolean, mc_M_aLine),
  ("GasTownModel", ⟨"GasTownModel", "bad", "(I)Z"⟩, prog_14_method_52_code, 2, some .boolean, mc_M_bad),
  ("GasTownModel", ⟨"GasTownModel", "sumUp", "()Z"⟩, prog_14_method_56_code, 2, some .boolean, mc_M_sumUp),
  ("GasTownModel", ⟨"GasTownModel", "product", "()Z"⟩, prog_14_method_57_code, 2, some .boolean, mc_M_product),
  ("GasTownModel", ⟨"GasTownModel", "unit", "()Z"⟩, prog_14_method_58_code, 2, some .boolean, mc_M_unit),
  ("GasTownModel", ⟨"GasTownModel", "lay", "(II)V"⟩, prog_14_method_54_code, 3, none, mc_M_lay),
  ("GasTownModel", ⟨"GasTownModel", "any", "()Z"⟩, prog_14_method_59_code, 1, some .boolean, mc_M_any),
  ("GasTownModel", ⟨"GasTownModel", "every", "()Z"⟩, prog_14_method_60_code, 1, some .boolean, mc_M_every),
  ("GasTownModel", ⟨"GasTownModel", "one", "()Z"⟩, prog_14_method_61_code, 2, some .boolean, mc_M_one),
  ("GasTownModel", ⟨"GasTownModel", "opens", "()Z"⟩, prog_14_method_55_code, 1, some .boolean, mc_M_opens),
  ("GasTownModel", ⟨"GasTownModel", "need", "(I)Z"⟩, prog_14_method_53_code, 2, some .boolean, mc_M_need),
  ("GasTownModel", ⟨"GasTownModel", "fault", "(I)I"⟩, prog_14_method_64_code, 2, some .int, mc_M_fault),
  ("GasTownModel", ⟨"GasTownModel", "due", "(IIII)I"⟩, prog_14_method_70_code, 6, some .int, mc_M_due),
  ("GasTownModel", ⟨"GasTownModel", "tries", "(I)I"⟩, prog_14_method_71_code, 4, some .int, mc_M_tries),
  ("GasTownModel", ⟨"GasTownModel", "share", "(I)J"⟩, prog_14_method_73_code, 9, some .long, mc_M_share),
  ("GasTownModel", ⟨"GasTownModel", "gain", "()J"⟩, prog_14_method_72_code, 5, some .long, mc_M_gain),
  ("GasTownModel", ⟨"GasTownModel", "down", "(JJ)J"⟩, prog_14_method_7_code, 6, some .long, mc_M_down),
  ("GasTownModel", ⟨"GasTownModel", "at", "(II)I"⟩, prog_14_method_74_code, 3, some .int, mc_M_at),
  ("GasTownModel", ⟨"GasTownModel", "of", "(II)I"⟩, prog_14_method_75_code, 3, some .int, mc_M_of),
  ("GasTownModel", ⟨"GasTownModel", "why", "(II)I"⟩, prog_14_method_76_code, 6, some .int, mc_M_why),
  ("GasTownModel", ⟨"GasTownModel", "loss", "(I)I"⟩, prog_14_method_77_code, 2, some .int, mc_M_loss),
  ("GasTownModel", ⟨"GasTownModel", "best", "(III)I"⟩, prog_14_method_83_code, 7, some .int, mc_M_best),
  ("GasTownModel", ⟨"GasTownModel", "stillMakes", "(I)I"⟩, prog_14_method_79_code, 4, some .int, mc_M_stillMakes),
  ("GasTownModel", ⟨"GasTownModel", "wantsIn", "(I)I"⟩, prog_14_method_78_code, 4, some .int, mc_M_wantsIn),
  ("GasTownModel", ⟨"GasTownModel", "plans", "(III)Z"⟩, prog_14_method_82_code, 7, some .boolean, mc_M_plans),
  ("GasTownModel", ⟨"GasTownModel", "isGood", "(I)Z"⟩, prog_14_method_81_code, 5, some .boolean, mc_M_isGood),
  ("GasTownModel", ⟨"GasTownModel", "busy", "(I)I"⟩, prog_14_method_80_code, 4, some .int, mc_M_busy),
  ("GasTownModel", ⟨"GasTownModel", "last", "()I"⟩, prog_14_method_84_code, 4, some .int, mc_M_last),
  ("GasTownModel", ⟨"GasTownModel", "sees", "(II)Z"⟩, prog_14_method_85_code, 3, some .boolean, mc_M_sees),
  ("GasTownModel", ⟨"GasTownModel", "find", "(I)I"⟩, prog_14_method_89_code, 2, some .int, mc_M_find),
  ("GasTownModel", ⟨"GasTownModel", "searches", "()V"⟩, prog_14_method_88_code, 4, none, mc_M_searches),
  ("GasTownModel", ⟨"GasTownModel", "bits", "(I)I"⟩, prog_14_method_86_code, 3, some .int, mc_M_bits),
  ("GasTownModel", ⟨"GasTownModel", "explains", "(I)Z"⟩, prog_14_method_87_code, 5, some .boolean, mc_M_explains),
  ("GasTownModel", ⟨"GasTownModel", "work", "(III)I"⟩, prog_14_method_90_code, 4, some .int, mc_M_work),
  ("GasTownModel", ⟨"GasTownModel", "choice", "(III)I"⟩, prog_14_method_93_code, 8, some .int, mc_M_choice),
  ("GasTownModel", ⟨"GasTownModel", "coinOf", "(I)I"⟩, prog_14_method_91_code, 4, some .int, mc_M_coinOf),
  ("GasTownModel", ⟨"GasTownModel", "burning", "(II)I"⟩, prog_14_method_92_code, 5, some .int, mc_M_burning),
  ("GasTownModel", ⟨"GasTownModel", "look", "(I)J"⟩, prog_14_method_94_code, 5, some .long, mc_M_look),
  ("GasTownLaw", ⟨"GasTownLaw", "law", "([I)Z"⟩, code, 4, some .boolean, mc_Law_law)]
def mm_Yl : List (List Int32) := [[112, 114, 101, 115, 115, 117, 114, 101], [99, 97, 110, 100, 108, 101, 115], [112, 114, 105, 99, 101], [102, 105, 110, 101], [100, 105, 118, 105, 100, 101, 110, 100], [104, 111, 117, 114], [100, 97, 121], [102, 111, 103], [115, 104, 111, 114, 116], [119, 104, 101, 110], [111, 114], [97, 110, 100], [110, 111, 116]]
def mm_Y (j : Nat) : List Int32 := mm_Yl.getD j []
def mm_parts : List Int32 := [0, 1, 3, 6, 10, 15, 21, 28, 36, 44, 51, 57, 62, 66, 69, 71, 72]
/-- array 0: the shares; 1: the script -/
def mm_X (len : Nat) (xs : Nat → Int32) (j : Nat) : Nat × (Nat → Int32) := match j with
  | 0 => (17, fun i => mm_parts.getD i 0)
  | _ => (len, xs)
section
variable (X : Nat → Nat × (Nat → Int32)) (Y : Nat → List Int32) (cf : Nat → List Value → mm_S → Option mm_R) (code : Nat → Option mm_E)
def mm_run : Nat → mm_C → Option mm_R
  | 0, _ => none
  | n + 1, c => match mm_step X Y code c with
    | none => none
    | some (.inl c') => mm_run n c'
    | some (.inr (.inl r)) => some r
    | some (.inr (.inr (id, args, pc, ls, st, σ))) => match cf id args σ with
      | none => none
      | some r => mm_run n (pc, ls, r.1.toList ++ st, r.2)
theorem mm_run_mono : ∀ (n k : Nat) (c : mm_C) (r : mm_R), mm_run X Y cf code n c = some r → mm_run X Y cf code (n + k) c = some r := by
  intro n
  induction n with
  | zero => intro k c r h; cases h
  | succ n ih =>
    intro k c r h
    rw [Nat.succ_add]
    simp only [mm_run] at h ⊢
    cases hs : mm_step X Y code c with
    | none => rw [hs] at h; cases h
    | some o =>
      rw [hs] at h
      rcases o with c' | r' | ⟨id, args, pc, ls, st, σ⟩
      · exact ih k c' r h
      · exact h
      · dsimp only at h ⊢
        cases hc : cf id args σ with
        | none => rw [hc] at h; cases h
        | some q => rw [hc] at h; exact ih k _ r h
noncomputable def mm_fix (c : mm_C) : Option mm_R := @dite _ (∃ r n, mm_run X Y cf code n c = some r) (Classical.propDecidable _) (fun h => some h.choose) (fun _ => none)
theorem mm_fix_some {c : mm_C} {r : mm_R} : mm_fix X Y cf code c = some r ↔ ∃ n, mm_run X Y cf code n c = some r := by
  unfold mm_fix
  by_cases h : ∃ r n, mm_run X Y cf code n c = some r
  · rw [dif_pos h]
    constructor
    · intro e
      rw [← Option.some.inj e]
      exact h.choose_spec
    · rintro ⟨n, hn⟩
      obtain ⟨k, hk⟩ := h.choose_spec
      have h1 := mm_run_mono X Y cf code n k c r hn
      have h2 := mm_run_mono X Y cf code k n c _ hk
      rw [Nat.add_comm] at h2
      rw [h1] at h2
      exact h2.symm
  · rw [dif_neg h]
    constructor
    · intro e; cases e
    · rintro ⟨n, hn⟩; exact absurd ⟨r, n, hn⟩ h
theorem mm_fix_none {c : mm_C} (h : mm_step X Y code c = none) : mm_fix X Y cf code c = none := by
  cases e : mm_fix X Y cf code c with
  | none => rfl
  | some r =>
    obtain ⟨n, hn⟩ := (mm_fix_some X Y cf code).mp e
    cases n with
    | zero => cases hn
    | succ n => simp only [mm_run, h] at hn; cases hn
theorem mm_fix_ret {c : mm_C} {r : mm_R} (h : mm_step X Y code c = some (.inr (.inl r))) : mm_fix X Y cf code c = some r :=
  (mm_fix_some X Y cf code).mpr ⟨1, by simp only [mm_run, h]⟩
theorem mm_fix_next {c c' : mm_C} (h : mm_step X Y code c = some (.inl c')) : mm_fix X Y cf code c = mm_fix X Y cf code c' := by
  apply Option.ext
  intro r
  rw [mm_fix_some, mm_fix_some]
  constructor
  · rintro ⟨n, hn⟩
    cases n with
    | zero => cases hn
    | succ n => simp only [mm_run, h] at hn; exact ⟨n, hn⟩
  · rintro ⟨n, hn⟩
    exact ⟨n + 1, by simp only [mm_run, h]; exact hn⟩
theorem mm_fix_call {c : mm_C} {id : Nat} {args : List Value} {pc : Nat} {ls : List (Option Value)} {st : List Value} {σ : mm_S} (h : mm_step X Y code c = some (.inr (.inr (id, args, pc, ls, st, σ)))) :
    mm_fix X Y cf code c = (cf id args σ).bind (fun r => mm_fix X Y cf code (pc, ls, r.1.toList ++ st, r.2)) := by
  apply Option.ext
  intro r
  rw [mm_fix_some]
  cases hc : cf id args σ with
  | none =>
    constructor
    · rintro ⟨n, hn⟩
      cases n with
      | zero => cases hn
      | succ n => simp only [mm_run, h, hc] at hn; cases hn
    · intro e; cases e
  | some q =>
    show _ ↔ mm_fix X Y cf code (pc, ls, q.1.toList ++ st, q.2) = some r
    rw [mm_fix_some]
    constructor
    · rintro ⟨n, hn⟩
      cases n with
      | zero => cases hn
      | succ n => simp only [mm_run, h, hc] at hn; exact ⟨n, hn⟩
    · rintro ⟨n, hn⟩
      exact ⟨n + 1, by simp only [mm_run, h, hc]; exact hn⟩
/-- so many rows on -/
def mm_go : Nat → mm_C → Option mm_C
  | 0, c => some c
  | n + 1, c => match mm_step X Y code c with
    | some (.inl c') => mm_go n c'
    | _ => none
theorem mm_fix_go : ∀ (n : Nat) {c c' : mm_C}, mm_go X Y code n c = some c' → mm_fix X Y cf code c = mm_fix X Y cf code c' := by
  intro n
  induction n with
  | zero => intro c c' h; cases h; rfl
  | succ n ih =>
    intro c c' h
    simp only [mm_go] at h
    cases hs : mm_step X Y code c with
    | none => rw [hs] at h; cases h
    | some o =>
      rw [hs] at h
      rcases o with c1 | r' | q
      · rw [mm_fix_next X Y cf code hs]; exact ih h
      · cases h
      · cases h
end
section
variable {X : Nat → Nat × (Nat → Int32)} {Y : Nat → List Int32} {cf : Nat → List Value → mm_S → Option mm_R} {code : Nat → Option mm_E}
theorem fx_go (n : Nat) {c c' : mm_C} {t : Option mm_R} (h : mm_go X Y code n c = some c') (k : mm_fix X Y cf code c' = t) : mm_fix X Y cf code c = t := (mm_fix_go X Y cf code n h).trans k
theorem fx_ret {c : mm_C} {r : mm_R} (h : mm_step X Y code c = some (.inr (.inl r))) : mm_fix X Y cf code c = some r := mm_fix_ret X Y cf code h
theorem fx_call {c : mm_C} {id : Nat} {args : List Value} {pc : Nat} {ls : List (Option Value)} {st : List Value} {σ : mm_S} {T : mm_R → Option mm_R} (h : mm_step X Y code c = some (.inr (.inr (id, args, pc, ls, st, σ)))) (k : ∀ v τ, mm_fix X Y cf code (pc, ls, v.toList ++ st, τ) = T (v, τ)) :
    mm_fix X Y cf code c = (cf id args σ).bind T := by
  rw [mm_fix_call X Y cf code h]
  congr 1
  funext r
  exact k r.1 r.2
theorem fx_br {c : mm_C} {p : Prop} [Decidable p] {a b : Nat} {ls : List (Option Value)} {st : List Value} {σ : mm_S} {t f : Option mm_R} (h : mm_step X Y code c = some (.inl (if p then a else b, ls, st, σ))) (kt : p → mm_fix X Y cf code (a, ls, st, σ) = t) (kf : ¬ p → mm_fix X Y cf code (b, ls, st, σ) = f) :
    mm_fix X Y cf code c = if p then t else f := by
  rw [mm_fix_next X Y cf code h]
  by_cases hp : p
  · rw [if_pos hp, if_pos hp]; exact kt hp
  · rw [if_neg hp, if_neg hp]; exact kf hp
theorem fx_ck {c c' : mm_C} {b : Bool} {t : Option mm_R} (h : mm_step X Y code c = cond b (some (.inl c')) none) (k : b = true → mm_fix X Y cf code c' = t) : mm_fix X Y cf code c = if b = true then t else none := by
  cases b with
  | true => rw [if_pos rfl, mm_fix_next X Y cf code h]; exact k rfl
  | false => rw [if_neg (by decide), mm_fix_none X Y cf code h]
end
/-- arguments as locals -/
def mm_sl : List Value → List (Option Value)
  | [] => []
  | v :: r => match mm_long (some v) with
    | true => some v :: none :: mm_sl r
    | false => some v :: mm_sl r
def mm_pad (n : Nat) (l : List (Option Value)) : List (Option Value) := l ++ List.replicate (n - l.length) none
def mm_ent (n : Nat) (args : List Value) : List (Option Value) := mm_pad n (mm_sl args)
def mm_md : List (String × MethodName × ByteArray × Nat × Option FieldType × List (List (Nat × mm_E))) → Nat → Option (Nat × List (List (Nat × mm_E)))
  | [], _ => none
  | (_, _, _, n, _, L) :: _, 0 => some (n, L)
  | _ :: r, k + 1 => mm_md r k
/-- a call, at most so deep -/
noncomputable def mm_call (X : Nat → Nat × (Nat → Int32)) (Y : Nat → List Int32) : Nat → Nat → List Value → mm_S → Option mm_R
  | 0, _, _, _ => none
  | d + 1, id, args, σ => match mm_md mm_tab id with
    | none => none
    | some (n, L) => mm_fix X Y (mm_call X Y d) (mm_look L) (0, mm_ent n args, [], σ)
