/-! THE METHODS, by program: own class, name, bytes, locals, answer, code. -/
def mm_tab : List (Nat × MethodName × ByteArray × Nat × Option FieldType × List (List (Nat × mm_E))) := [
  (0, ⟨"GasTown", "<init>", "()V"⟩, prog_1_method_1_code, 1, none, mc_G_init),
  (1, ⟨"GasTown$Sky", "<init>", "()V"⟩, prog_10_method_1_code, 1, none, mc_Sky_init),
  (2, ⟨"GasTown$Works", "<init>", "()V"⟩, prog_12_method_1_code, 1, none, mc_Works_init),
  (3, ⟨"GasTown$Things", "<init>", "()V"⟩, prog_11_method_1_code, 1, none, mc_Things_init),
  (4, ⟨"GasTown$Net", "<init>", "()V"⟩, prog_7_method_1_code, 1, none, mc_Net_init),
  (5, ⟨"GasTown$Laws", "<init>", "()V"⟩, prog_6_method_1_code, 2, none, mc_Laws_init),
  (6, ⟨"GasTown$Act", "<init>", "()V"⟩, prog_2_method_1_code, 1, none, mc_Act_init),
  (7, ⟨"GasTown$Parser", "<init>", "([ILGasTown$Act;)V"⟩, prog_9_method_1_code, 3, none, mc_Parser_init),
  (8, ⟨"GasTown$Books", "<init>", "()V"⟩, prog_3_method_1_code, 1, none, mc_Books_init),
  (9, ⟨"GasTown$Night", "<init>", "()V"⟩, prog_8_method_1_code, 1, none, mc_Night_init),
  (10, ⟨"GasTown$Eyes", "<init>", "()V"⟩, prog_4_method_1_code, 2, none, mc_Eyes_init),
  (11, ⟨"GasTown$Improvements", "<init>", "()V"⟩, prog_5_method_1_code, 1, none, mc_Improvements_init),
  (0, ⟨"GasTown", "coal", "(IIII)Z"⟩, prog_1_method_2_code, 5, some .boolean, mc_G_coal),
  (2, ⟨"GasTown$Works", "isCoal", "(I)Z"⟩, prog_12_method_2_code, 2, some .boolean, mc_Works_isCoal),
  (0, ⟨"GasTown", "within", "(III)Z"⟩, prog_1_method_44_code, 3, some .boolean, mc_G_within),
  (0, ⟨"GasTown", "buy", "(III)I"⟩, prog_1_method_3_code, 4, some .int, mc_G_buy),
  (0, ⟨"GasTown", "bench", "()I"⟩, prog_1_method_4_code, 1, some .int, mc_G_bench),
  (2, ⟨"GasTown$Works", "build", "()I"⟩, prog_12_method_3_code, 1, some .int, mc_Works_build),
  (0, ⟨"GasTown", "charge", "(III)I"⟩, prog_1_method_5_code, 4, some .int, mc_G_charge),
  (2, ⟨"GasTown$Works", "light", "(III)I"⟩, prog_12_method_4_code, 4, some .int, mc_Works_light),
  (0, ⟨"GasTown", "hands", "(I)Z"⟩, prog_1_method_6_code, 2, some .boolean, mc_G_hands),
  (0, ⟨"GasTown", "holder", "(I)Z"⟩, prog_1_method_7_code, 2, some .boolean, mc_G_holder),
  (2, ⟨"GasTown$Works", "letOff", "()V"⟩, prog_12_method_8_code, 1, none, mc_Works_letOff),
  (0, ⟨"GasTown", "round", "(II)Z"⟩, prog_1_method_8_code, 3, some .boolean, mc_G_round),
  (0, ⟨"GasTown", "fog", "(II)Z"⟩, prog_1_method_9_code, 3, some .boolean, mc_G_fog),
  (0, ⟨"GasTown", "gate", "(I)Z"⟩, prog_1_method_10_code, 2, some .boolean, mc_G_gate),
  (0, ⟨"GasTown", "node", "(III)I"⟩, prog_1_method_11_code, 4, some .int, mc_G_node),
  (4, ⟨"GasTown$Net", "has", "(I)Z"⟩, prog_7_method_2_code, 2, some .boolean, mc_Net_has),
  (4, ⟨"GasTown$Net", "lay", "(III)I"⟩, prog_7_method_4_code, 4, some .int, mc_Net_lay),
  (0, ⟨"GasTown", "water", "(IZ)Z"⟩, prog_1_method_12_code, 3, some .boolean, mc_G_water),
  (4, ⟨"GasTown$Net", "hasPipe", "(I)Z"⟩, prog_7_method_3_code, 2, some .boolean, mc_Net_hasPipe),
  (0, ⟨"GasTown", "thing", "(IIII)I"⟩, prog_1_method_13_code, 5, some .int, mc_G_thing),
  (3, ⟨"GasTown$Things", "put", "(IIII)I"⟩, prog_11_method_4_code, 5, some .int, mc_Things_put),
  (0, ⟨"GasTown", "cut", "(IZ)Z"⟩, prog_1_method_14_code, 3, some .boolean, mc_G_cut),
  (3, ⟨"GasTown$Things", "has", "(I)Z"⟩, prog_11_method_2_code, 2, some .boolean, mc_Things_has),
  (0, ⟨"GasTown", "coin", "(II)I"⟩, prog_1_method_15_code, 3, some .int, mc_G_coin),
  (3, ⟨"GasTown$Things", "isA", "(II)Z"⟩, prog_11_method_3_code, 3, some .boolean, mc_Things_isA),
  (0, ⟨"GasTown", "frost", "(IZ)Z"⟩, prog_1_method_16_code, 3, some .boolean, mc_G_frost),
  (0, ⟨"GasTown", "steps", "(I)I"⟩, prog_1_method_17_code, 3, some .int, mc_G_steps),
  (0, ⟨"GasTown", "goOneStep", "()V"⟩, prog_1_method_18_code, 2, none, mc_G_goOneStep),
  (2, ⟨"GasTown$Works", "bake", "()V"⟩, prog_12_method_7_code, 3, none, mc_Works_bake),
  (2, ⟨"GasTown$Works", "gasLater", "(I)I"⟩, prog_12_method_6_code, 4, some .int, mc_Works_gasLater),
  (2, ⟨"GasTown$Works", "gasOf", "(II)I"⟩, prog_12_method_5_code, 2, some .int, mc_Works_gasOf),
  (3, ⟨"GasTown$Things", "askAll", "(ILGasTown$Sky;)V"⟩, prog_11_method_7_code, 4, none, mc_Things_askAll),
  (3, ⟨"GasTown$Things", "wantOf", "(IILGasTown$Sky;)I"⟩, prog_11_method_5_code, 4, some .int, mc_Things_wantOf),
  (1, ⟨"GasTown$Sky", "houseWant", "(II)I"⟩, prog_10_method_5_code, 3, some .int, mc_Sky_houseWant),
  (1, ⟨"GasTown$Sky", "hourOf", "(I)I"⟩, prog_10_method_3_code, 1, some .int, mc_Sky_hourOf),
  (1, ⟨"GasTown$Sky", "dayOf", "(I)I"⟩, prog_10_method_2_code, 1, some .int, mc_Sky_dayOf),
  (1, ⟨"GasTown$Sky", "hourlyWant", "(II)I"⟩, prog_10_method_6_code, 2, some .int, mc_Sky_hourlyWant),
  (1, ⟨"GasTown$Sky", "fogIn", "(I)I"⟩, prog_10_method_4_code, 3, some .int, mc_Sky_fogIn),
  (1, ⟨"GasTown$Sky", "lampBurns", "(II)Z"⟩, prog_10_method_7_code, 4, some .boolean, mc_Sky_lampBurns),
  (4, ⟨"GasTown$Net", "settle", "(LGasTown$Things;[I)Z"⟩, prog_7_method_5_code, 6, some .boolean, mc_Net_settle),
  (3, ⟨"GasTown$Things", "takeWants", "()V"⟩, prog_11_method_8_code, 2, none, mc_Things_takeWants),
  (4, ⟨"GasTown$Net", "gatherFlow", "(LGasTown$Things;)V"⟩, prog_7_method_6_code, 4, none, mc_Net_gatherFlow),
  (4, ⟨"GasTown$Net", "press", "([I)Z"⟩, prog_7_method_7_code, 6, some .boolean, mc_Net_press),
  (4, ⟨"GasTown$Net", "pressureBehind", "(II)I"⟩, prog_7_method_8_code, 4, some .int, mc_Net_pressureBehind),
  (3, ⟨"GasTown$Things", "takeBy", "([I)V"⟩, prog_11_method_10_code, 6, none, mc_Things_takeBy),
  (3, ⟨"GasTown$Things", "usedInAll", "()I"⟩, prog_11_method_11_code, 3, some .int, mc_Things_usedInAll),
  (3, ⟨"GasTown$Things", "takeNothing", "()V"⟩, prog_11_method_9_code, 2, none, mc_Things_takeNothing),
  (3, ⟨"GasTown$Things", "keep", "()V"⟩, prog_11_method_12_code, 2, none, mc_Things_keep),
  (4, ⟨"GasTown$Net", "keep", "(LGasTown$Things;Z)V"⟩, prog_7_method_9_code, 4, none, mc_Net_keep),
  (0, ⟨"GasTown", "countFails", "()V"⟩, prog_1_method_19_code, 2, none, mc_G_countFails),
  (5, ⟨"GasTown$Laws", "judge", "(IIILGasTown$Sky;)V"⟩, prog_6_method_4_code, 5, none, mc_Laws_judge),
  (5, ⟨"GasTown$Laws", "weigh", "(I)V"⟩, prog_6_method_5_code, 5, none, mc_Laws_weigh),
  (6, ⟨"GasTown$Act", "tells", "(I[I)Z"⟩, prog_2_method_7_code, 7, some .boolean, mc_Act_tells),
  (6, ⟨"GasTown$Act", "valueOf", "(II[I)I"⟩, prog_2_method_8_code, 7, some .int, mc_Act_valueOf),
  (6, ⟨"GasTown$Act", "isLeaf", "(I)Z"⟩, prog_2_method_9_code, 1, some .boolean, mc_Act_isLeaf),
  (6, ⟨"GasTown$Act", "leaf", "(II[I)I"⟩, prog_2_method_10_code, 3, some .int, mc_Act_leaf),
  (6, ⟨"GasTown$Act", "joined", "(III)I"⟩, prog_2_method_11_code, 3, some .int, mc_Act_joined),
  (3, ⟨"GasTown$Things", "anyWantsAt", "(I)Z"⟩, prog_11_method_13_code, 3, some .boolean, mc_Things_anyWantsAt),
  (0, ⟨"GasTown", "read", "(I)I"⟩, prog_1_method_20_code, 2, some .int, mc_G_read),
  (8, ⟨"GasTown$Books", "note", "(IIIZ)I"⟩, prog_3_method_2_code, 7, some .int, mc_Books_note),
  (0, ⟨"GasTown", "right", "(III)Z"⟩, prog_1_method_21_code, 5, some .boolean, mc_G_right),
  (8, ⟨"GasTown$Books", "readingOf", "(II)I"⟩, prog_3_method_3_code, 4, some .int, mc_Books_readingOf),
  (8, ⟨"GasTown$Books", "correct", "(III)Z"⟩, prog_3_method_4_code, 4, some .boolean, mc_Books_correct),
  (0, ⟨"GasTown", "bill", "(IIII)J"⟩, prog_1_method_22_code, 6, some .long, mc_G_bill),
  (8, ⟨"GasTown$Books", "know", "(I)V"⟩, prog_3_method_5_code, 4, none, mc_Books_know),
  (8, ⟨"GasTown$Books", "unitsOf", "(I)J"⟩, prog_3_method_6_code, 5, some .long, mc_Books_unitsOf),
  (0, ⟨"GasTown", "billOf", "(I)J"⟩, prog_1_method_23_code, 2, some .long, mc_G_billOf),
  (0, ⟨"GasTown", "sell", "(II)I"⟩, prog_1_method_24_code, 3, some .int, mc_G_sell),
  (0, ⟨"GasTown", "feed", "(IIIII)I"⟩, prog_1_method_25_code, 6, some .int, mc_G_feed),
  (5, ⟨"GasTown$Laws", "store", "(I)V"⟩, prog_6_method_2_code, 3, none, mc_Laws_store),
  (0, ⟨"GasTown", "end", "(I)Z"⟩, prog_1_method_26_code, 2, some .boolean, mc_G_end),
  (0, ⟨"GasTown", "act", "(II)I"⟩, prog_1_method_27_code, 3, some .int, mc_G_act),
  (5, ⟨"GasTown$Laws", "enact", "(II)I"⟩, prog_6_method_3_code, 5, some .int, mc_Laws_enact),
  (7, ⟨"GasTown$Parser", "readInto", "(LGasTown$Act;I)Z"⟩, prog_9_method_2_code, 4, some .boolean, mc_Parser_readInto),
  (6, ⟨"GasTown$Act", "clear", "()V"⟩, prog_2_method_2_code, 1, none, mc_Act_clear),
  (7, ⟨"GasTown$Parser", "advance", "()V"⟩, prog_9_method_17_code, 2, none, mc_Parser_advance),
  (7, ⟨"GasTown$Parser", "signAt", "(I)I"⟩, prog_9_method_16_code, 2, some .int, mc_Parser_signAt),
  (7, ⟨"GasTown$Parser", "isBlank", "(I)Z"⟩, prog_9_method_20_code, 1, some .boolean, mc_Parser_isBlank),
  (7, ⟨"GasTown$Parser", "isLetter", "(I)Z"⟩, prog_9_method_21_code, 1, some .boolean, mc_Parser_isLetter),
  (7, ⟨"GasTown$Parser", "readWord", "()V"⟩, prog_9_method_18_code, 2, none, mc_Parser_readWord),
  (7, ⟨"GasTown$Parser", "kindOfWord", "()I"⟩, prog_9_method_24_code, 1, some .int, mc_Parser_kindOfWord),
  (7, ⟨"GasTown$Parser", "isWord", "(Ljava/lang/String;)Z"⟩, prog_9_method_25_code, 3, some .boolean, mc_Parser_isWord),
  (7, ⟨"GasTown$Parser", "isDigit", "(I)Z"⟩, prog_9_method_22_code, 1, some .boolean, mc_Parser_isDigit),
  (7, ⟨"GasTown$Parser", "readNumber", "()V"⟩, prog_9_method_19_code, 2, none, mc_Parser_readNumber),
  (7, ⟨"GasTown$Parser", "kindOfSign", "(I)I"⟩, prog_9_method_23_code, 1, some .int, mc_Parser_kindOfSign),
  (7, ⟨"GasTown$Parser", "take", "()V"⟩, prog_9_method_4_code, 1, none, mc_Parser_take),
  (7, ⟨"GasTown$Parser", "takeSubject", "()V"⟩, prog_9_method_5_code, 1, none, mc_Parser_takeSubject),
  (7, ⟨"GasTown$Parser", "fail", "(I)V"⟩, prog_9_method_3_code, 2, none, mc_Parser_fail),
  (6, ⟨"GasTown$Act", "beginLine", "(I)V"⟩, prog_2_method_3_code, 2, none, mc_Act_beginLine),
  (7, ⟨"GasTown$Parser", "takePart", "()V"⟩, prog_9_method_6_code, 1, none, mc_Parser_takePart),
  (6, ⟨"GasTown$Act", "emit", "(II)V"⟩, prog_2_method_6_code, 3, none, mc_Act_emit),
  (7, ⟨"GasTown$Parser", "takeDivisor", "()V"⟩, prog_9_method_7_code, 1, none, mc_Parser_takeDivisor),
  (7, ⟨"GasTown$Parser", "takeTest", "()V"⟩, prog_9_method_8_code, 1, none, mc_Parser_takeTest),
  (7, ⟨"GasTown$Parser", "putAside", "()V"⟩, prog_9_method_11_code, 1, none, mc_Parser_putAside),
  (7, ⟨"GasTown$Parser", "takeBehind", "()V"⟩, prog_9_method_9_code, 2, none, mc_Parser_takeBehind),
  (7, ⟨"GasTown$Parser", "operate", "(I)V"⟩, prog_9_method_10_code, 2, none, mc_Parser_operate),
  (7, ⟨"GasTown$Parser", "rankOf", "(I)I"⟩, prog_9_method_15_code, 1, some .int, mc_Parser_rankOf),
  (7, ⟨"GasTown$Parser", "unwind", "(I)V"⟩, prog_9_method_12_code, 3, none, mc_Parser_unwind),
  (7, ⟨"GasTown$Parser", "closeBracket", "()V"⟩, prog_9_method_13_code, 1, none, mc_Parser_closeBracket),
  (6, ⟨"GasTown$Act", "beginCondition", "()V"⟩, prog_2_method_4_code, 1, none, mc_Act_beginCondition),
  (7, ⟨"GasTown$Parser", "closeLine", "()V"⟩, prog_9_method_14_code, 1, none, mc_Parser_closeLine),
  (6, ⟨"GasTown$Act", "closeLine", "()V"⟩, prog_2_method_5_code, 1, none, mc_Act_closeLine),
  (0, ⟨"GasTown", "fault", "(I)I"⟩, prog_1_method_28_code, 2, some .int, mc_G_fault),
  (0, ⟨"GasTown", "due", "(IIII)I"⟩, prog_1_method_29_code, 5, some .int, mc_G_due),
  (0, ⟨"GasTown", "tries", "(I)I"⟩, prog_1_method_30_code, 3, some .int, mc_G_tries),
  (0, ⟨"GasTown", "share", "(I)J"⟩, prog_1_method_31_code, 2, some .long, mc_G_share),
  (0, ⟨"GasTown", "gain", "()J"⟩, prog_1_method_32_code, 4, some .long, mc_G_gain),
  (0, ⟨"GasTown", "mayBePaid", "()J"⟩, prog_1_method_33_code, 1, some .long, mc_G_mayBePaid),
  (0, ⟨"GasTown", "at", "(II)I"⟩, prog_1_method_34_code, 3, some .int, mc_G_at),
  (0, ⟨"GasTown", "of", "(II)I"⟩, prog_1_method_35_code, 3, some .int, mc_G_of),
  (0, ⟨"GasTown", "why", "(II)I"⟩, prog_1_method_36_code, 4, some .int, mc_G_why),
  (4, ⟨"GasTown$Net", "firstWetOnWay", "(I)I"⟩, prog_7_method_11_code, 5, some .int, mc_Net_firstWetOnWay),
  (4, ⟨"GasTown$Net", "walkTo", "(I)I"⟩, prog_7_method_10_code, 5, some .int, mc_Net_walkTo),
  (4, ⟨"GasTown$Net", "greatestLossOnWay", "(I)I"⟩, prog_7_method_12_code, 8, some .int, mc_Net_greatestLossOnWay),
  (0, ⟨"GasTown", "best", "(III)I"⟩, prog_1_method_37_code, 4, some .int, mc_G_best),
  (9, ⟨"GasTown$Night", "foresee", "(ILGasTown$Works;LGasTown$Things;LGasTown$Sky;)V"⟩, prog_8_method_3_code, 6, none, mc_Night_foresee),
  (3, ⟨"GasTown$Things", "allWants", "(ILGasTown$Sky;)I"⟩, prog_11_method_6_code, 5, some .int, mc_Things_allWants),
  (9, ⟨"GasTown$Night", "plan", "(LGasTown$Works;II)Z"⟩, prog_8_method_4_code, 6, some .boolean, mc_Night_plan),
  (2, ⟨"GasTown$Works", "coldLater", "(I)I"⟩, prog_12_method_10_code, 4, some .int, mc_Works_coldLater),
  (9, ⟨"GasTown$Night", "seek", "(III)V"⟩, prog_8_method_5_code, 7, none, mc_Night_seek),
  (9, ⟨"GasTown$Night", "stillBurning", "(I)I"⟩, prog_8_method_6_code, 4, some .int, mc_Night_stillBurning),
  (9, ⟨"GasTown$Night", "levelBehind", "(II)I"⟩, prog_8_method_7_code, 5, some .int, mc_Night_levelBehind),
  (9, ⟨"GasTown$Night", "gasOfPlan", "(II)I"⟩, prog_8_method_8_code, 6, some .int, mc_Night_gasOfPlan),
  (0, ⟨"GasTown", "last", "()I"⟩, prog_1_method_38_code, 1, some .int, mc_G_last),
  (9, ⟨"GasTown$Night", "firstShort", "(ILGasTown$Works;LGasTown$Things;LGasTown$Sky;)I"⟩, prog_8_method_2_code, 7, some .int, mc_Night_firstShort),
  (0, ⟨"GasTown", "sees", "(II)Z"⟩, prog_1_method_39_code, 3, some .boolean, mc_G_sees),
  (0, ⟨"GasTown", "find", "(I)I"⟩, prog_1_method_40_code, 2, some .int, mc_G_find),
  (10, ⟨"GasTown$Eyes", "explain", "(LGasTown$Net;)Z"⟩, prog_4_method_2_code, 4, some .boolean, mc_Eyes_explain),
  (10, ⟨"GasTown$Eyes", "weigh", "(I)V"⟩, prog_4_method_3_code, 4, none, mc_Eyes_weigh),
  (10, ⟨"GasTown$Eyes", "reach", "(LGasTown$Net;)V"⟩, prog_4_method_4_code, 5, none, mc_Eyes_reach),
  (10, ⟨"GasTown$Eyes", "fewest", "()I"⟩, prog_4_method_5_code, 1, some .int, mc_Eyes_fewest),
  (10, ⟨"GasTown$Eyes", "howManySets", "()I"⟩, prog_4_method_6_code, 1, some .int, mc_Eyes_howManySets),
  (10, ⟨"GasTown$Eyes", "sharePipe", "(I)I"⟩, prog_4_method_7_code, 2, some .int, mc_Eyes_sharePipe),
  (0, ⟨"GasTown", "work", "(III)I"⟩, prog_1_method_41_code, 4, some .int, mc_G_work),
  (11, ⟨"GasTown$Improvements", "offer", "(III)I"⟩, prog_5_method_2_code, 4, some .int, mc_Improvements_offer),
  (0, ⟨"GasTown", "choice", "(III)I"⟩, prog_1_method_42_code, 4, some .int, mc_G_choice),
  (11, ⟨"GasTown$Improvements", "choose", "(ILGasTown$Net;LGasTown$Things;)V"⟩, prog_5_method_3_code, 7, none, mc_Improvements_choose),
  (11, ⟨"GasTown$Improvements", "priceOf", "(I)I"⟩, prog_5_method_4_code, 4, some .int, mc_Improvements_priceOf),
  (11, ⟨"GasTown$Improvements", "putIn", "(ILGasTown$Net;)V"⟩, prog_5_method_5_code, 5, none, mc_Improvements_putIn),
  (3, ⟨"GasTown$Things", "burnFully", "([I)I"⟩, prog_11_method_14_code, 6, some .int, mc_Things_burnFully),
  (0, ⟨"GasTown", "look", "(I)J"⟩, prog_1_method_43_code, 2, some .long, mc_G_look),
  (2, ⟨"GasTown$Works", "burning", "()I"⟩, prog_12_method_9_code, 3, some .int, mc_Works_burning),
  (12, ⟨"GasTownModel", "<init>", "()V"⟩, prog_14_method_1_code, 2, none, mc_M_init),
  (12, ⟨"GasTownModel", "coal", "(IIII)Z"⟩, prog_14_method_8_code, 5, some .boolean, mc_M_coal),
  (12, ⟨"GasTownModel", "isCoal", "(I)Z"⟩, prog_14_method_3_code, 1, some .boolean, mc_M_isCoal),
  (12, ⟨"GasTownModel", "isIn", "(III)Z"⟩, prog_14_method_2_code, 3, some .boolean, mc_M_isIn),
  (12, ⟨"GasTownModel", "buy", "(III)I"⟩, prog_14_method_9_code, 4, some .int, mc_M_buy),
  (12, ⟨"GasTownModel", "bench", "()I"⟩, prog_14_method_10_code, 1, some .int, mc_M_bench),
  (12, ⟨"GasTownModel", "charge", "(III)I"⟩, prog_14_method_11_code, 4, some .int, mc_M_charge),
  (12, ⟨"GasTownModel", "hands", "(I)Z"⟩, prog_14_method_12_code, 2, some .boolean, mc_M_hands),
  (12, ⟨"GasTownModel", "holder", "(I)Z"⟩, prog_14_method_14_code, 2, some .boolean, mc_M_holder),
  (12, ⟨"GasTownModel", "fills", "(I)V"⟩, prog_14_method_13_code, 2, none, mc_M_fills),
  (12, ⟨"GasTownModel", "round", "(II)Z"⟩, prog_14_method_16_code, 3, some .boolean, mc_M_round),
  (12, ⟨"GasTownModel", "fog", "(II)Z"⟩, prog_14_method_17_code, 3, some .boolean, mc_M_fog),
  (12, ⟨"GasTownModel", "gate", "(I)Z"⟩, prog_14_method_19_code, 2, some .boolean, mc_M_gate),
  (12, ⟨"GasTownModel", "node", "(III)I"⟩, prog_14_method_20_code, 4, some .int, mc_M_node),
  (12, ⟨"GasTownModel", "isNode", "(I)Z"⟩, prog_14_method_4_code, 2, some .boolean, mc_M_isNode),
  (12, ⟨"GasTownModel", "water", "(IZ)Z"⟩, prog_14_method_21_code, 3, some .boolean, mc_M_water),
  (12, ⟨"GasTownModel", "thing", "(IIII)I"⟩, prog_14_method_22_code, 5, some .int, mc_M_thing),
  (12, ⟨"GasTownModel", "cut", "(IZ)Z"⟩, prog_14_method_23_code, 3, some .boolean, mc_M_cut),
  (12, ⟨"GasTownModel", "isThing", "(I)Z"⟩, prog_14_method_5_code, 2, some .boolean, mc_M_isThing),
  (12, ⟨"GasTownModel", "coin", "(II)I"⟩, prog_14_method_24_code, 3, some .int, mc_M_coin),
  (12, ⟨"GasTownModel", "frost", "(IZ)Z"⟩, prog_14_method_25_code, 3, some .boolean, mc_M_frost),
  (12, ⟨"GasTownModel", "isHouse", "(I)Z"⟩, prog_14_method_6_code, 2, some .boolean, mc_M_isHouse),
  (12, ⟨"GasTownModel", "steps", "(I)I"⟩, prog_14_method_35_code, 3, some .int, mc_M_steps),
  (12, ⟨"GasTownModel", "step", "()V"⟩, prog_14_method_34_code, 6, none, mc_M_step),
  (12, ⟨"GasTownModel", "burns", "()V"⟩, prog_14_method_31_code, 3, none, mc_M_burns),
  (12, ⟨"GasTownModel", "inStep", "(II)I"⟩, prog_14_method_15_code, 3, some .int, mc_M_inStep),
  (12, ⟨"GasTownModel", "settles", "(I)Z"⟩, prog_14_method_30_code, 5, some .boolean, mc_M_settles),
  (12, ⟨"GasTownModel", "wants", "(II)I"⟩, prog_14_method_27_code, 4, some .int, mc_M_wants),
  (12, ⟨"GasTownModel", "byHour", "(II)I"⟩, prog_14_method_26_code, 5, some .int, mc_M_byHour),
  (12, ⟨"GasTownModel", "fogIn", "(I)I"⟩, prog_14_method_18_code, 2, some .int, mc_M_fogIn),
  (12, ⟨"GasTownModel", "sweep", "()V"⟩, prog_14_method_29_code, 4, none, mc_M_sweep),
  (12, ⟨"GasTownModel", "flows", "()V"⟩, prog_14_method_28_code, 2, none, mc_M_flows),
  (12, ⟨"GasTownModel", "keeps", "()V"⟩, prog_14_method_33_code, 2, none, mc_M_keeps),
  (12, ⟨"GasTownModel", "dueOf", "(III)I"⟩, prog_14_method_69_code, 9, some .int, mc_M_dueOf),
  (12, ⟨"GasTownModel", "asks", "(III)V"⟩, prog_14_method_68_code, 4, none, mc_M_asks),
  (12, ⟨"GasTownModel", "tells", "(III)Z"⟩, prog_14_method_67_code, 6, some .boolean, mc_M_tells),
  (12, ⟨"GasTownModel", "comesTo", "(III)I"⟩, prog_14_method_66_code, 8, some .int, mc_M_comesTo),
  (12, ⟨"GasTownModel", "both", "(III)I"⟩, prog_14_method_65_code, 3, some .int, mc_M_both),
  (12, ⟨"GasTownModel", "ends", "()V"⟩, prog_14_method_32_code, 2, none, mc_M_ends),
  (12, ⟨"GasTownModel", "read", "(I)I"⟩, prog_14_method_36_code, 4, some .int, mc_M_read),
  (12, ⟨"GasTownModel", "right", "(III)Z"⟩, prog_14_method_38_code, 4, some .boolean, mc_M_right),
  (12, ⟨"GasTownModel", "readingOf", "(II)I"⟩, prog_14_method_37_code, 5, some .int, mc_M_readingOf),
  (12, ⟨"GasTownModel", "bill", "(IIII)J"⟩, prog_14_method_42_code, 6, some .long, mc_M_bill),
  (12, ⟨"GasTownModel", "shows", "(II)I"⟩, prog_14_method_39_code, 5, some .int, mc_M_shows),
  (12, ⟨"GasTownModel", "units", "(III)J"⟩, prog_14_method_40_code, 10, some .long, mc_M_units),
  (12, ⟨"GasTownModel", "billOf", "(III)J"⟩, prog_14_method_41_code, 6, some .long, mc_M_billOf),
  (12, ⟨"GasTownModel", "sell", "(II)I"⟩, prog_14_method_43_code, 3, some .int, mc_M_sell),
  (12, ⟨"GasTownModel", "feed", "(IIIII)I"⟩, prog_14_method_44_code, 8, some .int, mc_M_feed),
  (12, ⟨"GasTownModel", "end", "(I)Z"⟩, prog_14_method_45_code, 2, some .boolean, mc_M_end),
  (12, ⟨"GasTownModel", "act", "(II)I"⟩, prog_14_method_63_code, 5, some .int, mc_M_act),
  (12, ⟨"GasTownModel", "next0", "()V"⟩, prog_14_method_51_code, 3, none, mc_M_next0),
  (12, ⟨"GasTownModel", "see", "(I)I"⟩, prog_14_method_46_code, 2, some .int, mc_M_see),
  (12, ⟨"GasTownModel", "isLetter", "(I)Z"⟩, prog_14_method_47_code, 1, some .boolean, mc_M_isLetter),
  (12, ⟨"GasTownModel", "word", "()I"⟩, prog_14_method_50_code, 1, some .int, mc_M_word),
  (12, ⟨"GasTownModel", "is", "(Ljava/lang/String;)Z"⟩, prog_14_method_49_code, 4, some .boolean, mc_M_is),
  (12, ⟨"GasTownModel", "isDigit", "(I)Z"⟩, prog_14_method_48_code, 1, some .boolean, mc_M_isDigit),
  (12, ⟨"GasTownModel", "aLine", "()Z"⟩, prog_14_method_62_code, 2, some .boolean, mc_M_aLine),
  (12, ⟨"GasTownModel", "bad", "(I)Z"⟩, prog_14_method_52_code, 2, some .boolean, mc_M_bad),
  (12, ⟨"GasTownModel", "sumUp", "()Z"⟩, prog_14_method_56_code, 2, some .boolean, mc_M_sumUp),
  (12, ⟨"GasTownModel", "product", "()Z"⟩, prog_14_method_57_code, 2, some .boolean, mc_M_product),
  (12, ⟨"GasTownModel", "unit", "()Z"⟩, prog_14_method_58_code, 2, some .boolean, mc_M_unit),
  (12, ⟨"GasTownModel", "lay", "(II)V"⟩, prog_14_method_54_code, 3, none, mc_M_lay),
  (12, ⟨"GasTownModel", "any", "()Z"⟩, prog_14_method_59_code, 1, some .boolean, mc_M_any),
  (12, ⟨"GasTownModel", "every", "()Z"⟩, prog_14_method_60_code, 1, some .boolean, mc_M_every),
  (12, ⟨"GasTownModel", "one", "()Z"⟩, prog_14_method_61_code, 2, some .boolean, mc_M_one),
  (12, ⟨"GasTownModel", "opens", "()Z"⟩, prog_14_method_55_code, 1, some .boolean, mc_M_opens),
  (12, ⟨"GasTownModel", "need", "(I)Z"⟩, prog_14_method_53_code, 2, some .boolean, mc_M_need),
  (12, ⟨"GasTownModel", "fault", "(I)I"⟩, prog_14_method_64_code, 2, some .int, mc_M_fault),
  (12, ⟨"GasTownModel", "due", "(IIII)I"⟩, prog_14_method_70_code, 6, some .int, mc_M_due),
  (12, ⟨"GasTownModel", "tries", "(I)I"⟩, prog_14_method_71_code, 4, some .int, mc_M_tries),
  (12, ⟨"GasTownModel", "share", "(I)J"⟩, prog_14_method_73_code, 9, some .long, mc_M_share),
  (12, ⟨"GasTownModel", "gain", "()J"⟩, prog_14_method_72_code, 5, some .long, mc_M_gain),
  (12, ⟨"GasTownModel", "down", "(JJ)J"⟩, prog_14_method_7_code, 6, some .long, mc_M_down),
  (12, ⟨"GasTownModel", "at", "(II)I"⟩, prog_14_method_74_code, 3, some .int, mc_M_at),
  (12, ⟨"GasTownModel", "of", "(II)I"⟩, prog_14_method_75_code, 3, some .int, mc_M_of),
  (12, ⟨"GasTownModel", "why", "(II)I"⟩, prog_14_method_76_code, 6, some .int, mc_M_why),
  (12, ⟨"GasTownModel", "loss", "(I)I"⟩, prog_14_method_77_code, 2, some .int, mc_M_loss),
  (12, ⟨"GasTownModel", "best", "(III)I"⟩, prog_14_method_83_code, 7, some .int, mc_M_best),
  (12, ⟨"GasTownModel", "stillMakes", "(I)I"⟩, prog_14_method_79_code, 4, some .int, mc_M_stillMakes),
  (12, ⟨"GasTownModel", "wantsIn", "(I)I"⟩, prog_14_method_78_code, 4, some .int, mc_M_wantsIn),
  (12, ⟨"GasTownModel", "plans", "(III)Z"⟩, prog_14_method_82_code, 7, some .boolean, mc_M_plans),
  (12, ⟨"GasTownModel", "isGood", "(I)Z"⟩, prog_14_method_81_code, 5, some .boolean, mc_M_isGood),
  (12, ⟨"GasTownModel", "busy", "(I)I"⟩, prog_14_method_80_code, 4, some .int, mc_M_busy),
  (12, ⟨"GasTownModel", "last", "()I"⟩, prog_14_method_84_code, 4, some .int, mc_M_last),
  (12, ⟨"GasTownModel", "sees", "(II)Z"⟩, prog_14_method_85_code, 3, some .boolean, mc_M_sees),
  (12, ⟨"GasTownModel", "find", "(I)I"⟩, prog_14_method_89_code, 2, some .int, mc_M_find),
  (12, ⟨"GasTownModel", "searches", "()V"⟩, prog_14_method_88_code, 4, none, mc_M_searches),
  (12, ⟨"GasTownModel", "bits", "(I)I"⟩, prog_14_method_86_code, 3, some .int, mc_M_bits),
  (12, ⟨"GasTownModel", "explains", "(I)Z"⟩, prog_14_method_87_code, 5, some .boolean, mc_M_explains),
  (12, ⟨"GasTownModel", "work", "(III)I"⟩, prog_14_method_90_code, 4, some .int, mc_M_work),
  (12, ⟨"GasTownModel", "choice", "(III)I"⟩, prog_14_method_93_code, 8, some .int, mc_M_choice),
  (12, ⟨"GasTownModel", "coinOf", "(I)I"⟩, prog_14_method_91_code, 4, some .int, mc_M_coinOf),
  (12, ⟨"GasTownModel", "burning", "(II)I"⟩, prog_14_method_92_code, 5, some .int, mc_M_burning),
  (12, ⟨"GasTownModel", "look", "(I)J"⟩, prog_14_method_94_code, 5, some .long, mc_M_look),
  (13, ⟨"GasTownLaw", "law", "([I)Z"⟩, code, 4, some .boolean, mc_Law_law)]
def mm_Yl : List (List Int32) := [[112, 114, 101, 115, 115, 117, 114, 101], [99, 97, 110, 100, 108, 101, 115], [112, 114, 105, 99, 101], [102, 105, 110, 101], [100, 105, 118, 105, 100, 101, 110, 100], [104, 111, 117, 114], [100, 97, 121], [102, 111, 103], [115, 104, 111, 114, 116], [119, 104, 101, 110], [111, 114], [97, 110, 100], [110, 111, 116]]
def mm_Y (j : Nat) : List Int32 := mm_Yl.getD j []
def mm_parts : List Int32 := [0, 1, 3, 6, 10, 15, 21, 28, 36, 44, 51, 57, 62, 66, 69, 71, 72]
/-- array 0: the shares; 1: the script -/
def mm_X (len : Nat) (xs : Nat → Int32) (j : Nat) : Nat × (Nat → Int32) := match j with
  | 0 => (17, fun i => mm_parts.getD i 0)
  | _ => (len, xs)
section
variable (X : Nat → Nat × (Nat → Int32)) (Y : Nat → List Int32) (cf : Nat → List Value → mm_S → Option mm_R) (code : Nat → Option mm_E)
def mm_run : Nat → mm_C → Option mm_R
  | 0, _ => none
  | n + 1, c => match mm_step X Y code c with
    | none => none
    | some (.inl c') => mm_run n c'
    | some (.inr (.inl r)) => some r
    | some (.inr (.inr (id, args, pc, ls, st, σ))) => match cf id args σ with
      | none => none
      | some r => mm_run n (pc, ls, r.1.toList ++ st, r.2)
theorem mm_run_mono : ∀ (n k : Nat) (c : mm_C) (r : mm_R), mm_run X Y cf code n c = some r → mm_run X Y cf code (n + k) c = some r := by
  intro n
  induction n with
  | zero => intro k c r h; cases h
  | succ n ih =>
    intro k c r h
    rw [Nat.succ_add]
    simp only [mm_run] at h ⊢
    cases hs : mm_step X Y code c with
    | none => rw [hs] at h; cases h
    | some o =>
      rw [hs] at h
      rcases o with c' | r' | ⟨id, args, pc, ls, st, σ⟩
      · exact ih k c' r h
      · exact h
      · dsimp only at h ⊢
        cases hc : cf id args σ with
        | none => rw [hc] at h; cases h
        | some q => rw [hc] at h; exact ih k _ r h
noncomputable def mm_fix (c : mm_C) : Option mm_R := @dite _ (∃ r n, mm_run X Y cf code n c = some r) (Classical.propDecidable _) (fun h => some h.choose) (fun _ => none)
theorem mm_fix_some {c : mm_C} {r : mm_R} : mm_fix X Y cf code c = some r ↔ ∃ n, mm_run X Y cf code n c = some r := by
  unfold mm_fix
  by_cases h : ∃ r n, mm_run X Y cf code n c = some r
  · rw [dif_pos h]
    constructor
    · intro e
      rw [← Option.some.inj e]
      exact h.choose_spec
    · rintro ⟨n, hn⟩
      obtain ⟨k, hk⟩ := h.choose_spec
      have h1 := mm_run_mono X Y cf code n k c r hn
      have h2 := mm_run_mono X Y cf code k n c _ hk
      rw [Nat.add_comm] at h2
      rw [h1] at h2
      exact h2.symm
  · rw [dif_neg h]
    constructor
    · intro e; cases e
    · rintro ⟨n, hn⟩; exact absurd ⟨r, n, hn⟩ h
theorem mm_fix_none {c : mm_C} (h : mm_step X Y code c = none) : mm_fix X Y cf code c = none := by
  cases e : mm_fix X Y cf code c with
  | none => rfl
  | some r =>
    obtain ⟨n, hn⟩ := (mm_fix_some X Y cf code).mp e
    cases n with
    | zero => cases hn
    | succ n => simp only [mm_run, h] at hn; cases hn
theorem mm_fix_ret {c : mm_C} {r : mm_R} (h : mm_step X Y code c = some (.inr (.inl r))) : mm_fix X Y cf code c = some r :=
  (mm_fix_some X Y cf code).mpr ⟨1, by simp only [mm_run, h]⟩
theorem mm_fix_next {c c' : mm_C} (h : mm_step X Y code c = some (.inl c')) : mm_fix X Y cf code c = mm_fix X Y cf code c' := by
  apply Option.ext
  intro r
  rw [mm_fix_some, mm_fix_some]
  constructor
  · rintro ⟨n, hn⟩
    cases n with
    | zero => cases hn
    | succ n => simp only [mm_run, h] at hn; exact ⟨n, hn⟩
  · rintro ⟨n, hn⟩
    exact ⟨n + 1, by simp only [mm_run, h]; exact hn⟩
theorem mm_fix_call {c : mm_C} {id : Nat} {args : List Value} {pc : Nat} {ls : List (Option Value)} {st : List Value} {σ : mm_S} (h : mm_step X Y code c = some (.inr (.inr (id, args, pc, ls, st, σ)))) :
    mm_fix X Y cf code c = (cf id args σ).bind (fun r => mm_fix X Y cf code (pc, ls, r.1.toList ++ st, r.2)) := by
  apply Option.ext
  intro r
  rw [mm_fix_some]
  cases hc : cf id args σ with
  | none =>
    constructor
    · rintro ⟨n, hn⟩
      cases n with
      | zero => cases hn
      | succ n => simp only [mm_run, h, hc] at hn; cases hn
    · intro e; cases e
  | some q =>
    show _ ↔ mm_fix X Y cf code (pc, ls, q.1.toList ++ st, q.2) = some r
    rw [mm_fix_some]
    constructor
    · rintro ⟨n, hn⟩
      cases n with
      | zero => cases hn
      | succ n => simp only [mm_run, h, hc] at hn; exact ⟨n, hn⟩
    · rintro ⟨n, hn⟩
      exact ⟨n + 1, by simp only [mm_run, h, hc]; exact hn⟩
/-- so many rows on -/
def mm_go : Nat → mm_C → Option mm_C
  | 0, c => some c
  | n + 1, c => match mm_step X Y code c with
    | some (.inl c') => mm_go n c'
    | _ => none
theorem mm_fix_go : ∀ (n : Nat) {c c' : mm_C}, mm_go X Y code n c = some c' → mm_fix X Y cf code c = mm_fix X Y cf code c' := by
  intro n
  induction n with
  | zero => intro c c' h; cases h; rfl
  | succ n ih =>
    intro c c' h
    simp only [mm_go] at h
    cases hs : mm_step X Y code c with
    | none => rw [hs] at h; cases h
    | some o =>
      rw [hs] at h
      rcases o with c1 | r' | q
      · rw [mm_fix_next X Y cf code hs]; exact ih h
      · cases h
      · cases h
end
section
variable {X : Nat → Nat × (Nat → Int32)} {Y : Nat → List Int32} {cf : Nat → List Value → mm_S → Option mm_R} {code : Nat → Option mm_E}
theorem fx_go (n : Nat) {c c' : mm_C} {t : Option mm_R} (h : mm_go X Y code n c = some c') (k : mm_fix X Y cf code c' = t) : mm_fix X Y cf code c = t := (mm_fix_go X Y cf code n h).trans k
theorem fx_ret {c : mm_C} {r : mm_R} (h : mm_step X Y code c = some (.inr (.inl r))) : mm_fix X Y cf code c = some r := mm_fix_ret X Y cf code h
theorem fx_call {c : mm_C} {id : Nat} {args : List Value} {pc : Nat} {ls : List (Option Value)} {st : List Value} {σ : mm_S} {T : mm_R → Option mm_R} (h : mm_step X Y code c = some (.inr (.inr (id, args, pc, ls, st, σ)))) (k : ∀ v τ, mm_fix X Y cf code (pc, ls, v.toList ++ st, τ) = T (v, τ)) :
    mm_fix X Y cf code c = (cf id args σ).bind T := by
  rw [mm_fix_call X Y cf code h]
  congr 1
  funext r
  exact k r.1 r.2
theorem fx_br {c : mm_C} {p : Prop} [Decidable p] {a b : Nat} {ls : List (Option Value)} {st : List Value} {σ : mm_S} {t f : Option mm_R} (h : mm_step X Y code c = some (.inl (if p then a else b, ls, st, σ))) (kt : p → mm_fix X Y cf code (a, ls, st, σ) = t) (kf : ¬ p → mm_fix X Y cf code (b, ls, st, σ) = f) :
    mm_fix X Y cf code c = if p then t else f := by
  rw [mm_fix_next X Y cf code h]
  by_cases hp : p
  · rw [if_pos hp, if_pos hp]; exact kt hp
  · rw [if_neg hp, if_neg hp]; exact kf hp
theorem fx_ck {c c' : mm_C} {b : Bool} {t : Option mm_R} (h : mm_step X Y code c = cond b (some (.inl c')) none) (k : b = true → mm_fix X Y cf code c' = t) : mm_fix X Y cf code c = if b = true then t else none := by
  cases b with
  | true => rw [if_pos rfl, mm_fix_next X Y cf code h]; exact k rfl
  | false => rw [if_neg (by decide), mm_fix_none X Y cf code h]
end
/-- arguments as locals -/
def mm_sl : List Value → List (Option Value)
  | [] => []
  | v :: r => match mm_long (some v) with
    | true => some v :: none :: mm_sl r
    | false => some v :: mm_sl r
def mm_pad (n : Nat) (l : List (Option Value)) : List (Option Value) := l ++ List.replicate (n - l.length) none
def mm_ent (n : Nat) (args : List Value) : List (Option Value) := mm_pad n (mm_sl args)
def mm_md : List (Nat × MethodName × ByteArray × Nat × Option FieldType × List (List (Nat × mm_E))) → Nat → Option (Nat × List (List (Nat × mm_E)))
  | [], _ => none
  | (_, _, _, n, _, L) :: _, 0 => some (n, L)
  | _ :: r, k + 1 => mm_md r k
/-- a call, at most so deep -/
noncomputable def mm_call (X : Nat → Nat × (Nat → Int32)) (Y : Nat → List Int32) : Nat → Nat → List Value → mm_S → Option mm_R
  | 0, _, _, _ => none
  | d + 1, id, args, σ => match mm_md mm_tab id with
    | none => none
    | some (n, L) => mm_fix X Y (mm_call X Y d) (mm_look L) (0, mm_ent n args, [], σ)
