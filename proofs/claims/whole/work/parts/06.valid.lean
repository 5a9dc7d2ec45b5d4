theorem mv_M_init_0 : mm_vd prog_14_method_1_code 12 2 true (none) ((mc_M_init).take 10) = true := by decide +kernel
theorem mv_M_init_10 : mm_vd prog_14_method_1_code 12 2 true (none) (((mc_M_init).drop 10).take 10) = true := by decide +kernel
theorem mv_M_init_20 : mm_vd prog_14_method_1_code 12 2 true (none) ((((mc_M_init).drop 10).drop 10).take 10) = true := by decide +kernel
theorem mv_M_init_30 : mm_vd prog_14_method_1_code 12 2 true (none) (((((mc_M_init).drop 10).drop 10).drop 10).take 10) = true := by decide +kernel
theorem mv_M_init_40 : mm_vd prog_14_method_1_code 12 2 true (none) (((((mc_M_init).drop 10).drop 10).drop 10).drop 10) = true := by decide +kernel
theorem mv_M_init : mm_vr (12, ⟨"GasTownModel", "<init>", "()V"⟩, prog_14_method_1_code, 2, none, mc_M_init) = true := (mm_vd_cut 10 mv_M_init_0 (mm_vd_cut 10 mv_M_init_10 (mm_vd_cut 10 mv_M_init_20 (mm_vd_cut 10 mv_M_init_30 mv_M_init_40))))
theorem mv_M_coal : mm_vr (12, ⟨"GasTownModel", "coal", "(IIII)Z"⟩, prog_14_method_8_code, 5, some .boolean, mc_M_coal) = true := by decide +kernel
theorem mv_M_isCoal : mm_vr (12, ⟨"GasTownModel", "isCoal", "(I)Z"⟩, prog_14_method_3_code, 1, some .boolean, mc_M_isCoal) = true := by decide +kernel
theorem mv_M_isIn : mm_vr (12, ⟨"GasTownModel", "isIn", "(III)Z"⟩, prog_14_method_2_code, 3, some .boolean, mc_M_isIn) = true := by decide +kernel
theorem mv_M_buy : mm_vr (12, ⟨"GasTownModel", "buy", "(III)I"⟩, prog_14_method_9_code, 4, some .int, mc_M_buy) = true := by decide +kernel
theorem mv_M_bench : mm_vr (12, ⟨"GasTownModel", "bench", "()I"⟩, prog_14_method_10_code, 1, some .int, mc_M_bench) = true := by decide +kernel
theorem mv_M_charge : mm_vr (12, ⟨"GasTownModel", "charge", "(III)I"⟩, prog_14_method_11_code, 4, some .int, mc_M_charge) = true := by decide +kernel
theorem mv_M_hands : mm_vr (12, ⟨"GasTownModel", "hands", "(I)Z"⟩, prog_14_method_12_code, 2, some .boolean, mc_M_hands) = true := by decide +kernel
theorem mv_M_holder : mm_vr (12, ⟨"GasTownModel", "holder", "(I)Z"⟩, prog_14_method_14_code, 2, some .boolean, mc_M_holder) = true := by decide +kernel
theorem mv_M_fills : mm_vr (12, ⟨"GasTownModel", "fills", "(I)V"⟩, prog_14_method_13_code, 2, none, mc_M_fills) = true := by decide +kernel
theorem mv_M_round : mm_vr (12, ⟨"GasTownModel", "round", "(II)Z"⟩, prog_14_method_16_code, 3, some .boolean, mc_M_round) = true := by decide +kernel
theorem mv_M_fog : mm_vr (12, ⟨"GasTownModel", "fog", "(II)Z"⟩, prog_14_method_17_code, 3, some .boolean, mc_M_fog) = true := by decide +kernel
theorem mv_M_gate : mm_vr (12, ⟨"GasTownModel", "gate", "(I)Z"⟩, prog_14_method_19_code, 2, some .boolean, mc_M_gate) = true := by decide +kernel
theorem mv_M_node : mm_vr (12, ⟨"GasTownModel", "node", "(III)I"⟩, prog_14_method_20_code, 4, some .int, mc_M_node) = true := by decide +kernel
theorem mv_M_isNode : mm_vr (12, ⟨"GasTownModel", "isNode", "(I)Z"⟩, prog_14_method_4_code, 2, some .boolean, mc_M_isNode) = true := by decide +kernel
theorem mv_M_water : mm_vr (12, ⟨"GasTownModel", "water", "(IZ)Z"⟩, prog_14_method_21_code, 3, some .boolean, mc_M_water) = true := by decide +kernel
theorem mv_M_thing : mm_vr (12, ⟨"GasTownModel", "thing", "(IIII)I"⟩, prog_14_method_22_code, 5, some .int, mc_M_thing) = true := by decide +kernel
theorem mv_M_cut : mm_vr (12, ⟨"GasTownModel", "cut", "(IZ)Z"⟩, prog_14_method_23_code, 3, some .boolean, mc_M_cut) = true := by decide +kernel
theorem mv_M_isThing : mm_vr (12, ⟨"GasTownModel", "isThing", "(I)Z"⟩, prog_14_method_5_code, 2, some .boolean, mc_M_isThing) = true := by decide +kernel
theorem mv_M_coin : mm_vr (12, ⟨"GasTownModel", "coin", "(II)I"⟩, prog_14_method_24_code, 3, some .int, mc_M_coin) = true := by decide +kernel
theorem mv_M_frost : mm_vr (12, ⟨"GasTownModel", "frost", "(IZ)Z"⟩, prog_14_method_25_code, 3, some .boolean, mc_M_frost) = true := by decide +kernel
theorem mv_M_isHouse : mm_vr (12, ⟨"GasTownModel", "isHouse", "(I)Z"⟩, prog_14_method_6_code, 2, some .boolean, mc_M_isHouse) = true := by decide +kernel
theorem mv_M_steps : mm_vr (12, ⟨"GasTownModel", "steps", "(I)I"⟩, prog_14_method_35_code, 3, some .int, mc_M_steps) = true := by decide +kernel
theorem mv_M_step_0 : mm_vd prog_14_method_34_code 12 6 false (none) ((mc_M_step).take 10) = true := by decide +kernel
theorem mv_M_step_10 : mm_vd prog_14_method_34_code 12 6 false (none) (((mc_M_step).drop 10).take 10) = true := by decide +kernel
theorem mv_M_step_20 : mm_vd prog_14_method_34_code 12 6 false (none) (((mc_M_step).drop 10).drop 10) = true := by decide +kernel
theorem mv_M_step : mm_vr (12, ⟨"GasTownModel", "step", "()V"⟩, prog_14_method_34_code, 6, none, mc_M_step) = true := (mm_vd_cut 10 mv_M_step_0 (mm_vd_cut 10 mv_M_step_10 mv_M_step_20))
theorem mv_M_burns : mm_vr (12, ⟨"GasTownModel", "burns", "()V"⟩, prog_14_method_31_code, 3, none, mc_M_burns) = true := by decide +kernel
theorem mv_M_inStep : mm_vr (12, ⟨"GasTownModel", "inStep", "(II)I"⟩, prog_14_method_15_code, 3, some .int, mc_M_inStep) = true := by decide +kernel
theorem mv_M_settles : mm_vr (12, ⟨"GasTownModel", "settles", "(I)Z"⟩, prog_14_method_30_code, 5, some .boolean, mc_M_settles) = true := by decide +kernel
theorem mv_M_wants : mm_vr (12, ⟨"GasTownModel", "wants", "(II)I"⟩, prog_14_method_27_code, 4, some .int, mc_M_wants) = true := by decide +kernel
theorem mv_M_byHour : mm_vr (12, ⟨"GasTownModel", "byHour", "(II)I"⟩, prog_14_method_26_code, 5, some .int, mc_M_byHour) = true := by decide +kernel
theorem mv_M_fogIn : mm_vr (12, ⟨"GasTownModel", "fogIn", "(I)I"⟩, prog_14_method_18_code, 2, some .int, mc_M_fogIn) = true := by decide +kernel
theorem mv_M_sweep : mm_vr (12, ⟨"GasTownModel", "sweep", "()V"⟩, prog_14_method_29_code, 4, none, mc_M_sweep) = true := by decide +kernel
theorem mv_M_flows : mm_vr (12, ⟨"GasTownModel", "flows", "()V"⟩, prog_14_method_28_code, 2, none, mc_M_flows) = true := by decide +kernel
theorem mv_M_keeps : mm_vr (12, ⟨"GasTownModel", "keeps", "()V"⟩, prog_14_method_33_code, 2, none, mc_M_keeps) = true := by decide +kernel
theorem mv_M_dueOf : mm_vr (12, ⟨"GasTownModel", "dueOf", "(III)I"⟩, prog_14_method_69_code, 9, some .int, mc_M_dueOf) = true := by decide +kernel
theorem mv_M_asks : mm_vr (12, ⟨"GasTownModel", "asks", "(III)V"⟩, prog_14_method_68_code, 4, none, mc_M_asks) = true := by decide +kernel
theorem mv_M_tells : mm_vr (12, ⟨"GasTownModel", "tells", "(III)Z"⟩, prog_14_method_67_code, 6, some .boolean, mc_M_tells) = true := by decide +kernel
theorem mv_M_comesTo : mm_vr (12, ⟨"GasTownModel", "comesTo", "(III)I"⟩, prog_14_method_66_code, 8, some .int, mc_M_comesTo) = true := by decide +kernel
theorem mv_M_both : mm_vr (12, ⟨"GasTownModel", "both", "(III)I"⟩, prog_14_method_65_code, 3, some .int, mc_M_both) = true := by decide +kernel
theorem mv_M_ends : mm_vr (12, ⟨"GasTownModel", "ends", "()V"⟩, prog_14_method_32_code, 2, none, mc_M_ends) = true := by decide +kernel
theorem mv_M_read : mm_vr (12, ⟨"GasTownModel", "read", "(I)I"⟩, prog_14_method_36_code, 4, some .int, mc_M_read) = true := by decide +kernel
theorem mv_M_right : mm_vr (12, ⟨"GasTownModel", "right", "(III)Z"⟩, prog_14_method_38_code, 4, some .boolean, mc_M_right) = true := by decide +kernel
theorem mv_M_readingOf : mm_vr (12, ⟨"GasTownModel", "readingOf", "(II)I"⟩, prog_14_method_37_code, 5, some .int, mc_M_readingOf) = true := by decide +kernel
theorem mv_M_bill : mm_vr (12, ⟨"GasTownModel", "bill", "(IIII)J"⟩, prog_14_method_42_code, 6, some .long, mc_M_bill) = true := by decide +kernel
theorem mv_M_shows : mm_vr (12, ⟨"GasTownModel", "shows", "(II)I"⟩, prog_14_method_39_code, 5, some .int, mc_M_shows) = true := by decide +kernel
theorem mv_M_units : mm_vr (12, ⟨"GasTownModel", "units", "(III)J"⟩, prog_14_method_40_code, 10, some .long, mc_M_units) = true := by decide +kernel
theorem mv_M_billOf : mm_vr (12, ⟨"GasTownModel", "billOf", "(III)J"⟩, prog_14_method_41_code, 6, some .long, mc_M_billOf) = true := by decide +kernel
theorem mv_M_sell : mm_vr (12, ⟨"GasTownModel", "sell", "(II)I"⟩, prog_14_method_43_code, 3, some .int, mc_M_sell) = true := by decide +kernel
theorem mv_M_feed : mm_vr (12, ⟨"GasTownModel", "feed", "(IIIII)I"⟩, prog_14_method_44_code, 8, some .int, mc_M_feed) = true := by decide +kernel
theorem mv_M_end : mm_vr (12, ⟨"GasTownModel", "end", "(I)Z"⟩, prog_14_method_45_code, 2, some .boolean, mc_M_end) = true := by decide +kernel
theorem mv_M_act : mm_vr (12, ⟨"GasTownModel", "act", "(II)I"⟩, prog_14_method_63_code, 5, some .int, mc_M_act) = true := by decide +kernel
theorem mv_M_next0 : mm_vr (12, ⟨"GasTownModel", "next0", "()V"⟩, prog_14_method_51_code, 3, none, mc_M_next0) = true := by decide +kernel
theorem mv_M_see : mm_vr (12, ⟨"GasTownModel", "see", "(I)I"⟩, prog_14_method_46_code, 2, some .int, mc_M_see) = true := by decide +kernel
theorem mv_M_isLetter : mm_vr (12, ⟨"GasTownModel", "isLetter", "(I)Z"⟩, prog_14_method_47_code, 1, some .boolean, mc_M_isLetter) = true := by decide +kernel
theorem mv_M_word : mm_vr (12, ⟨"GasTownModel", "word", "()I"⟩, prog_14_method_50_code, 1, some .int, mc_M_word) = true := by decide +kernel
theorem mv_M_is : mm_vr (12, ⟨"GasTownModel", "is", "(Ljava/lang/String;)Z"⟩, prog_14_method_49_code, 4, some .boolean, mc_M_is) = true := by decide +kernel
theorem mv_M_isDigit : mm_vr (12, ⟨"GasTownModel", "isDigit", "(I)Z"⟩, prog_14_method_48_code, 1, some .boolean, mc_M_isDigit) = true := by decide +kernel
theorem mv_M_aLine : mm_vr (12, ⟨"GasTownModel", "aLine", "()Z"⟩, prog_14_method_62_code, 2, some .boolean, mc_M_aLine) = true := by decide +kernel
theorem mv_M_bad : mm_vr (12, ⟨"GasTownModel", "bad", "(I)Z"⟩, prog_14_method_52_code, 2, some .boolean, mc_M_bad) = true := by decide +kernel
theorem mv_M_sumUp : mm_vr (12, ⟨"GasTownModel", "sumUp", "()Z"⟩, prog_14_method_56_code, 2, some .boolean, mc_M_sumUp) = true := by decide +kernel
theorem mv_M_product : mm_vr (12, ⟨"GasTownModel", "product", "()Z"⟩, prog_14_method_57_code, 2, some .boolean, mc_M_product) = true := by decide +kernel
theorem mv_M_unit : mm_vr (12, ⟨"GasTownModel", "unit", "()Z"⟩, prog_14_method_58_code, 2, some .boolean, mc_M_unit) = true := by decide +kernel
theorem mv_M_lay : mm_vr (12, ⟨"GasTownModel", "lay", "(II)V"⟩, prog_14_method_54_code, 3, none, mc_M_lay) = true := by decide +kernel
theorem mv_M_any : mm_vr (12, ⟨"GasTownModel", "any", "()Z"⟩, prog_14_method_59_code, 1, some .boolean, mc_M_any) = true := by decide +kernel
theorem mv_M_every : mm_vr (12, ⟨"GasTownModel", "every", "()Z"⟩, prog_14_method_60_code, 1, some .boolean, mc_M_every) = true := by decide +kernel
theorem mv_M_one : mm_vr (12, ⟨"GasTownModel", "one", "()Z"⟩, prog_14_method_61_code, 2, some .boolean, mc_M_one) = true := by decide +kernel
theorem mv_M_opens : mm_vr (12, ⟨"GasTownModel", "opens", "()Z"⟩, prog_14_method_55_code, 1, some .boolean, mc_M_opens) = true := by decide +kernel
theorem mv_M_need : mm_vr (12, ⟨"GasTownModel", "need", "(I)Z"⟩, prog_14_method_53_code, 2, some .boolean, mc_M_need) = true := by decide +kernel
theorem mv_M_fault : mm_vr (12, ⟨"GasTownModel", "fault", "(I)I"⟩, prog_14_method_64_code, 2, some .int, mc_M_fault) = true := by decide +kernel
theorem mv_M_due : mm_vr (12, ⟨"GasTownModel", "due", "(IIII)I"⟩, prog_14_method_70_code, 6, some .int, mc_M_due) = true := by decide +kernel
theorem mv_M_tries : mm_vr (12, ⟨"GasTownModel", "tries", "(I)I"⟩, prog_14_method_71_code, 4, some .int, mc_M_tries) = true := by decide +kernel
theorem mv_M_share : mm_vr (12, ⟨"GasTownModel", "share", "(I)J"⟩, prog_14_method_73_code, 9, some .long, mc_M_share) = true := by decide +kernel
theorem mv_M_gain : mm_vr (12, ⟨"GasTownModel", "gain", "()J"⟩, prog_14_method_72_code, 5, some .long, mc_M_gain) = true := by decide +kernel
theorem mv_M_down : mm_vr (12, ⟨"GasTownModel", "down", "(JJ)J"⟩, prog_14_method_7_code, 6, some .long, mc_M_down) = true := by decide +kernel
theorem mv_M_at : mm_vr (12, ⟨"GasTownModel", "at", "(II)I"⟩, prog_14_method_74_code, 3, some .int, mc_M_at) = true := by decide +kernel
theorem mv_M_of : mm_vr (12, ⟨"GasTownModel", "of", "(II)I"⟩, prog_14_method_75_code, 3, some .int, mc_M_of) = true := by decide +kernel
theorem mv_M_why : mm_vr (12, ⟨"GasTownModel", "why", "(II)I"⟩, prog_14_method_76_code, 6, some .int, mc_M_why) = true := by decide +kernel
theorem mv_M_loss : mm_vr (12, ⟨"GasTownModel", "loss", "(I)I"⟩, prog_14_method_77_code, 2, some .int, mc_M_loss) = true := by decide +kernel
theorem mv_M_best : mm_vr (12, ⟨"GasTownModel", "best", "(III)I"⟩, prog_14_method_83_code, 7, some .int, mc_M_best) = true := by decide +kernel
theorem mv_M_stillMakes : mm_vr (12, ⟨"GasTownModel", "stillMakes", "(I)I"⟩, prog_14_method_79_code, 4, some .int, mc_M_stillMakes) = true := by decide +kernel
theorem mv_M_wantsIn : mm_vr (12, ⟨"GasTownModel", "wantsIn", "(I)I"⟩, prog_14_method_78_code, 4, some .int, mc_M_wantsIn) = true := by decide +kernel
theorem mv_M_plans : mm_vr (12, ⟨"GasTownModel", "plans", "(III)Z"⟩, prog_14_method_82_code, 7, some .boolean, mc_M_plans) = true := by decide +kernel
theorem mv_M_isGood : mm_vr (12, ⟨"GasTownModel", "isGood", "(I)Z"⟩, prog_14_method_81_code, 5, some .boolean, mc_M_isGood) = true := by decide +kernel
theorem mv_M_busy : mm_vr (12, ⟨"GasTownModel", "busy", "(I)I"⟩, prog_14_method_80_code, 4, some .int, mc_M_busy) = true := by decide +kernel
theorem mv_M_last : mm_vr (12, ⟨"GasTownModel", "last", "()I"⟩, prog_14_method_84_code, 4, some .int, mc_M_last) = true := by decide +kernel
theorem mv_M_sees : mm_vr (12, ⟨"GasTownModel", "sees", "(II)Z"⟩, prog_14_method_85_code, 3, some .boolean, mc_M_sees) = true := by decide +kernel
theorem mv_M_find : mm_vr (12, ⟨"GasTownModel", "find", "(I)I"⟩, prog_14_method_89_code, 2, some .int, mc_M_find) = true := by decide +kernel
theorem mv_M_searches : mm_vr (12, ⟨"GasTownModel", "searches", "()V"⟩, prog_14_method_88_code, 4, none, mc_M_searches) = true := by decide +kernel
theorem mv_M_bits : mm_vr (12, ⟨"GasTownModel", "bits", "(I)I"⟩, prog_14_method_86_code, 3, some .int, mc_M_bits) = true := by decide +kernel
theorem mv_M_explains : mm_vr (12, ⟨"GasTownModel", "explains", "(I)Z"⟩, prog_14_method_87_code, 5, some .boolean, mc_M_explains) = true := by decide +kernel
theorem mv_M_work : mm_vr (12, ⟨"GasTownModel", "work", "(III)I"⟩, prog_14_method_90_code, 4, some .int, mc_M_work) = true := by decide +kernel
theorem mv_M_choice : mm_vr (12, ⟨"GasTownModel", "choice", "(III)I"⟩, prog_14_method_93_code, 8, some .int, mc_M_choice) = true := by decide +kernel
theorem mv_M_coinOf : mm_vr (12, ⟨"GasTownModel", "coinOf", "(I)I"⟩, prog_14_method_91_code, 4, some .int, mc_M_coinOf) = true := by decide +kernel
theorem mv_M_burning : mm_vr (12, ⟨"GasTownModel", "burning", "(II)I"⟩, prog_14_method_92_code, 5, some .int, mc_M_burning) = true := by decide +kernel
theorem mv_M_look : mm_vr (12, ⟨"GasTownModel", "look", "(I)J"⟩, prog_14_method_94_code, 5, some .long, mc_M_look) = true := by decide +kernel
