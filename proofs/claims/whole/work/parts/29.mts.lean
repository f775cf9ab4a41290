/-! ===== the methods by number ===== -/
abbrev tt_0 : ma_M := (0, cX0_init, 1, none, yX0_init, 1, 122, 4)
theorem mt_0 : ma_mts 0 = some tt_0 := rfl
abbrev tt_1 : ma_M := (0, cX0_perform, 4, (some .int), yX0_perform, 4, 685, 4)
theorem mt_1 : ma_mts 1 = some tt_1 := rfl
abbrev tt_2 : ma_M := (0, cX0_turns, 3, (some .int), yX0_turns, 1, 689, 4)
theorem mt_2 : ma_mts 2 = some tt_2 := rfl
abbrev tt_3 : ma_M := (0, cX0_began, 3, none, yX0_began, 0, 693, 4)
theorem mt_3 : ma_mts 3 = some tt_3 := rfl
abbrev tt_4 : ma_M := (0, cX0_names, 3, (some .int), yX0_names, 2, 698, 4)
theorem mt_4 : ma_mts 4 = some tt_4 := rfl
abbrev tt_5 : ma_M := (0, cX0_parts, 4, (some .int), yX0_parts, 2, 702, 4)
theorem mt_5 : ma_mts 5 = some tt_5 := rfl
abbrev tt_6 : ma_M := (0, cX0_lands, 3, (some .int), yX0_lands, 3, 706, 4)
theorem mt_6 : ma_mts 6 = some tt_6 := rfl
abbrev tt_7 : ma_M := (1, cX1_init, 1, none, yX1_init, 1, 151, 5)
theorem mt_7 : ma_mts 7 = some tt_7 := rfl
abbrev tt_8 : ma_M := (1, cX1_isMissing, 1, (some .boolean), yX1_isMissing, 0, 584, 5)
theorem mt_8 : ma_mts 8 = some tt_8 := rfl
abbrev tt_9 : ma_M := (1, cX1_begin, 4, none, yX1_begin, 0, 641, 5)
theorem mt_9 : ma_mts 9 = some tt_9 := rfl
abbrev tt_10 : ma_M := (1, cX1_narrowed, 2, (some .long), yX1_narrowed, 0, 649, 5)
theorem mt_10 : ma_mts 10 = some tt_10 := rfl
abbrev tt_11 : ma_M := (2, cX2_init, 1, none, yX2_init, 1, 172, 6)
theorem mt_11 : ma_mts 11 = some tt_11 := rfl
abbrev tt_12 : ma_M := (2, cX2_takeLeaf, 2, none, yX2_takeLeaf, 0, 661, 6)
theorem mt_12 : ma_mts 12 = some tt_12 := rfl
abbrev tt_13 : ma_M := (2, cX2_takeRow, 2, none, yX2_takeRow, 1, 665, 6)
theorem mt_13 : ma_mts 13 = some tt_13 := rfl
abbrev tt_14 : ma_M := (3, cX3_init, 1, none, yX3_init, 1, 90, 3)
theorem mt_14 : ma_mts 14 = some tt_14 := rfl
abbrev tt_15 : ma_M := (3, cX3_readInto, 5, (some .int), yX3_readInto, 8, 233, 3)
theorem mt_15 : ma_mts 15 = some tt_15 := rfl
abbrev tt_16 : ma_M := (3, cX3_step, 1, none, yX3_step, 1, 237, 3)
theorem mt_16 : ma_mts 16 = some tt_16 := rfl
abbrev tt_17 : ma_M := (3, cX3_sortAt, 3, (some .int), yX3_sortAt, 0, 241, 3)
theorem mt_17 : ma_mts 17 = some tt_17 := rfl
abbrev tt_18 : ma_M := (3, cX3_lawNamed, 1, (some .int), yX3_lawNamed, 6, 245, 3)
theorem mt_18 : ma_mts 18 = some tt_18 := rfl
abbrev tt_19 : ma_M := (3, cX3_isName, 3, (some .boolean), yX3_isName, 5, 250, 3)
theorem mt_19 : ma_mts 19 = some tt_19 := rfl
abbrev tt_20 : ma_M := (3, cX3_kindNamed, 2, (some .int), yX3_kindNamed, 6, 305, 3)
theorem mt_20 : ma_mts 20 = some tt_20 := rfl
abbrev tt_21 : ma_M := (3, cX3_kindName, 1, (some (.object "java/lang/String")), yX3_kindName, 0, 308, 3)
theorem mt_21 : ma_mts 21 = some tt_21 := rfl
abbrev tt_22 : ma_M := (3, cX3_readLaw, 4, none, yX3_readLaw, 3, 318, 3)
theorem mt_22 : ma_mts 22 = some tt_22 := rfl
abbrev tt_23 : ma_M := (3, cX3_number, 3, (some .int), yX3_number, 2, 325, 3)
theorem mt_23 : ma_mts 23 = some tt_23 := rfl
abbrev tt_24 : ma_M := (3, cX3_value, 3, (some .int), yX3_value, 0, 329, 3)
theorem mt_24 : ma_mts 24 = some tt_24 := rfl
abbrev tt_25 : ma_M := (3, cX3_passSemicolon, 2, (some .boolean), yX3_passSemicolon, 2, 333, 3)
theorem mt_25 : ma_mts 25 = some tt_25 := rfl
abbrev tt_26 : ma_M := (3, cX3_readSway, 4, none, yX3_readSway, 7, 338, 3)
theorem mt_26 : ma_mts 26 = some tt_26 := rfl
abbrev tt_27 : ma_M := (3, cX3_passName, 3, (some .boolean), yX3_passName, 6, 343, 3)
theorem mt_27 : ma_mts 27 = some tt_27 := rfl
abbrev tt_28 : ma_M := (3, cX3_readLeaf, 6, none, yX3_readLeaf, 7, 347, 3)
theorem mt_28 : ma_mts 28 = some tt_28 := rfl
abbrev tt_29 : ma_M := (3, cX3_numberNamed, 4, (some .int), yX3_numberNamed, 6, 353, 3)
theorem mt_29 : ma_mts 29 = some tt_29 := rfl
abbrev tt_30 : ma_M := (4, cX4_init, 1, none, yX4_init, 1, 27, 2)
theorem mt_30 : ma_mts 30 = some tt_30 := rfl
abbrev tt_31 : ma_M := (4, cX4_clear, 2, none, yX4_clear, 0, 32, 2)
theorem mt_31 : ma_mts 31 = some tt_31 := rfl
abbrev tt_32 : ma_M := (4, cX4_grow, 5, none, yX4_grow, 0, 358, 2)
theorem mt_32 : ma_mts 32 = some tt_32 := rfl
abbrev tt_33 : ma_M := (4, cX4_become, 2, none, yX4_become, 1, 362, 2)
theorem mt_33 : ma_mts 33 = some tt_33 := rfl
abbrev tt_34 : ma_M := (4, cX4_has, 2, (some .boolean), yX4_has, 0, 387, 2)
theorem mt_34 : ma_mts 34 = some tt_34 := rfl
abbrev tt_35 : ma_M := (4, cX4_hangs, 2, (some .boolean), yX4_hangs, 0, 391, 2)
theorem mt_35 : ma_mts 35 = some tt_35 := rfl
abbrev tt_36 : ma_M := (4, cX4_mates, 2, (some .int), yX4_mates, 2, 395, 2)
theorem mt_36 : ma_mts 36 = some tt_36 := rfl
abbrev tt_37 : ma_M := (4, cX4_hangingOn, 4, (some .int), yX4_hangingOn, 1, 399, 2)
theorem mt_37 : ma_mts 37 = some tt_37 := rfl
abbrev tt_38 : ma_M := (4, cX4_loses, 3, (some .int), yX4_loses, 3, 414, 2)
theorem mt_38 : ma_mts 38 = some tt_38 := rfl
abbrev tt_39 : ma_M := (4, cX4_rank, 3, (some .int), yX4_rank, 0, 419, 2)
theorem mt_39 : ma_mts 39 = some tt_39 := rfl
abbrev tt_40 : ma_M := (4, cX4_fell, 2, none, yX4_fell, 0, 439, 2)
theorem mt_40 : ma_mts 40 = some tt_40 := rfl
abbrev tt_41 : ma_M := (4, cX4_hanging, 1, (some .int), yX4_hanging, 0, 443, 2)
theorem mt_41 : ma_mts 41 = some tt_41 := rfl
abbrev tt_42 : ma_M := (4, cX4_passDay, 2, (some .int), yX4_passDay, 4, 460, 2)
theorem mt_42 : ma_mts 42 = some tt_42 := rfl
abbrev tt_43 : ma_M := (4, cX4_isTied, 2, (some .boolean), yX4_isTied, 0, 464, 2)
theorem mt_43 : ma_mts 43 = some tt_43 := rfl
abbrev tt_44 : ma_M := (4, cX4_faller, 3, (some .int), yX4_faller, 1, 478, 2)
theorem mt_44 : ma_mts 44 = some tt_44 := rfl
abbrev tt_45 : ma_M := (4, cX4_passDayByDraws, 2, (some .int), yX4_passDayByDraws, 5, 492, 2)
theorem mt_45 : ma_mts 45 = some tt_45 := rfl
abbrev tt_46 : ma_M := (4, cX4_drawn, 1, (some .int), yX4_drawn, 0, 496, 2)
theorem mt_46 : ma_mts 46 = some tt_46 := rfl
abbrev tt_47 : ma_M := (4, cX4_signWritten, 3, (some .int), yX4_signWritten, 0, 510, 2)
theorem mt_47 : ma_mts 47 = some tt_47 := rfl
abbrev tt_48 : ma_M := (4, cX4_hangingSet, 3, (some .int), yX4_hangingSet, 1, 518, 2)
theorem mt_48 : ma_mts 48 = some tt_48 := rfl
abbrev tt_49 : ma_M := (4, cX4_holdTogether, 3, (some .int), yX4_holdTogether, 1, 522, 2)
theorem mt_49 : ma_mts 49 = some tt_49 := rfl
abbrev tt_50 : ma_M := (4, cX4_rhymes, 3, (some .int), yX4_rhymes, 1, 526, 2)
theorem mt_50 : ma_mts 50 = some tt_50 := rfl
abbrev tt_51 : ma_M := (4, cX4_spelled, 3, (some .int), yX4_spelled, 1, 531, 2)
theorem mt_51 : ma_mts 51 = some tt_51 := rfl
abbrev tt_52 : ma_M := (4, cX4_swayTogether, 3, (some .int), yX4_swayTogether, 0, 535, 2)
theorem mt_52 : ma_mts 52 = some tt_52 := rfl
abbrev tt_53 : ma_M := (4, cX4_boughsHungOn, 3, (some .int), yX4_boughsHungOn, 2, 718, 2)
theorem mt_53 : ma_mts 53 = some tt_53 := rfl
abbrev tt_54 : ma_M := (5, cX5_init, 2, none, yX5_init, 2, 19, 1)
theorem mt_54 : ma_mts 54 = some tt_54 := rfl
abbrev tt_55 : ma_M := (5, cX5_feed, 5, (some .int), yX5_feed, 1, 221, 1)
theorem mt_55 : ma_mts 55 = some tt_55 := rfl
abbrev tt_56 : ma_M := (5, cX5_isWithin, 3, (some .boolean), yX5_isWithin, 0, 224, 1)
theorem mt_56 : ma_mts 56 = some tt_56 := rfl
abbrev tt_57 : ma_M := (5, cX5_autumn, 2, (some .int), yX5_autumn, 9, 228, 1)
theorem mt_57 : ma_mts 57 = some tt_57 := rfl
abbrev tt_58 : ma_M := (5, cX5_mostOfLaw, 1, (some .int), yX5_mostOfLaw, 0, 321, 1)
theorem mt_58 : ma_mts 58 = some tt_58 := rfl
abbrev tt_59 : ma_M := (5, cX5_set, 4, (some .int), yX5_set, 1, 369, 1)
theorem mt_59 : ma_mts 59 = some tt_59 := rfl
abbrev tt_60 : ma_M := (5, cX5_lawOf, 2, (some .int), yX5_lawOf, 1, 374, 1)
theorem mt_60 : ma_mts 60 = some tt_60 := rfl
abbrev tt_61 : ma_M := (5, cX5_leaf, 5, (some .int), yX5_leaf, 1, 378, 1)
theorem mt_61 : ma_mts 61 = some tt_61 := rfl
abbrev tt_62 : ma_M := (5, cX5_of, 3, (some .int), yX5_of, 3, 383, 1)
theorem mt_62 : ma_mts 62 = some tt_62 := rfl
abbrev tt_63 : ma_M := (5, cX5_does, 3, (some .int), yX5_does, 4, 410, 1)
theorem mt_63 : ma_mts 63 = some tt_63 := rfl
abbrev tt_64 : ma_M := (5, cX5_mind, 5, (some .int), yX5_mind, 1, 423, 1)
theorem mt_64 : ma_mts 64 = some tt_64 := rfl
abbrev tt_65 : ma_M := (5, cX5_hold, 4, (some .int), yX5_hold, 1, 427, 1)
theorem mt_65 : ma_mts 65 = some tt_65 := rfl
abbrev tt_66 : ma_M := (5, cX5_move, 4, (some .int), yX5_move, 1, 431, 1)
theorem mt_66 : ma_mts 66 = some tt_66 := rfl
abbrev tt_67 : ma_M := (5, cX5_pluck, 2, (some .int), yX5_pluck, 1, 435, 1)
theorem mt_67 : ma_mts 67 = some tt_67 := rfl
abbrev tt_68 : ma_M := (5, cX5_bough, 3, (some .int), yX5_bough, 2, 447, 1)
theorem mt_68 : ma_mts 68 = some tt_68 := rfl
abbrev tt_69 : ma_M := (5, cX5_sway, 4, (some .int), yX5_sway, 1, 452, 1)
theorem mt_69 : ma_mts 69 = some tt_69 := rfl
abbrev tt_70 : ma_M := (5, cX5_days, 3, (some .int), yX5_days, 5, 456, 1)
theorem mt_70 : ma_mts 70 = some tt_70 := rfl
abbrev tt_71 : ma_M := (5, cX5_held, 1, (some .int), yX5_held, 1, 468, 1)
theorem mt_71 : ma_mts 71 = some tt_71 := rfl
abbrev tt_72 : ma_M := (5, cX5_seed, 3, (some .int), yX5_seed, 0, 484, 1)
theorem mt_72 : ma_mts 72 = some tt_72 := rfl
abbrev tt_73 : ma_M := (5, cX5_day, 1, (some .int), yX5_day, 6, 488, 1)
theorem mt_73 : ma_mts 73 = some tt_73 := rfl
abbrev tt_74 : ma_M := (5, cX5_lost, 6, (some .int), yX5_lost, 6, 502, 1)
theorem mt_74 : ma_mts 74 = some tt_74 := rfl
abbrev tt_75 : ma_M := (5, cX5_written, 2, (some .int), yX5_written, 1, 506, 1)
theorem mt_75 : ma_mts 75 = some tt_75 := rfl
abbrev tt_76 : ma_M := (5, cX5_state, 2, (some .int), yX5_state, 2, 514, 1)
theorem mt_76 : ma_mts 76 = some tt_76 := rfl
abbrev tt_77 : ma_M := (5, cX5_falls, 3, (some .int), yX5_falls, 6, 539, 1)
theorem mt_77 : ma_mts 77 = some tt_77 := rfl
abbrev tt_78 : ma_M := (5, cX5_daysToFall, 3, (some .int), yX5_daysToFall, 5, 543, 1)
theorem mt_78 : ma_mts 78 = some tt_78 := rfl
abbrev tt_79 : ma_M := (5, cX5_bare, 2, (some .int), yX5_bare, 5, 547, 1)
theorem mt_79 : ma_mts 79 = some tt_79 := rfl
abbrev tt_80 : ma_M := (5, cX5_next, 3, (some .int), yX5_next, 5, 551, 1)
theorem mt_80 : ma_mts 80 = some tt_80 := rfl
abbrev tt_81 : ma_M := (5, cX5_latest, 4, (some .int), yX5_latest, 5, 555, 1)
theorem mt_81 : ma_mts 81 = some tt_81 := rfl
abbrev tt_82 : ma_M := (5, cX5_boughFor, 6, (some .int), yX5_boughFor, 6, 559, 1)
theorem mt_82 : ma_mts 82 = some tt_82 := rfl
abbrev tt_83 : ma_M := (5, cX5_kindFor, 6, (some .int), yX5_kindFor, 6, 563, 1)
theorem mt_83 : ma_mts 83 = some tt_83 := rfl
abbrev tt_84 : ma_M := (5, cX5_holdFor, 4, (some .int), yX5_holdFor, 6, 567, 1)
theorem mt_84 : ma_mts 84 = some tt_84 := rfl
abbrev tt_85 : ma_M := (5, cX5_hangsBehind, 4, (some .boolean), yX5_hangsBehind, 5, 571, 1)
theorem mt_85 : ma_mts 85 = some tt_85 := rfl
abbrev tt_86 : ma_M := (5, cX5_tiedFor, 7, (some .int), yX5_tiedFor, 6, 575, 1)
theorem mt_86 : ma_mts 86 = some tt_86 := rfl
abbrev tt_87 : ma_M := (5, cX5_fits, 7, (some .int), yX5_fits, 6, 580, 1)
theorem mt_87 : ma_mts 87 = some tt_87 := rfl
abbrev tt_88 : ma_M := (5, cX5_fitsWithHold, 7, (some .boolean), yX5_fitsWithHold, 5, 588, 1)
theorem mt_88 : ma_mts 88 = some tt_88 := rfl
abbrev tt_89 : ma_M := (5, cX5_odds, 11, (some .long), yX5_odds, 1, 593, 1)
theorem mt_89 : ma_mts 89 = some tt_89 := rfl
abbrev tt_90 : ma_M := (5, cX5_ways, 5, (some .long), yX5_ways, 0, 596, 1)
theorem mt_90 : ma_mts 90 = some tt_90 := rfl
abbrev tt_91 : ma_M := (5, cX5_partOf, 12, (some .long), yX5_partOf, 0, 600, 1)
theorem mt_91 : ma_mts 91 = some tt_91 := rfl
abbrev tt_92 : ma_M := (5, cX5_hope, 3, (some .long), yX5_hope, 1, 604, 1)
theorem mt_92 : ma_mts 92 = some tt_92 := rfl
abbrev tt_93 : ma_M := (5, cX5_prove, 5, (some .int), yX5_prove, 5, 608, 1)
theorem mt_93 : ma_mts 93 = some tt_93 := rfl
abbrev tt_94 : ma_M := (5, cX5_rowPartTried, 3, (some .int), yX5_rowPartTried, 1, 612, 1)
theorem mt_94 : ma_mts 94 = some tt_94 := rfl
abbrev tt_95 : ma_M := (5, cX5_row, 3, (some .int), yX5_row, 2, 616, 1)
theorem mt_95 : ma_mts 95 = some tt_95 := rfl
abbrev tt_96 : ma_M := (5, cX5_isRowPart, 3, (some .boolean), yX5_isRowPart, 1, 620, 1)
theorem mt_96 : ma_mts 96 = some tt_96 := rfl
abbrev tt_97 : ma_M := (5, cX5_alterRow, 5, (some .int), yX5_alterRow, 2, 624, 1)
theorem mt_97 : ma_mts 97 = some tt_97 := rfl
abbrev tt_98 : ma_M := (5, cX5_judge, 4, (some .int), yX5_judge, 5, 628, 1)
theorem mt_98 : ma_mts 98 = some tt_98 := rfl
abbrev tt_99 : ma_M := (5, cX5_minds, 7, (some .int), yX5_minds, 2, 632, 1)
theorem mt_99 : ma_mts 99 = some tt_99 := rfl
abbrev tt_100 : ma_M := (5, cX5_sheet, 4, (some .int), yX5_sheet, 1, 637, 1)
theorem mt_100 : ma_mts 100 = some tt_100 := rfl
abbrev tt_101 : ma_M := (5, cX5_put, 5, (some .int), yX5_put, 1, 645, 1)
theorem mt_101 : ma_mts 101 = some tt_101 := rfl
abbrev tt_102 : ma_M := (5, cX5_item, 5, (some .int), yX5_item, 1, 653, 1)
theorem mt_102 : ma_mts 102 = some tt_102 := rfl
abbrev tt_103 : ma_M := (5, cX5_shelf, 5, (some .int), yX5_shelf, 2, 657, 1)
theorem mt_103 : ma_mts 103 = some tt_103 := rfl
abbrev tt_104 : ma_M := (5, cX5_taken, 5, (some .int), yX5_taken, 2, 670, 1)
theorem mt_104 : ma_mts 104 = some tt_104 := rfl
abbrev tt_105 : ma_M := (5, cX5_isNothing, 2, (some .boolean), yX5_isNothing, 1, 674, 1)
theorem mt_105 : ma_mts 105 = some tt_105 := rfl
abbrev tt_106 : ma_M := (5, cX5_isUnder, 2, (some .boolean), yX5_isUnder, 0, 677, 1)
theorem mt_106 : ma_mts 106 = some tt_106 := rfl
abbrev tt_107 : ma_M := (5, cX5_act, 5, (some .int), yX5_act, 5, 681, 1)
theorem mt_107 : ma_mts 107 = some tt_107 := rfl
abbrev tt_108 : ma_M := (5, cX5_trace, 2, (some .int), yX5_trace, 1, 710, 1)
theorem mt_108 : ma_mts 108 = some tt_108 := rfl
abbrev tt_109 : ma_M := (5, cX5_many, 2, (some .int), yX5_many, 3, 714, 1)
theorem mt_109 : ma_mts 109 = some tt_109 := rfl
abbrev tt_110 : ma_M := (5, cX5_keep, 1, (some .int), yX5_keep, 2, 722, 1)
theorem mt_110 : ma_mts 110 = some tt_110 := rfl
abbrev tt_111 : ma_M := (5, cX5_again, 1, (some .int), yX5_again, 2, 726, 1)
theorem mt_111 : ma_mts 111 = some tt_111 := rfl
abbrev tt_112 : ma_M := (6, cX6_init, 1, none, yX6_init, 1, 731, 7)
theorem mt_112 : ma_mts 112 = some tt_112 := rfl
abbrev tt_113 : ma_M := (6, cX6_begins, 3, none, yX6_begins, 0, 736, 7)
theorem mt_113 : ma_mts 113 = some tt_113 := rfl
abbrev tt_114 : ma_M := (6, cX6_feed, 5, (some .int), yX6_feed, 1, 822, 7)
theorem mt_114 : ma_mts 114 = some tt_114 := rfl
abbrev tt_115 : ma_M := (6, cX6_isIn, 6, (some .boolean), yX6_isIn, 0, 826, 7)
theorem mt_115 : ma_mts 115 = some tt_115 := rfl
abbrev tt_116 : ma_M := (6, cX6_autumn, 1, (some .int), yX6_autumn, 7, 831, 7)
theorem mt_116 : ma_mts 116 = some tt_116 := rfl
abbrev tt_117 : ma_M := (6, cX6_copyRow, 3, none, yX6_copyRow, 0, 834, 7)
theorem mt_117 : ma_mts 117 = some tt_117 := rfl
abbrev tt_118 : ma_M := (6, cX6_nextToken, 2, none, yX6_nextToken, 1, 838, 7)
theorem mt_118 : ma_mts 118 = some tt_118 := rfl
abbrev tt_119 : ma_M := (6, cX6_byteAt, 2, (some .int), yX6_byteAt, 0, 842, 7)
theorem mt_119 : ma_mts 119 = some tt_119 := rfl
abbrev tt_120 : ma_M := (6, cX6_isAlpha, 1, (some .boolean), yX6_isAlpha, 0, 845, 7)
theorem mt_120 : ma_mts 120 = some tt_120 := rfl
abbrev tt_121 : ma_M := (6, cX6_isDigit, 1, (some .boolean), yX6_isDigit, 0, 848, 7)
theorem mt_121 : ma_mts 121 = some tt_121 := rfl
abbrev tt_122 : ma_M := (6, cX6_itemHere, 3, none, yX6_itemHere, 6, 852, 7)
theorem mt_122 : ma_mts 122 = some tt_122 := rfl
abbrev tt_123 : ma_M := (6, cX6_kindHere, 1, (some .int), yX6_kindHere, 3, 856, 7)
theorem mt_123 : ma_mts 123 = some tt_123 := rfl
abbrev tt_124 : ma_M := (6, cX6_isFour, 5, (some .boolean), yX6_isFour, 2, 860, 7)
theorem mt_124 : ma_mts 124 = some tt_124 := rfl
abbrev tt_125 : ma_M := (6, cX6_isName, 6, (some .boolean), yX6_isName, 1, 864, 7)
theorem mt_125 : ma_mts 125 = some tt_125 := rfl
abbrev tt_126 : ma_M := (6, cX6_isSame, 5, (some .boolean), yX6_isSame, 1, 868, 7)
theorem mt_126 : ma_mts 126 = some tt_126 := rfl
abbrev tt_127 : ma_M := (6, cX6_lawHere, 1, (some .int), yX6_lawHere, 3, 872, 7)
theorem mt_127 : ma_mts 127 = some tt_127 := rfl
abbrev tt_128 : ma_M := (6, cX6_leafHere, 3, none, yX6_leafHere, 5, 876, 7)
theorem mt_128 : ma_mts 128 = some tt_128 := rfl
abbrev tt_129 : ma_M := (6, cX6_needs, 2, none, yX6_needs, 2, 880, 7)
theorem mt_129 : ma_mts 129 = some tt_129 := rfl
abbrev tt_130 : ma_M := (6, cX6_isTwo, 3, (some .boolean), yX6_isTwo, 1, 884, 7)
theorem mt_130 : ma_mts 130 = some tt_130 := rfl
abbrev tt_131 : ma_M := (6, cX6_numberTo, 4, none, yX6_numberTo, 3, 888, 7)
theorem mt_131 : ma_mts 131 = some tt_131 := rfl
abbrev tt_132 : ma_M := (6, cX6_perhaps, 4, none, yX6_perhaps, 4, 892, 7)
theorem mt_132 : ma_mts 132 = some tt_132 := rfl
abbrev tt_133 : ma_M := (6, cX6_swayHere, 2, none, yX6_swayHere, 4, 896, 7)
theorem mt_133 : ma_mts 133 = some tt_133 := rfl
abbrev tt_134 : ma_M := (6, cX6_set, 3, (some .int), yX6_set, 1, 900, 7)
theorem mt_134 : ma_mts 134 = some tt_134 := rfl
abbrev tt_135 : ma_M := (6, cX6_becomes, 4, (some .int), yX6_becomes, 0, 907, 7)
theorem mt_135 : ma_mts 135 = some tt_135 := rfl
abbrev tt_136 : ma_M := (6, cX6_lawOf, 2, (some .int), yX6_lawOf, 1, 911, 7)
theorem mt_136 : ma_mts 136 = some tt_136 := rfl
abbrev tt_137 : ma_M := (6, cX6_leaf, 6, (some .int), yX6_leaf, 1, 915, 7)
theorem mt_137 : ma_mts 137 = some tt_137 := rfl
abbrev tt_138 : ma_M := (6, cX6_isBough, 1, (some .boolean), yX6_isBough, 0, 919, 7)
theorem mt_138 : ma_mts 138 = some tt_138 := rfl
abbrev tt_139 : ma_M := (6, cX6_of, 3, (some .int), yX6_of, 3, 923, 7)
theorem mt_139 : ma_mts 139 = some tt_139 := rfl
abbrev tt_140 : ma_M := (6, cX6_isOne, 2, (some .boolean), yX6_isOne, 0, 927, 7)
theorem mt_140 : ma_mts 140 = some tt_140 := rfl
abbrev tt_141 : ma_M := (6, cX6_mates, 2, (some .int), yX6_mates, 2, 932, 7)
theorem mt_141 : ma_mts 141 = some tt_141 := rfl
abbrev tt_142 : ma_M := (6, cX6_its, 3, (some .int), yX6_its, 0, 936, 7)
theorem mt_142 : ma_mts 142 = some tt_142 := rfl
abbrev tt_143 : ma_M := (6, cX6_hangingOn, 4, (some .int), yX6_hangingOn, 1, 940, 7)
theorem mt_143 : ma_mts 143 = some tt_143 := rfl
abbrev tt_144 : ma_M := (6, cX6_size, 3, (some .int), yX6_size, 0, 943, 7)
theorem mt_144 : ma_mts 144 = some tt_144 := rfl
abbrev tt_145 : ma_M := (6, cX6_does, 3, (some .int), yX6_does, 4, 947, 7)
theorem mt_145 : ma_mts 145 = some tt_145 := rfl
abbrev tt_146 : ma_M := (6, cX6_loses, 3, (some .int), yX6_loses, 3, 951, 7)
theorem mt_146 : ma_mts 146 = some tt_146 := rfl
abbrev tt_147 : ma_M := (6, cX6_rank, 3, (some .int), yX6_rank, 1, 955, 7)
theorem mt_147 : ma_mts 147 = some tt_147 := rfl
abbrev tt_148 : ma_M := (6, cX6_mind, 4, (some .int), yX6_mind, 1, 959, 7)
theorem mt_148 : ma_mts 148 = some tt_148 := rfl
abbrev tt_149 : ma_M := (6, cX6_hold, 3, (some .int), yX6_hold, 1, 963, 7)
theorem mt_149 : ma_mts 149 = some tt_149 := rfl
abbrev tt_150 : ma_M := (6, cX6_move, 3, (some .int), yX6_move, 1, 967, 7)
theorem mt_150 : ma_mts 150 = some tt_150 := rfl
abbrev tt_151 : ma_M := (6, cX6_pluck, 2, (some .int), yX6_pluck, 2, 971, 7)
theorem mt_151 : ma_mts 151 = some tt_151 := rfl
abbrev tt_152 : ma_M := (6, cX6_falls0, 2, none, yX6_falls0, 0, 975, 7)
theorem mt_152 : ma_mts 152 = some tt_152 := rfl
abbrev tt_153 : ma_M := (6, cX6_hanging, 3, (some .int), yX6_hanging, 1, 979, 7)
theorem mt_153 : ma_mts 153 = some tt_153 := rfl
abbrev tt_154 : ma_M := (6, cX6_bough, 3, (some .int), yX6_bough, 2, 983, 7)
theorem mt_154 : ma_mts 154 = some tt_154 := rfl
abbrev tt_155 : ma_M := (6, cX6_sway, 3, (some .int), yX6_sway, 1, 987, 7)
theorem mt_155 : ma_mts 155 = some tt_155 := rfl
abbrev tt_156 : ma_M := (6, cX6_days, 4, (some .int), yX6_days, 5, 991, 7)
theorem mt_156 : ma_mts 156 = some tt_156 := rfl
abbrev tt_157 : ma_M := (6, cX6_goesBy, 5, (some .int), yX6_goesBy, 4, 996, 7)
theorem mt_157 : ma_mts 157 = some tt_157 := rfl
abbrev tt_158 : ma_M := (6, cX6_within, 1, (some .int), yX6_within, 0, 999, 7)
theorem mt_158 : ma_mts 158 = some tt_158 := rfl
abbrev tt_159 : ma_M := (6, cX6_seed, 2, (some .int), yX6_seed, 1, 1003, 7)
theorem mt_159 : ma_mts 159 = some tt_159 := rfl
abbrev tt_160 : ma_M := (6, cX6_day, 2, (some .int), yX6_day, 6, 1007, 7)
theorem mt_160 : ma_mts 160 = some tt_160 := rfl
abbrev tt_161 : ma_M := (6, cX6_goesByDraws, 2, (some .int), yX6_goesByDraws, 5, 1011, 7)
theorem mt_161 : ma_mts 161 = some tt_161 := rfl
abbrev tt_162 : ma_M := (6, cX6_drawn, 1, (some .int), yX6_drawn, 0, 1015, 7)
theorem mt_162 : ma_mts 162 = some tt_162 := rfl
abbrev tt_163 : ma_M := (6, cX6_lost, 6, (some .int), yX6_lost, 6, 1020, 7)
theorem mt_163 : ma_mts 163 = some tt_163 := rfl
abbrev tt_164 : ma_M := (6, cX6_written, 2, (some .int), yX6_written, 2, 1025, 7)
theorem mt_164 : ma_mts 164 = some tt_164 := rfl
abbrev tt_165 : ma_M := (6, cX6_signOf, 4, (some .int), yX6_signOf, 1, 1029, 7)
theorem mt_165 : ma_mts 165 = some tt_165 := rfl
abbrev tt_166 : ma_M := (6, cX6_state, 2, (some .int), yX6_state, 3, 1033, 7)
theorem mt_166 : ma_mts 166 = some tt_166 := rfl
abbrev tt_167 : ma_M := (6, cX6_holdOfAll, 3, (some .int), yX6_holdOfAll, 1, 1037, 7)
theorem mt_167 : ma_mts 167 = some tt_167 := rfl
abbrev tt_168 : ma_M := (6, cX6_rhymes, 3, (some .int), yX6_rhymes, 2, 1041, 7)
theorem mt_168 : ma_mts 168 = some tt_168 := rfl
abbrev tt_169 : ma_M := (6, cX6_spelled, 3, (some .int), yX6_spelled, 2, 1045, 7)
theorem mt_169 : ma_mts 169 = some tt_169 := rfl
abbrev tt_170 : ma_M := (6, cX6_swayOfAll, 3, (some .int), yX6_swayOfAll, 0, 1049, 7)
theorem mt_170 : ma_mts 170 = some tt_170 := rfl
abbrev tt_171 : ma_M := (6, cX6_falls, 3, (some .int), yX6_falls, 6, 1053, 7)
theorem mt_171 : ma_mts 171 = some tt_171 := rfl
abbrev tt_172 : ma_M := (6, cX6_fallsBy, 4, (some .int), yX6_fallsBy, 5, 1057, 7)
theorem mt_172 : ma_mts 172 = some tt_172 := rfl
abbrev tt_173 : ma_M := (6, cX6_bare, 3, (some .int), yX6_bare, 5, 1061, 7)
theorem mt_173 : ma_mts 173 = some tt_173 := rfl
abbrev tt_174 : ma_M := (6, cX6_next, 3, (some .int), yX6_next, 5, 1065, 7)
theorem mt_174 : ma_mts 174 = some tt_174 := rfl
abbrev tt_175 : ma_M := (6, cX6_latest, 5, (some .int), yX6_latest, 6, 1069, 7)
theorem mt_175 : ma_mts 175 = some tt_175 := rfl
abbrev tt_176 : ma_M := (6, cX6_boughFor, 2, (some .int), yX6_boughFor, 7, 1073, 7)
theorem mt_176 : ma_mts 176 = some tt_176 := rfl
abbrev tt_177 : ma_M := (6, cX6_lastBy, 9, (some .int), yX6_lastBy, 6, 1077, 7)
theorem mt_177 : ma_mts 177 = some tt_177 := rfl
abbrev tt_178 : ma_M := (6, cX6_kindFor, 2, (some .int), yX6_kindFor, 7, 1081, 7)
theorem mt_178 : ma_mts 178 = some tt_178 := rfl
abbrev tt_179 : ma_M := (6, cX6_holdFor, 7, (some .int), yX6_holdFor, 6, 1085, 7)
theorem mt_179 : ma_mts 179 = some tt_179 := rfl
abbrev tt_180 : ma_M := (6, cX6_isShort, 1, (some .boolean), yX6_isShort, 1, 1088, 7)
theorem mt_180 : ma_mts 180 = some tt_180 := rfl
abbrev tt_181 : ma_M := (6, cX6_hangsBehind, 6, (some .boolean), yX6_hangsBehind, 5, 1093, 7)
theorem mt_181 : ma_mts 181 = some tt_181 := rfl
abbrev tt_182 : ma_M := (6, cX6_tiedFor, 7, (some .int), yX6_tiedFor, 6, 1097, 7)
theorem mt_182 : ma_mts 182 = some tt_182 := rfl
abbrev tt_183 : ma_M := (6, cX6_fits, 10, (some .int), yX6_fits, 6, 1101, 7)
theorem mt_183 : ma_mts 183 = some tt_183 := rfl
abbrev tt_184 : ma_M := (6, cX6_isSheet, 1, (some .boolean), yX6_isSheet, 1, 1104, 7)
theorem mt_184 : ma_mts 184 = some tt_184 := rfl
abbrev tt_185 : ma_M := (6, cX6_isTold, 6, (some .boolean), yX6_isTold, 5, 1108, 7)
theorem mt_185 : ma_mts 185 = some tt_185 := rfl
abbrev tt_186 : ma_M := (6, cX6_odds, 9, (some .long), yX6_odds, 1, 1112, 7)
theorem mt_186 : ma_mts 186 = some tt_186 := rfl
abbrev tt_187 : ma_M := (6, cX6_product, 4, (some .long), yX6_product, 0, 1116, 7)
theorem mt_187 : ma_mts 187 = some tt_187 := rfl
abbrev tt_188 : ma_M := (6, cX6_partOf, 11, (some .long), yX6_partOf, 0, 1120, 7)
theorem mt_188 : ma_mts 188 = some tt_188 := rfl
abbrev tt_189 : ma_M := (6, cX6_hope, 3, (some .long), yX6_hope, 1, 1124, 7)
theorem mt_189 : ma_mts 189 = some tt_189 := rfl
abbrev tt_190 : ma_M := (6, cX6_prove, 5, (some .int), yX6_prove, 5, 1128, 7)
theorem mt_190 : ma_mts 190 = some tt_190 := rfl
abbrev tt_191 : ma_M := (6, cX6_row, 3, (some .int), yX6_row, 2, 1133, 7)
theorem mt_191 : ma_mts 191 = some tt_191 := rfl
abbrev tt_192 : ma_M := (6, cX6_isRow, 3, (some .boolean), yX6_isRow, 1, 1137, 7)
theorem mt_192 : ma_mts 192 = some tt_192 := rfl
abbrev tt_193 : ma_M := (6, cX6_alterRow, 5, (some .int), yX6_alterRow, 2, 1142, 7)
theorem mt_193 : ma_mts 193 = some tt_193 := rfl
abbrev tt_194 : ma_M := (6, cX6_judge, 5, (some .int), yX6_judge, 5, 1146, 7)
theorem mt_194 : ma_mts 194 = some tt_194 := rfl
abbrev tt_195 : ma_M := (6, cX6_sheet, 5, (some .int), yX6_sheet, 2, 1150, 7)
theorem mt_195 : ma_mts 195 = some tt_195 := rfl
abbrev tt_196 : ma_M := (6, cX6_put, 4, (some .int), yX6_put, 2, 1154, 7)
theorem mt_196 : ma_mts 196 = some tt_196 := rfl
abbrev tt_197 : ma_M := (6, cX6_item, 4, (some .int), yX6_item, 2, 1158, 7)
theorem mt_197 : ma_mts 197 = some tt_197 := rfl
abbrev tt_198 : ma_M := (6, cX6_lacks, 3, (some .int), yX6_lacks, 0, 1162, 7)
theorem mt_198 : ma_mts 198 = some tt_198 := rfl
abbrev tt_199 : ma_M := (6, cX6_minds, 6, (some .int), yX6_minds, 2, 1166, 7)
theorem mt_199 : ma_mts 199 = some tt_199 := rfl
abbrev tt_200 : ma_M := (6, cX6_shelf, 5, (some .int), yX6_shelf, 2, 1170, 7)
theorem mt_200 : ma_mts 200 = some tt_200 := rfl
abbrev tt_201 : ma_M := (6, cX6_isShelf, 1, (some .boolean), yX6_isShelf, 1, 1173, 7)
theorem mt_201 : ma_mts 201 = some tt_201 := rfl
abbrev tt_202 : ma_M := (6, cX6_taken, 4, (some .int), yX6_taken, 2, 1177, 7)
theorem mt_202 : ma_mts 202 = some tt_202 := rfl
abbrev tt_203 : ma_M := (6, cX6_heldOn, 2, (some .int), yX6_heldOn, 1, 1182, 7)
theorem mt_203 : ma_mts 203 = some tt_203 := rfl
abbrev tt_204 : ma_M := (6, cX6_isUnder, 2, (some .boolean), yX6_isUnder, 0, 1185, 7)
theorem mt_204 : ma_mts 204 = some tt_204 := rfl
abbrev tt_205 : ma_M := (6, cX6_act, 5, (some .int), yX6_act, 8, 1189, 7)
theorem mt_205 : ma_mts 205 = some tt_205 := rfl
abbrev tt_206 : ma_M := (6, cX6_turns, 2, (some .int), yX6_turns, 3, 1193, 7)
theorem mt_206 : ma_mts 206 = some tt_206 := rfl
abbrev tt_207 : ma_M := (6, cX6_turnsOfYellow, 2, (some .int), yX6_turnsOfYellow, 2, 1197, 7)
theorem mt_207 : ma_mts 207 = some tt_207 := rfl
abbrev tt_208 : ma_M := (6, cX6_runs, 2, none, yX6_runs, 0, 1201, 7)
theorem mt_208 : ma_mts 208 = some tt_208 := rfl
abbrev tt_209 : ma_M := (6, cX6_turnsPlain, 2, (some .int), yX6_turnsPlain, 1, 1205, 7)
theorem mt_209 : ma_mts 209 = some tt_209 := rfl
abbrev tt_210 : ma_M := (6, cX6_names, 3, (some .int), yX6_names, 5, 1209, 7)
theorem mt_210 : ma_mts 210 = some tt_210 := rfl
abbrev tt_211 : ma_M := (6, cX6_namesPlain, 2, (some .int), yX6_namesPlain, 4, 1213, 7)
theorem mt_211 : ma_mts 211 = some tt_211 := rfl
abbrev tt_212 : ma_M := (6, cX6_parts, 3, (some .int), yX6_parts, 4, 1217, 7)
theorem mt_212 : ma_mts 212 = some tt_212 := rfl
abbrev tt_213 : ma_M := (6, cX6_partsPlain, 2, (some .int), yX6_partsPlain, 1, 1221, 7)
theorem mt_213 : ma_mts 213 = some tt_213 := rfl
abbrev tt_214 : ma_M := (6, cX6_lands, 3, (some .int), yX6_lands, 7, 1225, 7)
theorem mt_214 : ma_mts 214 = some tt_214 := rfl
abbrev tt_215 : ma_M := (6, cX6_landsPlain, 2, (some .int), yX6_landsPlain, 6, 1229, 7)
theorem mt_215 : ma_mts 215 = some tt_215 := rfl
abbrev tt_216 : ma_M := (6, cX6_trace, 2, (some .int), yX6_trace, 1, 1233, 7)
theorem mt_216 : ma_mts 216 = some tt_216 := rfl
abbrev tt_217 : ma_M := (6, cX6_many, 2, (some .int), yX6_many, 3, 1237, 7)
theorem mt_217 : ma_mts 217 = some tt_217 := rfl
abbrev tt_218 : ma_M := (6, cX6_boughsInUse, 3, (some .int), yX6_boughsInUse, 2, 1241, 7)
theorem mt_218 : ma_mts 218 = some tt_218 := rfl
abbrev tt_219 : ma_M := (6, cX6_keep, 2, (some .int), yX6_keep, 0, 1245, 7)
theorem mt_219 : ma_mts 219 = some tt_219 := rfl
abbrev tt_220 : ma_M := (6, cX6_again, 2, (some .int), yX6_again, 0, 1249, 7)
theorem mt_220 : ma_mts 220 = some tt_220 := rfl
abbrev tt_221 : ma_M := (10, cJ0_length_8abf5, 1, (some .int), yJ0_length_8abf5, 1, 254, 8)
theorem mt_221 : ma_mts 221 = some tt_221 := rfl
abbrev tt_222 : ma_M := (10, cJ0_coder_7d493, 1, (some .byte), yJ0_coder_7d493, 0, 258, 8)
theorem mt_222 : ma_mts 222 = some tt_222 := rfl
abbrev tt_223 : ma_M := (10, cJ0_charAt_5068e, 2, (some .char), yJ0_charAt_5068e, 4, 264, 8)
theorem mt_223 : ma_mts 223 = some tt_223 := rfl
abbrev tt_224 : ma_M := (10, cJ0_isLatin1_aae02, 1, (some .boolean), yJ0_isLatin1_aae02, 0, 268, 8)
theorem mt_224 : ma_mts 224 = some tt_224 := rfl
abbrev tt_225 : ma_M := (10, cJ0_checkIndex_df160, 2, none, yJ0_checkIndex_df160, 1, 274, 8)
theorem mt_225 : ma_mts 225 = some tt_225 := rfl
abbrev tt_226 : ma_M := (11, cJ1_charAt_3b067, 2, (some .char), yJ1_charAt_3b067, 2, 271, 9)
theorem mt_226 : ma_mts 226 = some tt_226 := rfl
abbrev tt_227 : ma_M := (12, cJ2_charAt_3b067, 2, (some .char), yJ2_charAt_3b067, 3, 282, 11)
theorem mt_227 : ma_mts 227 = some tt_227 := rfl
abbrev tt_228 : ma_M := (12, cJ2_checkIndex_2214a, 2, none, yJ2_checkIndex_2214a, 2, 285, 11)
theorem mt_228 : ma_mts 228 = some tt_228 := rfl
abbrev tt_229 : ma_M := (12, cJ2_length_9d52b, 1, (some .int), yJ2_length_9d52b, 0, 288, 11)
theorem mt_229 : ma_mts 229 = some tt_229 := rfl
abbrev tt_230 : ma_M := (12, cJ2_getChar_3b067, 2, (some .char), yJ2_getChar_3b067, 1, 292, 11)
theorem mt_230 : ma_mts 230 = some tt_230 := rfl
abbrev tt_231 : ma_M := (13, cJ3_checkIndex_8e157, 3, (some .int), yJ3_checkIndex_8e157, 0, 279, 10)
theorem mt_231 : ma_mts 231 = some tt_231 := rfl
abbrev tt_232 : ma_M := (16, cJ6_bitCount_0f7a4, 1, (some .int), yJ6_bitCount_0f7a4, 0, 403, 13)
theorem mt_232 : ma_mts 232 = some tt_232 := rfl
abbrev tt_233 : ma_M := (7, cL_law, 4, (some .boolean), yL_law, 10, 0, 0)
theorem mt_233 : ma_mts 233 = some tt_233 := rfl
