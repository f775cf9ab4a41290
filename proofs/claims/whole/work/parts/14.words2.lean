/-- a method's own words: its code, its class -/
def ma_mtk (t : ma_M) : Prop := Jvm.Cond.code t.2.2.2.2.1 t.2.1 t.2.2.1 t.2.2.2.1 ∈ ma_big ∧ Jvm.Cond.initialized t.2.2.2.2.1.cls ∈ ma_big ∧ t.2.2.2.2.1.cls = ma_on t.1 ∧ (t.2.2.2.2.1.cls ≠ "java/lang/invoke/MethodHandle" ∧ t.2.2.2.2.1.cls ≠ "java/lang/invoke/VarHandle") ∧ plainName t.2.2.2.2.1.cls = true
theorem ma_mtk_of {t : ma_M} (h1 : tables_1[t.2.2.2.2.2.2.1]? = some (.code t.2.2.2.2.1 t.2.1 t.2.2.1 t.2.2.2.1)) (h2 : ma_wd t.2.2.2.2.2.2.2 (.initialized t.2.2.2.2.1.cls) = true) (h3 : (decide (t.2.2.2.2.1.cls = ma_on t.1) && (decide (t.2.2.2.2.1.cls ≠ "java/lang/invoke/MethodHandle") && decide (t.2.2.2.2.1.cls ≠ "java/lang/invoke/VarHandle")) && plainName t.2.2.2.2.1.cls) = true) : ma_mtk t := by
  rw [Bool.and_eq_true, Bool.and_eq_true, Bool.and_eq_true, decide_eq_true_eq, decide_eq_true_eq, decide_eq_true_eq] at h3
  exact ⟨ma_tb_in (List.mem_of_getElem? h1) rfl, ma_wd_in h2, h3.1.1, h3.1.2, h3.2⟩
set_option maxRecDepth 100000 in
theorem mk_0 : ma_mtk (0, cX0_init, 1, none, yX0_init, 1, 122, 4) := ma_mtk_of rfl (by decide +kernel) (by decide +kernel)
set_option maxRecDepth 100000 in
theorem mk_1 : ma_mtk (0, cX0_perform, 4, (some .int), yX0_perform, 4, 685, 4) := ma_mtk_of rfl (by decide +kernel) (by decide +kernel)
set_option maxRecDepth 100000 in
theorem mk_2 : ma_mtk (0, cX0_turns, 3, (some .int), yX0_turns, 1, 689, 4) := ma_mtk_of rfl (by decide +kernel) (by decide +kernel)
set_option maxRecDepth 100000 in
theorem mk_3 : ma_mtk (0, cX0_began, 3, none, yX0_began, 0, 693, 4) := ma_mtk_of rfl (by decide +kernel) (by decide +kernel)
set_option maxRecDepth 100000 in
theorem mk_4 : ma_mtk (0, cX0_names, 3, (some .int), yX0_names, 2, 698, 4) := ma_mtk_of rfl (by decide +kernel) (by decide +kernel)
set_option maxRecDepth 100000 in
theorem mk_5 : ma_mtk (0, cX0_parts, 4, (some .int), yX0_parts, 2, 702, 4) := ma_mtk_of rfl (by decide +kernel) (by decide +kernel)
set_option maxRecDepth 100000 in
theorem mk_6 : ma_mtk (0, cX0_lands, 3, (some .int), yX0_lands, 3, 706, 4) := ma_mtk_of rfl (by decide +kernel) (by decide +kernel)
set_option maxRecDepth 100000 in
theorem mk_7 : ma_mtk (1, cX1_init, 1, none, yX1_init, 1, 151, 5) := ma_mtk_of rfl (by decide +kernel) (by decide +kernel)
set_option maxRecDepth 100000 in
theorem mk_8 : ma_mtk (1, cX1_isMissing, 1, (some .boolean), yX1_isMissing, 0, 584, 5) := ma_mtk_of rfl (by decide +kernel) (by decide +kernel)
set_option maxRecDepth 100000 in
theorem mk_9 : ma_mtk (1, cX1_begin, 4, none, yX1_begin, 0, 641, 5) := ma_mtk_of rfl (by decide +kernel) (by decide +kernel)
set_option maxRecDepth 100000 in
theorem mk_10 : ma_mtk (1, cX1_narrowed, 2, (some .long), yX1_narrowed, 0, 649, 5) := ma_mtk_of rfl (by decide +kernel) (by decide +kernel)
set_option maxRecDepth 100000 in
theorem mk_11 : ma_mtk (2, cX2_init, 1, none, yX2_init, 1, 172, 6) := ma_mtk_of rfl (by decide +kernel) (by decide +kernel)
set_option maxRecDepth 100000 in
theorem mk_12 : ma_mtk (2, cX2_takeLeaf, 2, none, yX2_takeLeaf, 0, 661, 6) := ma_mtk_of rfl (by decide +kernel) (by decide +kernel)
set_option maxRecDepth 100000 in
theorem mk_13 : ma_mtk (2, cX2_takeRow, 2, none, yX2_takeRow, 1, 665, 6) := ma_mtk_of rfl (by decide +kernel) (by decide +kernel)
set_option maxRecDepth 100000 in
theorem mk_14 : ma_mtk (3, cX3_init, 1, none, yX3_init, 1, 90, 3) := ma_mtk_of rfl (by decide +kernel) (by decide +kernel)
set_option maxRecDepth 100000 in
theorem mk_15 : ma_mtk (3, cX3_readInto, 5, (some .int), yX3_readInto, 8, 233, 3) := ma_mtk_of rfl (by decide +kernel) (by decide +kernel)
set_option maxRecDepth 100000 in
theorem mk_16 : ma_mtk (3, cX3_step, 1, none, yX3_step, 1, 237, 3) := ma_mtk_of rfl (by decide +kernel) (by decide +kernel)
set_option maxRecDepth 100000 in
theorem mk_17 : ma_mtk (3, cX3_sortAt, 3, (some .int), yX3_sortAt, 0, 241, 3) := ma_mtk_of rfl (by decide +kernel) (by decide +kernel)
set_option maxRecDepth 100000 in
theorem mk_18 : ma_mtk (3, cX3_lawNamed, 1, (some .int), yX3_lawNamed, 6, 245, 3) := ma_mtk_of rfl (by decide +kernel) (by decide +kernel)
set_option maxRecDepth 100000 in
theorem mk_19 : ma_mtk (3, cX3_isName, 3, (some .boolean), yX3_isName, 5, 250, 3) := ma_mtk_of rfl (by decide +kernel) (by decide +kernel)
set_option maxRecDepth 100000 in
theorem mk_20 : ma_mtk (3, cX3_kindNamed, 2, (some .int), yX3_kindNamed, 6, 305, 3) := ma_mtk_of rfl (by decide +kernel) (by decide +kernel)
set_option maxRecDepth 100000 in
theorem mk_21 : ma_mtk (3, cX3_kindName, 1, (some (.object "java/lang/String")), yX3_kindName, 0, 308, 3) := ma_mtk_of rfl (by decide +kernel) (by decide +kernel)
set_option maxRecDepth 100000 in
theorem mk_22 : ma_mtk (3, cX3_readLaw, 4, none, yX3_readLaw, 3, 318, 3) := ma_mtk_of rfl (by decide +kernel) (by decide +kernel)
set_option maxRecDepth 100000 in
theorem mk_23 : ma_mtk (3, cX3_number, 3, (some .int), yX3_number, 2, 325, 3) := ma_mtk_of rfl (by decide +kernel) (by decide +kernel)
set_option maxRecDepth 100000 in
theorem mk_24 : ma_mtk (3, cX3_value, 3, (some .int), yX3_value, 0, 329, 3) := ma_mtk_of rfl (by decide +kernel) (by decide +kernel)
set_option maxRecDepth 100000 in
theorem mk_25 : ma_mtk (3, cX3_passSemicolon, 2, (some .boolean), yX3_passSemicolon, 2, 333, 3) := ma_mtk_of rfl (by decide +kernel) (by decide +kernel)
set_option maxRecDepth 100000 in
theorem mk_26 : ma_mtk (3, cX3_readSway, 4, none, yX3_readSway, 7, 338, 3) := ma_mtk_of rfl (by decide +kernel) (by decide +kernel)
set_option maxRecDepth 100000 in
theorem mk_27 : ma_mtk (3, cX3_passName, 3, (some .boolean), yX3_passName, 6, 343, 3) := ma_mtk_of rfl (by decide +kernel) (by decide +kernel)
set_option maxRecDepth 100000 in
theorem mk_28 : ma_mtk (3, cX3_readLeaf, 6, none, yX3_readLeaf, 7, 347, 3) := ma_mtk_of rfl (by decide +kernel) (by decide +kernel)
set_option maxRecDepth 100000 in
theorem mk_29 : ma_mtk (3, cX3_numberNamed, 4, (some .int), yX3_numberNamed, 6, 353, 3) := ma_mtk_of rfl (by decide +kernel) (by decide +kernel)
set_option maxRecDepth 100000 in
theorem mk_30 : ma_mtk (4, cX4_init, 1, none, yX4_init, 1, 27, 2) := ma_mtk_of rfl (by decide +kernel) (by decide +kernel)
set_option maxRecDepth 100000 in
theorem mk_31 : ma_mtk (4, cX4_clear, 2, none, yX4_clear, 0, 32, 2) := ma_mtk_of rfl (by decide +kernel) (by decide +kernel)
set_option maxRecDepth 100000 in
theorem mk_32 : ma_mtk (4, cX4_grow, 5, none, yX4_grow, 0, 358, 2) := ma_mtk_of rfl (by decide +kernel) (by decide +kernel)
set_option maxRecDepth 100000 in
theorem mk_33 : ma_mtk (4, cX4_become, 2, none, yX4_become, 1, 362, 2) := ma_mtk_of rfl (by decide +kernel) (by decide +kernel)
set_option maxRecDepth 100000 in
theorem mk_34 : ma_mtk (4, cX4_has, 2, (some .boolean), yX4_has, 0, 387, 2) := ma_mtk_of rfl (by decide +kernel) (by decide +kernel)
set_option maxRecDepth 100000 in
theorem mk_35 : ma_mtk (4, cX4_hangs, 2, (some .boolean), yX4_hangs, 0, 391, 2) := ma_mtk_of rfl (by decide +kernel) (by decide +kernel)
set_option maxRecDepth 100000 in
theorem mk_36 : ma_mtk (4, cX4_mates, 2, (some .int), yX4_mates, 2, 395, 2) := ma_mtk_of rfl (by decide +kernel) (by decide +kernel)
set_option maxRecDepth 100000 in
theorem mk_37 : ma_mtk (4, cX4_hangingOn, 4, (some .int), yX4_hangingOn, 1, 399, 2) := ma_mtk_of rfl (by decide +kernel) (by decide +kernel)
set_option maxRecDepth 100000 in
theorem mk_38 : ma_mtk (4, cX4_loses, 3, (some .int), yX4_loses, 3, 414, 2) := ma_mtk_of rfl (by decide +kernel) (by decide +kernel)
set_option maxRecDepth 100000 in
theorem mk_39 : ma_mtk (4, cX4_rank, 3, (some .int), yX4_rank, 0, 419, 2) := ma_mtk_of rfl (by decide +kernel) (by decide +kernel)
set_option maxRecDepth 100000 in
theorem mk_40 : ma_mtk (4, cX4_fell, 2, none, yX4_fell, 0, 439, 2) := ma_mtk_of rfl (by decide +kernel) (by decide +kernel)
set_option maxRecDepth 100000 in
theorem mk_41 : ma_mtk (4, cX4_hanging, 1, (some .int), yX4_hanging, 0, 443, 2) := ma_mtk_of rfl (by decide +kernel) (by decide +kernel)
set_option maxRecDepth 100000 in
theorem mk_42 : ma_mtk (4, cX4_passDay, 2, (some .int), yX4_passDay, 4, 460, 2) := ma_mtk_of rfl (by decide +kernel) (by decide +kernel)
set_option maxRecDepth 100000 in
theorem mk_43 : ma_mtk (4, cX4_isTied, 2, (some .boolean), yX4_isTied, 0, 464, 2) := ma_mtk_of rfl (by decide +kernel) (by decide +kernel)
set_option maxRecDepth 100000 in
theorem mk_44 : ma_mtk (4, cX4_faller, 3, (some .int), yX4_faller, 1, 478, 2) := ma_mtk_of rfl (by decide +kernel) (by decide +kernel)
set_option maxRecDepth 100000 in
theorem mk_45 : ma_mtk (4, cX4_passDayByDraws, 2, (some .int), yX4_passDayByDraws, 5, 492, 2) := ma_mtk_of rfl (by decide +kernel) (by decide +kernel)
set_option maxRecDepth 100000 in
theorem mk_46 : ma_mtk (4, cX4_drawn, 1, (some .int), yX4_drawn, 0, 496, 2) := ma_mtk_of rfl (by decide +kernel) (by decide +kernel)
set_option maxRecDepth 100000 in
theorem mk_47 : ma_mtk (4, cX4_signWritten, 3, (some .int), yX4_signWritten, 0, 510, 2) := ma_mtk_of rfl (by decide +kernel) (by decide +kernel)
set_option maxRecDepth 100000 in
theorem mk_48 : ma_mtk (4, cX4_hangingSet, 3, (some .int), yX4_hangingSet, 1, 518, 2) := ma_mtk_of rfl (by decide +kernel) (by decide +kernel)
set_option maxRecDepth 100000 in
theorem mk_49 : ma_mtk (4, cX4_holdTogether, 3, (some .int), yX4_holdTogether, 1, 522, 2) := ma_mtk_of rfl (by decide +kernel) (by decide +kernel)
set_option maxRecDepth 100000 in
theorem mk_50 : ma_mtk (4, cX4_rhymes, 3, (some .int), yX4_rhymes, 1, 526, 2) := ma_mtk_of rfl (by decide +kernel) (by decide +kernel)
set_option maxRecDepth 100000 in
theorem mk_51 : ma_mtk (4, cX4_spelled, 3, (some .int), yX4_spelled, 1, 531, 2) := ma_mtk_of rfl (by decide +kernel) (by decide +kernel)
set_option maxRecDepth 100000 in
theorem mk_52 : ma_mtk (4, cX4_swayTogether, 3, (some .int), yX4_swayTogether, 0, 535, 2) := ma_mtk_of rfl (by decide +kernel) (by decide +kernel)
set_option maxRecDepth 100000 in
theorem mk_53 : ma_mtk (4, cX4_boughsHungOn, 3, (some .int), yX4_boughsHungOn, 2, 718, 2) := ma_mtk_of rfl (by decide +kernel) (by decide +kernel)
set_option maxRecDepth 100000 in
theorem mk_54 : ma_mtk (5, cX5_init, 2, none, yX5_init, 2, 19, 1) := ma_mtk_of rfl (by decide +kernel) (by decide +kernel)
set_option maxRecDepth 100000 in
theorem mk_55 : ma_mtk (5, cX5_feed, 5, (some .int), yX5_feed, 1, 221, 1) := ma_mtk_of rfl (by decide +kernel) (by decide +kernel)
set_option maxRecDepth 100000 in
theorem mk_56 : ma_mtk (5, cX5_isWithin, 3, (some .boolean), yX5_isWithin, 0, 224, 1) := ma_mtk_of rfl (by decide +kernel) (by decide +kernel)
set_option maxRecDepth 100000 in
theorem mk_57 : ma_mtk (5, cX5_autumn, 2, (some .int), yX5_autumn, 9, 228, 1) := ma_mtk_of rfl (by decide +kernel) (by decide +kernel)
set_option maxRecDepth 100000 in
theorem mk_58 : ma_mtk (5, cX5_mostOfLaw, 1, (some .int), yX5_mostOfLaw, 0, 321, 1) := ma_mtk_of rfl (by decide +kernel) (by decide +kernel)
set_option maxRecDepth 100000 in
theorem mk_59 : ma_mtk (5, cX5_set, 4, (some .int), yX5_set, 1, 369, 1) := ma_mtk_of rfl (by decide +kernel) (by decide +kernel)
set_option maxRecDepth 100000 in
theorem mk_60 : ma_mtk (5, cX5_lawOf, 2, (some .int), yX5_lawOf, 1, 374, 1) := ma_mtk_of rfl (by decide +kernel) (by decide +kernel)
set_option maxRecDepth 100000 in
theorem mk_61 : ma_mtk (5, cX5_leaf, 5, (some .int), yX5_leaf, 1, 378, 1) := ma_mtk_of rfl (by decide +kernel) (by decide +kernel)
set_option maxRecDepth 100000 in
theorem mk_62 : ma_mtk (5, cX5_of, 3, (some .int), yX5_of, 3, 383, 1) := ma_mtk_of rfl (by decide +kernel) (by decide +kernel)
set_option maxRecDepth 100000 in
theorem mk_63 : ma_mtk (5, cX5_does, 3, (some .int), yX5_does, 4, 410, 1) := ma_mtk_of rfl (by decide +kernel) (by decide +kernel)
set_option maxRecDepth 100000 in
theorem mk_64 : ma_mtk (5, cX5_mind, 5, (some .int), yX5_mind, 1, 423, 1) := ma_mtk_of rfl (by decide +kernel) (by decide +kernel)
set_option maxRecDepth 100000 in
theorem mk_65 : ma_mtk (5, cX5_hold, 4, (some .int), yX5_hold, 1, 427, 1) := ma_mtk_of rfl (by decide +kernel) (by decide +kernel)
set_option maxRecDepth 100000 in
theorem mk_66 : ma_mtk (5, cX5_move, 4, (some .int), yX5_move, 1, 431, 1) := ma_mtk_of rfl (by decide +kernel) (by decide +kernel)
set_option maxRecDepth 100000 in
theorem mk_67 : ma_mtk (5, cX5_pluck, 2, (some .int), yX5_pluck, 1, 435, 1) := ma_mtk_of rfl (by decide +kernel) (by decide +kernel)
set_option maxRecDepth 100000 in
theorem mk_68 : ma_mtk (5, cX5_bough, 3, (some .int), yX5_bough, 2, 447, 1) := ma_mtk_of rfl (by decide +kernel) (by decide +kernel)
set_option maxRecDepth 100000 in
theorem mk_69 : ma_mtk (5, cX5_sway, 4, (some .int), yX5_sway, 1, 452, 1) := ma_mtk_of rfl (by decide +kernel) (by decide +kernel)
set_option maxRecDepth 100000 in
theorem mk_70 : ma_mtk (5, cX5_days, 3, (some .int), yX5_days, 5, 456, 1) := ma_mtk_of rfl (by decide +kernel) (by decide +kernel)
set_option maxRecDepth 100000 in
theorem mk_71 : ma_mtk (5, cX5_held, 1, (some .int), yX5_held, 1, 468, 1) := ma_mtk_of rfl (by decide +kernel) (by decide +kernel)
set_option maxRecDepth 100000 in
theorem mk_72 : ma_mtk (5, cX5_seed, 3, (some .int), yX5_seed, 0, 484, 1) := ma_mtk_of rfl (by decide +kernel) (by decide +kernel)
set_option maxRecDepth 100000 in
theorem mk_73 : ma_mtk (5, cX5_day, 1, (some .int), yX5_day, 6, 488, 1) := ma_mtk_of rfl (by decide +kernel) (by decide +kernel)
set_option maxRecDepth 100000 in
theorem mk_74 : ma_mtk (5, cX5_lost, 6, (some .int), yX5_lost, 6, 502, 1) := ma_mtk_of rfl (by decide +kernel) (by decide +kernel)
set_option maxRecDepth 100000 in
theorem mk_75 : ma_mtk (5, cX5_written, 2, (some .int), yX5_written, 1, 506, 1) := ma_mtk_of rfl (by decide +kernel) (by decide +kernel)
set_option maxRecDepth 100000 in
theorem mk_76 : ma_mtk (5, cX5_state, 2, (some .int), yX5_state, 2, 514, 1) := ma_mtk_of rfl (by decide +kernel) (by decide +kernel)
set_option maxRecDepth 100000 in
theorem mk_77 : ma_mtk (5, cX5_falls, 3, (some .int), yX5_falls, 6, 539, 1) := ma_mtk_of rfl (by decide +kernel) (by decide +kernel)
set_option maxRecDepth 100000 in
theorem mk_78 : ma_mtk (5, cX5_daysToFall, 3, (some .int), yX5_daysToFall, 5, 543, 1) := ma_mtk_of rfl (by decide +kernel) (by decide +kernel)
set_option maxRecDepth 100000 in
theorem mk_79 : ma_mtk (5, cX5_bare, 2, (some .int), yX5_bare, 5, 547, 1) := ma_mtk_of rfl (by decide +kernel) (by decide +kernel)
set_option maxRecDepth 100000 in
theorem mk_80 : ma_mtk (5, cX5_next, 3, (some .int), yX5_next, 5, 551, 1) := ma_mtk_of rfl (by decide +kernel) (by decide +kernel)
set_option maxRecDepth 100000 in
theorem mk_81 : ma_mtk (5, cX5_latest, 4, (some .int), yX5_latest, 5, 555, 1) := ma_mtk_of rfl (by decide +kernel) (by decide +kernel)
set_option maxRecDepth 100000 in
theorem mk_82 : ma_mtk (5, cX5_boughFor, 6, (some .int), yX5_boughFor, 6, 559, 1) := ma_mtk_of rfl (by decide +kernel) (by decide +kernel)
set_option maxRecDepth 100000 in
theorem mk_83 : ma_mtk (5, cX5_kindFor, 6, (some .int), yX5_kindFor, 6, 563, 1) := ma_mtk_of rfl (by decide +kernel) (by decide +kernel)
set_option maxRecDepth 100000 in
theorem mk_84 : ma_mtk (5, cX5_holdFor, 4, (some .int), yX5_holdFor, 6, 567, 1) := ma_mtk_of rfl (by decide +kernel) (by decide +kernel)
set_option maxRecDepth 100000 in
theorem mk_85 : ma_mtk (5, cX5_hangsBehind, 4, (some .boolean), yX5_hangsBehind, 5, 571, 1) := ma_mtk_of rfl (by decide +kernel) (by decide +kernel)
set_option maxRecDepth 100000 in
theorem mk_86 : ma_mtk (5, cX5_tiedFor, 7, (some .int), yX5_tiedFor, 6, 575, 1) := ma_mtk_of rfl (by decide +kernel) (by decide +kernel)
set_option maxRecDepth 100000 in
theorem mk_87 : ma_mtk (5, cX5_fits, 7, (some .int), yX5_fits, 6, 580, 1) := ma_mtk_of rfl (by decide +kernel) (by decide +kernel)
set_option maxRecDepth 100000 in
theorem mk_88 : ma_mtk (5, cX5_fitsWithHold, 7, (some .boolean), yX5_fitsWithHold, 5, 588, 1) := ma_mtk_of rfl (by decide +kernel) (by decide +kernel)
set_option maxRecDepth 100000 in
theorem mk_89 : ma_mtk (5, cX5_odds, 11, (some .long), yX5_odds, 1, 593, 1) := ma_mtk_of rfl (by decide +kernel) (by decide +kernel)
set_option maxRecDepth 100000 in
theorem mk_90 : ma_mtk (5, cX5_ways, 5, (some .long), yX5_ways, 0, 596, 1) := ma_mtk_of rfl (by decide +kernel) (by decide +kernel)
set_option maxRecDepth 100000 in
theorem mk_91 : ma_mtk (5, cX5_partOf, 12, (some .long), yX5_partOf, 0, 600, 1) := ma_mtk_of rfl (by decide +kernel) (by decide +kernel)
set_option maxRecDepth 100000 in
theorem mk_92 : ma_mtk (5, cX5_hope, 3, (some .long), yX5_hope, 1, 604, 1) := ma_mtk_of rfl (by decide +kernel) (by decide +kernel)
set_option maxRecDepth 100000 in
theorem mk_93 : ma_mtk (5, cX5_prove, 5, (some .int), yX5_prove, 5, 608, 1) := ma_mtk_of rfl (by decide +kernel) (by decide +kernel)
set_option maxRecDepth 100000 in
theorem mk_94 : ma_mtk (5, cX5_rowPartTried, 3, (some .int), yX5_rowPartTried, 1, 612, 1) := ma_mtk_of rfl (by decide +kernel) (by decide +kernel)
set_option maxRecDepth 100000 in
theorem mk_95 : ma_mtk (5, cX5_row, 3, (some .int), yX5_row, 2, 616, 1) := ma_mtk_of rfl (by decide +kernel) (by decide +kernel)
set_option maxRecDepth 100000 in
theorem mk_96 : ma_mtk (5, cX5_isRowPart, 3, (some .boolean), yX5_isRowPart, 1, 620, 1) := ma_mtk_of rfl (by decide +kernel) (by decide +kernel)
set_option maxRecDepth 100000 in
theorem mk_97 : ma_mtk (5, cX5_alterRow, 5, (some .int), yX5_alterRow, 2, 624, 1) := ma_mtk_of rfl (by decide +kernel) (by decide +kernel)
set_option maxRecDepth 100000 in
theorem mk_98 : ma_mtk (5, cX5_judge, 4, (some .int), yX5_judge, 5, 628, 1) := ma_mtk_of rfl (by decide +kernel) (by decide +kernel)
set_option maxRecDepth 100000 in
theorem mk_99 : ma_mtk (5, cX5_minds, 7, (some .int), yX5_minds, 2, 632, 1) := ma_mtk_of rfl (by decide +kernel) (by decide +kernel)
set_option maxRecDepth 100000 in
theorem mk_100 : ma_mtk (5, cX5_sheet, 4, (some .int), yX5_sheet, 1, 637, 1) := ma_mtk_of rfl (by decide +kernel) (by decide +kernel)
set_option maxRecDepth 100000 in
theorem mk_101 : ma_mtk (5, cX5_put, 5, (some .int), yX5_put, 1, 645, 1) := ma_mtk_of rfl (by decide +kernel) (by decide +kernel)
set_option maxRecDepth 100000 in
theorem mk_102 : ma_mtk (5, cX5_item, 5, (some .int), yX5_item, 1, 653, 1) := ma_mtk_of rfl (by decide +kernel) (by decide +kernel)
set_option maxRecDepth 100000 in
theorem mk_103 : ma_mtk (5, cX5_shelf, 5, (some .int), yX5_shelf, 2, 657, 1) := ma_mtk_of rfl (by decide +kernel) (by decide +kernel)
set_option maxRecDepth 100000 in
theorem mk_104 : ma_mtk (5, cX5_taken, 5, (some .int), yX5_taken, 2, 670, 1) := ma_mtk_of rfl (by decide +kernel) (by decide +kernel)
set_option maxRecDepth 100000 in
theorem mk_105 : ma_mtk (5, cX5_isNothing, 2, (some .boolean), yX5_isNothing, 1, 674, 1) := ma_mtk_of rfl (by decide +kernel) (by decide +kernel)
set_option maxRecDepth 100000 in
theorem mk_106 : ma_mtk (5, cX5_isUnder, 2, (some .boolean), yX5_isUnder, 0, 677, 1) := ma_mtk_of rfl (by decide +kernel) (by decide +kernel)
set_option maxRecDepth 100000 in
theorem mk_107 : ma_mtk (5, cX5_act, 5, (some .int), yX5_act, 5, 681, 1) := ma_mtk_of rfl (by decide +kernel) (by decide +kernel)
set_option maxRecDepth 100000 in
theorem mk_108 : ma_mtk (5, cX5_trace, 2, (some .int), yX5_trace, 1, 710, 1) := ma_mtk_of rfl (by decide +kernel) (by decide +kernel)
set_option maxRecDepth 100000 in
theorem mk_109 : ma_mtk (5, cX5_many, 2, (some .int), yX5_many, 3, 714, 1) := ma_mtk_of rfl (by decide +kernel) (by decide +kernel)
set_option maxRecDepth 100000 in
theorem mk_110 : ma_mtk (5, cX5_keep, 1, (some .int), yX5_keep, 2, 722, 1) := ma_mtk_of rfl (by decide +kernel) (by decide +kernel)
set_option maxRecDepth 100000 in
theorem mk_111 : ma_mtk (5, cX5_again, 1, (some .int), yX5_again, 2, 726, 1) := ma_mtk_of rfl (by decide +kernel) (by decide +kernel)
set_option maxRecDepth 100000 in
theorem mk_112 : ma_mtk (6, cX6_init, 1, none, yX6_init, 1, 731, 7) := ma_mtk_of rfl (by decide +kernel) (by decide +kernel)
set_option maxRecDepth 100000 in
theorem mk_113 : ma_mtk (6, cX6_begins, 3, none, yX6_begins, 0, 736, 7) := ma_mtk_of rfl (by decide +kernel) (by decide +kernel)
set_option maxRecDepth 100000 in
theorem mk_114 : ma_mtk (6, cX6_feed, 5, (some .int), yX6_feed, 1, 822, 7) := ma_mtk_of rfl (by decide +kernel) (by decide +kernel)
set_option maxRecDepth 100000 in
theorem mk_115 : ma_mtk (6, cX6_isIn, 6, (some .boolean), yX6_isIn, 0, 826, 7) := ma_mtk_of rfl (by decide +kernel) (by decide +kernel)
set_option maxRecDepth 100000 in
theorem mk_116 : ma_mtk (6, cX6_autumn, 1, (some .int), yX6_autumn, 7, 831, 7) := ma_mtk_of rfl (by decide +kernel) (by decide +kernel)
set_option maxRecDepth 100000 in
theorem mk_117 : ma_mtk (6, cX6_copyRow, 3, none, yX6_copyRow, 0, 834, 7) := ma_mtk_of rfl (by decide +kernel) (by decide +kernel)
set_option maxRecDepth 100000 in
theorem mk_118 : ma_mtk (6, cX6_nextToken, 2, none, yX6_nextToken, 1, 838, 7) := ma_mtk_of rfl (by decide +kernel) (by decide +kernel)
set_option maxRecDepth 100000 in
theorem mk_119 : ma_mtk (6, cX6_byteAt, 2, (some .int), yX6_byteAt, 0, 842, 7) := ma_mtk_of rfl (by decide +kernel) (by decide +kernel)
set_option maxRecDepth 100000 in
theorem mk_120 : ma_mtk (6, cX6_isAlpha, 1, (some .boolean), yX6_isAlpha, 0, 845, 7) := ma_mtk_of rfl (by decide +kernel) (by decide +kernel)
set_option maxRecDepth 100000 in
theorem mk_121 : ma_mtk (6, cX6_isDigit, 1, (some .boolean), yX6_isDigit, 0, 848, 7) := ma_mtk_of rfl (by decide +kernel) (by decide +kernel)
set_option maxRecDepth 100000 in
theorem mk_122 : ma_mtk (6, cX6_itemHere, 3, none, yX6_itemHere, 6, 852, 7) := ma_mtk_of rfl (by decide +kernel) (by decide +kernel)
set_option maxRecDepth 100000 in
theorem mk_123 : ma_mtk (6, cX6_kindHere, 1, (some .int), yX6_kindHere, 3, 856, 7) := ma_mtk_of rfl (by decide +kernel) (by decide +kernel)
set_option maxRecDepth 100000 in
theorem mk_124 : ma_mtk (6, cX6_isFour, 5, (some .boolean), yX6_isFour, 2, 860, 7) := ma_mtk_of rfl (by decide +kernel) (by decide +kernel)
set_option maxRecDepth 100000 in
theorem mk_125 : ma_mtk (6, cX6_isName, 6, (some .boolean), yX6_isName, 1, 864, 7) := ma_mtk_of rfl (by decide +kernel) (by decide +kernel)
set_option maxRecDepth 100000 in
theorem mk_126 : ma_mtk (6, cX6_isSame, 5, (some .boolean), yX6_isSame, 1, 868, 7) := ma_mtk_of rfl (by decide +kernel) (by decide +kernel)
set_option maxRecDepth 100000 in
theorem mk_127 : ma_mtk (6, cX6_lawHere, 1, (some .int), yX6_lawHere, 3, 872, 7) := ma_mtk_of rfl (by decide +kernel) (by decide +kernel)
set_option maxRecDepth 100000 in
theorem mk_128 : ma_mtk (6, cX6_leafHere, 3, none, yX6_leafHere, 5, 876, 7) := ma_mtk_of rfl (by decide +kernel) (by decide +kernel)
set_option maxRecDepth 100000 in
theorem mk_129 : ma_mtk (6, cX6_needs, 2, none, yX6_needs, 2, 880, 7) := ma_mtk_of rfl (by decide +kernel) (by decide +kernel)
set_option maxRecDepth 100000 in
theorem mk_130 : ma_mtk (6, cX6_isTwo, 3, (some .boolean), yX6_isTwo, 1, 884, 7) := ma_mtk_of rfl (by decide +kernel) (by decide +kernel)
set_option maxRecDepth 100000 in
theorem mk_131 : ma_mtk (6, cX6_numberTo, 4, none, yX6_numberTo, 3, 888, 7) := ma_mtk_of rfl (by decide +kernel) (by decide +kernel)
set_option maxRecDepth 100000 in
theorem mk_132 : ma_mtk (6, cX6_perhaps, 4, none, yX6_perhaps, 4, 892, 7) := ma_mtk_of rfl (by decide +kernel) (by decide +kernel)
set_option maxRecDepth 100000 in
theorem mk_133 : ma_mtk (6, cX6_swayHere, 2, none, yX6_swayHere, 4, 896, 7) := ma_mtk_of rfl (by decide +kernel) (by decide +kernel)
set_option maxRecDepth 100000 in
theorem mk_134 : ma_mtk (6, cX6_set, 3, (some .int), yX6_set, 1, 900, 7) := ma_mtk_of rfl (by decide +kernel) (by decide +kernel)
set_option maxRecDepth 100000 in
theorem mk_135 : ma_mtk (6, cX6_becomes, 4, (some .int), yX6_becomes, 0, 907, 7) := ma_mtk_of rfl (by decide +kernel) (by decide +kernel)
set_option maxRecDepth 100000 in
theorem mk_136 : ma_mtk (6, cX6_lawOf, 2, (some .int), yX6_lawOf, 1, 911, 7) := ma_mtk_of rfl (by decide +kernel) (by decide +kernel)
set_option maxRecDepth 100000 in
theorem mk_137 : ma_mtk (6, cX6_leaf, 6, (some .int), yX6_leaf, 1, 915, 7) := ma_mtk_of rfl (by decide +kernel) (by decide +kernel)
set_option maxRecDepth 100000 in
theorem mk_138 : ma_mtk (6, cX6_isBough, 1, (some .boolean), yX6_isBough, 0, 919, 7) := ma_mtk_of rfl (by decide +kernel) (by decide +kernel)
set_option maxRecDepth 100000 in
theorem mk_139 : ma_mtk (6, cX6_of, 3, (some .int), yX6_of, 3, 923, 7) := ma_mtk_of rfl (by decide +kernel) (by decide +kernel)
set_option maxRecDepth 100000 in
theorem mk_140 : ma_mtk (6, cX6_isOne, 2, (some .boolean), yX6_isOne, 0, 927, 7) := ma_mtk_of rfl (by decide +kernel) (by decide +kernel)
set_option maxRecDepth 100000 in
theorem mk_141 : ma_mtk (6, cX6_mates, 2, (some .int), yX6_mates, 2, 932, 7) := ma_mtk_of rfl (by decide +kernel) (by decide +kernel)
set_option maxRecDepth 100000 in
theorem mk_142 : ma_mtk (6, cX6_its, 3, (some .int), yX6_its, 0, 936, 7) := ma_mtk_of rfl (by decide +kernel) (by decide +kernel)
set_option maxRecDepth 100000 in
theorem mk_143 : ma_mtk (6, cX6_hangingOn, 4, (some .int), yX6_hangingOn, 1, 940, 7) := ma_mtk_of rfl (by decide +kernel) (by decide +kernel)
set_option maxRecDepth 100000 in
theorem mk_144 : ma_mtk (6, cX6_size, 3, (some .int), yX6_size, 0, 943, 7) := ma_mtk_of rfl (by decide +kernel) (by decide +kernel)
set_option maxRecDepth 100000 in
theorem mk_145 : ma_mtk (6, cX6_does, 3, (some .int), yX6_does, 4, 947, 7) := ma_mtk_of rfl (by decide +kernel) (by decide +kernel)
set_option maxRecDepth 100000 in
theorem mk_146 : ma_mtk (6, cX6_loses, 3, (some .int), yX6_loses, 3, 951, 7) := ma_mtk_of rfl (by decide +kernel) (by decide +kernel)
set_option maxRecDepth 100000 in
theorem mk_147 : ma_mtk (6, cX6_rank, 3, (some .int), yX6_rank, 1, 955, 7) := ma_mtk_of rfl (by decide +kernel) (by decide +kernel)
set_option maxRecDepth 100000 in
theorem mk_148 : ma_mtk (6, cX6_mind, 4, (some .int), yX6_mind, 1, 959, 7) := ma_mtk_of rfl (by decide +kernel) (by decide +kernel)
set_option maxRecDepth 100000 in
theorem mk_149 : ma_mtk (6, cX6_hold, 3, (some .int), yX6_hold, 1, 963, 7) := ma_mtk_of rfl (by decide +kernel) (by decide +kernel)
set_option maxRecDepth 100000 in
theorem mk_150 : ma_mtk (6, cX6_move, 3, (some .int), yX6_move, 1, 967, 7) := ma_mtk_of rfl (by decide +kernel) (by decide +kernel)
set_option maxRecDepth 100000 in
theorem mk_151 : ma_mtk (6, cX6_pluck, 2, (some .int), yX6_pluck, 2, 971, 7) := ma_mtk_of rfl (by decide +kernel) (by decide +kernel)
set_option maxRecDepth 100000 in
theorem mk_152 : ma_mtk (6, cX6_falls0, 2, none, yX6_falls0, 0, 975, 7) := ma_mtk_of rfl (by decide +kernel) (by decide +kernel)
set_option maxRecDepth 100000 in
theorem mk_153 : ma_mtk (6, cX6_hanging, 3, (some .int), yX6_hanging, 1, 979, 7) := ma_mtk_of rfl (by decide +kernel) (by decide +kernel)
set_option maxRecDepth 100000 in
theorem mk_154 : ma_mtk (6, cX6_bough, 3, (some .int), yX6_bough, 2, 983, 7) := ma_mtk_of rfl (by decide +kernel) (by decide +kernel)
set_option maxRecDepth 100000 in
theorem mk_155 : ma_mtk (6, cX6_sway, 3, (some .int), yX6_sway, 1, 987, 7) := ma_mtk_of rfl (by decide +kernel) (by decide +kernel)
set_option maxRecDepth 100000 in
theorem mk_156 : ma_mtk (6, cX6_days, 4, (some .int), yX6_days, 5, 991, 7) := ma_mtk_of rfl (by decide +kernel) (by decide +kernel)
set_option maxRecDepth 100000 in
theorem mk_157 : ma_mtk (6, cX6_goesBy, 5, (some .int), yX6_goesBy, 4, 996, 7) := ma_mtk_of rfl (by decide +kernel) (by decide +kernel)
set_option maxRecDepth 100000 in
theorem mk_158 : ma_mtk (6, cX6_within, 1, (some .int), yX6_within, 0, 999, 7) := ma_mtk_of rfl (by decide +kernel) (by decide +kernel)
set_option maxRecDepth 100000 in
theorem mk_159 : ma_mtk (6, cX6_seed, 2, (some .int), yX6_seed, 1, 1003, 7) := ma_mtk_of rfl (by decide +kernel) (by decide +kernel)
set_option maxRecDepth 100000 in
theorem mk_160 : ma_mtk (6, cX6_day, 2, (some .int), yX6_day, 6, 1007, 7) := ma_mtk_of rfl (by decide +kernel) (by decide +kernel)
set_option maxRecDepth 100000 in
theorem mk_161 : ma_mtk (6, cX6_goesByDraws, 2, (some .int), yX6_goesByDraws, 5, 1011, 7) := ma_mtk_of rfl (by decide +kernel) (by decide +kernel)
set_option maxRecDepth 100000 in
theorem mk_162 : ma_mtk (6, cX6_drawn, 1, (some .int), yX6_drawn, 0, 1015, 7) := ma_mtk_of rfl (by decide +kernel) (by decide +kernel)
set_option maxRecDepth 100000 in
theorem mk_163 : ma_mtk (6, cX6_lost, 6, (some .int), yX6_lost, 6, 1020, 7) := ma_mtk_of rfl (by decide +kernel) (by decide +kernel)
set_option maxRecDepth 100000 in
theorem mk_164 : ma_mtk (6, cX6_written, 2, (some .int), yX6_written, 2, 1025, 7) := ma_mtk_of rfl (by decide +kernel) (by decide +kernel)
set_option maxRecDepth 100000 in
theorem mk_165 : ma_mtk (6, cX6_signOf, 4, (some .int), yX6_signOf, 1, 1029, 7) := ma_mtk_of rfl (by decide +kernel) (by decide +kernel)
set_option maxRecDepth 100000 in
theorem mk_166 : ma_mtk (6, cX6_state, 2, (some .int), yX6_state, 3, 1033, 7) := ma_mtk_of rfl (by decide +kernel) (by decide +kernel)
set_option maxRecDepth 100000 in
theorem mk_167 : ma_mtk (6, cX6_holdOfAll, 3, (some .int), yX6_holdOfAll, 1, 1037, 7) := ma_mtk_of rfl (by decide +kernel) (by decide +kernel)
set_option maxRecDepth 100000 in
theorem mk_168 : ma_mtk (6, cX6_rhymes, 3, (some .int), yX6_rhymes, 2, 1041, 7) := ma_mtk_of rfl (by decide +kernel) (by decide +kernel)
set_option maxRecDepth 100000 in
theorem mk_169 : ma_mtk (6, cX6_spelled, 3, (some .int), yX6_spelled, 2, 1045, 7) := ma_mtk_of rfl (by decide +kernel) (by decide +kernel)
set_option maxRecDepth 100000 in
theorem mk_170 : ma_mtk (6, cX6_swayOfAll, 3, (some .int), yX6_swayOfAll, 0, 1049, 7) := ma_mtk_of rfl (by decide +kernel) (by decide +kernel)
set_option maxRecDepth 100000 in
theorem mk_171 : ma_mtk (6, cX6_falls, 3, (some .int), yX6_falls, 6, 1053, 7) := ma_mtk_of rfl (by decide +kernel) (by decide +kernel)
set_option maxRecDepth 100000 in
theorem mk_172 : ma_mtk (6, cX6_fallsBy, 4, (some .int), yX6_fallsBy, 5, 1057, 7) := ma_mtk_of rfl (by decide +kernel) (by decide +kernel)
set_option maxRecDepth 100000 in
theorem mk_173 : ma_mtk (6, cX6_bare, 3, (some .int), yX6_bare, 5, 1061, 7) := ma_mtk_of rfl (by decide +kernel) (by decide +kernel)
set_option maxRecDepth 100000 in
theorem mk_174 : ma_mtk (6, cX6_next, 3, (some .int), yX6_next, 5, 1065, 7) := ma_mtk_of rfl (by decide +kernel) (by decide +kernel)
set_option maxRecDepth 100000 in
theorem mk_175 : ma_mtk (6, cX6_latest, 5, (some .int), yX6_latest, 6, 1069, 7) := ma_mtk_of rfl (by decide +kernel) (by decide +kernel)
set_option maxRecDepth 100000 in
theorem mk_176 : ma_mtk (6, cX6_boughFor, 2, (some .int), yX6_boughFor, 7, 1073, 7) := ma_mtk_of rfl (by decide +kernel) (by decide +kernel)
set_option maxRecDepth 100000 in
theorem mk_177 : ma_mtk (6, cX6_lastBy, 9, (some .int), yX6_lastBy, 6, 1077, 7) := ma_mtk_of rfl (by decide +kernel) (by decide +kernel)
set_option maxRecDepth 100000 in
theorem mk_178 : ma_mtk (6, cX6_kindFor, 2, (some .int), yX6_kindFor, 7, 1081, 7) := ma_mtk_of rfl (by decide +kernel) (by decide +kernel)
set_option maxRecDepth 100000 in
theorem mk_179 : ma_mtk (6, cX6_holdFor, 7, (some .int), yX6_holdFor, 6, 1085, 7) := ma_mtk_of rfl (by decide +kernel) (by decide +kernel)
set_option maxRecDepth 100000 in
theorem mk_180 : ma_mtk (6, cX6_isShort, 1, (some .boolean), yX6_isShort, 1, 1088, 7) := ma_mtk_of rfl (by decide +kernel) (by decide +kernel)
set_option maxRecDepth 100000 in
theorem mk_181 : ma_mtk (6, cX6_hangsBehind, 6, (some .boolean), yX6_hangsBehind, 5, 1093, 7) := ma_mtk_of rfl (by decide +kernel) (by decide +kernel)
set_option maxRecDepth 100000 in
theorem mk_182 : ma_mtk (6, cX6_tiedFor, 7, (some .int), yX6_tiedFor, 6, 1097, 7) := ma_mtk_of rfl (by decide +kernel) (by decide +kernel)
set_option maxRecDepth 100000 in
theorem mk_183 : ma_mtk (6, cX6_fits, 10, (some .int), yX6_fits, 6, 1101, 7) := ma_mtk_of rfl (by decide +kernel) (by decide +kernel)
set_option maxRecDepth 100000 in
theorem mk_184 : ma_mtk (6, cX6_isSheet, 1, (some .boolean), yX6_isSheet, 1, 1104, 7) := ma_mtk_of rfl (by decide +kernel) (by decide +kernel)
set_option maxRecDepth 100000 in
theorem mk_185 : ma_mtk (6, cX6_isTold, 6, (some .boolean), yX6_isTold, 5, 1108, 7) := ma_mtk_of rfl (by decide +kernel) (by decide +kernel)
set_option maxRecDepth 100000 in
theorem mk_186 : ma_mtk (6, cX6_odds, 9, (some .long), yX6_odds, 1, 1112, 7) := ma_mtk_of rfl (by decide +kernel) (by decide +kernel)
set_option maxRecDepth 100000 in
theorem mk_187 : ma_mtk (6, cX6_product, 4, (some .long), yX6_product, 0, 1116, 7) := ma_mtk_of rfl (by decide +kernel) (by decide +kernel)
set_option maxRecDepth 100000 in
theorem mk_188 : ma_mtk (6, cX6_partOf, 11, (some .long), yX6_partOf, 0, 1120, 7) := ma_mtk_of rfl (by decide +kernel) (by decide +kernel)
set_option maxRecDepth 100000 in
theorem mk_189 : ma_mtk (6, cX6_hope, 3, (some .long), yX6_hope, 1, 1124, 7) := ma_mtk_of rfl (by decide +kernel) (by decide +kernel)
set_option maxRecDepth 100000 in
theorem mk_190 : ma_mtk (6, cX6_prove, 5, (some .int), yX6_prove, 5, 1128, 7) := ma_mtk_of rfl (by decide +kernel) (by decide +kernel)
set_option maxRecDepth 100000 in
theorem mk_191 : ma_mtk (6, cX6_row, 3, (some .int), yX6_row, 2, 1133, 7) := ma_mtk_of rfl (by decide +kernel) (by decide +kernel)
set_option maxRecDepth 100000 in
theorem mk_192 : ma_mtk (6, cX6_isRow, 3, (some .boolean), yX6_isRow, 1, 1137, 7) := ma_mtk_of rfl (by decide +kernel) (by decide +kernel)
set_option maxRecDepth 100000 in
theorem mk_193 : ma_mtk (6, cX6_alterRow, 5, (some .int), yX6_alterRow, 2, 1142, 7) := ma_mtk_of rfl (by decide +kernel) (by decide +kernel)
set_option maxRecDepth 100000 in
theorem mk_194 : ma_mtk (6, cX6_judge, 5, (some .int), yX6_judge, 5, 1146, 7) := ma_mtk_of rfl (by decide +kernel) (by decide +kernel)
set_option maxRecDepth 100000 in
theorem mk_195 : ma_mtk (6, cX6_sheet, 5, (some .int), yX6_sheet, 2, 1150, 7) := ma_mtk_of rfl (by decide +kernel) (by decide +kernel)
set_option maxRecDepth 100000 in
theorem mk_196 : ma_mtk (6, cX6_put, 4, (some .int), yX6_put, 2, 1154, 7) := ma_mtk_of rfl (by decide +kernel) (by decide +kernel)
set_option maxRecDepth 100000 in
theorem mk_197 : ma_mtk (6, cX6_item, 4, (some .int), yX6_item, 2, 1158, 7) := ma_mtk_of rfl (by decide +kernel) (by decide +kernel)
set_option maxRecDepth 100000 in
theorem mk_198 : ma_mtk (6, cX6_lacks, 3, (some .int), yX6_lacks, 0, 1162, 7) := ma_mtk_of rfl (by decide +kernel) (by decide +kernel)
set_option maxRecDepth 100000 in
theorem mk_199 : ma_mtk (6, cX6_minds, 6, (some .int), yX6_minds, 2, 1166, 7) := ma_mtk_of rfl (by decide +kernel) (by decide +kernel)
set_option maxRecDepth 100000 in
theorem mk_200 : ma_mtk (6, cX6_shelf, 5, (some .int), yX6_shelf, 2, 1170, 7) := ma_mtk_of rfl (by decide +kernel) (by decide +kernel)
set_option maxRecDepth 100000 in
theorem mk_201 : ma_mtk (6, cX6_isShelf, 1, (some .boolean), yX6_isShelf, 1, 1173, 7) := ma_mtk_of rfl (by decide +kernel) (by decide +kernel)
set_option maxRecDepth 100000 in
theorem mk_202 : ma_mtk (6, cX6_taken, 4, (some .int), yX6_taken, 2, 1177, 7) := ma_mtk_of rfl (by decide +kernel) (by decide +kernel)
set_option maxRecDepth 100000 in
theorem mk_203 : ma_mtk (6, cX6_heldOn, 2, (some .int), yX6_heldOn, 1, 1182, 7) := ma_mtk_of rfl (by decide +kernel) (by decide +kernel)
set_option maxRecDepth 100000 in
theorem mk_204 : ma_mtk (6, cX6_isUnder, 2, (some .boolean), yX6_isUnder, 0, 1185, 7) := ma_mtk_of rfl (by decide +kernel) (by decide +kernel)
set_option maxRecDepth 100000 in
theorem mk_205 : ma_mtk (6, cX6_act, 5, (some .int), yX6_act, 8, 1189, 7) := ma_mtk_of rfl (by decide +kernel) (by decide +kernel)
set_option maxRecDepth 100000 in
theorem mk_206 : ma_mtk (6, cX6_turns, 2, (some .int), yX6_turns, 3, 1193, 7) := ma_mtk_of rfl (by decide +kernel) (by decide +kernel)
set_option maxRecDepth 100000 in
theorem mk_207 : ma_mtk (6, cX6_turnsOfYellow, 2, (some .int), yX6_turnsOfYellow, 2, 1197, 7) := ma_mtk_of rfl (by decide +kernel) (by decide +kernel)
set_option maxRecDepth 100000 in
theorem mk_208 : ma_mtk (6, cX6_runs, 2, none, yX6_runs, 0, 1201, 7) := ma_mtk_of rfl (by decide +kernel) (by decide +kernel)
set_option maxRecDepth 100000 in
theorem mk_209 : ma_mtk (6, cX6_turnsPlain, 2, (some .int), yX6_turnsPlain, 1, 1205, 7) := ma_mtk_of rfl (by decide +kernel) (by decide +kernel)
set_option maxRecDepth 100000 in
theorem mk_210 : ma_mtk (6, cX6_names, 3, (some .int), yX6_names, 5, 1209, 7) := ma_mtk_of rfl (by decide +kernel) (by decide +kernel)
set_option maxRecDepth 100000 in
theorem mk_211 : ma_mtk (6, cX6_namesPlain, 2, (some .int), yX6_namesPlain, 4, 1213, 7) := ma_mtk_of rfl (by decide +kernel) (by decide +kernel)
set_option maxRecDepth 100000 in
theorem mk_212 : ma_mtk (6, cX6_parts, 3, (some .int), yX6_parts, 4, 1217, 7) := ma_mtk_of rfl (by decide +kernel) (by decide +kernel)
set_option maxRecDepth 100000 in
theorem mk_213 : ma_mtk (6, cX6_partsPlain, 2, (some .int), yX6_partsPlain, 1, 1221, 7) := ma_mtk_of rfl (by decide +kernel) (by decide +kernel)
set_option maxRecDepth 100000 in
theorem mk_214 : ma_mtk (6, cX6_lands, 3, (some .int), yX6_lands, 7, 1225, 7) := ma_mtk_of rfl (by decide +kernel) (by decide +kernel)
set_option maxRecDepth 100000 in
theorem mk_215 : ma_mtk (6, cX6_landsPlain, 2, (some .int), yX6_landsPlain, 6, 1229, 7) := ma_mtk_of rfl (by decide +kernel) (by decide +kernel)
set_option maxRecDepth 100000 in
theorem mk_216 : ma_mtk (6, cX6_trace, 2, (some .int), yX6_trace, 1, 1233, 7) := ma_mtk_of rfl (by decide +kernel) (by decide +kernel)
set_option maxRecDepth 100000 in
theorem mk_217 : ma_mtk (6, cX6_many, 2, (some .int), yX6_many, 3, 1237, 7) := ma_mtk_of rfl (by decide +kernel) (by decide +kernel)
set_option maxRecDepth 100000 in
theorem mk_218 : ma_mtk (6, cX6_boughsInUse, 3, (some .int), yX6_boughsInUse, 2, 1241, 7) := ma_mtk_of rfl (by decide +kernel) (by decide +kernel)
set_option maxRecDepth 100000 in
theorem mk_219 : ma_mtk (6, cX6_keep, 2, (some .int), yX6_keep, 0, 1245, 7) := ma_mtk_of rfl (by decide +kernel) (by decide +kernel)
set_option maxRecDepth 100000 in
theorem mk_220 : ma_mtk (6, cX6_again, 2, (some .int), yX6_again, 0, 1249, 7) := ma_mtk_of rfl (by decide +kernel) (by decide +kernel)
set_option maxRecDepth 100000 in
theorem mk_221 : ma_mtk (10, cJ0_length_8abf5, 1, (some .int), yJ0_length_8abf5, 1, 254, 8) := ma_mtk_of rfl (by decide +kernel) (by decide +kernel)
set_option maxRecDepth 100000 in
theorem mk_222 : ma_mtk (10, cJ0_coder_7d493, 1, (some .byte), yJ0_coder_7d493, 0, 258, 8) := ma_mtk_of rfl (by decide +kernel) (by decide +kernel)
set_option maxRecDepth 100000 in
theorem mk_223 : ma_mtk (10, cJ0_charAt_5068e, 2, (some .char), yJ0_charAt_5068e, 4, 264, 8) := ma_mtk_of rfl (by decide +kernel) (by decide +kernel)
set_option maxRecDepth 100000 in
theorem mk_224 : ma_mtk (10, cJ0_isLatin1_aae02, 1, (some .boolean), yJ0_isLatin1_aae02, 0, 268, 8) := ma_mtk_of rfl (by decide +kernel) (by decide +kernel)
set_option maxRecDepth 100000 in
theorem mk_225 : ma_mtk (10, cJ0_checkIndex_df160, 2, none, yJ0_checkIndex_df160, 1, 274, 8) := ma_mtk_of rfl (by decide +kernel) (by decide +kernel)
set_option maxRecDepth 100000 in
theorem mk_226 : ma_mtk (11, cJ1_charAt_3b067, 2, (some .char), yJ1_charAt_3b067, 2, 271, 9) := ma_mtk_of rfl (by decide +kernel) (by decide +kernel)
set_option maxRecDepth 100000 in
theorem mk_227 : ma_mtk (12, cJ2_charAt_3b067, 2, (some .char), yJ2_charAt_3b067, 3, 282, 11) := ma_mtk_of rfl (by decide +kernel) (by decide +kernel)
set_option maxRecDepth 100000 in
theorem mk_228 : ma_mtk (12, cJ2_checkIndex_2214a, 2, none, yJ2_checkIndex_2214a, 2, 285, 11) := ma_mtk_of rfl (by decide +kernel) (by decide +kernel)
set_option maxRecDepth 100000 in
theorem mk_229 : ma_mtk (12, cJ2_length_9d52b, 1, (some .int), yJ2_length_9d52b, 0, 288, 11) := ma_mtk_of rfl (by decide +kernel) (by decide +kernel)
set_option maxRecDepth 100000 in
theorem mk_230 : ma_mtk (12, cJ2_getChar_3b067, 2, (some .char), yJ2_getChar_3b067, 1, 292, 11) := ma_mtk_of rfl (by decide +kernel) (by decide +kernel)
set_option maxRecDepth 100000 in
theorem mk_231 : ma_mtk (13, cJ3_checkIndex_8e157, 3, (some .int), yJ3_checkIndex_8e157, 0, 279, 10) := ma_mtk_of rfl (by decide +kernel) (by decide +kernel)
set_option maxRecDepth 100000 in
theorem mk_232 : ma_mtk (16, cJ6_bitCount_0f7a4, 1, (some .int), yJ6_bitCount_0f7a4, 0, 403, 13) := ma_mtk_of rfl (by decide +kernel) (by decide +kernel)
theorem mk_c0 : ∀ t ∈ ma_mt0, t.1 = 7 ∨ ma_mtk t := (List.forall_mem_cons.mpr ⟨(Or.inr mk_0), (List.forall_mem_cons.mpr ⟨(Or.inr mk_1), (List.forall_mem_cons.mpr ⟨(Or.inr mk_2), (List.forall_mem_cons.mpr ⟨(Or.inr mk_3), (List.forall_mem_cons.mpr ⟨(Or.inr mk_4), (List.forall_mem_cons.mpr ⟨(Or.inr mk_5), (List.forall_mem_cons.mpr ⟨(Or.inr mk_6), (List.forall_mem_cons.mpr ⟨(Or.inr mk_7), (List.forall_mem_cons.mpr ⟨(Or.inr mk_8), (List.forall_mem_cons.mpr ⟨(Or.inr mk_9), (List.forall_mem_cons.mpr ⟨(Or.inr mk_10), (List.forall_mem_cons.mpr ⟨(Or.inr mk_11), (List.forall_mem_cons.mpr ⟨(Or.inr mk_12), (List.forall_mem_cons.mpr ⟨(Or.inr mk_13), (List.forall_mem_cons.mpr ⟨(Or.inr mk_14), (List.forall_mem_cons.mpr ⟨(Or.inr mk_15), (List.forall_mem_cons.mpr ⟨(Or.inr mk_16), (List.forall_mem_cons.mpr ⟨(Or.inr mk_17), (List.forall_mem_cons.mpr ⟨(Or.inr mk_18), (List.forall_mem_cons.mpr ⟨(Or.inr mk_19), (List.forall_mem_cons.mpr ⟨(Or.inr mk_20), (List.forall_mem_cons.mpr ⟨(Or.inr mk_21), (List.forall_mem_cons.mpr ⟨(Or.inr mk_22), (List.forall_mem_cons.mpr ⟨(Or.inr mk_23), (List.forall_mem_cons.mpr ⟨(Or.inr mk_24), (List.forall_mem_cons.mpr ⟨(Or.inr mk_25), (List.forall_mem_cons.mpr ⟨(Or.inr mk_26), (List.forall_mem_cons.mpr ⟨(Or.inr mk_27), (List.forall_mem_cons.mpr ⟨(Or.inr mk_28), (List.forall_mem_cons.mpr ⟨(Or.inr mk_29), (fun _ h => absurd h List.not_mem_nil)⟩)⟩)⟩)⟩)⟩)⟩)⟩)⟩)⟩)⟩)⟩)⟩)⟩)⟩)⟩)⟩)⟩)⟩)⟩)⟩)⟩)⟩)⟩)⟩)⟩)⟩)⟩)⟩)⟩)⟩)
theorem mk_c1 : ∀ t ∈ ma_mt1, t.1 = 7 ∨ ma_mtk t := (List.forall_mem_cons.mpr ⟨(Or.inr mk_30), (List.forall_mem_cons.mpr ⟨(Or.inr mk_31), (List.forall_mem_cons.mpr ⟨(Or.inr mk_32), (List.forall_mem_cons.mpr ⟨(Or.inr mk_33), (List.forall_mem_cons.mpr ⟨(Or.inr mk_34), (List.forall_mem_cons.mpr ⟨(Or.inr mk_35), (List.forall_mem_cons.mpr ⟨(Or.inr mk_36), (List.forall_mem_cons.mpr ⟨(Or.inr mk_37), (List.forall_mem_cons.mpr ⟨(Or.inr mk_38), (List.forall_mem_cons.mpr ⟨(Or.inr mk_39), (List.forall_mem_cons.mpr ⟨(Or.inr mk_40), (List.forall_mem_cons.mpr ⟨(Or.inr mk_41), (List.forall_mem_cons.mpr ⟨(Or.inr mk_42), (List.forall_mem_cons.mpr ⟨(Or.inr mk_43), (List.forall_mem_cons.mpr ⟨(Or.inr mk_44), (List.forall_mem_cons.mpr ⟨(Or.inr mk_45), (List.forall_mem_cons.mpr ⟨(Or.inr mk_46), (List.forall_mem_cons.mpr ⟨(Or.inr mk_47), (List.forall_mem_cons.mpr ⟨(Or.inr mk_48), (List.forall_mem_cons.mpr ⟨(Or.inr mk_49), (List.forall_mem_cons.mpr ⟨(Or.inr mk_50), (List.forall_mem_cons.mpr ⟨(Or.inr mk_51), (List.forall_mem_cons.mpr ⟨(Or.inr mk_52), (List.forall_mem_cons.mpr ⟨(Or.inr mk_53), (List.forall_mem_cons.mpr ⟨(Or.inr mk_54), (List.forall_mem_cons.mpr ⟨(Or.inr mk_55), (List.forall_mem_cons.mpr ⟨(Or.inr mk_56), (List.forall_mem_cons.mpr ⟨(Or.inr mk_57), (List.forall_mem_cons.mpr ⟨(Or.inr mk_58), (List.forall_mem_cons.mpr ⟨(Or.inr mk_59), (fun _ h => absurd h List.not_mem_nil)⟩)⟩)⟩)⟩)⟩)⟩)⟩)⟩)⟩)⟩)⟩)⟩)⟩)⟩)⟩)⟩)⟩)⟩)⟩)⟩)⟩)⟩)⟩)⟩)⟩)⟩)⟩)⟩)⟩)⟩)
theorem mk_c2 : ∀ t ∈ ma_mt2, t.1 = 7 ∨ ma_mtk t := (List.forall_mem_cons.mpr ⟨(Or.inr mk_60), (List.forall_mem_cons.mpr ⟨(Or.inr mk_61), (List.forall_mem_cons.mpr ⟨(Or.inr mk_62), (List.forall_mem_cons.mpr ⟨(Or.inr mk_63), (List.forall_mem_cons.mpr ⟨(Or.inr mk_64), (List.forall_mem_cons.mpr ⟨(Or.inr mk_65), (List.forall_mem_cons.mpr ⟨(Or.inr mk_66), (List.forall_mem_cons.mpr ⟨(Or.inr mk_67), (List.forall_mem_cons.mpr ⟨(Or.inr mk_68), (List.forall_mem_cons.mpr ⟨(Or.inr mk_69), (List.forall_mem_cons.mpr ⟨(Or.inr mk_70), (List.forall_mem_cons.mpr ⟨(Or.inr mk_71), (List.forall_mem_cons.mpr ⟨(Or.inr mk_72), (List.forall_mem_cons.mpr ⟨(Or.inr mk_73), (List.forall_mem_cons.mpr ⟨(Or.inr mk_74), (List.forall_mem_cons.mpr ⟨(Or.inr mk_75), (List.forall_mem_cons.mpr ⟨(Or.inr mk_76), (List.forall_mem_cons.mpr ⟨(Or.inr mk_77), (List.forall_mem_cons.mpr ⟨(Or.inr mk_78), (List.forall_mem_cons.mpr ⟨(Or.inr mk_79), (List.forall_mem_cons.mpr ⟨(Or.inr mk_80), (List.forall_mem_cons.mpr ⟨(Or.inr mk_81), (List.forall_mem_cons.mpr ⟨(Or.inr mk_82), (List.forall_mem_cons.mpr ⟨(Or.inr mk_83), (List.forall_mem_cons.mpr ⟨(Or.inr mk_84), (List.forall_mem_cons.mpr ⟨(Or.inr mk_85), (List.forall_mem_cons.mpr ⟨(Or.inr mk_86), (List.forall_mem_cons.mpr ⟨(Or.inr mk_87), (List.forall_mem_cons.mpr ⟨(Or.inr mk_88), (List.forall_mem_cons.mpr ⟨(Or.inr mk_89), (fun _ h => absurd h List.not_mem_nil)⟩)⟩)⟩)⟩)⟩)⟩)⟩)⟩)⟩)⟩)⟩)⟩)⟩)⟩)⟩)⟩)⟩)⟩)⟩)⟩)⟩)⟩)⟩)⟩)⟩)⟩)⟩)⟩)⟩)⟩)
theorem mk_c3 : ∀ t ∈ ma_mt3, t.1 = 7 ∨ ma_mtk t := (List.forall_mem_cons.mpr ⟨(Or.inr mk_90), (List.forall_mem_cons.mpr ⟨(Or.inr mk_91), (List.forall_mem_cons.mpr ⟨(Or.inr mk_92), (List.forall_mem_cons.mpr ⟨(Or.inr mk_93), (List.forall_mem_cons.mpr ⟨(Or.inr mk_94), (List.forall_mem_cons.mpr ⟨(Or.inr mk_95), (List.forall_mem_cons.mpr ⟨(Or.inr mk_96), (List.forall_mem_cons.mpr ⟨(Or.inr mk_97), (List.forall_mem_cons.mpr ⟨(Or.inr mk_98), (List.forall_mem_cons.mpr ⟨(Or.inr mk_99), (List.forall_mem_cons.mpr ⟨(Or.inr mk_100), (List.forall_mem_cons.mpr ⟨(Or.inr mk_101), (List.forall_mem_cons.mpr ⟨(Or.inr mk_102), (List.forall_mem_cons.mpr ⟨(Or.inr mk_103), (List.forall_mem_cons.mpr ⟨(Or.inr mk_104), (List.forall_mem_cons.mpr ⟨(Or.inr mk_105), (List.forall_mem_cons.mpr ⟨(Or.inr mk_106), (List.forall_mem_cons.mpr ⟨(Or.inr mk_107), (List.forall_mem_cons.mpr ⟨(Or.inr mk_108), (List.forall_mem_cons.mpr ⟨(Or.inr mk_109), (List.forall_mem_cons.mpr ⟨(Or.inr mk_110), (List.forall_mem_cons.mpr ⟨(Or.inr mk_111), (List.forall_mem_cons.mpr ⟨(Or.inr mk_112), (List.forall_mem_cons.mpr ⟨(Or.inr mk_113), (List.forall_mem_cons.mpr ⟨(Or.inr mk_114), (List.forall_mem_cons.mpr ⟨(Or.inr mk_115), (List.forall_mem_cons.mpr ⟨(Or.inr mk_116), (List.forall_mem_cons.mpr ⟨(Or.inr mk_117), (List.forall_mem_cons.mpr ⟨(Or.inr mk_118), (List.forall_mem_cons.mpr ⟨(Or.inr mk_119), (fun _ h => absurd h List.not_mem_nil)⟩)⟩)⟩)⟩)⟩)⟩)⟩)⟩)⟩)⟩)⟩)⟩)⟩)⟩)⟩)⟩)⟩)⟩)⟩)⟩)⟩)⟩)⟩)⟩)⟩)⟩)⟩)⟩)⟩)⟩)
theorem mk_c4 : ∀ t ∈ ma_mt4, t.1 = 7 ∨ ma_mtk t := (List.forall_mem_cons.mpr ⟨(Or.inr mk_120), (List.forall_mem_cons.mpr ⟨(Or.inr mk_121), (List.forall_mem_cons.mpr ⟨(Or.inr mk_122), (List.forall_mem_cons.mpr ⟨(Or.inr mk_123), (List.forall_mem_cons.mpr ⟨(Or.inr mk_124), (List.forall_mem_cons.mpr ⟨(Or.inr mk_125), (List.forall_mem_cons.mpr ⟨(Or.inr mk_126), (List.forall_mem_cons.mpr ⟨(Or.inr mk_127), (List.forall_mem_cons.mpr ⟨(Or.inr mk_128), (List.forall_mem_cons.mpr ⟨(Or.inr mk_129), (List.forall_mem_cons.mpr ⟨(Or.inr mk_130), (List.forall_mem_cons.mpr ⟨(Or.inr mk_131), (List.forall_mem_cons.mpr ⟨(Or.inr mk_132), (List.forall_mem_cons.mpr ⟨(Or.inr mk_133), (List.forall_mem_cons.mpr ⟨(Or.inr mk_134), (List.forall_mem_cons.mpr ⟨(Or.inr mk_135), (List.forall_mem_cons.mpr ⟨(Or.inr mk_136), (List.forall_mem_cons.mpr ⟨(Or.inr mk_137), (List.forall_mem_cons.mpr ⟨(Or.inr mk_138), (List.forall_mem_cons.mpr ⟨(Or.inr mk_139), (List.forall_mem_cons.mpr ⟨(Or.inr mk_140), (List.forall_mem_cons.mpr ⟨(Or.inr mk_141), (List.forall_mem_cons.mpr ⟨(Or.inr mk_142), (List.forall_mem_cons.mpr ⟨(Or.inr mk_143), (List.forall_mem_cons.mpr ⟨(Or.inr mk_144), (List.forall_mem_cons.mpr ⟨(Or.inr mk_145), (List.forall_mem_cons.mpr ⟨(Or.inr mk_146), (List.forall_mem_cons.mpr ⟨(Or.inr mk_147), (List.forall_mem_cons.mpr ⟨(Or.inr mk_148), (List.forall_mem_cons.mpr ⟨(Or.inr mk_149), (fun _ h => absurd h List.not_mem_nil)⟩)⟩)⟩)⟩)⟩)⟩)⟩)⟩)⟩)⟩)⟩)⟩)⟩)⟩)⟩)⟩)⟩)⟩)⟩)⟩)⟩)⟩)⟩)⟩)⟩)⟩)⟩)⟩)⟩)⟩)
theorem mk_c5 : ∀ t ∈ ma_mt5, t.1 = 7 ∨ ma_mtk t := (List.forall_mem_cons.mpr ⟨(Or.inr mk_150), (List.forall_mem_cons.mpr ⟨(Or.inr mk_151), (List.forall_mem_cons.mpr ⟨(Or.inr mk_152), (List.forall_mem_cons.mpr ⟨(Or.inr mk_153), (List.forall_mem_cons.mpr ⟨(Or.inr mk_154), (List.forall_mem_cons.mpr ⟨(Or.inr mk_155), (List.forall_mem_cons.mpr ⟨(Or.inr mk_156), (List.forall_mem_cons.mpr ⟨(Or.inr mk_157), (List.forall_mem_cons.mpr ⟨(Or.inr mk_158), (List.forall_mem_cons.mpr ⟨(Or.inr mk_159), (List.forall_mem_cons.mpr ⟨(Or.inr mk_160), (List.forall_mem_cons.mpr ⟨(Or.inr mk_161), (List.forall_mem_cons.mpr ⟨(Or.inr mk_162), (List.forall_mem_cons.mpr ⟨(Or.inr mk_163), (List.forall_mem_cons.mpr ⟨(Or.inr mk_164), (List.forall_mem_cons.mpr ⟨(Or.inr mk_165), (List.forall_mem_cons.mpr ⟨(Or.inr mk_166), (List.forall_mem_cons.mpr ⟨(Or.inr mk_167), (List.forall_mem_cons.mpr ⟨(Or.inr mk_168), (List.forall_mem_cons.mpr ⟨(Or.inr mk_169), (List.forall_mem_cons.mpr ⟨(Or.inr mk_170), (List.forall_mem_cons.mpr ⟨(Or.inr mk_171), (List.forall_mem_cons.mpr ⟨(Or.inr mk_172), (List.forall_mem_cons.mpr ⟨(Or.inr mk_173), (List.forall_mem_cons.mpr ⟨(Or.inr mk_174), (List.forall_mem_cons.mpr ⟨(Or.inr mk_175), (List.forall_mem_cons.mpr ⟨(Or.inr mk_176), (List.forall_mem_cons.mpr ⟨(Or.inr mk_177), (List.forall_mem_cons.mpr ⟨(Or.inr mk_178), (List.forall_mem_cons.mpr ⟨(Or.inr mk_179), (fun _ h => absurd h List.not_mem_nil)⟩)⟩)⟩)⟩)⟩)⟩)⟩)⟩)⟩)⟩)⟩)⟩)⟩)⟩)⟩)⟩)⟩)⟩)⟩)⟩)⟩)⟩)⟩)⟩)⟩)⟩)⟩)⟩)⟩)⟩)
theorem mk_c6 : ∀ t ∈ ma_mt6, t.1 = 7 ∨ ma_mtk t := (List.forall_mem_cons.mpr ⟨(Or.inr mk_180), (List.forall_mem_cons.mpr ⟨(Or.inr mk_181), (List.forall_mem_cons.mpr ⟨(Or.inr mk_182), (List.forall_mem_cons.mpr ⟨(Or.inr mk_183), (List.forall_mem_cons.mpr ⟨(Or.inr mk_184), (List.forall_mem_cons.mpr ⟨(Or.inr mk_185), (List.forall_mem_cons.mpr ⟨(Or.inr mk_186), (List.forall_mem_cons.mpr ⟨(Or.inr mk_187), (List.forall_mem_cons.mpr ⟨(Or.inr mk_188), (List.forall_mem_cons.mpr ⟨(Or.inr mk_189), (List.forall_mem_cons.mpr ⟨(Or.inr mk_190), (List.forall_mem_cons.mpr ⟨(Or.inr mk_191), (List.forall_mem_cons.mpr ⟨(Or.inr mk_192), (List.forall_mem_cons.mpr ⟨(Or.inr mk_193), (List.forall_mem_cons.mpr ⟨(Or.inr mk_194), (List.forall_mem_cons.mpr ⟨(Or.inr mk_195), (List.forall_mem_cons.mpr ⟨(Or.inr mk_196), (List.forall_mem_cons.mpr ⟨(Or.inr mk_197), (List.forall_mem_cons.mpr ⟨(Or.inr mk_198), (List.forall_mem_cons.mpr ⟨(Or.inr mk_199), (List.forall_mem_cons.mpr ⟨(Or.inr mk_200), (List.forall_mem_cons.mpr ⟨(Or.inr mk_201), (List.forall_mem_cons.mpr ⟨(Or.inr mk_202), (List.forall_mem_cons.mpr ⟨(Or.inr mk_203), (List.forall_mem_cons.mpr ⟨(Or.inr mk_204), (List.forall_mem_cons.mpr ⟨(Or.inr mk_205), (List.forall_mem_cons.mpr ⟨(Or.inr mk_206), (List.forall_mem_cons.mpr ⟨(Or.inr mk_207), (List.forall_mem_cons.mpr ⟨(Or.inr mk_208), (List.forall_mem_cons.mpr ⟨(Or.inr mk_209), (fun _ h => absurd h List.not_mem_nil)⟩)⟩)⟩)⟩)⟩)⟩)⟩)⟩)⟩)⟩)⟩)⟩)⟩)⟩)⟩)⟩)⟩)⟩)⟩)⟩)⟩)⟩)⟩)⟩)⟩)⟩)⟩)⟩)⟩)⟩)
theorem mk_c7 : ∀ t ∈ ma_mt7, t.1 = 7 ∨ ma_mtk t := (List.forall_mem_cons.mpr ⟨(Or.inr mk_210), (List.forall_mem_cons.mpr ⟨(Or.inr mk_211), (List.forall_mem_cons.mpr ⟨(Or.inr mk_212), (List.forall_mem_cons.mpr ⟨(Or.inr mk_213), (List.forall_mem_cons.mpr ⟨(Or.inr mk_214), (List.forall_mem_cons.mpr ⟨(Or.inr mk_215), (List.forall_mem_cons.mpr ⟨(Or.inr mk_216), (List.forall_mem_cons.mpr ⟨(Or.inr mk_217), (List.forall_mem_cons.mpr ⟨(Or.inr mk_218), (List.forall_mem_cons.mpr ⟨(Or.inr mk_219), (List.forall_mem_cons.mpr ⟨(Or.inr mk_220), (List.forall_mem_cons.mpr ⟨(Or.inr mk_221), (List.forall_mem_cons.mpr ⟨(Or.inr mk_222), (List.forall_mem_cons.mpr ⟨(Or.inr mk_223), (List.forall_mem_cons.mpr ⟨(Or.inr mk_224), (List.forall_mem_cons.mpr ⟨(Or.inr mk_225), (List.forall_mem_cons.mpr ⟨(Or.inr mk_226), (List.forall_mem_cons.mpr ⟨(Or.inr mk_227), (List.forall_mem_cons.mpr ⟨(Or.inr mk_228), (List.forall_mem_cons.mpr ⟨(Or.inr mk_229), (List.forall_mem_cons.mpr ⟨(Or.inr mk_230), (List.forall_mem_cons.mpr ⟨(Or.inr mk_231), (List.forall_mem_cons.mpr ⟨(Or.inr mk_232), (List.forall_mem_cons.mpr ⟨(Or.inl rfl), (fun _ h => absurd h List.not_mem_nil)⟩)⟩)⟩)⟩)⟩)⟩)⟩)⟩)⟩)⟩)⟩)⟩)⟩)⟩)⟩)⟩)⟩)⟩)⟩)⟩)⟩)⟩)⟩)⟩)
theorem ma_mtk_get {m : Nat} {t : ma_M} (h : ma_mts m = some t) : t.1 = 7 ∨ ma_mtk t := by
  unfold ma_mts at h
  split at h
  · exact mk_c0 t (List.mem_of_getElem? h)
  · exact mk_c1 t (List.mem_of_getElem? h)
  · exact mk_c2 t (List.mem_of_getElem? h)
  · exact mk_c3 t (List.mem_of_getElem? h)
  · exact mk_c4 t (List.mem_of_getElem? h)
  · exact mk_c5 t (List.mem_of_getElem? h)
  · exact mk_c6 t (List.mem_of_getElem? h)
  · exact mk_c7 t (List.mem_of_getElem? h)
  · cases h
