theorem dX6_init_0 : decode cX6_init 0 = .ok (.aload_n 0, 1) := by decide +kernel
theorem dX6_init_1 : decode cX6_init 1 = .ok (.invokespecial 1, 3) := by decide +kernel
theorem dX6_init_4 : decode cX6_init 4 = .ok (.aload_n 0, 1) := by decide +kernel
theorem dX6_init_5 : decode cX6_init 5 = .ok (.bipush 62, 2) := by decide +kernel
theorem dX6_init_7 : decode cX6_init 7 = .ok (.newarray .int, 2) := by decide +kernel
theorem dX6_init_9 : decode cX6_init 9 = .ok (.putfield 7, 3) := by decide +kernel
theorem dX6_init_12 : decode cX6_init 12 = .ok (.aload_n 0, 1) := by decide +kernel
theorem dX6_init_13 : decode cX6_init 13 = .ok (.bipush 62, 2) := by decide +kernel
theorem dX6_init_15 : decode cX6_init 15 = .ok (.newarray .int, 2) := by decide +kernel
theorem dX6_init_17 : decode cX6_init 17 = .ok (.putfield 13, 3) := by decide +kernel
theorem dX6_init_20 : decode cX6_init 20 = .ok (.aload_n 0, 1) := by decide +kernel
theorem dX6_init_21 : decode cX6_init 21 = .ok (.bipush 62, 2) := by decide +kernel
theorem dX6_init_23 : decode cX6_init 23 = .ok (.newarray .int, 2) := by decide +kernel
theorem dX6_init_25 : decode cX6_init 25 = .ok (.putfield 16, 3) := by decide +kernel
theorem dX6_init_28 : decode cX6_init 28 = .ok (.aload_n 0, 1) := by decide +kernel
theorem dX6_init_29 : decode cX6_init 29 = .ok (.bipush 62, 2) := by decide +kernel
theorem dX6_init_31 : decode cX6_init 31 = .ok (.newarray .int, 2) := by decide +kernel
theorem dX6_init_33 : decode cX6_init 33 = .ok (.putfield 19, 3) := by decide +kernel
theorem dX6_init_36 : decode cX6_init 36 = .ok (.aload_n 0, 1) := by decide +kernel
theorem dX6_init_37 : decode cX6_init 37 = .ok (.sipush 200, 3) := by decide +kernel
theorem dX6_init_40 : decode cX6_init 40 = .ok (.newarray .int, 2) := by decide +kernel
theorem dX6_init_42 : decode cX6_init 42 = .ok (.putfield 22, 3) := by decide +kernel
theorem dX6_init_45 : decode cX6_init 45 = .ok (.aload_n 0, 1) := by decide +kernel
theorem dX6_init_46 : decode cX6_init 46 = .ok (.bipush 8, 2) := by decide +kernel
theorem dX6_init_48 : decode cX6_init 48 = .ok (.newarray .int, 2) := by decide +kernel
theorem dX6_init_50 : decode cX6_init 50 = .ok (.putfield 25, 3) := by decide +kernel
theorem dX6_init_53 : decode cX6_init 53 = .ok (.aload_n 0, 1) := by decide +kernel
theorem dX6_init_54 : decode cX6_init 54 = .ok (.bipush 30, 2) := by decide +kernel
theorem dX6_init_56 : decode cX6_init 56 = .ok (.newarray .int, 2) := by decide +kernel
theorem dX6_init_58 : decode cX6_init 58 = .ok (.putfield 28, 3) := by decide +kernel
theorem dX6_init_61 : decode cX6_init 61 = .ok (.aload_n 0, 1) := by decide +kernel
theorem dX6_init_62 : decode cX6_init 62 = .ok (.iconst 4, 1) := by decide +kernel
theorem dX6_init_63 : decode cX6_init 63 = .ok (.newarray .int, 2) := by decide +kernel
theorem dX6_init_65 : decode cX6_init 65 = .ok (.dup, 1) := by decide +kernel
theorem dX6_init_66 : decode cX6_init 66 = .ok (.iconst 0, 1) := by decide +kernel
theorem dX6_init_67 : decode cX6_init 67 = .ok (.iconst (-1), 1) := by decide +kernel
theorem dX6_init_68 : decode cX6_init 68 = .ok (.iastore, 1) := by decide +kernel
theorem dX6_init_69 : decode cX6_init 69 = .ok (.dup, 1) := by decide +kernel
theorem dX6_init_70 : decode cX6_init 70 = .ok (.iconst 1, 1) := by decide +kernel
theorem dX6_init_71 : decode cX6_init 71 = .ok (.iconst (-1), 1) := by decide +kernel
theorem dX6_init_72 : decode cX6_init 72 = .ok (.iastore, 1) := by decide +kernel
theorem dX6_init_73 : decode cX6_init 73 = .ok (.dup, 1) := by decide +kernel
theorem dX6_init_74 : decode cX6_init 74 = .ok (.iconst 2, 1) := by decide +kernel
theorem dX6_init_75 : decode cX6_init 75 = .ok (.iconst (-1), 1) := by decide +kernel
theorem dX6_init_76 : decode cX6_init 76 = .ok (.iastore, 1) := by decide +kernel
theorem dX6_init_77 : decode cX6_init 77 = .ok (.dup, 1) := by decide +kernel
theorem dX6_init_78 : decode cX6_init 78 = .ok (.iconst 3, 1) := by decide +kernel
theorem dX6_init_79 : decode cX6_init 79 = .ok (.iconst (-1), 1) := by decide +kernel
theorem dX6_init_80 : decode cX6_init 80 = .ok (.iastore, 1) := by decide +kernel
theorem dX6_init_81 : decode cX6_init 81 = .ok (.putfield 31, 3) := by decide +kernel
theorem dX6_init_84 : decode cX6_init 84 = .ok (.aload_n 0, 1) := by decide +kernel
theorem dX6_init_85 : decode cX6_init 85 = .ok (.iconst 4, 1) := by decide +kernel
theorem dX6_init_86 : decode cX6_init 86 = .ok (.newarray .int, 2) := by decide +kernel
theorem dX6_init_88 : decode cX6_init 88 = .ok (.putfield 34, 3) := by decide +kernel
theorem dX6_init_91 : decode cX6_init 91 = .ok (.aload_n 0, 1) := by decide +kernel
theorem dX6_init_92 : decode cX6_init 92 = .ok (.sipush 160, 3) := by decide +kernel
theorem dX6_init_95 : decode cX6_init 95 = .ok (.newarray .int, 2) := by decide +kernel
theorem dX6_init_97 : decode cX6_init 97 = .ok (.putfield 37, 3) := by decide +kernel
theorem dX6_init_100 : decode cX6_init 100 = .ok (.aload_n 0, 1) := by decide +kernel
theorem dX6_init_101 : decode cX6_init 101 = .ok (.iconst 4, 1) := by decide +kernel
theorem dX6_init_102 : decode cX6_init 102 = .ok (.newarray .int, 2) := by decide +kernel
theorem dX6_init_104 : decode cX6_init 104 = .ok (.putfield 40, 3) := by decide +kernel
theorem dX6_init_107 : decode cX6_init 107 = .ok (.aload_n 0, 1) := by decide +kernel
theorem dX6_init_108 : decode cX6_init 108 = .ok (.iconst 4, 1) := by decide +kernel
theorem dX6_init_109 : decode cX6_init 109 = .ok (.newarray .int, 2) := by decide +kernel
theorem dX6_init_111 : decode cX6_init 111 = .ok (.putfield 43, 3) := by decide +kernel
theorem dX6_init_114 : decode cX6_init 114 = .ok (.aload_n 0, 1) := by decide +kernel
theorem dX6_init_115 : decode cX6_init 115 = .ok (.iconst 4, 1) := by decide +kernel
theorem dX6_init_116 : decode cX6_init 116 = .ok (.newarray .int, 2) := by decide +kernel
theorem dX6_init_118 : decode cX6_init 118 = .ok (.putfield 46, 3) := by decide +kernel
theorem dX6_init_121 : decode cX6_init 121 = .ok (.aload_n 0, 1) := by decide +kernel
theorem dX6_init_122 : decode cX6_init 122 = .ok (.bipush 30, 2) := by decide +kernel
theorem dX6_init_124 : decode cX6_init 124 = .ok (.newarray .int, 2) := by decide +kernel
theorem dX6_init_126 : decode cX6_init 126 = .ok (.putfield 49, 3) := by decide +kernel
theorem dX6_init_129 : decode cX6_init 129 = .ok (.aload_n 0, 1) := by decide +kernel
theorem dX6_init_130 : decode cX6_init 130 = .ok (.invokevirtual 52, 3) := by decide +kernel
theorem dX6_init_133 : decode cX6_init 133 = .ok (.aload_n 0, 1) := by decide +kernel
theorem dX6_init_134 : decode cX6_init 134 = .ok (.getfield 7, 3) := by decide +kernel
theorem dX6_init_137 : decode cX6_init 137 = .ok (.iconst 2, 1) := by decide +kernel
theorem dX6_init_138 : decode cX6_init 138 = .ok (.iconst 1, 1) := by decide +kernel
theorem dX6_init_139 : decode cX6_init 139 = .ok (.iastore, 1) := by decide +kernel
theorem dX6_init_140 : decode cX6_init 140 = .ok (.return_, 1) := by decide +kernel
theorem dX6_begins_0 : decode cX6_begins 0 = .ok (.aload_n 0, 1) := by decide +kernel
theorem dX6_begins_1 : decode cX6_begins 1 = .ok (.getfield 7, 3) := by decide +kernel
theorem dX6_begins_4 : decode cX6_begins 4 = .ok (.iconst 2, 1) := by decide +kernel
theorem dX6_begins_5 : decode cX6_begins 5 = .ok (.iaload, 1) := by decide +kernel
theorem dX6_begins_6 : decode cX6_begins 6 = .ok (.istore_n 1, 1) := by decide +kernel
theorem dX6_begins_7 : decode cX6_begins 7 = .ok (.iconst 0, 1) := by decide +kernel
theorem dX6_begins_8 : decode cX6_begins 8 = .ok (.istore_n 2, 1) := by decide +kernel
theorem dX6_begins_9 : decode cX6_begins 9 = .ok (.iload_n 2, 1) := by decide +kernel
theorem dX6_begins_10 : decode cX6_begins 10 = .ok (.bipush 62, 2) := by decide +kernel
theorem dX6_begins_12 : decode cX6_begins 12 = .ok (.if_icmp .ge 16, 3) := by decide +kernel
theorem dX6_begins_15 : decode cX6_begins 15 = .ok (.aload_n 0, 1) := by decide +kernel
theorem dX6_begins_16 : decode cX6_begins 16 = .ok (.getfield 7, 3) := by decide +kernel
theorem dX6_begins_19 : decode cX6_begins 19 = .ok (.iload_n 2, 1) := by decide +kernel
theorem dX6_begins_20 : decode cX6_begins 20 = .ok (.iconst 0, 1) := by decide +kernel
theorem dX6_begins_21 : decode cX6_begins 21 = .ok (.iastore, 1) := by decide +kernel
theorem dX6_begins_22 : decode cX6_begins 22 = .ok (.iinc 2 1, 3) := by decide +kernel
theorem dX6_begins_25 : decode cX6_begins 25 = .ok (.goto (-16), 3) := by decide +kernel
theorem dX6_begins_28 : decode cX6_begins 28 = .ok (.aload_n 0, 1) := by decide +kernel
theorem dX6_begins_29 : decode cX6_begins 29 = .ok (.getfield 7, 3) := by decide +kernel
theorem dX6_begins_32 : decode cX6_begins 32 = .ok (.iconst 2, 1) := by decide +kernel
theorem dX6_begins_33 : decode cX6_begins 33 = .ok (.iload_n 1, 1) := by decide +kernel
theorem dX6_begins_34 : decode cX6_begins 34 = .ok (.iastore, 1) := by decide +kernel
theorem dX6_begins_35 : decode cX6_begins 35 = .ok (.aload_n 0, 1) := by decide +kernel
theorem dX6_begins_36 : decode cX6_begins 36 = .ok (.getfield 7, 3) := by decide +kernel
theorem dX6_begins_39 : decode cX6_begins 39 = .ok (.iconst 4, 1) := by decide +kernel
theorem dX6_begins_40 : decode cX6_begins 40 = .ok (.iconst 2, 1) := by decide +kernel
theorem dX6_begins_41 : decode cX6_begins 41 = .ok (.iastore, 1) := by decide +kernel
theorem dX6_begins_42 : decode cX6_begins 42 = .ok (.aload_n 0, 1) := by decide +kernel
theorem dX6_begins_43 : decode cX6_begins 43 = .ok (.getfield 7, 3) := by decide +kernel
theorem dX6_begins_46 : decode cX6_begins 46 = .ok (.iconst 5, 1) := by decide +kernel
theorem dX6_begins_47 : decode cX6_begins 47 = .ok (.iconst 1, 1) := by decide +kernel
theorem dX6_begins_48 : decode cX6_begins 48 = .ok (.iastore, 1) := by decide +kernel
theorem dX6_begins_49 : decode cX6_begins 49 = .ok (.aload_n 0, 1) := by decide +kernel
theorem dX6_begins_50 : decode cX6_begins 50 = .ok (.getfield 7, 3) := by decide +kernel
theorem dX6_begins_53 : decode cX6_begins 53 = .ok (.bipush 6, 2) := by decide +kernel
theorem dX6_begins_55 : decode cX6_begins 55 = .ok (.iconst 1, 1) := by decide +kernel
theorem dX6_begins_56 : decode cX6_begins 56 = .ok (.iastore, 1) := by decide +kernel
theorem dX6_begins_57 : decode cX6_begins 57 = .ok (.aload_n 0, 1) := by decide +kernel
theorem dX6_begins_58 : decode cX6_begins 58 = .ok (.getfield 7, 3) := by decide +kernel
theorem dX6_begins_61 : decode cX6_begins 61 = .ok (.bipush 7, 2) := by decide +kernel
theorem dX6_begins_63 : decode cX6_begins 63 = .ok (.bipush 20, 2) := by decide +kernel
theorem dX6_begins_65 : decode cX6_begins 65 = .ok (.iastore, 1) := by decide +kernel
theorem dX6_begins_66 : decode cX6_begins 66 = .ok (.iconst 0, 1) := by decide +kernel
theorem dX6_begins_67 : decode cX6_begins 67 = .ok (.istore_n 2, 1) := by decide +kernel
theorem dX6_begins_68 : decode cX6_begins 68 = .ok (.iload_n 2, 1) := by decide +kernel
theorem dX6_begins_69 : decode cX6_begins 69 = .ok (.bipush 6, 2) := by decide +kernel
theorem dX6_begins_71 : decode cX6_begins 71 = .ok (.if_icmp .ge 19, 3) := by decide +kernel
theorem dX6_begins_74 : decode cX6_begins 74 = .ok (.aload_n 0, 1) := by decide +kernel
theorem dX6_begins_75 : decode cX6_begins 75 = .ok (.getfield 7, 3) := by decide +kernel
theorem dX6_begins_78 : decode cX6_begins 78 = .ok (.bipush 8, 2) := by decide +kernel
theorem dX6_begins_80 : decode cX6_begins 80 = .ok (.iload_n 2, 1) := by decide +kernel
theorem dX6_begins_81 : decode cX6_begins 81 = .ok (.iadd, 1) := by decide +kernel
theorem dX6_begins_82 : decode cX6_begins 82 = .ok (.iconst 1, 1) := by decide +kernel
theorem dX6_begins_83 : decode cX6_begins 83 = .ok (.iastore, 1) := by decide +kernel
theorem dX6_begins_84 : decode cX6_begins 84 = .ok (.iinc 2 1, 3) := by decide +kernel
theorem dX6_begins_87 : decode cX6_begins 87 = .ok (.goto (-19), 3) := by decide +kernel
theorem dX6_begins_90 : decode cX6_begins 90 = .ok (.return_, 1) := by decide +kernel
theorem dX6_isIn_0 : decode cX6_isIn 0 = .ok (.lload_n 0, 1) := by decide +kernel
theorem dX6_isIn_1 : decode cX6_isIn 1 = .ok (.lload_n 2, 1) := by decide +kernel
theorem dX6_isIn_2 : decode cX6_isIn 2 = .ok (.lcmp, 1) := by decide +kernel
theorem dX6_isIn_3 : decode cX6_isIn 3 = .ok (.ifCond .lt 14, 3) := by decide +kernel
theorem dX6_isIn_6 : decode cX6_isIn 6 = .ok (.lload_n 0, 1) := by decide +kernel
theorem dX6_isIn_7 : decode cX6_isIn 7 = .ok (.lload 4, 2) := by decide +kernel
theorem dX6_isIn_9 : decode cX6_isIn 9 = .ok (.lcmp, 1) := by decide +kernel
theorem dX6_isIn_10 : decode cX6_isIn 10 = .ok (.ifCond .gt 7, 3) := by decide +kernel
theorem dX6_isIn_13 : decode cX6_isIn 13 = .ok (.iconst 1, 1) := by decide +kernel
theorem dX6_isIn_14 : decode cX6_isIn 14 = .ok (.goto 4, 3) := by decide +kernel
theorem dX6_isIn_17 : decode cX6_isIn 17 = .ok (.iconst 0, 1) := by decide +kernel
theorem dX6_isIn_18 : decode cX6_isIn 18 = .ok (.ireturn, 1) := by decide +kernel
theorem dX6_isBough_0 : decode cX6_isBough 0 = .ok (.iload_n 0, 1) := by decide +kernel
theorem dX6_isBough_1 : decode cX6_isBough 1 = .ok (.ifCond .lt 13, 3) := by decide +kernel
theorem dX6_isBough_4 : decode cX6_isBough 4 = .ok (.iload_n 0, 1) := by decide +kernel
theorem dX6_isBough_5 : decode cX6_isBough 5 = .ok (.bipush 6, 2) := by decide +kernel
theorem dX6_isBough_7 : decode cX6_isBough 7 = .ok (.if_icmp .ge 7, 3) := by decide +kernel
theorem dX6_isBough_10 : decode cX6_isBough 10 = .ok (.iconst 1, 1) := by decide +kernel
theorem dX6_isBough_11 : decode cX6_isBough 11 = .ok (.goto 4, 3) := by decide +kernel
theorem dX6_isBough_14 : decode cX6_isBough 14 = .ok (.iconst 0, 1) := by decide +kernel
theorem dX6_isBough_15 : decode cX6_isBough 15 = .ok (.ireturn, 1) := by decide +kernel
theorem dX6_isOne_0 : decode cX6_isOne 0 = .ok (.iload_n 1, 1) := by decide +kernel
theorem dX6_isOne_1 : decode cX6_isOne 1 = .ok (.ifCond .lt 17, 3) := by decide +kernel
theorem dX6_isOne_4 : decode cX6_isOne 4 = .ok (.iload_n 1, 1) := by decide +kernel
theorem dX6_isOne_5 : decode cX6_isOne 5 = .ok (.aload_n 0, 1) := by decide +kernel
theorem dX6_isOne_6 : decode cX6_isOne 6 = .ok (.getfield 7, 3) := by decide +kernel
theorem dX6_isOne_9 : decode cX6_isOne 9 = .ok (.iconst 0, 1) := by decide +kernel
theorem dX6_isOne_10 : decode cX6_isOne 10 = .ok (.iaload, 1) := by decide +kernel
theorem dX6_isOne_11 : decode cX6_isOne 11 = .ok (.if_icmp .ge 7, 3) := by decide +kernel
theorem dX6_isOne_14 : decode cX6_isOne 14 = .ok (.iconst 1, 1) := by decide +kernel
theorem dX6_isOne_15 : decode cX6_isOne 15 = .ok (.goto 4, 3) := by decide +kernel
theorem dX6_isOne_18 : decode cX6_isOne 18 = .ok (.iconst 0, 1) := by decide +kernel
theorem dX6_isOne_19 : decode cX6_isOne 19 = .ok (.ireturn, 1) := by decide +kernel
theorem dX6_its_0 : decode cX6_its 0 = .ok (.aload_n 0, 1) := by decide +kernel
theorem dX6_its_1 : decode cX6_its 1 = .ok (.getfield 7, 3) := by decide +kernel
theorem dX6_its_4 : decode cX6_its 4 = .ok (.bipush 14, 2) := by decide +kernel
theorem dX6_its_6 : decode cX6_its 6 = .ok (.bipush 6, 2) := by decide +kernel
theorem dX6_its_8 : decode cX6_its 8 = .ok (.iload_n 1, 1) := by decide +kernel
theorem dX6_its_9 : decode cX6_its 9 = .ok (.imul, 1) := by decide +kernel
theorem dX6_its_10 : decode cX6_its 10 = .ok (.iadd, 1) := by decide +kernel
theorem dX6_its_11 : decode cX6_its 11 = .ok (.iload_n 2, 1) := by decide +kernel
theorem dX6_its_12 : decode cX6_its 12 = .ok (.iadd, 1) := by decide +kernel
theorem dX6_its_13 : decode cX6_its 13 = .ok (.iaload, 1) := by decide +kernel
theorem dX6_its_14 : decode cX6_its 14 = .ok (.ireturn, 1) := by decide +kernel
theorem dX6_becomes_0 : decode cX6_becomes 0 = .ok (.aload_n 0, 1) := by decide +kernel
theorem dX6_becomes_1 : decode cX6_becomes 1 = .ok (.getfield 7, 3) := by decide +kernel
theorem dX6_becomes_4 : decode cX6_becomes 4 = .ok (.iload_n 1, 1) := by decide +kernel
theorem dX6_becomes_5 : decode cX6_becomes 5 = .ok (.iaload, 1) := by decide +kernel
theorem dX6_becomes_6 : decode cX6_becomes 6 = .ok (.istore_n 3, 1) := by decide +kernel
theorem dX6_becomes_7 : decode cX6_becomes 7 = .ok (.aload_n 0, 1) := by decide +kernel
theorem dX6_becomes_8 : decode cX6_becomes 8 = .ok (.getfield 7, 3) := by decide +kernel
theorem dX6_becomes_11 : decode cX6_becomes 11 = .ok (.iload_n 1, 1) := by decide +kernel
theorem dX6_becomes_12 : decode cX6_becomes 12 = .ok (.iload_n 2, 1) := by decide +kernel
theorem dX6_becomes_13 : decode cX6_becomes 13 = .ok (.iastore, 1) := by decide +kernel
theorem dX6_becomes_14 : decode cX6_becomes 14 = .ok (.iload_n 3, 1) := by decide +kernel
theorem dX6_becomes_15 : decode cX6_becomes 15 = .ok (.ireturn, 1) := by decide +kernel
theorem dX6_copyRow_0 : decode cX6_copyRow 0 = .ok (.iconst 0, 1) := by decide +kernel
theorem dX6_copyRow_1 : decode cX6_copyRow 1 = .ok (.istore_n 2, 1) := by decide +kernel
theorem dX6_copyRow_2 : decode cX6_copyRow 2 = .ok (.iload_n 2, 1) := by decide +kernel
theorem dX6_copyRow_3 : decode cX6_copyRow 3 = .ok (.bipush 62, 2) := by decide +kernel
theorem dX6_copyRow_5 : decode cX6_copyRow 5 = .ok (.if_icmp .ge 15, 3) := by decide +kernel
theorem dX6_copyRow_8 : decode cX6_copyRow 8 = .ok (.aload_n 1, 1) := by decide +kernel
theorem dX6_copyRow_9 : decode cX6_copyRow 9 = .ok (.iload_n 2, 1) := by decide +kernel
theorem dX6_copyRow_10 : decode cX6_copyRow 10 = .ok (.aload_n 0, 1) := by decide +kernel
theorem dX6_copyRow_11 : decode cX6_copyRow 11 = .ok (.iload_n 2, 1) := by decide +kernel
theorem dX6_copyRow_12 : decode cX6_copyRow 12 = .ok (.iaload, 1) := by decide +kernel
theorem dX6_copyRow_13 : decode cX6_copyRow 13 = .ok (.iastore, 1) := by decide +kernel
theorem dX6_copyRow_14 : decode cX6_copyRow 14 = .ok (.iinc 2 1, 3) := by decide +kernel
theorem dX6_copyRow_17 : decode cX6_copyRow 17 = .ok (.goto (-15), 3) := by decide +kernel
theorem dX6_copyRow_20 : decode cX6_copyRow 20 = .ok (.return_, 1) := by decide +kernel
theorem dX6_within_0 : decode cX6_within 0 = .ok (.iload_n 0, 1) := by decide +kernel
theorem dX6_within_1 : decode cX6_within 1 = .ok (.ifCond .ge 7, 3) := by decide +kernel
theorem dX6_within_4 : decode cX6_within 4 = .ok (.iconst 0, 1) := by decide +kernel
theorem dX6_within_5 : decode cX6_within 5 = .ok (.goto 15, 3) := by decide +kernel
theorem dX6_within_8 : decode cX6_within 8 = .ok (.iload_n 0, 1) := by decide +kernel
theorem dX6_within_9 : decode cX6_within 9 = .ok (.bipush 99, 2) := by decide +kernel
theorem dX6_within_11 : decode cX6_within 11 = .ok (.if_icmp .le 8, 3) := by decide +kernel
theorem dX6_within_14 : decode cX6_within 14 = .ok (.bipush 99, 2) := by decide +kernel
theorem dX6_within_16 : decode cX6_within 16 = .ok (.goto 4, 3) := by decide +kernel
theorem dX6_within_19 : decode cX6_within 19 = .ok (.iload_n 0, 1) := by decide +kernel
theorem dX6_within_20 : decode cX6_within 20 = .ok (.ireturn, 1) := by decide +kernel
theorem dX6_size_0 : decode cX6_size 0 = .ok (.iconst 0, 1) := by decide +kernel
theorem dX6_size_1 : decode cX6_size 1 = .ok (.istore_n 1, 1) := by decide +kernel
theorem dX6_size_2 : decode cX6_size 2 = .ok (.iload_n 0, 1) := by decide +kernel
theorem dX6_size_3 : decode cX6_size 3 = .ok (.istore_n 2, 1) := by decide +kernel
theorem dX6_size_4 : decode cX6_size 4 = .ok (.iload_n 2, 1) := by decide +kernel
theorem dX6_size_5 : decode cX6_size 5 = .ok (.ifCond .eq 15, 3) := by decide +kernel
theorem dX6_size_8 : decode cX6_size 8 = .ok (.iinc 1 1, 3) := by decide +kernel
theorem dX6_size_11 : decode cX6_size 11 = .ok (.iload_n 2, 1) := by decide +kernel
theorem dX6_size_12 : decode cX6_size 12 = .ok (.iload_n 2, 1) := by decide +kernel
theorem dX6_size_13 : decode cX6_size 13 = .ok (.iconst 1, 1) := by decide +kernel
theorem dX6_size_14 : decode cX6_size 14 = .ok (.isub, 1) := by decide +kernel
theorem dX6_size_15 : decode cX6_size 15 = .ok (.iand, 1) := by decide +kernel
theorem dX6_size_16 : decode cX6_size 16 = .ok (.istore_n 2, 1) := by decide +kernel
theorem dX6_size_17 : decode cX6_size 17 = .ok (.goto (-13), 3) := by decide +kernel
theorem dX6_size_20 : decode cX6_size 20 = .ok (.iload_n 1, 1) := by decide +kernel
theorem dX6_size_21 : decode cX6_size 21 = .ok (.ireturn, 1) := by decide +kernel
theorem dX6_isUnder_0 : decode cX6_isUnder 0 = .ok (.iload_n 1, 1) := by decide +kernel
theorem dX6_isUnder_1 : decode cX6_isUnder 1 = .ok (.ifCond .eq 28, 3) := by decide +kernel
theorem dX6_isUnder_4 : decode cX6_isUnder 4 = .ok (.iload_n 0, 1) := by decide +kernel
theorem dX6_isUnder_5 : decode cX6_isUnder 5 = .ok (.iload_n 1, 1) := by decide +kernel
theorem dX6_isUnder_6 : decode cX6_isUnder 6 = .ok (.if_icmp .eq 23, 3) := by decide +kernel
theorem dX6_isUnder_9 : decode cX6_isUnder 9 = .ok (.iload_n 1, 1) := by decide +kernel
theorem dX6_isUnder_10 : decode cX6_isUnder 10 = .ok (.iconst 1, 1) := by decide +kernel
theorem dX6_isUnder_11 : decode cX6_isUnder 11 = .ok (.if_icmp .ne 8, 3) := by decide +kernel
theorem dX6_isUnder_14 : decode cX6_isUnder 14 = .ok (.iload_n 0, 1) := by decide +kernel
theorem dX6_isUnder_15 : decode cX6_isUnder 15 = .ok (.iconst 3, 1) := by decide +kernel
theorem dX6_isUnder_16 : decode cX6_isUnder 16 = .ok (.if_icmp .eq 13, 3) := by decide +kernel
theorem dX6_isUnder_19 : decode cX6_isUnder 19 = .ok (.iload_n 1, 1) := by decide +kernel
theorem dX6_isUnder_20 : decode cX6_isUnder 20 = .ok (.iconst 2, 1) := by decide +kernel
theorem dX6_isUnder_21 : decode cX6_isUnder 21 = .ok (.if_icmp .ne 12, 3) := by decide +kernel
theorem dX6_isUnder_24 : decode cX6_isUnder 24 = .ok (.iload_n 0, 1) := by decide +kernel
theorem dX6_isUnder_25 : decode cX6_isUnder 25 = .ok (.iconst 4, 1) := by decide +kernel
theorem dX6_isUnder_26 : decode cX6_isUnder 26 = .ok (.if_icmp .ne 7, 3) := by decide +kernel
theorem dX6_isUnder_29 : decode cX6_isUnder 29 = .ok (.iconst 1, 1) := by decide +kernel
theorem dX6_isUnder_30 : decode cX6_isUnder 30 = .ok (.goto 4, 3) := by decide +kernel
theorem dX6_isUnder_33 : decode cX6_isUnder 33 = .ok (.iconst 0, 1) := by decide +kernel
theorem dX6_isUnder_34 : decode cX6_isUnder 34 = .ok (.ireturn, 1) := by decide +kernel
theorem dX6_feed_0 : decode cX6_feed 0 = .ok (.iload_n 3, 1) := by decide +kernel
theorem dX6_feed_1 : decode cX6_feed 1 = .ok (.i2l, 1) := by decide +kernel
theorem dX6_feed_2 : decode cX6_feed 2 = .ok (.lconst 1, 1) := by decide +kernel
theorem dX6_feed_3 : decode cX6_feed 3 = .ok (.ldc2_w 55, 3) := by decide +kernel
theorem dX6_feed_6 : decode cX6_feed 6 = .ok (.invokestatic 57, 3) := by decide +kernel
theorem dX6_feed_9 : decode cX6_feed 9 = .ok (.ifCond .ne 5, 3) := by decide +kernel
theorem dX6_feed_12 : decode cX6_feed 12 = .ok (.iconst (-1), 1) := by decide +kernel
theorem dX6_feed_13 : decode cX6_feed 13 = .ok (.ireturn, 1) := by decide +kernel
theorem dX6_feed_14 : decode cX6_feed 14 = .ok (.aload_n 0, 1) := by decide +kernel
theorem dX6_feed_15 : decode cX6_feed 15 = .ok (.getfield 61, 3) := by decide +kernel
theorem dX6_feed_18 : decode cX6_feed 18 = .ok (.iload_n 3, 1) := by decide +kernel
theorem dX6_feed_19 : decode cX6_feed 19 = .ok (.iadd, 1) := by decide +kernel
theorem dX6_feed_20 : decode cX6_feed 20 = .ok (.sipush 200, 3) := by decide +kernel
theorem dX6_feed_23 : decode cX6_feed 23 = .ok (.if_icmp .le 6, 3) := by decide +kernel
theorem dX6_feed_26 : decode cX6_feed 26 = .ok (.bipush (-2), 2) := by decide +kernel
theorem dX6_feed_28 : decode cX6_feed 28 = .ok (.ireturn, 1) := by decide +kernel
theorem dX6_feed_29 : decode cX6_feed 29 = .ok (.iconst 0, 1) := by decide +kernel
theorem dX6_feed_30 : decode cX6_feed 30 = .ok (.istore 4, 2) := by decide +kernel
theorem dX6_feed_32 : decode cX6_feed 32 = .ok (.iload 4, 2) := by decide +kernel
theorem dX6_feed_34 : decode cX6_feed 34 = .ok (.iload_n 3, 1) := by decide +kernel
theorem dX6_feed_35 : decode cX6_feed 35 = .ok (.if_icmp .ge 40, 3) := by decide +kernel
theorem dX6_feed_38 : decode cX6_feed 38 = .ok (.aload_n 0, 1) := by decide +kernel
theorem dX6_feed_39 : decode cX6_feed 39 = .ok (.getfield 22, 3) := by decide +kernel
theorem dX6_feed_42 : decode cX6_feed 42 = .ok (.aload_n 0, 1) := by decide +kernel
theorem dX6_feed_43 : decode cX6_feed 43 = .ok (.getfield 61, 3) := by decide +kernel
theorem dX6_feed_46 : decode cX6_feed 46 = .ok (.lload_n 1, 1) := by decide +kernel
theorem dX6_feed_47 : decode cX6_feed 47 = .ok (.bipush 8, 2) := by decide +kernel
theorem dX6_feed_49 : decode cX6_feed 49 = .ok (.iload 4, 2) := by decide +kernel
theorem dX6_feed_51 : decode cX6_feed 51 = .ok (.imul, 1) := by decide +kernel
theorem dX6_feed_52 : decode cX6_feed 52 = .ok (.lshr, 1) := by decide +kernel
theorem dX6_feed_53 : decode cX6_feed 53 = .ok (.ldc2_w 65, 3) := by decide +kernel
theorem dX6_feed_56 : decode cX6_feed 56 = .ok (.land, 1) := by decide +kernel
theorem dX6_feed_57 : decode cX6_feed 57 = .ok (.l2i, 1) := by decide +kernel
theorem dX6_feed_58 : decode cX6_feed 58 = .ok (.iastore, 1) := by decide +kernel
theorem dX6_feed_59 : decode cX6_feed 59 = .ok (.aload_n 0, 1) := by decide +kernel
theorem dX6_feed_60 : decode cX6_feed 60 = .ok (.dup, 1) := by decide +kernel
theorem dX6_feed_61 : decode cX6_feed 61 = .ok (.getfield 61, 3) := by decide +kernel
theorem dX6_feed_64 : decode cX6_feed 64 = .ok (.iconst 1, 1) := by decide +kernel
theorem dX6_feed_65 : decode cX6_feed 65 = .ok (.iadd, 1) := by decide +kernel
theorem dX6_feed_66 : decode cX6_feed 66 = .ok (.putfield 61, 3) := by decide +kernel
theorem dX6_feed_69 : decode cX6_feed 69 = .ok (.iinc 4 1, 3) := by decide +kernel
theorem dX6_feed_72 : decode cX6_feed 72 = .ok (.goto (-40), 3) := by decide +kernel
theorem dX6_feed_75 : decode cX6_feed 75 = .ok (.aload_n 0, 1) := by decide +kernel
theorem dX6_feed_76 : decode cX6_feed 76 = .ok (.getfield 61, 3) := by decide +kernel
theorem dX6_feed_79 : decode cX6_feed 79 = .ok (.ireturn, 1) := by decide +kernel
theorem dX6_isAlpha_0 : decode cX6_isAlpha 0 = .ok (.iload_n 0, 1) := by decide +kernel
theorem dX6_isAlpha_1 : decode cX6_isAlpha 1 = .ok (.bipush 97, 2) := by decide +kernel
theorem dX6_isAlpha_3 : decode cX6_isAlpha 3 = .ok (.if_icmp .lt 13, 3) := by decide +kernel
theorem dX6_isAlpha_6 : decode cX6_isAlpha 6 = .ok (.iload_n 0, 1) := by decide +kernel
theorem dX6_isAlpha_7 : decode cX6_isAlpha 7 = .ok (.bipush 122, 2) := by decide +kernel
theorem dX6_isAlpha_9 : decode cX6_isAlpha 9 = .ok (.if_icmp .gt 7, 3) := by decide +kernel
theorem dX6_isAlpha_12 : decode cX6_isAlpha 12 = .ok (.iconst 1, 1) := by decide +kernel
theorem dX6_isAlpha_13 : decode cX6_isAlpha 13 = .ok (.goto 4, 3) := by decide +kernel
theorem dX6_isAlpha_16 : decode cX6_isAlpha 16 = .ok (.iconst 0, 1) := by decide +kernel
theorem dX6_isAlpha_17 : decode cX6_isAlpha 17 = .ok (.ireturn, 1) := by decide +kernel
theorem dX6_isDigit_0 : decode cX6_isDigit 0 = .ok (.iload_n 0, 1) := by decide +kernel
theorem dX6_isDigit_1 : decode cX6_isDigit 1 = .ok (.bipush 48, 2) := by decide +kernel
theorem dX6_isDigit_3 : decode cX6_isDigit 3 = .ok (.if_icmp .lt 13, 3) := by decide +kernel
theorem dX6_isDigit_6 : decode cX6_isDigit 6 = .ok (.iload_n 0, 1) := by decide +kernel
theorem dX6_isDigit_7 : decode cX6_isDigit 7 = .ok (.bipush 57, 2) := by decide +kernel
theorem dX6_isDigit_9 : decode cX6_isDigit 9 = .ok (.if_icmp .gt 7, 3) := by decide +kernel
theorem dX6_isDigit_12 : decode cX6_isDigit 12 = .ok (.iconst 1, 1) := by decide +kernel
theorem dX6_isDigit_13 : decode cX6_isDigit 13 = .ok (.goto 4, 3) := by decide +kernel
theorem dX6_isDigit_16 : decode cX6_isDigit 16 = .ok (.iconst 0, 1) := by decide +kernel
theorem dX6_isDigit_17 : decode cX6_isDigit 17 = .ok (.ireturn, 1) := by decide +kernel
theorem dX6_byteAt_0 : decode cX6_byteAt 0 = .ok (.iload_n 1, 1) := by decide +kernel
theorem dX6_byteAt_1 : decode cX6_byteAt 1 = .ok (.aload_n 0, 1) := by decide +kernel
theorem dX6_byteAt_2 : decode cX6_byteAt 2 = .ok (.getfield 61, 3) := by decide +kernel
theorem dX6_byteAt_5 : decode cX6_byteAt 5 = .ok (.if_icmp .ge 12, 3) := by decide +kernel
theorem dX6_byteAt_8 : decode cX6_byteAt 8 = .ok (.aload_n 0, 1) := by decide +kernel
theorem dX6_byteAt_9 : decode cX6_byteAt 9 = .ok (.getfield 22, 3) := by decide +kernel
theorem dX6_byteAt_12 : decode cX6_byteAt 12 = .ok (.iload_n 1, 1) := by decide +kernel
theorem dX6_byteAt_13 : decode cX6_byteAt 13 = .ok (.iaload, 1) := by decide +kernel
theorem dX6_byteAt_14 : decode cX6_byteAt 14 = .ok (.goto 4, 3) := by decide +kernel
theorem dX6_byteAt_17 : decode cX6_byteAt 17 = .ok (.iconst (-1), 1) := by decide +kernel
theorem dX6_byteAt_18 : decode cX6_byteAt 18 = .ok (.ireturn, 1) := by decide +kernel
theorem dX6_nextToken_0 : decode cX6_nextToken 0 = .ok (.aload_n 0, 1) := by decide +kernel
theorem dX6_nextToken_1 : decode cX6_nextToken 1 = .ok (.aload_n 0, 1) := by decide +kernel
theorem dX6_nextToken_2 : decode cX6_nextToken 2 = .ok (.getfield 67, 3) := by decide +kernel
theorem dX6_nextToken_5 : decode cX6_nextToken 5 = .ok (.putfield 70, 3) := by decide +kernel
theorem dX6_nextToken_8 : decode cX6_nextToken 8 = .ok (.aload_n 0, 1) := by decide +kernel
theorem dX6_nextToken_9 : decode cX6_nextToken 9 = .ok (.aload_n 0, 1) := by decide +kernel
theorem dX6_nextToken_10 : decode cX6_nextToken 10 = .ok (.getfield 70, 3) := by decide +kernel
theorem dX6_nextToken_13 : decode cX6_nextToken 13 = .ok (.invokevirtual 73, 3) := by decide +kernel
theorem dX6_nextToken_16 : decode cX6_nextToken 16 = .ok (.bipush 32, 2) := by decide +kernel
theorem dX6_nextToken_18 : decode cX6_nextToken 18 = .ok (.if_icmp .ne 16, 3) := by decide +kernel
theorem dX6_nextToken_21 : decode cX6_nextToken 21 = .ok (.aload_n 0, 1) := by decide +kernel
theorem dX6_nextToken_22 : decode cX6_nextToken 22 = .ok (.dup, 1) := by decide +kernel
theorem dX6_nextToken_23 : decode cX6_nextToken 23 = .ok (.getfield 70, 3) := by decide +kernel
theorem dX6_nextToken_26 : decode cX6_nextToken 26 = .ok (.iconst 1, 1) := by decide +kernel
theorem dX6_nextToken_27 : decode cX6_nextToken 27 = .ok (.iadd, 1) := by decide +kernel
theorem dX6_nextToken_28 : decode cX6_nextToken 28 = .ok (.putfield 70, 3) := by decide +kernel
theorem dX6_nextToken_31 : decode cX6_nextToken 31 = .ok (.goto (-23), 3) := by decide +kernel
theorem dX6_nextToken_34 : decode cX6_nextToken 34 = .ok (.aload_n 0, 1) := by decide +kernel
theorem dX6_nextToken_35 : decode cX6_nextToken 35 = .ok (.aload_n 0, 1) := by decide +kernel
theorem dX6_nextToken_36 : decode cX6_nextToken 36 = .ok (.getfield 70, 3) := by decide +kernel
theorem dX6_nextToken_39 : decode cX6_nextToken 39 = .ok (.putfield 67, 3) := by decide +kernel
theorem dX6_nextToken_42 : decode cX6_nextToken 42 = .ok (.aload_n 0, 1) := by decide +kernel
theorem dX6_nextToken_43 : decode cX6_nextToken 43 = .ok (.aload_n 0, 1) := by decide +kernel
theorem dX6_nextToken_44 : decode cX6_nextToken 44 = .ok (.getfield 70, 3) := by decide +kernel
theorem dX6_nextToken_47 : decode cX6_nextToken 47 = .ok (.invokevirtual 73, 3) := by decide +kernel
theorem dX6_nextToken_50 : decode cX6_nextToken 50 = .ok (.istore_n 1, 1) := by decide +kernel
theorem dX6_nextToken_51 : decode cX6_nextToken 51 = .ok (.aload_n 0, 1) := by decide +kernel
theorem dX6_nextToken_52 : decode cX6_nextToken 52 = .ok (.iload_n 1, 1) := by decide +kernel
theorem dX6_nextToken_53 : decode cX6_nextToken 53 = .ok (.ifCond .ge 7, 3) := by decide +kernel
theorem dX6_nextToken_56 : decode cX6_nextToken 56 = .ok (.iconst 0, 1) := by decide +kernel
theorem dX6_nextToken_57 : decode cX6_nextToken 57 = .ok (.goto 26, 3) := by decide +kernel
theorem dX6_nextToken_60 : decode cX6_nextToken 60 = .ok (.iload_n 1, 1) := by decide +kernel
theorem dX6_nextToken_61 : decode cX6_nextToken 61 = .ok (.invokestatic 77, 3) := by decide +kernel
theorem dX6_nextToken_64 : decode cX6_nextToken 64 = .ok (.ifCond .eq 7, 3) := by decide +kernel
theorem dX6_nextToken_67 : decode cX6_nextToken 67 = .ok (.iconst 1, 1) := by decide +kernel
theorem dX6_nextToken_68 : decode cX6_nextToken 68 = .ok (.goto 15, 3) := by decide +kernel
theorem dX6_nextToken_71 : decode cX6_nextToken 71 = .ok (.iload_n 1, 1) := by decide +kernel
theorem dX6_nextToken_72 : decode cX6_nextToken 72 = .ok (.invokestatic 81, 3) := by decide +kernel
theorem dX6_nextToken_75 : decode cX6_nextToken 75 = .ok (.ifCond .eq 7, 3) := by decide +kernel
theorem dX6_nextToken_78 : decode cX6_nextToken 78 = .ok (.iconst 2, 1) := by decide +kernel
theorem dX6_nextToken_79 : decode cX6_nextToken 79 = .ok (.goto 4, 3) := by decide +kernel
theorem dX6_nextToken_82 : decode cX6_nextToken 82 = .ok (.iconst 3, 1) := by decide +kernel
theorem dX6_nextToken_83 : decode cX6_nextToken 83 = .ok (.putfield 84, 3) := by decide +kernel
theorem dX6_nextToken_86 : decode cX6_nextToken 86 = .ok (.aload_n 0, 1) := by decide +kernel
theorem dX6_nextToken_87 : decode cX6_nextToken 87 = .ok (.iconst 0, 1) := by decide +kernel
theorem dX6_nextToken_88 : decode cX6_nextToken 88 = .ok (.putfield 87, 3) := by decide +kernel
theorem dX6_nextToken_91 : decode cX6_nextToken 91 = .ok (.aload_n 0, 1) := by decide +kernel
theorem dX6_nextToken_92 : decode cX6_nextToken 92 = .ok (.getfield 84, 3) := by decide +kernel
theorem dX6_nextToken_95 : decode cX6_nextToken 95 = .ok (.iconst 1, 1) := by decide +kernel
theorem dX6_nextToken_96 : decode cX6_nextToken 96 = .ok (.if_icmp .ne 30, 3) := by decide +kernel
theorem dX6_nextToken_99 : decode cX6_nextToken 99 = .ok (.aload_n 0, 1) := by decide +kernel
theorem dX6_nextToken_100 : decode cX6_nextToken 100 = .ok (.aload_n 0, 1) := by decide +kernel
theorem dX6_nextToken_101 : decode cX6_nextToken 101 = .ok (.getfield 67, 3) := by decide +kernel
theorem dX6_nextToken_104 : decode cX6_nextToken 104 = .ok (.invokevirtual 73, 3) := by decide +kernel
theorem dX6_nextToken_107 : decode cX6_nextToken 107 = .ok (.invokestatic 77, 3) := by decide +kernel
theorem dX6_nextToken_110 : decode cX6_nextToken 110 = .ok (.ifCond .eq 16, 3) := by decide +kernel
theorem dX6_nextToken_113 : decode cX6_nextToken 113 = .ok (.aload_n 0, 1) := by decide +kernel
theorem dX6_nextToken_114 : decode cX6_nextToken 114 = .ok (.dup, 1) := by decide +kernel
theorem dX6_nextToken_115 : decode cX6_nextToken 115 = .ok (.getfield 67, 3) := by decide +kernel
theorem dX6_nextToken_118 : decode cX6_nextToken 118 = .ok (.iconst 1, 1) := by decide +kernel
theorem dX6_nextToken_119 : decode cX6_nextToken 119 = .ok (.iadd, 1) := by decide +kernel
theorem dX6_nextToken_120 : decode cX6_nextToken 120 = .ok (.putfield 67, 3) := by decide +kernel
theorem dX6_nextToken_123 : decode cX6_nextToken 123 = .ok (.goto (-32), 3) := by decide +kernel
theorem dX6_nextToken_126 : decode cX6_nextToken 126 = .ok (.aload_n 0, 1) := by decide +kernel
theorem dX6_nextToken_127 : decode cX6_nextToken 127 = .ok (.getfield 84, 3) := by decide +kernel
theorem dX6_nextToken_130 : decode cX6_nextToken 130 = .ok (.iconst 2, 1) := by decide +kernel
theorem dX6_nextToken_131 : decode cX6_nextToken 131 = .ok (.if_icmp .ne 70, 3) := by decide +kernel
theorem dX6_nextToken_134 : decode cX6_nextToken 134 = .ok (.aload_n 0, 1) := by decide +kernel
theorem dX6_nextToken_135 : decode cX6_nextToken 135 = .ok (.aload_n 0, 1) := by decide +kernel
theorem dX6_nextToken_136 : decode cX6_nextToken 136 = .ok (.getfield 67, 3) := by decide +kernel
theorem dX6_nextToken_139 : decode cX6_nextToken 139 = .ok (.invokevirtual 73, 3) := by decide +kernel
theorem dX6_nextToken_142 : decode cX6_nextToken 142 = .ok (.invokestatic 81, 3) := by decide +kernel
theorem dX6_nextToken_145 : decode cX6_nextToken 145 = .ok (.ifCond .eq 56, 3) := by decide +kernel
theorem dX6_nextToken_148 : decode cX6_nextToken 148 = .ok (.aload_n 0, 1) := by decide +kernel
theorem dX6_nextToken_149 : decode cX6_nextToken 149 = .ok (.aload_n 0, 1) := by decide +kernel
theorem dX6_nextToken_150 : decode cX6_nextToken 150 = .ok (.getfield 87, 3) := by decide +kernel
theorem dX6_nextToken_153 : decode cX6_nextToken 153 = .ok (.sipush 999, 3) := by decide +kernel
theorem dX6_nextToken_156 : decode cX6_nextToken 156 = .ok (.if_icmp .le 10, 3) := by decide +kernel
theorem dX6_nextToken_159 : decode cX6_nextToken 159 = .ok (.aload_n 0, 1) := by decide +kernel
theorem dX6_nextToken_160 : decode cX6_nextToken 160 = .ok (.getfield 87, 3) := by decide +kernel
theorem dX6_nextToken_163 : decode cX6_nextToken 163 = .ok (.goto 22, 3) := by decide +kernel
theorem dX6_nextToken_166 : decode cX6_nextToken 166 = .ok (.bipush 10, 2) := by decide +kernel
theorem dX6_nextToken_168 : decode cX6_nextToken 168 = .ok (.aload_n 0, 1) := by decide +kernel
theorem dX6_nextToken_169 : decode cX6_nextToken 169 = .ok (.getfield 87, 3) := by decide +kernel
theorem dX6_nextToken_172 : decode cX6_nextToken 172 = .ok (.imul, 1) := by decide +kernel
theorem dX6_nextToken_173 : decode cX6_nextToken 173 = .ok (.aload_n 0, 1) := by decide +kernel
theorem dX6_nextToken_174 : decode cX6_nextToken 174 = .ok (.aload_n 0, 1) := by decide +kernel
theorem dX6_nextToken_175 : decode cX6_nextToken 175 = .ok (.getfield 67, 3) := by decide +kernel
theorem dX6_nextToken_178 : decode cX6_nextToken 178 = .ok (.invokevirtual 73, 3) := by decide +kernel
theorem dX6_nextToken_181 : decode cX6_nextToken 181 = .ok (.iadd, 1) := by decide +kernel
theorem dX6_nextToken_182 : decode cX6_nextToken 182 = .ok (.bipush 48, 2) := by decide +kernel
theorem dX6_nextToken_184 : decode cX6_nextToken 184 = .ok (.isub, 1) := by decide +kernel
theorem dX6_nextToken_185 : decode cX6_nextToken 185 = .ok (.putfield 87, 3) := by decide +kernel
theorem dX6_nextToken_188 : decode cX6_nextToken 188 = .ok (.aload_n 0, 1) := by decide +kernel
theorem dX6_nextToken_189 : decode cX6_nextToken 189 = .ok (.dup, 1) := by decide +kernel
theorem dX6_nextToken_190 : decode cX6_nextToken 190 = .ok (.getfield 67, 3) := by decide +kernel
theorem dX6_nextToken_193 : decode cX6_nextToken 193 = .ok (.iconst 1, 1) := by decide +kernel
theorem dX6_nextToken_194 : decode cX6_nextToken 194 = .ok (.iadd, 1) := by decide +kernel
theorem dX6_nextToken_195 : decode cX6_nextToken 195 = .ok (.putfield 67, 3) := by decide +kernel
theorem dX6_nextToken_198 : decode cX6_nextToken 198 = .ok (.goto (-72), 3) := by decide +kernel
theorem dX6_nextToken_201 : decode cX6_nextToken 201 = .ok (.aload_n 0, 1) := by decide +kernel
theorem dX6_nextToken_202 : decode cX6_nextToken 202 = .ok (.dup, 1) := by decide +kernel
theorem dX6_nextToken_203 : decode cX6_nextToken 203 = .ok (.getfield 67, 3) := by decide +kernel
theorem dX6_nextToken_206 : decode cX6_nextToken 206 = .ok (.aload_n 0, 1) := by decide +kernel
theorem dX6_nextToken_207 : decode cX6_nextToken 207 = .ok (.getfield 84, 3) := by decide +kernel
theorem dX6_nextToken_210 : decode cX6_nextToken 210 = .ok (.iconst 2, 1) := by decide +kernel
theorem dX6_nextToken_211 : decode cX6_nextToken 211 = .ok (.if_icmp .le 7, 3) := by decide +kernel
theorem dX6_nextToken_214 : decode cX6_nextToken 214 = .ok (.iconst 1, 1) := by decide +kernel
theorem dX6_nextToken_215 : decode cX6_nextToken 215 = .ok (.goto 4, 3) := by decide +kernel
theorem dX6_nextToken_218 : decode cX6_nextToken 218 = .ok (.iconst 0, 1) := by decide +kernel
theorem dX6_nextToken_219 : decode cX6_nextToken 219 = .ok (.iadd, 1) := by decide +kernel
theorem dX6_nextToken_220 : decode cX6_nextToken 220 = .ok (.putfield 67, 3) := by decide +kernel
theorem dX6_nextToken_223 : decode cX6_nextToken 223 = .ok (.return_, 1) := by decide +kernel
theorem dX6_needs_0 : decode cX6_needs 0 = .ok (.aload_n 0, 1) := by decide +kernel
theorem dX6_needs_1 : decode cX6_needs 1 = .ok (.aload_n 0, 1) := by decide +kernel
theorem dX6_needs_2 : decode cX6_needs 2 = .ok (.getfield 90, 3) := by decide +kernel
theorem dX6_needs_5 : decode cX6_needs 5 = .ok (.ifCond .ne 7, 3) := by decide +kernel
theorem dX6_needs_8 : decode cX6_needs 8 = .ok (.iload_n 1, 1) := by decide +kernel
theorem dX6_needs_9 : decode cX6_needs 9 = .ok (.ifCond .ne 7, 3) := by decide +kernel
theorem dX6_needs_12 : decode cX6_needs 12 = .ok (.iconst 1, 1) := by decide +kernel
theorem dX6_needs_13 : decode cX6_needs 13 = .ok (.goto 4, 3) := by decide +kernel
theorem dX6_needs_16 : decode cX6_needs 16 = .ok (.iconst 0, 1) := by decide +kernel
theorem dX6_needs_17 : decode cX6_needs 17 = .ok (.putfield 90, 3) := by decide +kernel
theorem dX6_needs_20 : decode cX6_needs 20 = .ok (.aload_n 0, 1) := by decide +kernel
theorem dX6_needs_21 : decode cX6_needs 21 = .ok (.getfield 90, 3) := by decide +kernel
theorem dX6_needs_24 : decode cX6_needs 24 = .ok (.ifCond .ne 7, 3) := by decide +kernel
theorem dX6_needs_27 : decode cX6_needs 27 = .ok (.aload_n 0, 1) := by decide +kernel
theorem dX6_needs_28 : decode cX6_needs 28 = .ok (.invokevirtual 94, 3) := by decide +kernel
theorem dX6_needs_31 : decode cX6_needs 31 = .ok (.return_, 1) := by decide +kernel
theorem dX6_isName_0 : decode cX6_isName 0 = .ok (.aload_n 0, 1) := by decide +kernel
theorem dX6_isName_1 : decode cX6_isName 1 = .ok (.getfield 84, 3) := by decide +kernel
theorem dX6_isName_4 : decode cX6_isName 4 = .ok (.iconst 1, 1) := by decide +kernel
theorem dX6_isName_5 : decode cX6_isName 5 = .ok (.if_icmp .ne 76, 3) := by decide +kernel
theorem dX6_isName_8 : decode cX6_isName 8 = .ok (.aload_n 0, 1) := by decide +kernel
theorem dX6_isName_9 : decode cX6_isName 9 = .ok (.getfield 67, 3) := by decide +kernel
theorem dX6_isName_12 : decode cX6_isName 12 = .ok (.aload_n 0, 1) := by decide +kernel
theorem dX6_isName_13 : decode cX6_isName 13 = .ok (.getfield 70, 3) := by decide +kernel
theorem dX6_isName_16 : decode cX6_isName 16 = .ok (.isub, 1) := by decide +kernel
theorem dX6_isName_17 : decode cX6_isName 17 = .ok (.iload_n 1, 1) := by decide +kernel
theorem dX6_isName_18 : decode cX6_isName 18 = .ok (.if_icmp .ne 63, 3) := by decide +kernel
theorem dX6_isName_21 : decode cX6_isName 21 = .ok (.aload_n 0, 1) := by decide +kernel
theorem dX6_isName_22 : decode cX6_isName 22 = .ok (.aload_n 0, 1) := by decide +kernel
theorem dX6_isName_23 : decode cX6_isName 23 = .ok (.getfield 70, 3) := by decide +kernel
theorem dX6_isName_26 : decode cX6_isName 26 = .ok (.invokevirtual 73, 3) := by decide +kernel
theorem dX6_isName_29 : decode cX6_isName 29 = .ok (.iload_n 2, 1) := by decide +kernel
theorem dX6_isName_30 : decode cX6_isName 30 = .ok (.if_icmp .ne 51, 3) := by decide +kernel
theorem dX6_isName_33 : decode cX6_isName 33 = .ok (.aload_n 0, 1) := by decide +kernel
theorem dX6_isName_34 : decode cX6_isName 34 = .ok (.aload_n 0, 1) := by decide +kernel
theorem dX6_isName_35 : decode cX6_isName 35 = .ok (.getfield 70, 3) := by decide +kernel
theorem dX6_isName_38 : decode cX6_isName 38 = .ok (.iconst 1, 1) := by decide +kernel
theorem dX6_isName_39 : decode cX6_isName 39 = .ok (.iadd, 1) := by decide +kernel
theorem dX6_isName_40 : decode cX6_isName 40 = .ok (.invokevirtual 73, 3) := by decide +kernel
theorem dX6_isName_43 : decode cX6_isName 43 = .ok (.iload_n 3, 1) := by decide +kernel
theorem dX6_isName_44 : decode cX6_isName 44 = .ok (.if_icmp .ne 37, 3) := by decide +kernel
theorem dX6_isName_47 : decode cX6_isName 47 = .ok (.aload_n 0, 1) := by decide +kernel
theorem dX6_isName_48 : decode cX6_isName 48 = .ok (.aload_n 0, 1) := by decide +kernel
theorem dX6_isName_49 : decode cX6_isName 49 = .ok (.getfield 70, 3) := by decide +kernel
theorem dX6_isName_52 : decode cX6_isName 52 = .ok (.iconst 2, 1) := by decide +kernel
theorem dX6_isName_53 : decode cX6_isName 53 = .ok (.iadd, 1) := by decide +kernel
theorem dX6_isName_54 : decode cX6_isName 54 = .ok (.invokevirtual 73, 3) := by decide +kernel
theorem dX6_isName_57 : decode cX6_isName 57 = .ok (.iload 4, 2) := by decide +kernel
theorem dX6_isName_59 : decode cX6_isName 59 = .ok (.if_icmp .ne 22, 3) := by decide +kernel
theorem dX6_isName_62 : decode cX6_isName 62 = .ok (.aload_n 0, 1) := by decide +kernel
theorem dX6_isName_63 : decode cX6_isName 63 = .ok (.aload_n 0, 1) := by decide +kernel
theorem dX6_isName_64 : decode cX6_isName 64 = .ok (.getfield 67, 3) := by decide +kernel
theorem dX6_isName_67 : decode cX6_isName 67 = .ok (.iconst 1, 1) := by decide +kernel
theorem dX6_isName_68 : decode cX6_isName 68 = .ok (.isub, 1) := by decide +kernel
theorem dX6_isName_69 : decode cX6_isName 69 = .ok (.invokevirtual 73, 3) := by decide +kernel
theorem dX6_isName_72 : decode cX6_isName 72 = .ok (.iload 5, 2) := by decide +kernel
theorem dX6_isName_74 : decode cX6_isName 74 = .ok (.if_icmp .ne 7, 3) := by decide +kernel
theorem dX6_isName_77 : decode cX6_isName 77 = .ok (.iconst 1, 1) := by decide +kernel
theorem dX6_isName_78 : decode cX6_isName 78 = .ok (.goto 4, 3) := by decide +kernel
theorem dX6_isName_81 : decode cX6_isName 81 = .ok (.iconst 0, 1) := by decide +kernel
theorem dX6_isName_82 : decode cX6_isName 82 = .ok (.ireturn, 1) := by decide +kernel
theorem dX6_isSame_0 : decode cX6_isSame 0 = .ok (.aload_n 0, 1) := by decide +kernel
theorem dX6_isSame_1 : decode cX6_isSame 1 = .ok (.aload_n 0, 1) := by decide +kernel
theorem dX6_isSame_2 : decode cX6_isSame 2 = .ok (.getfield 70, 3) := by decide +kernel
theorem dX6_isSame_5 : decode cX6_isSame 5 = .ok (.iload_n 1, 1) := by decide +kernel
theorem dX6_isSame_6 : decode cX6_isSame 6 = .ok (.iadd, 1) := by decide +kernel
theorem dX6_isSame_7 : decode cX6_isSame 7 = .ok (.invokevirtual 73, 3) := by decide +kernel
theorem dX6_isSame_10 : decode cX6_isSame 10 = .ok (.iload_n 2, 1) := by decide +kernel
theorem dX6_isSame_11 : decode cX6_isSame 11 = .ok (.if_icmp .ne 40, 3) := by decide +kernel
theorem dX6_isSame_14 : decode cX6_isSame 14 = .ok (.aload_n 0, 1) := by decide +kernel
theorem dX6_isSame_15 : decode cX6_isSame 15 = .ok (.aload_n 0, 1) := by decide +kernel
theorem dX6_isSame_16 : decode cX6_isSame 16 = .ok (.getfield 70, 3) := by decide +kernel
theorem dX6_isSame_19 : decode cX6_isSame 19 = .ok (.iload_n 1, 1) := by decide +kernel
theorem dX6_isSame_20 : decode cX6_isSame 20 = .ok (.iadd, 1) := by decide +kernel
theorem dX6_isSame_21 : decode cX6_isSame 21 = .ok (.iconst 1, 1) := by decide +kernel
theorem dX6_isSame_22 : decode cX6_isSame 22 = .ok (.iadd, 1) := by decide +kernel
theorem dX6_isSame_23 : decode cX6_isSame 23 = .ok (.invokevirtual 73, 3) := by decide +kernel
theorem dX6_isSame_26 : decode cX6_isSame 26 = .ok (.iload_n 3, 1) := by decide +kernel
theorem dX6_isSame_27 : decode cX6_isSame 27 = .ok (.if_icmp .ne 24, 3) := by decide +kernel
theorem dX6_isSame_30 : decode cX6_isSame 30 = .ok (.aload_n 0, 1) := by decide +kernel
theorem dX6_isSame_31 : decode cX6_isSame 31 = .ok (.aload_n 0, 1) := by decide +kernel
theorem dX6_isSame_32 : decode cX6_isSame 32 = .ok (.getfield 70, 3) := by decide +kernel
theorem dX6_isSame_35 : decode cX6_isSame 35 = .ok (.iload_n 1, 1) := by decide +kernel
theorem dX6_isSame_36 : decode cX6_isSame 36 = .ok (.iadd, 1) := by decide +kernel
theorem dX6_isSame_37 : decode cX6_isSame 37 = .ok (.iconst 2, 1) := by decide +kernel
theorem dX6_isSame_38 : decode cX6_isSame 38 = .ok (.iadd, 1) := by decide +kernel
theorem dX6_isSame_39 : decode cX6_isSame 39 = .ok (.invokevirtual 73, 3) := by decide +kernel
theorem dX6_isSame_42 : decode cX6_isSame 42 = .ok (.iload 4, 2) := by decide +kernel
theorem dX6_isSame_44 : decode cX6_isSame 44 = .ok (.if_icmp .ne 7, 3) := by decide +kernel
theorem dX6_isSame_47 : decode cX6_isSame 47 = .ok (.iconst 1, 1) := by decide +kernel
theorem dX6_isSame_48 : decode cX6_isSame 48 = .ok (.goto 4, 3) := by decide +kernel
theorem dX6_isSame_51 : decode cX6_isSame 51 = .ok (.iconst 0, 1) := by decide +kernel
theorem dX6_isSame_52 : decode cX6_isSame 52 = .ok (.ireturn, 1) := by decide +kernel
theorem dX6_isFour_0 : decode cX6_isFour 0 = .ok (.aload_n 0, 1) := by decide +kernel
theorem dX6_isFour_1 : decode cX6_isFour 1 = .ok (.iconst 4, 1) := by decide +kernel
theorem dX6_isFour_2 : decode cX6_isFour 2 = .ok (.iload_n 1, 1) := by decide +kernel
theorem dX6_isFour_3 : decode cX6_isFour 3 = .ok (.iload_n 2, 1) := by decide +kernel
theorem dX6_isFour_4 : decode cX6_isFour 4 = .ok (.iload_n 3, 1) := by decide +kernel
theorem dX6_isFour_5 : decode cX6_isFour 5 = .ok (.iload 4, 2) := by decide +kernel
theorem dX6_isFour_7 : decode cX6_isFour 7 = .ok (.invokevirtual 97, 3) := by decide +kernel
theorem dX6_isFour_10 : decode cX6_isFour 10 = .ok (.ireturn, 1) := by decide +kernel
theorem dX6_kindHere_0 : decode cX6_kindHere 0 = .ok (.aload_n 0, 1) := by decide +kernel
theorem dX6_kindHere_1 : decode cX6_kindHere 1 = .ok (.bipush 108, 2) := by decide +kernel
theorem dX6_kindHere_3 : decode cX6_kindHere 3 = .ok (.bipush 101, 2) := by decide +kernel
theorem dX6_kindHere_5 : decode cX6_kindHere 5 = .ok (.bipush 97, 2) := by decide +kernel
theorem dX6_kindHere_7 : decode cX6_kindHere 7 = .ok (.bipush 102, 2) := by decide +kernel
theorem dX6_kindHere_9 : decode cX6_kindHere 9 = .ok (.invokevirtual 101, 3) := by decide +kernel
theorem dX6_kindHere_12 : decode cX6_kindHere 12 = .ok (.ifCond .eq 5, 3) := by decide +kernel
theorem dX6_kindHere_15 : decode cX6_kindHere 15 = .ok (.iconst 0, 1) := by decide +kernel
theorem dX6_kindHere_16 : decode cX6_kindHere 16 = .ok (.ireturn, 1) := by decide +kernel
theorem dX6_kindHere_17 : decode cX6_kindHere 17 = .ok (.aload_n 0, 1) := by decide +kernel
theorem dX6_kindHere_18 : decode cX6_kindHere 18 = .ok (.iconst 3, 1) := by decide +kernel
theorem dX6_kindHere_19 : decode cX6_kindHere 19 = .ok (.bipush 114, 2) := by decide +kernel
theorem dX6_kindHere_21 : decode cX6_kindHere 21 = .ok (.bipush 101, 2) := by decide +kernel
theorem dX6_kindHere_23 : decode cX6_kindHere 23 = .ok (.bipush 100, 2) := by decide +kernel
theorem dX6_kindHere_25 : decode cX6_kindHere 25 = .ok (.bipush 100, 2) := by decide +kernel
theorem dX6_kindHere_27 : decode cX6_kindHere 27 = .ok (.invokevirtual 97, 3) := by decide +kernel
theorem dX6_kindHere_30 : decode cX6_kindHere 30 = .ok (.ifCond .eq 5, 3) := by decide +kernel
theorem dX6_kindHere_33 : decode cX6_kindHere 33 = .ok (.iconst 1, 1) := by decide +kernel
theorem dX6_kindHere_34 : decode cX6_kindHere 34 = .ok (.ireturn, 1) := by decide +kernel
theorem dX6_kindHere_35 : decode cX6_kindHere 35 = .ok (.aload_n 0, 1) := by decide +kernel
theorem dX6_kindHere_36 : decode cX6_kindHere 36 = .ok (.bipush 6, 2) := by decide +kernel
theorem dX6_kindHere_38 : decode cX6_kindHere 38 = .ok (.bipush 121, 2) := by decide +kernel
theorem dX6_kindHere_40 : decode cX6_kindHere 40 = .ok (.bipush 101, 2) := by decide +kernel
theorem dX6_kindHere_42 : decode cX6_kindHere 42 = .ok (.bipush 108, 2) := by decide +kernel
theorem dX6_kindHere_44 : decode cX6_kindHere 44 = .ok (.bipush 119, 2) := by decide +kernel
theorem dX6_kindHere_46 : decode cX6_kindHere 46 = .ok (.invokevirtual 97, 3) := by decide +kernel
theorem dX6_kindHere_49 : decode cX6_kindHere 49 = .ok (.ifCond .eq 19, 3) := by decide +kernel
theorem dX6_kindHere_52 : decode cX6_kindHere 52 = .ok (.aload_n 0, 1) := by decide +kernel
theorem dX6_kindHere_53 : decode cX6_kindHere 53 = .ok (.iconst 2, 1) := by decide +kernel
theorem dX6_kindHere_54 : decode cX6_kindHere 54 = .ok (.bipush 108, 2) := by decide +kernel
theorem dX6_kindHere_56 : decode cX6_kindHere 56 = .ok (.bipush 108, 2) := by decide +kernel
theorem dX6_kindHere_58 : decode cX6_kindHere 58 = .ok (.bipush 111, 2) := by decide +kernel
theorem dX6_kindHere_60 : decode cX6_kindHere 60 = .ok (.invokevirtual 105, 3) := by decide +kernel
theorem dX6_kindHere_63 : decode cX6_kindHere 63 = .ok (.ifCond .eq 5, 3) := by decide +kernel
theorem dX6_kindHere_66 : decode cX6_kindHere 66 = .ok (.iconst 2, 1) := by decide +kernel
theorem dX6_kindHere_67 : decode cX6_kindHere 67 = .ok (.ireturn, 1) := by decide +kernel
theorem dX6_kindHere_68 : decode cX6_kindHere 68 = .ok (.aload_n 0, 1) := by decide +kernel
theorem dX6_kindHere_69 : decode cX6_kindHere 69 = .ok (.bipush 7, 2) := by decide +kernel
theorem dX6_kindHere_71 : decode cX6_kindHere 71 = .ok (.bipush 115, 2) := by decide +kernel
theorem dX6_kindHere_73 : decode cX6_kindHere 73 = .ok (.bipush 99, 2) := by decide +kernel
theorem dX6_kindHere_75 : decode cX6_kindHere 75 = .ok (.bipush 97, 2) := by decide +kernel
theorem dX6_kindHere_77 : decode cX6_kindHere 77 = .ok (.bipush 116, 2) := by decide +kernel
theorem dX6_kindHere_79 : decode cX6_kindHere 79 = .ok (.invokevirtual 97, 3) := by decide +kernel
theorem dX6_kindHere_82 : decode cX6_kindHere 82 = .ok (.ifCond .eq 19, 3) := by decide +kernel
theorem dX6_kindHere_85 : decode cX6_kindHere 85 = .ok (.aload_n 0, 1) := by decide +kernel
theorem dX6_kindHere_86 : decode cX6_kindHere 86 = .ok (.iconst 3, 1) := by decide +kernel
theorem dX6_kindHere_87 : decode cX6_kindHere 87 = .ok (.bipush 114, 2) := by decide +kernel
theorem dX6_kindHere_89 : decode cX6_kindHere 89 = .ok (.bipush 108, 2) := by decide +kernel
theorem dX6_kindHere_91 : decode cX6_kindHere 91 = .ok (.bipush 101, 2) := by decide +kernel
theorem dX6_kindHere_93 : decode cX6_kindHere 93 = .ok (.invokevirtual 105, 3) := by decide +kernel
theorem dX6_kindHere_96 : decode cX6_kindHere 96 = .ok (.ifCond .eq 5, 3) := by decide +kernel
theorem dX6_kindHere_99 : decode cX6_kindHere 99 = .ok (.iconst 3, 1) := by decide +kernel
theorem dX6_kindHere_100 : decode cX6_kindHere 100 = .ok (.ireturn, 1) := by decide +kernel
theorem dX6_kindHere_101 : decode cX6_kindHere 101 = .ok (.aload_n 0, 1) := by decide +kernel
theorem dX6_kindHere_102 : decode cX6_kindHere 102 = .ok (.bipush 103, 2) := by decide +kernel
theorem dX6_kindHere_104 : decode cX6_kindHere 104 = .ok (.bipush 111, 2) := by decide +kernel
theorem dX6_kindHere_106 : decode cX6_kindHere 106 = .ok (.bipush 108, 2) := by decide +kernel
theorem dX6_kindHere_108 : decode cX6_kindHere 108 = .ok (.bipush 100, 2) := by decide +kernel
theorem dX6_kindHere_110 : decode cX6_kindHere 110 = .ok (.invokevirtual 101, 3) := by decide +kernel
theorem dX6_kindHere_113 : decode cX6_kindHere 113 = .ok (.ifCond .eq 5, 3) := by decide +kernel
theorem dX6_kindHere_116 : decode cX6_kindHere 116 = .ok (.iconst 4, 1) := by decide +kernel
theorem dX6_kindHere_117 : decode cX6_kindHere 117 = .ok (.ireturn, 1) := by decide +kernel
theorem dX6_kindHere_118 : decode cX6_kindHere 118 = .ok (.aload_n 0, 1) := by decide +kernel
theorem dX6_kindHere_119 : decode cX6_kindHere 119 = .ok (.bipush 9, 2) := by decide +kernel
theorem dX6_kindHere_121 : decode cX6_kindHere 121 = .ok (.bipush 101, 2) := by decide +kernel
theorem dX6_kindHere_123 : decode cX6_kindHere 123 = .ok (.bipush 118, 2) := by decide +kernel
theorem dX6_kindHere_125 : decode cX6_kindHere 125 = .ok (.bipush 101, 2) := by decide +kernel
theorem dX6_kindHere_127 : decode cX6_kindHere 127 = .ok (.bipush 110, 2) := by decide +kernel
theorem dX6_kindHere_129 : decode cX6_kindHere 129 = .ok (.invokevirtual 97, 3) := by decide +kernel
theorem dX6_kindHere_132 : decode cX6_kindHere 132 = .ok (.ifCond .eq 35, 3) := by decide +kernel
theorem dX6_kindHere_135 : decode cX6_kindHere 135 = .ok (.aload_n 0, 1) := by decide +kernel
theorem dX6_kindHere_136 : decode cX6_kindHere 136 = .ok (.iconst 3, 1) := by decide +kernel
theorem dX6_kindHere_137 : decode cX6_kindHere 137 = .ok (.bipush 114, 2) := by decide +kernel
theorem dX6_kindHere_139 : decode cX6_kindHere 139 = .ok (.bipush 103, 2) := by decide +kernel
theorem dX6_kindHere_141 : decode cX6_kindHere 141 = .ok (.bipush 114, 2) := by decide +kernel
theorem dX6_kindHere_143 : decode cX6_kindHere 143 = .ok (.invokevirtual 105, 3) := by decide +kernel
theorem dX6_kindHere_146 : decode cX6_kindHere 146 = .ok (.ifCond .eq 21, 3) := by decide +kernel
theorem dX6_kindHere_149 : decode cX6_kindHere 149 = .ok (.aload_n 0, 1) := by decide +kernel
theorem dX6_kindHere_150 : decode cX6_kindHere 150 = .ok (.iconst 5, 1) := by decide +kernel
theorem dX6_kindHere_151 : decode cX6_kindHere 151 = .ok (.bipush 114, 2) := by decide +kernel
theorem dX6_kindHere_153 : decode cX6_kindHere 153 = .ok (.bipush 101, 2) := by decide +kernel
theorem dX6_kindHere_155 : decode cX6_kindHere 155 = .ok (.bipush 101, 2) := by decide +kernel
theorem dX6_kindHere_157 : decode cX6_kindHere 157 = .ok (.invokevirtual 105, 3) := by decide +kernel
theorem dX6_kindHere_160 : decode cX6_kindHere 160 = .ok (.ifCond .eq 7, 3) := by decide +kernel
theorem dX6_kindHere_163 : decode cX6_kindHere 163 = .ok (.iconst 5, 1) := by decide +kernel
theorem dX6_kindHere_164 : decode cX6_kindHere 164 = .ok (.goto 4, 3) := by decide +kernel
theorem dX6_kindHere_167 : decode cX6_kindHere 167 = .ok (.iconst (-1), 1) := by decide +kernel
theorem dX6_kindHere_168 : decode cX6_kindHere 168 = .ok (.ireturn, 1) := by decide +kernel
theorem dX6_numberTo_0 : decode cX6_numberTo 0 = .ok (.aload_n 0, 1) := by decide +kernel
theorem dX6_numberTo_1 : decode cX6_numberTo 1 = .ok (.getfield 84, 3) := by decide +kernel
theorem dX6_numberTo_4 : decode cX6_numberTo 4 = .ok (.iconst 2, 1) := by decide +kernel
theorem dX6_numberTo_5 : decode cX6_numberTo 5 = .ok (.if_icmp .ne 28, 3) := by decide +kernel
theorem dX6_numberTo_8 : decode cX6_numberTo 8 = .ok (.aload_n 0, 1) := by decide +kernel
theorem dX6_numberTo_9 : decode cX6_numberTo 9 = .ok (.getfield 67, 3) := by decide +kernel
theorem dX6_numberTo_12 : decode cX6_numberTo 12 = .ok (.aload_n 0, 1) := by decide +kernel
theorem dX6_numberTo_13 : decode cX6_numberTo 13 = .ok (.getfield 70, 3) := by decide +kernel
theorem dX6_numberTo_16 : decode cX6_numberTo 16 = .ok (.isub, 1) := by decide +kernel
theorem dX6_numberTo_17 : decode cX6_numberTo 17 = .ok (.iconst 3, 1) := by decide +kernel
theorem dX6_numberTo_18 : decode cX6_numberTo 18 = .ok (.if_icmp .gt 15, 3) := by decide +kernel
theorem dX6_numberTo_21 : decode cX6_numberTo 21 = .ok (.aload_n 0, 1) := by decide +kernel
theorem dX6_numberTo_22 : decode cX6_numberTo 22 = .ok (.getfield 87, 3) := by decide +kernel
theorem dX6_numberTo_25 : decode cX6_numberTo 25 = .ok (.iload_n 2, 1) := by decide +kernel
theorem dX6_numberTo_26 : decode cX6_numberTo 26 = .ok (.if_icmp .gt 7, 3) := by decide +kernel
theorem dX6_numberTo_29 : decode cX6_numberTo 29 = .ok (.iconst 1, 1) := by decide +kernel
theorem dX6_numberTo_30 : decode cX6_numberTo 30 = .ok (.goto 4, 3) := by decide +kernel
theorem dX6_numberTo_33 : decode cX6_numberTo 33 = .ok (.iconst 0, 1) := by decide +kernel
theorem dX6_numberTo_34 : decode cX6_numberTo 34 = .ok (.istore_n 3, 1) := by decide +kernel
theorem dX6_numberTo_35 : decode cX6_numberTo 35 = .ok (.iload_n 3, 1) := by decide +kernel
theorem dX6_numberTo_36 : decode cX6_numberTo 36 = .ok (.ifCond .eq 20, 3) := by decide +kernel
theorem dX6_numberTo_39 : decode cX6_numberTo 39 = .ok (.aload_n 0, 1) := by decide +kernel
theorem dX6_numberTo_40 : decode cX6_numberTo 40 = .ok (.getfield 90, 3) := by decide +kernel
theorem dX6_numberTo_43 : decode cX6_numberTo 43 = .ok (.ifCond .ne 13, 3) := by decide +kernel
theorem dX6_numberTo_46 : decode cX6_numberTo 46 = .ok (.aload_n 0, 1) := by decide +kernel
theorem dX6_numberTo_47 : decode cX6_numberTo 47 = .ok (.getfield 7, 3) := by decide +kernel
theorem dX6_numberTo_50 : decode cX6_numberTo 50 = .ok (.iload_n 1, 1) := by decide +kernel
theorem dX6_numberTo_51 : decode cX6_numberTo 51 = .ok (.aload_n 0, 1) := by decide +kernel
theorem dX6_numberTo_52 : decode cX6_numberTo 52 = .ok (.getfield 87, 3) := by decide +kernel
theorem dX6_numberTo_55 : decode cX6_numberTo 55 = .ok (.iastore, 1) := by decide +kernel
theorem dX6_numberTo_56 : decode cX6_numberTo 56 = .ok (.aload_n 0, 1) := by decide +kernel
theorem dX6_numberTo_57 : decode cX6_numberTo 57 = .ok (.iload_n 3, 1) := by decide +kernel
theorem dX6_numberTo_58 : decode cX6_numberTo 58 = .ok (.invokevirtual 108, 3) := by decide +kernel
theorem dX6_numberTo_61 : decode cX6_numberTo 61 = .ok (.return_, 1) := by decide +kernel
theorem dX6_perhaps_0 : decode cX6_perhaps 0 = .ok (.aload_n 0, 1) := by decide +kernel
theorem dX6_perhaps_1 : decode cX6_perhaps 1 = .ok (.getfield 90, 3) := by decide +kernel
theorem dX6_perhaps_4 : decode cX6_perhaps 4 = .ok (.ifCond .ne 17, 3) := by decide +kernel
theorem dX6_perhaps_7 : decode cX6_perhaps 7 = .ok (.iload_n 1, 1) := by decide +kernel
theorem dX6_perhaps_8 : decode cX6_perhaps 8 = .ok (.ifCond .eq 13, 3) := by decide +kernel
theorem dX6_perhaps_11 : decode cX6_perhaps 11 = .ok (.aload_n 0, 1) := by decide +kernel
theorem dX6_perhaps_12 : decode cX6_perhaps 12 = .ok (.invokevirtual 94, 3) := by decide +kernel
theorem dX6_perhaps_15 : decode cX6_perhaps 15 = .ok (.aload_n 0, 1) := by decide +kernel
theorem dX6_perhaps_16 : decode cX6_perhaps 16 = .ok (.iload_n 2, 1) := by decide +kernel
theorem dX6_perhaps_17 : decode cX6_perhaps 17 = .ok (.iload_n 3, 1) := by decide +kernel
theorem dX6_perhaps_18 : decode cX6_perhaps 18 = .ok (.invokevirtual 112, 3) := by decide +kernel
theorem dX6_perhaps_21 : decode cX6_perhaps 21 = .ok (.return_, 1) := by decide +kernel
theorem dX6_isTwo_0 : decode cX6_isTwo 0 = .ok (.aload_n 0, 1) := by decide +kernel
theorem dX6_isTwo_1 : decode cX6_isTwo 1 = .ok (.getfield 84, 3) := by decide +kernel
theorem dX6_isTwo_4 : decode cX6_isTwo 4 = .ok (.iconst 1, 1) := by decide +kernel
theorem dX6_isTwo_5 : decode cX6_isTwo 5 = .ok (.if_icmp .ne 46, 3) := by decide +kernel
theorem dX6_isTwo_8 : decode cX6_isTwo 8 = .ok (.aload_n 0, 1) := by decide +kernel
theorem dX6_isTwo_9 : decode cX6_isTwo 9 = .ok (.getfield 67, 3) := by decide +kernel
theorem dX6_isTwo_12 : decode cX6_isTwo 12 = .ok (.aload_n 0, 1) := by decide +kernel
theorem dX6_isTwo_13 : decode cX6_isTwo 13 = .ok (.getfield 70, 3) := by decide +kernel
theorem dX6_isTwo_16 : decode cX6_isTwo 16 = .ok (.isub, 1) := by decide +kernel
theorem dX6_isTwo_17 : decode cX6_isTwo 17 = .ok (.iconst 2, 1) := by decide +kernel
theorem dX6_isTwo_18 : decode cX6_isTwo 18 = .ok (.if_icmp .ne 33, 3) := by decide +kernel
theorem dX6_isTwo_21 : decode cX6_isTwo 21 = .ok (.aload_n 0, 1) := by decide +kernel
theorem dX6_isTwo_22 : decode cX6_isTwo 22 = .ok (.aload_n 0, 1) := by decide +kernel
theorem dX6_isTwo_23 : decode cX6_isTwo 23 = .ok (.getfield 70, 3) := by decide +kernel
theorem dX6_isTwo_26 : decode cX6_isTwo 26 = .ok (.invokevirtual 73, 3) := by decide +kernel
theorem dX6_isTwo_29 : decode cX6_isTwo 29 = .ok (.iload_n 1, 1) := by decide +kernel
theorem dX6_isTwo_30 : decode cX6_isTwo 30 = .ok (.if_icmp .ne 21, 3) := by decide +kernel
theorem dX6_isTwo_33 : decode cX6_isTwo 33 = .ok (.aload_n 0, 1) := by decide +kernel
theorem dX6_isTwo_34 : decode cX6_isTwo 34 = .ok (.aload_n 0, 1) := by decide +kernel
theorem dX6_isTwo_35 : decode cX6_isTwo 35 = .ok (.getfield 70, 3) := by decide +kernel
theorem dX6_isTwo_38 : decode cX6_isTwo 38 = .ok (.iconst 1, 1) := by decide +kernel
theorem dX6_isTwo_39 : decode cX6_isTwo 39 = .ok (.iadd, 1) := by decide +kernel
theorem dX6_isTwo_40 : decode cX6_isTwo 40 = .ok (.invokevirtual 73, 3) := by decide +kernel
theorem dX6_isTwo_43 : decode cX6_isTwo 43 = .ok (.iload_n 2, 1) := by decide +kernel
theorem dX6_isTwo_44 : decode cX6_isTwo 44 = .ok (.if_icmp .ne 7, 3) := by decide +kernel
theorem dX6_isTwo_47 : decode cX6_isTwo 47 = .ok (.iconst 1, 1) := by decide +kernel
theorem dX6_isTwo_48 : decode cX6_isTwo 48 = .ok (.goto 4, 3) := by decide +kernel
theorem dX6_isTwo_51 : decode cX6_isTwo 51 = .ok (.iconst 0, 1) := by decide +kernel
theorem dX6_isTwo_52 : decode cX6_isTwo 52 = .ok (.ireturn, 1) := by decide +kernel
theorem dX6_leafHere_0 : decode cX6_leafHere 0 = .ok (.bipush 14, 2) := by decide +kernel
theorem dX6_leafHere_2 : decode cX6_leafHere 2 = .ok (.bipush 6, 2) := by decide +kernel
theorem dX6_leafHere_4 : decode cX6_leafHere 4 = .ok (.aload_n 0, 1) := by decide +kernel
theorem dX6_leafHere_5 : decode cX6_leafHere 5 = .ok (.getfield 7, 3) := by decide +kernel
theorem dX6_leafHere_8 : decode cX6_leafHere 8 = .ok (.iconst 0, 1) := by decide +kernel
theorem dX6_leafHere_9 : decode cX6_leafHere 9 = .ok (.iaload, 1) := by decide +kernel
theorem dX6_leafHere_10 : decode cX6_leafHere 10 = .ok (.imul, 1) := by decide +kernel
theorem dX6_leafHere_11 : decode cX6_leafHere 11 = .ok (.iadd, 1) := by decide +kernel
theorem dX6_leafHere_12 : decode cX6_leafHere 12 = .ok (.istore_n 2, 1) := by decide +kernel
theorem dX6_leafHere_13 : decode cX6_leafHere 13 = .ok (.aload_n 0, 1) := by decide +kernel
theorem dX6_leafHere_14 : decode cX6_leafHere 14 = .ok (.aload_n 0, 1) := by decide +kernel
theorem dX6_leafHere_15 : decode cX6_leafHere 15 = .ok (.getfield 7, 3) := by decide +kernel
theorem dX6_leafHere_18 : decode cX6_leafHere 18 = .ok (.iconst 0, 1) := by decide +kernel
theorem dX6_leafHere_19 : decode cX6_leafHere 19 = .ok (.iaload, 1) := by decide +kernel
theorem dX6_leafHere_20 : decode cX6_leafHere 20 = .ok (.bipush 8, 2) := by decide +kernel
theorem dX6_leafHere_22 : decode cX6_leafHere 22 = .ok (.if_icmp .ge 7, 3) := by decide +kernel
theorem dX6_leafHere_25 : decode cX6_leafHere 25 = .ok (.iconst 1, 1) := by decide +kernel
theorem dX6_leafHere_26 : decode cX6_leafHere 26 = .ok (.goto 4, 3) := by decide +kernel
theorem dX6_leafHere_29 : decode cX6_leafHere 29 = .ok (.iconst 0, 1) := by decide +kernel
theorem dX6_leafHere_30 : decode cX6_leafHere 30 = .ok (.invokevirtual 108, 3) := by decide +kernel
theorem dX6_leafHere_33 : decode cX6_leafHere 33 = .ok (.aload_n 0, 1) := by decide +kernel
theorem dX6_leafHere_34 : decode cX6_leafHere 34 = .ok (.aload_n 0, 1) := by decide +kernel
theorem dX6_leafHere_35 : decode cX6_leafHere 35 = .ok (.bipush 111, 2) := by decide +kernel
theorem dX6_leafHere_37 : decode cX6_leafHere 37 = .ok (.bipush 110, 2) := by decide +kernel
theorem dX6_leafHere_39 : decode cX6_leafHere 39 = .ok (.invokevirtual 116, 3) := by decide +kernel
theorem dX6_leafHere_42 : decode cX6_leafHere 42 = .ok (.invokevirtual 108, 3) := by decide +kernel
theorem dX6_leafHere_45 : decode cX6_leafHere 45 = .ok (.aload_n 0, 1) := by decide +kernel
theorem dX6_leafHere_46 : decode cX6_leafHere 46 = .ok (.getfield 90, 3) := by decide +kernel
theorem dX6_leafHere_49 : decode cX6_leafHere 49 = .ok (.ifCond .ne 39, 3) := by decide +kernel
theorem dX6_leafHere_52 : decode cX6_leafHere 52 = .ok (.aload_n 0, 1) := by decide +kernel
theorem dX6_leafHere_53 : decode cX6_leafHere 53 = .ok (.getfield 7, 3) := by decide +kernel
theorem dX6_leafHere_56 : decode cX6_leafHere 56 = .ok (.iload_n 2, 1) := by decide +kernel
theorem dX6_leafHere_57 : decode cX6_leafHere 57 = .ok (.iload_n 1, 1) := by decide +kernel
theorem dX6_leafHere_58 : decode cX6_leafHere 58 = .ok (.iastore, 1) := by decide +kernel
theorem dX6_leafHere_59 : decode cX6_leafHere 59 = .ok (.aload_n 0, 1) := by decide +kernel
theorem dX6_leafHere_60 : decode cX6_leafHere 60 = .ok (.getfield 7, 3) := by decide +kernel
theorem dX6_leafHere_63 : decode cX6_leafHere 63 = .ok (.iload_n 2, 1) := by decide +kernel
theorem dX6_leafHere_64 : decode cX6_leafHere 64 = .ok (.iconst 2, 1) := by decide +kernel
theorem dX6_leafHere_65 : decode cX6_leafHere 65 = .ok (.iadd, 1) := by decide +kernel
theorem dX6_leafHere_66 : decode cX6_leafHere 66 = .ok (.bipush 10, 2) := by decide +kernel
theorem dX6_leafHere_68 : decode cX6_leafHere 68 = .ok (.iastore, 1) := by decide +kernel
theorem dX6_leafHere_69 : decode cX6_leafHere 69 = .ok (.aload_n 0, 1) := by decide +kernel
theorem dX6_leafHere_70 : decode cX6_leafHere 70 = .ok (.getfield 7, 3) := by decide +kernel
theorem dX6_leafHere_73 : decode cX6_leafHere 73 = .ok (.iload_n 2, 1) := by decide +kernel
theorem dX6_leafHere_74 : decode cX6_leafHere 74 = .ok (.iconst 4, 1) := by decide +kernel
theorem dX6_leafHere_75 : decode cX6_leafHere 75 = .ok (.iadd, 1) := by decide +kernel
theorem dX6_leafHere_76 : decode cX6_leafHere 76 = .ok (.iconst 1, 1) := by decide +kernel
theorem dX6_leafHere_77 : decode cX6_leafHere 77 = .ok (.iastore, 1) := by decide +kernel
theorem dX6_leafHere_78 : decode cX6_leafHere 78 = .ok (.aload_n 0, 1) := by decide +kernel
theorem dX6_leafHere_79 : decode cX6_leafHere 79 = .ok (.getfield 7, 3) := by decide +kernel
theorem dX6_leafHere_82 : decode cX6_leafHere 82 = .ok (.iconst 0, 1) := by decide +kernel
theorem dX6_leafHere_83 : decode cX6_leafHere 83 = .ok (.dup2, 1) := by decide +kernel
theorem dX6_leafHere_84 : decode cX6_leafHere 84 = .ok (.iaload, 1) := by decide +kernel
theorem dX6_leafHere_85 : decode cX6_leafHere 85 = .ok (.iconst 1, 1) := by decide +kernel
theorem dX6_leafHere_86 : decode cX6_leafHere 86 = .ok (.iadd, 1) := by decide +kernel
theorem dX6_leafHere_87 : decode cX6_leafHere 87 = .ok (.iastore, 1) := by decide +kernel
theorem dX6_leafHere_88 : decode cX6_leafHere 88 = .ok (.aload_n 0, 1) := by decide +kernel
theorem dX6_leafHere_89 : decode cX6_leafHere 89 = .ok (.aload_n 0, 1) := by decide +kernel
theorem dX6_leafHere_90 : decode cX6_leafHere 90 = .ok (.getfield 90, 3) := by decide +kernel
theorem dX6_leafHere_93 : decode cX6_leafHere 93 = .ok (.ifCond .eq 7, 3) := by decide +kernel
theorem dX6_leafHere_96 : decode cX6_leafHere 96 = .ok (.iconst 0, 1) := by decide +kernel
theorem dX6_leafHere_97 : decode cX6_leafHere 97 = .ok (.goto 6, 3) := by decide +kernel
theorem dX6_leafHere_100 : decode cX6_leafHere 100 = .ok (.iload_n 2, 1) := by decide +kernel
theorem dX6_leafHere_101 : decode cX6_leafHere 101 = .ok (.iconst 1, 1) := by decide +kernel
theorem dX6_leafHere_102 : decode cX6_leafHere 102 = .ok (.iadd, 1) := by decide +kernel
theorem dX6_leafHere_103 : decode cX6_leafHere 103 = .ok (.iconst 5, 1) := by decide +kernel
theorem dX6_leafHere_104 : decode cX6_leafHere 104 = .ok (.invokevirtual 112, 3) := by decide +kernel
theorem dX6_leafHere_107 : decode cX6_leafHere 107 = .ok (.aload_n 0, 1) := by decide +kernel
theorem dX6_leafHere_108 : decode cX6_leafHere 108 = .ok (.aload_n 0, 1) := by decide +kernel
theorem dX6_leafHere_109 : decode cX6_leafHere 109 = .ok (.bipush 104, 2) := by decide +kernel
theorem dX6_leafHere_111 : decode cX6_leafHere 111 = .ok (.bipush 111, 2) := by decide +kernel
theorem dX6_leafHere_113 : decode cX6_leafHere 113 = .ok (.bipush 108, 2) := by decide +kernel
theorem dX6_leafHere_115 : decode cX6_leafHere 115 = .ok (.bipush 100, 2) := by decide +kernel
theorem dX6_leafHere_117 : decode cX6_leafHere 117 = .ok (.invokevirtual 101, 3) := by decide +kernel
theorem dX6_leafHere_120 : decode cX6_leafHere 120 = .ok (.iload_n 2, 1) := by decide +kernel
theorem dX6_leafHere_121 : decode cX6_leafHere 121 = .ok (.iconst 2, 1) := by decide +kernel
theorem dX6_leafHere_122 : decode cX6_leafHere 122 = .ok (.iadd, 1) := by decide +kernel
theorem dX6_leafHere_123 : decode cX6_leafHere 123 = .ok (.bipush 99, 2) := by decide +kernel
theorem dX6_leafHere_125 : decode cX6_leafHere 125 = .ok (.invokevirtual 120, 3) := by decide +kernel
theorem dX6_leafHere_128 : decode cX6_leafHere 128 = .ok (.aload_n 0, 1) := by decide +kernel
theorem dX6_leafHere_129 : decode cX6_leafHere 129 = .ok (.aload_n 0, 1) := by decide +kernel
theorem dX6_leafHere_130 : decode cX6_leafHere 130 = .ok (.bipush 115, 2) := by decide +kernel
theorem dX6_leafHere_132 : decode cX6_leafHere 132 = .ok (.bipush 105, 2) := by decide +kernel
theorem dX6_leafHere_134 : decode cX6_leafHere 134 = .ok (.bipush 103, 2) := by decide +kernel
theorem dX6_leafHere_136 : decode cX6_leafHere 136 = .ok (.bipush 110, 2) := by decide +kernel
theorem dX6_leafHere_138 : decode cX6_leafHere 138 = .ok (.invokevirtual 101, 3) := by decide +kernel
theorem dX6_leafHere_141 : decode cX6_leafHere 141 = .ok (.iload_n 2, 1) := by decide +kernel
theorem dX6_leafHere_142 : decode cX6_leafHere 142 = .ok (.iconst 3, 1) := by decide +kernel
theorem dX6_leafHere_143 : decode cX6_leafHere 143 = .ok (.iadd, 1) := by decide +kernel
theorem dX6_leafHere_144 : decode cX6_leafHere 144 = .ok (.bipush 9, 2) := by decide +kernel
theorem dX6_leafHere_146 : decode cX6_leafHere 146 = .ok (.invokevirtual 120, 3) := by decide +kernel
theorem dX6_leafHere_149 : decode cX6_leafHere 149 = .ok (.return_, 1) := by decide +kernel
theorem dX6_swayHere_0 : decode cX6_swayHere 0 = .ok (.aload_n 0, 1) := by decide +kernel
theorem dX6_swayHere_1 : decode cX6_swayHere 1 = .ok (.invokevirtual 94, 3) := by decide +kernel
theorem dX6_swayHere_4 : decode cX6_swayHere 4 = .ok (.aload_n 0, 1) := by decide +kernel
theorem dX6_swayHere_5 : decode cX6_swayHere 5 = .ok (.getfield 87, 3) := by decide +kernel
theorem dX6_swayHere_8 : decode cX6_swayHere 8 = .ok (.istore_n 1, 1) := by decide +kernel
theorem dX6_swayHere_9 : decode cX6_swayHere 9 = .ok (.aload_n 0, 1) := by decide +kernel
theorem dX6_swayHere_10 : decode cX6_swayHere 10 = .ok (.aload_n 0, 1) := by decide +kernel
theorem dX6_swayHere_11 : decode cX6_swayHere 11 = .ok (.getfield 84, 3) := by decide +kernel
theorem dX6_swayHere_14 : decode cX6_swayHere 14 = .ok (.iconst 2, 1) := by decide +kernel
theorem dX6_swayHere_15 : decode cX6_swayHere 15 = .ok (.if_icmp .ne 29, 3) := by decide +kernel
theorem dX6_swayHere_18 : decode cX6_swayHere 18 = .ok (.aload_n 0, 1) := by decide +kernel
theorem dX6_swayHere_19 : decode cX6_swayHere 19 = .ok (.getfield 67, 3) := by decide +kernel
theorem dX6_swayHere_22 : decode cX6_swayHere 22 = .ok (.aload_n 0, 1) := by decide +kernel
theorem dX6_swayHere_23 : decode cX6_swayHere 23 = .ok (.getfield 70, 3) := by decide +kernel
theorem dX6_swayHere_26 : decode cX6_swayHere 26 = .ok (.isub, 1) := by decide +kernel
theorem dX6_swayHere_27 : decode cX6_swayHere 27 = .ok (.iconst 3, 1) := by decide +kernel
theorem dX6_swayHere_28 : decode cX6_swayHere 28 = .ok (.if_icmp .gt 16, 3) := by decide +kernel
theorem dX6_swayHere_31 : decode cX6_swayHere 31 = .ok (.aload_n 0, 1) := by decide +kernel
theorem dX6_swayHere_32 : decode cX6_swayHere 32 = .ok (.getfield 87, 3) := by decide +kernel
theorem dX6_swayHere_35 : decode cX6_swayHere 35 = .ok (.bipush 6, 2) := by decide +kernel
theorem dX6_swayHere_37 : decode cX6_swayHere 37 = .ok (.if_icmp .ge 7, 3) := by decide +kernel
theorem dX6_swayHere_40 : decode cX6_swayHere 40 = .ok (.iconst 1, 1) := by decide +kernel
theorem dX6_swayHere_41 : decode cX6_swayHere 41 = .ok (.goto 4, 3) := by decide +kernel
theorem dX6_swayHere_44 : decode cX6_swayHere 44 = .ok (.iconst 0, 1) := by decide +kernel
theorem dX6_swayHere_45 : decode cX6_swayHere 45 = .ok (.invokevirtual 108, 3) := by decide +kernel
theorem dX6_swayHere_48 : decode cX6_swayHere 48 = .ok (.aload_n 0, 1) := by decide +kernel
theorem dX6_swayHere_49 : decode cX6_swayHere 49 = .ok (.aload_n 0, 1) := by decide +kernel
theorem dX6_swayHere_50 : decode cX6_swayHere 50 = .ok (.bipush 105, 2) := by decide +kernel
theorem dX6_swayHere_52 : decode cX6_swayHere 52 = .ok (.bipush 115, 2) := by decide +kernel
theorem dX6_swayHere_54 : decode cX6_swayHere 54 = .ok (.invokevirtual 116, 3) := by decide +kernel
theorem dX6_swayHere_57 : decode cX6_swayHere 57 = .ok (.invokevirtual 108, 3) := by decide +kernel
theorem dX6_swayHere_60 : decode cX6_swayHere 60 = .ok (.aload_n 0, 1) := by decide +kernel
theorem dX6_swayHere_61 : decode cX6_swayHere 61 = .ok (.aload_n 0, 1) := by decide +kernel
theorem dX6_swayHere_62 : decode cX6_swayHere 62 = .ok (.getfield 90, 3) := by decide +kernel
theorem dX6_swayHere_65 : decode cX6_swayHere 65 = .ok (.ifCond .eq 7, 3) := by decide +kernel
theorem dX6_swayHere_68 : decode cX6_swayHere 68 = .ok (.iconst 0, 1) := by decide +kernel
theorem dX6_swayHere_69 : decode cX6_swayHere 69 = .ok (.goto 7, 3) := by decide +kernel
theorem dX6_swayHere_72 : decode cX6_swayHere 72 = .ok (.bipush 8, 2) := by decide +kernel
theorem dX6_swayHere_74 : decode cX6_swayHere 74 = .ok (.iload_n 1, 1) := by decide +kernel
theorem dX6_swayHere_75 : decode cX6_swayHere 75 = .ok (.iadd, 1) := by decide +kernel
theorem dX6_swayHere_76 : decode cX6_swayHere 76 = .ok (.bipush 9, 2) := by decide +kernel
theorem dX6_swayHere_78 : decode cX6_swayHere 78 = .ok (.invokevirtual 112, 3) := by decide +kernel
theorem dX6_swayHere_81 : decode cX6_swayHere 81 = .ok (.return_, 1) := by decide +kernel
theorem dX6_lawHere_0 : decode cX6_lawHere 0 = .ok (.aload_n 0, 1) := by decide +kernel
theorem dX6_lawHere_1 : decode cX6_lawHere 1 = .ok (.bipush 119, 2) := by decide +kernel
theorem dX6_lawHere_3 : decode cX6_lawHere 3 = .ok (.bipush 105, 2) := by decide +kernel
theorem dX6_lawHere_5 : decode cX6_lawHere 5 = .ok (.bipush 110, 2) := by decide +kernel
theorem dX6_lawHere_7 : decode cX6_lawHere 7 = .ok (.bipush 100, 2) := by decide +kernel
theorem dX6_lawHere_9 : decode cX6_lawHere 9 = .ok (.invokevirtual 101, 3) := by decide +kernel
theorem dX6_lawHere_12 : decode cX6_lawHere 12 = .ok (.ifCond .eq 5, 3) := by decide +kernel
theorem dX6_lawHere_15 : decode cX6_lawHere 15 = .ok (.iconst 4, 1) := by decide +kernel
theorem dX6_lawHere_16 : decode cX6_lawHere 16 = .ok (.ireturn, 1) := by decide +kernel
theorem dX6_lawHere_17 : decode cX6_lawHere 17 = .ok (.aload_n 0, 1) := by decide +kernel
theorem dX6_lawHere_18 : decode cX6_lawHere 18 = .ok (.bipush 99, 2) := by decide +kernel
theorem dX6_lawHere_20 : decode cX6_lawHere 20 = .ok (.bipush 111, 2) := by decide +kernel
theorem dX6_lawHere_22 : decode cX6_lawHere 22 = .ok (.bipush 108, 2) := by decide +kernel
theorem dX6_lawHere_24 : decode cX6_lawHere 24 = .ok (.bipush 100, 2) := by decide +kernel
theorem dX6_lawHere_26 : decode cX6_lawHere 26 = .ok (.invokevirtual 101, 3) := by decide +kernel
theorem dX6_lawHere_29 : decode cX6_lawHere 29 = .ok (.ifCond .eq 5, 3) := by decide +kernel
theorem dX6_lawHere_32 : decode cX6_lawHere 32 = .ok (.iconst 5, 1) := by decide +kernel
theorem dX6_lawHere_33 : decode cX6_lawHere 33 = .ok (.ireturn, 1) := by decide +kernel
theorem dX6_lawHere_34 : decode cX6_lawHere 34 = .ok (.aload_n 0, 1) := by decide +kernel
theorem dX6_lawHere_35 : decode cX6_lawHere 35 = .ok (.iconst 3, 1) := by decide +kernel
theorem dX6_lawHere_36 : decode cX6_lawHere 36 = .ok (.bipush 119, 2) := by decide +kernel
theorem dX6_lawHere_38 : decode cX6_lawHere 38 = .ok (.bipush 101, 2) := by decide +kernel
theorem dX6_lawHere_40 : decode cX6_lawHere 40 = .ok (.bipush 116, 2) := by decide +kernel
theorem dX6_lawHere_42 : decode cX6_lawHere 42 = .ok (.bipush 116, 2) := by decide +kernel
theorem dX6_lawHere_44 : decode cX6_lawHere 44 = .ok (.invokevirtual 97, 3) := by decide +kernel
theorem dX6_lawHere_47 : decode cX6_lawHere 47 = .ok (.ifCond .eq 6, 3) := by decide +kernel
theorem dX6_lawHere_50 : decode cX6_lawHere 50 = .ok (.bipush 6, 2) := by decide +kernel
theorem dX6_lawHere_52 : decode cX6_lawHere 52 = .ok (.ireturn, 1) := by decide +kernel
theorem dX6_lawHere_53 : decode cX6_lawHere 53 = .ok (.aload_n 0, 1) := by decide +kernel
theorem dX6_lawHere_54 : decode cX6_lawHere 54 = .ok (.bipush 103, 2) := by decide +kernel
theorem dX6_lawHere_56 : decode cX6_lawHere 56 = .ok (.bipush 97, 2) := by decide +kernel
theorem dX6_lawHere_58 : decode cX6_lawHere 58 = .ok (.bipush 108, 2) := by decide +kernel
theorem dX6_lawHere_60 : decode cX6_lawHere 60 = .ok (.bipush 101, 2) := by decide +kernel
theorem dX6_lawHere_62 : decode cX6_lawHere 62 = .ok (.invokevirtual 101, 3) := by decide +kernel
theorem dX6_lawHere_65 : decode cX6_lawHere 65 = .ok (.ifCond .eq 8, 3) := by decide +kernel
theorem dX6_lawHere_68 : decode cX6_lawHere 68 = .ok (.bipush 7, 2) := by decide +kernel
theorem dX6_lawHere_70 : decode cX6_lawHere 70 = .ok (.goto 4, 3) := by decide +kernel
theorem dX6_lawHere_73 : decode cX6_lawHere 73 = .ok (.iconst (-1), 1) := by decide +kernel
theorem dX6_lawHere_74 : decode cX6_lawHere 74 = .ok (.ireturn, 1) := by decide +kernel
theorem dX6_itemHere_0 : decode cX6_itemHere 0 = .ok (.aload_n 0, 1) := by decide +kernel
theorem dX6_itemHere_1 : decode cX6_itemHere 1 = .ok (.invokevirtual 124, 3) := by decide +kernel
theorem dX6_itemHere_4 : decode cX6_itemHere 4 = .ok (.istore_n 1, 1) := by decide +kernel
theorem dX6_itemHere_5 : decode cX6_itemHere 5 = .ok (.aload_n 0, 1) := by decide +kernel
theorem dX6_itemHere_6 : decode cX6_itemHere 6 = .ok (.invokevirtual 128, 3) := by decide +kernel
theorem dX6_itemHere_9 : decode cX6_itemHere 9 = .ok (.istore_n 2, 1) := by decide +kernel
theorem dX6_itemHere_10 : decode cX6_itemHere 10 = .ok (.iload_n 1, 1) := by decide +kernel
theorem dX6_itemHere_11 : decode cX6_itemHere 11 = .ok (.ifCond .lt 11, 3) := by decide +kernel
theorem dX6_itemHere_14 : decode cX6_itemHere 14 = .ok (.aload_n 0, 1) := by decide +kernel
theorem dX6_itemHere_15 : decode cX6_itemHere 15 = .ok (.iload_n 1, 1) := by decide +kernel
theorem dX6_itemHere_16 : decode cX6_itemHere 16 = .ok (.invokevirtual 131, 3) := by decide +kernel
theorem dX6_itemHere_19 : decode cX6_itemHere 19 = .ok (.goto 59, 3) := by decide +kernel
theorem dX6_itemHere_22 : decode cX6_itemHere 22 = .ok (.iload_n 2, 1) := by decide +kernel
theorem dX6_itemHere_23 : decode cX6_itemHere 23 = .ok (.ifCond .lt 28, 3) := by decide +kernel
theorem dX6_itemHere_26 : decode cX6_itemHere 26 = .ok (.aload_n 0, 1) := by decide +kernel
theorem dX6_itemHere_27 : decode cX6_itemHere 27 = .ok (.invokevirtual 94, 3) := by decide +kernel
theorem dX6_itemHere_30 : decode cX6_itemHere 30 = .ok (.aload_n 0, 1) := by decide +kernel
theorem dX6_itemHere_31 : decode cX6_itemHere 31 = .ok (.iload_n 2, 1) := by decide +kernel
theorem dX6_itemHere_32 : decode cX6_itemHere 32 = .ok (.iload_n 2, 1) := by decide +kernel
theorem dX6_itemHere_33 : decode cX6_itemHere 33 = .ok (.bipush 7, 2) := by decide +kernel
theorem dX6_itemHere_35 : decode cX6_itemHere 35 = .ok (.if_icmp .ne 8, 3) := by decide +kernel
theorem dX6_itemHere_38 : decode cX6_itemHere 38 = .ok (.bipush 99, 2) := by decide +kernel
theorem dX6_itemHere_40 : decode cX6_itemHere 40 = .ok (.goto 5, 3) := by decide +kernel
theorem dX6_itemHere_43 : decode cX6_itemHere 43 = .ok (.bipush 9, 2) := by decide +kernel
theorem dX6_itemHere_45 : decode cX6_itemHere 45 = .ok (.invokevirtual 112, 3) := by decide +kernel
theorem dX6_itemHere_48 : decode cX6_itemHere 48 = .ok (.goto 30, 3) := by decide +kernel
theorem dX6_itemHere_51 : decode cX6_itemHere 51 = .ok (.aload_n 0, 1) := by decide +kernel
theorem dX6_itemHere_52 : decode cX6_itemHere 52 = .ok (.bipush 115, 2) := by decide +kernel
theorem dX6_itemHere_54 : decode cX6_itemHere 54 = .ok (.bipush 119, 2) := by decide +kernel
theorem dX6_itemHere_56 : decode cX6_itemHere 56 = .ok (.bipush 97, 2) := by decide +kernel
theorem dX6_itemHere_58 : decode cX6_itemHere 58 = .ok (.bipush 121, 2) := by decide +kernel
theorem dX6_itemHere_60 : decode cX6_itemHere 60 = .ok (.invokevirtual 101, 3) := by decide +kernel
theorem dX6_itemHere_63 : decode cX6_itemHere 63 = .ok (.ifCond .eq 10, 3) := by decide +kernel
theorem dX6_itemHere_66 : decode cX6_itemHere 66 = .ok (.aload_n 0, 1) := by decide +kernel
theorem dX6_itemHere_67 : decode cX6_itemHere 67 = .ok (.invokevirtual 135, 3) := by decide +kernel
theorem dX6_itemHere_70 : decode cX6_itemHere 70 = .ok (.goto 8, 3) := by decide +kernel
theorem dX6_itemHere_73 : decode cX6_itemHere 73 = .ok (.aload_n 0, 1) := by decide +kernel
theorem dX6_itemHere_74 : decode cX6_itemHere 74 = .ok (.iconst 0, 1) := by decide +kernel
theorem dX6_itemHere_75 : decode cX6_itemHere 75 = .ok (.invokevirtual 108, 3) := by decide +kernel
theorem dX6_itemHere_78 : decode cX6_itemHere 78 = .ok (.aload_n 0, 1) := by decide +kernel
theorem dX6_itemHere_79 : decode cX6_itemHere 79 = .ok (.aload_n 0, 1) := by decide +kernel
theorem dX6_itemHere_80 : decode cX6_itemHere 80 = .ok (.getfield 84, 3) := by decide +kernel
theorem dX6_itemHere_83 : decode cX6_itemHere 83 = .ok (.iconst 3, 1) := by decide +kernel
theorem dX6_itemHere_84 : decode cX6_itemHere 84 = .ok (.if_icmp .ne 20, 3) := by decide +kernel
theorem dX6_itemHere_87 : decode cX6_itemHere 87 = .ok (.aload_n 0, 1) := by decide +kernel
theorem dX6_itemHere_88 : decode cX6_itemHere 88 = .ok (.aload_n 0, 1) := by decide +kernel
theorem dX6_itemHere_89 : decode cX6_itemHere 89 = .ok (.getfield 70, 3) := by decide +kernel
theorem dX6_itemHere_92 : decode cX6_itemHere 92 = .ok (.invokevirtual 73, 3) := by decide +kernel
theorem dX6_itemHere_95 : decode cX6_itemHere 95 = .ok (.bipush 59, 2) := by decide +kernel
theorem dX6_itemHere_97 : decode cX6_itemHere 97 = .ok (.if_icmp .ne 7, 3) := by decide +kernel
theorem dX6_itemHere_100 : decode cX6_itemHere 100 = .ok (.iconst 1, 1) := by decide +kernel
theorem dX6_itemHere_101 : decode cX6_itemHere 101 = .ok (.goto 4, 3) := by decide +kernel
theorem dX6_itemHere_104 : decode cX6_itemHere 104 = .ok (.iconst 0, 1) := by decide +kernel
theorem dX6_itemHere_105 : decode cX6_itemHere 105 = .ok (.invokevirtual 108, 3) := by decide +kernel
theorem dX6_itemHere_108 : decode cX6_itemHere 108 = .ok (.return_, 1) := by decide +kernel
theorem dX6_autumn_0 : decode cX6_autumn 0 = .ok (.aload_n 0, 1) := by decide +kernel
theorem dX6_autumn_1 : decode cX6_autumn 1 = .ok (.getfield 7, 3) := by decide +kernel
theorem dX6_autumn_4 : decode cX6_autumn 4 = .ok (.aload_n 0, 1) := by decide +kernel
theorem dX6_autumn_5 : decode cX6_autumn 5 = .ok (.getfield 19, 3) := by decide +kernel
theorem dX6_autumn_8 : decode cX6_autumn 8 = .ok (.invokestatic 138, 3) := by decide +kernel
theorem dX6_autumn_11 : decode cX6_autumn 11 = .ok (.aload_n 0, 1) := by decide +kernel
theorem dX6_autumn_12 : decode cX6_autumn 12 = .ok (.invokevirtual 52, 3) := by decide +kernel
theorem dX6_autumn_15 : decode cX6_autumn 15 = .ok (.aload_n 0, 1) := by decide +kernel
theorem dX6_autumn_16 : decode cX6_autumn 16 = .ok (.iconst 0, 1) := by decide +kernel
theorem dX6_autumn_17 : decode cX6_autumn 17 = .ok (.putfield 67, 3) := by decide +kernel
theorem dX6_autumn_20 : decode cX6_autumn 20 = .ok (.aload_n 0, 1) := by decide +kernel
theorem dX6_autumn_21 : decode cX6_autumn 21 = .ok (.iconst 0, 1) := by decide +kernel
theorem dX6_autumn_22 : decode cX6_autumn 22 = .ok (.putfield 90, 3) := by decide +kernel
theorem dX6_autumn_25 : decode cX6_autumn 25 = .ok (.aload_n 0, 1) := by decide +kernel
theorem dX6_autumn_26 : decode cX6_autumn 26 = .ok (.invokevirtual 94, 3) := by decide +kernel
theorem dX6_autumn_29 : decode cX6_autumn 29 = .ok (.aload_n 0, 1) := by decide +kernel
theorem dX6_autumn_30 : decode cX6_autumn 30 = .ok (.getfield 90, 3) := by decide +kernel
theorem dX6_autumn_33 : decode cX6_autumn 33 = .ok (.ifCond .ne 17, 3) := by decide +kernel
theorem dX6_autumn_36 : decode cX6_autumn 36 = .ok (.aload_n 0, 1) := by decide +kernel
theorem dX6_autumn_37 : decode cX6_autumn 37 = .ok (.getfield 84, 3) := by decide +kernel
theorem dX6_autumn_40 : decode cX6_autumn 40 = .ok (.ifCond .eq 10, 3) := by decide +kernel
theorem dX6_autumn_43 : decode cX6_autumn 43 = .ok (.aload_n 0, 1) := by decide +kernel
theorem dX6_autumn_44 : decode cX6_autumn 44 = .ok (.invokevirtual 142, 3) := by decide +kernel
theorem dX6_autumn_47 : decode cX6_autumn 47 = .ok (.goto (-18), 3) := by decide +kernel
theorem dX6_autumn_50 : decode cX6_autumn 50 = .ok (.aload_n 0, 1) := by decide +kernel
theorem dX6_autumn_51 : decode cX6_autumn 51 = .ok (.iconst 0, 1) := by decide +kernel
theorem dX6_autumn_52 : decode cX6_autumn 52 = .ok (.putfield 61, 3) := by decide +kernel
theorem dX6_autumn_55 : decode cX6_autumn 55 = .ok (.aload_n 0, 1) := by decide +kernel
theorem dX6_autumn_56 : decode cX6_autumn 56 = .ok (.getfield 90, 3) := by decide +kernel
theorem dX6_autumn_59 : decode cX6_autumn 59 = .ok (.ifCond .eq 22, 3) := by decide +kernel
theorem dX6_autumn_62 : decode cX6_autumn 62 = .ok (.aload_n 0, 1) := by decide +kernel
theorem dX6_autumn_63 : decode cX6_autumn 63 = .ok (.getfield 19, 3) := by decide +kernel
theorem dX6_autumn_66 : decode cX6_autumn 66 = .ok (.aload_n 0, 1) := by decide +kernel
theorem dX6_autumn_67 : decode cX6_autumn 67 = .ok (.getfield 7, 3) := by decide +kernel
theorem dX6_autumn_70 : decode cX6_autumn 70 = .ok (.invokestatic 138, 3) := by decide +kernel
theorem dX6_autumn_73 : decode cX6_autumn 73 = .ok (.bipush (-100), 2) := by decide +kernel
theorem dX6_autumn_75 : decode cX6_autumn 75 = .ok (.aload_n 0, 1) := by decide +kernel
theorem dX6_autumn_76 : decode cX6_autumn 76 = .ok (.getfield 70, 3) := by decide +kernel
theorem dX6_autumn_79 : decode cX6_autumn 79 = .ok (.isub, 1) := by decide +kernel
theorem dX6_autumn_80 : decode cX6_autumn 80 = .ok (.ireturn, 1) := by decide +kernel
theorem dX6_autumn_81 : decode cX6_autumn 81 = .ok (.aload_n 0, 1) := by decide +kernel
theorem dX6_autumn_82 : decode cX6_autumn 82 = .ok (.iconst 0, 1) := by decide +kernel
theorem dX6_autumn_83 : decode cX6_autumn 83 = .ok (.putfield 145, 3) := by decide +kernel
theorem dX6_autumn_86 : decode cX6_autumn 86 = .ok (.aload_n 0, 1) := by decide +kernel
theorem dX6_autumn_87 : decode cX6_autumn 87 = .ok (.getfield 7, 3) := by decide +kernel
theorem dX6_autumn_90 : decode cX6_autumn 90 = .ok (.iconst 0, 1) := by decide +kernel
theorem dX6_autumn_91 : decode cX6_autumn 91 = .ok (.iaload, 1) := by decide +kernel
theorem dX6_autumn_92 : decode cX6_autumn 92 = .ok (.ireturn, 1) := by decide +kernel
theorem dX6_set_0 : decode cX6_set 0 = .ok (.iload_n 1, 1) := by decide +kernel
theorem dX6_set_1 : decode cX6_set 1 = .ok (.i2l, 1) := by decide +kernel
theorem dX6_set_2 : decode cX6_set 2 = .ok (.lconst 0, 1) := by decide +kernel
theorem dX6_set_3 : decode cX6_set 3 = .ok (.ldc2_w 148, 3) := by decide +kernel
theorem dX6_set_6 : decode cX6_set 6 = .ok (.invokestatic 57, 3) := by decide +kernel
theorem dX6_set_9 : decode cX6_set 9 = .ok (.ifCond .eq 37, 3) := by decide +kernel
theorem dX6_set_12 : decode cX6_set 12 = .ok (.iload_n 2, 1) := by decide +kernel
theorem dX6_set_13 : decode cX6_set 13 = .ok (.i2l, 1) := by decide +kernel
theorem dX6_set_14 : decode cX6_set 14 = .ok (.lconst 0, 1) := by decide +kernel
theorem dX6_set_15 : decode cX6_set 15 = .ok (.iload_n 1, 1) := by decide +kernel
theorem dX6_set_16 : decode cX6_set 16 = .ok (.iconst 3, 1) := by decide +kernel
theorem dX6_set_17 : decode cX6_set 17 = .ok (.if_icmp .ne 9, 3) := by decide +kernel
theorem dX6_set_20 : decode cX6_set 20 = .ok (.ldc2_w 150, 3) := by decide +kernel
theorem dX6_set_23 : decode cX6_set 23 = .ok (.goto 6, 3) := by decide +kernel
theorem dX6_set_26 : decode cX6_set 26 = .ok (.ldc2_w 152, 3) := by decide +kernel
theorem dX6_set_29 : decode cX6_set 29 = .ok (.invokestatic 57, 3) := by decide +kernel
theorem dX6_set_32 : decode cX6_set 32 = .ok (.ifCond .eq 14, 3) := by decide +kernel
theorem dX6_set_35 : decode cX6_set 35 = .ok (.aload_n 0, 1) := by decide +kernel
theorem dX6_set_36 : decode cX6_set 36 = .ok (.iconst 4, 1) := by decide +kernel
theorem dX6_set_37 : decode cX6_set 37 = .ok (.iload_n 1, 1) := by decide +kernel
theorem dX6_set_38 : decode cX6_set 38 = .ok (.iadd, 1) := by decide +kernel
theorem dX6_set_39 : decode cX6_set 39 = .ok (.iload_n 2, 1) := by decide +kernel
theorem dX6_set_40 : decode cX6_set 40 = .ok (.invokevirtual 154, 3) := by decide +kernel
theorem dX6_set_43 : decode cX6_set 43 = .ok (.goto 4, 3) := by decide +kernel
theorem dX6_set_46 : decode cX6_set 46 = .ok (.iconst (-1), 1) := by decide +kernel
theorem dX6_set_47 : decode cX6_set 47 = .ok (.ireturn, 1) := by decide +kernel
theorem dX6_lawOf_0 : decode cX6_lawOf 0 = .ok (.iload_n 1, 1) := by decide +kernel
theorem dX6_lawOf_1 : decode cX6_lawOf 1 = .ok (.i2l, 1) := by decide +kernel
theorem dX6_lawOf_2 : decode cX6_lawOf 2 = .ok (.lconst 0, 1) := by decide +kernel
theorem dX6_lawOf_3 : decode cX6_lawOf 3 = .ok (.ldc2_w 148, 3) := by decide +kernel
theorem dX6_lawOf_6 : decode cX6_lawOf 6 = .ok (.invokestatic 57, 3) := by decide +kernel
theorem dX6_lawOf_9 : decode cX6_lawOf 9 = .ok (.ifCond .eq 14, 3) := by decide +kernel
theorem dX6_lawOf_12 : decode cX6_lawOf 12 = .ok (.aload_n 0, 1) := by decide +kernel
theorem dX6_lawOf_13 : decode cX6_lawOf 13 = .ok (.getfield 7, 3) := by decide +kernel
theorem dX6_lawOf_16 : decode cX6_lawOf 16 = .ok (.iconst 4, 1) := by decide +kernel
theorem dX6_lawOf_17 : decode cX6_lawOf 17 = .ok (.iload_n 1, 1) := by decide +kernel
theorem dX6_lawOf_18 : decode cX6_lawOf 18 = .ok (.iadd, 1) := by decide +kernel
theorem dX6_lawOf_19 : decode cX6_lawOf 19 = .ok (.iaload, 1) := by decide +kernel
theorem dX6_lawOf_20 : decode cX6_lawOf 20 = .ok (.goto 4, 3) := by decide +kernel
theorem dX6_lawOf_23 : decode cX6_lawOf 23 = .ok (.iconst (-1), 1) := by decide +kernel
theorem dX6_lawOf_24 : decode cX6_lawOf 24 = .ok (.ireturn, 1) := by decide +kernel
theorem dX6_leaf_0 : decode cX6_leaf 0 = .ok (.iload_n 1, 1) := by decide +kernel
theorem dX6_leaf_1 : decode cX6_leaf 1 = .ok (.i2l, 1) := by decide +kernel
theorem dX6_leaf_2 : decode cX6_leaf 2 = .ok (.lconst 0, 1) := by decide +kernel
theorem dX6_leaf_3 : decode cX6_leaf 3 = .ok (.ldc2_w 158, 3) := by decide +kernel
theorem dX6_leaf_6 : decode cX6_leaf 6 = .ok (.invokestatic 57, 3) := by decide +kernel
theorem dX6_leaf_9 : decode cX6_leaf 9 = .ok (.ifCond .eq 35, 3) := by decide +kernel
theorem dX6_leaf_12 : decode cX6_leaf 12 = .ok (.iload_n 2, 1) := by decide +kernel
theorem dX6_leaf_13 : decode cX6_leaf 13 = .ok (.invokestatic 160, 3) := by decide +kernel
theorem dX6_leaf_16 : decode cX6_leaf 16 = .ok (.ifCond .eq 28, 3) := by decide +kernel
theorem dX6_leaf_19 : decode cX6_leaf 19 = .ok (.iload_n 3, 1) := by decide +kernel
theorem dX6_leaf_20 : decode cX6_leaf 20 = .ok (.i2l, 1) := by decide +kernel
theorem dX6_leaf_21 : decode cX6_leaf 21 = .ok (.lconst 0, 1) := by decide +kernel
theorem dX6_leaf_22 : decode cX6_leaf 22 = .ok (.ldc2_w 150, 3) := by decide +kernel
theorem dX6_leaf_25 : decode cX6_leaf 25 = .ok (.invokestatic 57, 3) := by decide +kernel
theorem dX6_leaf_28 : decode cX6_leaf 28 = .ok (.ifCond .eq 16, 3) := by decide +kernel
theorem dX6_leaf_31 : decode cX6_leaf 31 = .ok (.iload 4, 2) := by decide +kernel
theorem dX6_leaf_33 : decode cX6_leaf 33 = .ok (.i2l, 1) := by decide +kernel
theorem dX6_leaf_34 : decode cX6_leaf 34 = .ok (.lconst 0, 1) := by decide +kernel
theorem dX6_leaf_35 : decode cX6_leaf 35 = .ok (.ldc2_w 152, 3) := by decide +kernel
theorem dX6_leaf_38 : decode cX6_leaf 38 = .ok (.invokestatic 57, 3) := by decide +kernel
theorem dX6_leaf_41 : decode cX6_leaf 41 = .ok (.ifCond .ne 5, 3) := by decide +kernel
theorem dX6_leaf_44 : decode cX6_leaf 44 = .ok (.iconst (-1), 1) := by decide +kernel
theorem dX6_leaf_45 : decode cX6_leaf 45 = .ok (.ireturn, 1) := by decide +kernel
theorem dX6_leaf_46 : decode cX6_leaf 46 = .ok (.aload_n 0, 1) := by decide +kernel
theorem dX6_leaf_47 : decode cX6_leaf 47 = .ok (.getfield 7, 3) := by decide +kernel
theorem dX6_leaf_50 : decode cX6_leaf 50 = .ok (.iconst 0, 1) := by decide +kernel
theorem dX6_leaf_51 : decode cX6_leaf 51 = .ok (.iaload, 1) := by decide +kernel
theorem dX6_leaf_52 : decode cX6_leaf 52 = .ok (.bipush 8, 2) := by decide +kernel
theorem dX6_leaf_54 : decode cX6_leaf 54 = .ok (.if_icmp .ne 6, 3) := by decide +kernel
theorem dX6_leaf_57 : decode cX6_leaf 57 = .ok (.bipush (-2), 2) := by decide +kernel
theorem dX6_leaf_59 : decode cX6_leaf 59 = .ok (.ireturn, 1) := by decide +kernel
theorem dX6_leaf_60 : decode cX6_leaf 60 = .ok (.bipush 14, 2) := by decide +kernel
theorem dX6_leaf_62 : decode cX6_leaf 62 = .ok (.bipush 6, 2) := by decide +kernel
theorem dX6_leaf_64 : decode cX6_leaf 64 = .ok (.aload_n 0, 1) := by decide +kernel
theorem dX6_leaf_65 : decode cX6_leaf 65 = .ok (.getfield 7, 3) := by decide +kernel
theorem dX6_leaf_68 : decode cX6_leaf 68 = .ok (.iconst 0, 1) := by decide +kernel
theorem dX6_leaf_69 : decode cX6_leaf 69 = .ok (.iaload, 1) := by decide +kernel
theorem dX6_leaf_70 : decode cX6_leaf 70 = .ok (.imul, 1) := by decide +kernel
theorem dX6_leaf_71 : decode cX6_leaf 71 = .ok (.iadd, 1) := by decide +kernel
theorem dX6_leaf_72 : decode cX6_leaf 72 = .ok (.istore 5, 2) := by decide +kernel
theorem dX6_leaf_74 : decode cX6_leaf 74 = .ok (.aload_n 0, 1) := by decide +kernel
theorem dX6_leaf_75 : decode cX6_leaf 75 = .ok (.getfield 7, 3) := by decide +kernel
theorem dX6_leaf_78 : decode cX6_leaf 78 = .ok (.iload 5, 2) := by decide +kernel
theorem dX6_leaf_80 : decode cX6_leaf 80 = .ok (.iload_n 1, 1) := by decide +kernel
theorem dX6_leaf_81 : decode cX6_leaf 81 = .ok (.iastore, 1) := by decide +kernel
theorem dX6_leaf_82 : decode cX6_leaf 82 = .ok (.aload_n 0, 1) := by decide +kernel
theorem dX6_leaf_83 : decode cX6_leaf 83 = .ok (.getfield 7, 3) := by decide +kernel
theorem dX6_leaf_86 : decode cX6_leaf 86 = .ok (.iload 5, 2) := by decide +kernel
theorem dX6_leaf_88 : decode cX6_leaf 88 = .ok (.iconst 1, 1) := by decide +kernel
theorem dX6_leaf_89 : decode cX6_leaf 89 = .ok (.iadd, 1) := by decide +kernel
theorem dX6_leaf_90 : decode cX6_leaf 90 = .ok (.iload_n 2, 1) := by decide +kernel
theorem dX6_leaf_91 : decode cX6_leaf 91 = .ok (.iastore, 1) := by decide +kernel
theorem dX6_leaf_92 : decode cX6_leaf 92 = .ok (.aload_n 0, 1) := by decide +kernel
theorem dX6_leaf_93 : decode cX6_leaf 93 = .ok (.getfield 7, 3) := by decide +kernel
theorem dX6_leaf_96 : decode cX6_leaf 96 = .ok (.iload 5, 2) := by decide +kernel
theorem dX6_leaf_98 : decode cX6_leaf 98 = .ok (.iconst 2, 1) := by decide +kernel
theorem dX6_leaf_99 : decode cX6_leaf 99 = .ok (.iadd, 1) := by decide +kernel
theorem dX6_leaf_100 : decode cX6_leaf 100 = .ok (.iload_n 3, 1) := by decide +kernel
theorem dX6_leaf_101 : decode cX6_leaf 101 = .ok (.iastore, 1) := by decide +kernel
theorem dX6_leaf_102 : decode cX6_leaf 102 = .ok (.aload_n 0, 1) := by decide +kernel
theorem dX6_leaf_103 : decode cX6_leaf 103 = .ok (.getfield 7, 3) := by decide +kernel
theorem dX6_leaf_106 : decode cX6_leaf 106 = .ok (.iload 5, 2) := by decide +kernel
theorem dX6_leaf_108 : decode cX6_leaf 108 = .ok (.iconst 3, 1) := by decide +kernel
theorem dX6_leaf_109 : decode cX6_leaf 109 = .ok (.iadd, 1) := by decide +kernel
theorem dX6_leaf_110 : decode cX6_leaf 110 = .ok (.iload 4, 2) := by decide +kernel
theorem dX6_leaf_112 : decode cX6_leaf 112 = .ok (.iastore, 1) := by decide +kernel
theorem dX6_leaf_113 : decode cX6_leaf 113 = .ok (.aload_n 0, 1) := by decide +kernel
theorem dX6_leaf_114 : decode cX6_leaf 114 = .ok (.getfield 7, 3) := by decide +kernel
theorem dX6_leaf_117 : decode cX6_leaf 117 = .ok (.iload 5, 2) := by decide +kernel
theorem dX6_leaf_119 : decode cX6_leaf 119 = .ok (.iconst 4, 1) := by decide +kernel
theorem dX6_leaf_120 : decode cX6_leaf 120 = .ok (.iadd, 1) := by decide +kernel
theorem dX6_leaf_121 : decode cX6_leaf 121 = .ok (.iconst 1, 1) := by decide +kernel
theorem dX6_leaf_122 : decode cX6_leaf 122 = .ok (.iastore, 1) := by decide +kernel
theorem dX6_leaf_123 : decode cX6_leaf 123 = .ok (.aload_n 0, 1) := by decide +kernel
theorem dX6_leaf_124 : decode cX6_leaf 124 = .ok (.getfield 7, 3) := by decide +kernel
theorem dX6_leaf_127 : decode cX6_leaf 127 = .ok (.iload 5, 2) := by decide +kernel
theorem dX6_leaf_129 : decode cX6_leaf 129 = .ok (.iconst 5, 1) := by decide +kernel
theorem dX6_leaf_130 : decode cX6_leaf 130 = .ok (.iadd, 1) := by decide +kernel
theorem dX6_leaf_131 : decode cX6_leaf 131 = .ok (.iconst 0, 1) := by decide +kernel
theorem dX6_leaf_132 : decode cX6_leaf 132 = .ok (.iastore, 1) := by decide +kernel
theorem dX6_leaf_133 : decode cX6_leaf 133 = .ok (.aload_n 0, 1) := by decide +kernel
theorem dX6_leaf_134 : decode cX6_leaf 134 = .ok (.getfield 7, 3) := by decide +kernel
theorem dX6_leaf_137 : decode cX6_leaf 137 = .ok (.iconst 0, 1) := by decide +kernel
theorem dX6_leaf_138 : decode cX6_leaf 138 = .ok (.dup2, 1) := by decide +kernel
theorem dX6_leaf_139 : decode cX6_leaf 139 = .ok (.iaload, 1) := by decide +kernel
theorem dX6_leaf_140 : decode cX6_leaf 140 = .ok (.iconst 1, 1) := by decide +kernel
theorem dX6_leaf_141 : decode cX6_leaf 141 = .ok (.iadd, 1) := by decide +kernel
theorem dX6_leaf_142 : decode cX6_leaf 142 = .ok (.iastore, 1) := by decide +kernel
theorem dX6_leaf_143 : decode cX6_leaf 143 = .ok (.aload_n 0, 1) := by decide +kernel
theorem dX6_leaf_144 : decode cX6_leaf 144 = .ok (.getfield 7, 3) := by decide +kernel
theorem dX6_leaf_147 : decode cX6_leaf 147 = .ok (.iconst 0, 1) := by decide +kernel
theorem dX6_leaf_148 : decode cX6_leaf 148 = .ok (.iaload, 1) := by decide +kernel
theorem dX6_leaf_149 : decode cX6_leaf 149 = .ok (.iconst 1, 1) := by decide +kernel
theorem dX6_leaf_150 : decode cX6_leaf 150 = .ok (.isub, 1) := by decide +kernel
theorem dX6_leaf_151 : decode cX6_leaf 151 = .ok (.ireturn, 1) := by decide +kernel
theorem dX6_hangingOn_0 : decode cX6_hangingOn 0 = .ok (.iconst 0, 1) := by decide +kernel
theorem dX6_hangingOn_1 : decode cX6_hangingOn 1 = .ok (.istore_n 2, 1) := by decide +kernel
theorem dX6_hangingOn_2 : decode cX6_hangingOn 2 = .ok (.iconst 0, 1) := by decide +kernel
theorem dX6_hangingOn_3 : decode cX6_hangingOn 3 = .ok (.istore_n 3, 1) := by decide +kernel
theorem dX6_hangingOn_4 : decode cX6_hangingOn 4 = .ok (.iload_n 3, 1) := by decide +kernel
theorem dX6_hangingOn_5 : decode cX6_hangingOn 5 = .ok (.aload_n 0, 1) := by decide +kernel
theorem dX6_hangingOn_6 : decode cX6_hangingOn 6 = .ok (.getfield 7, 3) := by decide +kernel
theorem dX6_hangingOn_9 : decode cX6_hangingOn 9 = .ok (.iconst 0, 1) := by decide +kernel
theorem dX6_hangingOn_10 : decode cX6_hangingOn 10 = .ok (.iaload, 1) := by decide +kernel
theorem dX6_hangingOn_11 : decode cX6_hangingOn 11 = .ok (.if_icmp .ge 39, 3) := by decide +kernel
theorem dX6_hangingOn_14 : decode cX6_hangingOn 14 = .ok (.iload_n 2, 1) := by decide +kernel
theorem dX6_hangingOn_15 : decode cX6_hangingOn 15 = .ok (.aload_n 0, 1) := by decide +kernel
theorem dX6_hangingOn_16 : decode cX6_hangingOn 16 = .ok (.iload_n 3, 1) := by decide +kernel
theorem dX6_hangingOn_17 : decode cX6_hangingOn 17 = .ok (.iconst 4, 1) := by decide +kernel
theorem dX6_hangingOn_18 : decode cX6_hangingOn 18 = .ok (.invokevirtual 163, 3) := by decide +kernel
theorem dX6_hangingOn_21 : decode cX6_hangingOn 21 = .ok (.iconst 1, 1) := by decide +kernel
theorem dX6_hangingOn_22 : decode cX6_hangingOn 22 = .ok (.if_icmp .ne 19, 3) := by decide +kernel
theorem dX6_hangingOn_25 : decode cX6_hangingOn 25 = .ok (.aload_n 0, 1) := by decide +kernel
theorem dX6_hangingOn_26 : decode cX6_hangingOn 26 = .ok (.iload_n 3, 1) := by decide +kernel
theorem dX6_hangingOn_27 : decode cX6_hangingOn 27 = .ok (.iconst 1, 1) := by decide +kernel
theorem dX6_hangingOn_28 : decode cX6_hangingOn 28 = .ok (.invokevirtual 163, 3) := by decide +kernel
theorem dX6_hangingOn_31 : decode cX6_hangingOn 31 = .ok (.iload_n 1, 1) := by decide +kernel
theorem dX6_hangingOn_32 : decode cX6_hangingOn 32 = .ok (.if_icmp .ne 9, 3) := by decide +kernel
theorem dX6_hangingOn_35 : decode cX6_hangingOn 35 = .ok (.iconst 1, 1) := by decide +kernel
theorem dX6_hangingOn_36 : decode cX6_hangingOn 36 = .ok (.iload_n 3, 1) := by decide +kernel
theorem dX6_hangingOn_37 : decode cX6_hangingOn 37 = .ok (.ishl, 1) := by decide +kernel
theorem dX6_hangingOn_38 : decode cX6_hangingOn 38 = .ok (.goto 4, 3) := by decide +kernel
theorem dX6_hangingOn_41 : decode cX6_hangingOn 41 = .ok (.iconst 0, 1) := by decide +kernel
theorem dX6_hangingOn_42 : decode cX6_hangingOn 42 = .ok (.ior, 1) := by decide +kernel
theorem dX6_hangingOn_43 : decode cX6_hangingOn 43 = .ok (.istore_n 2, 1) := by decide +kernel
theorem dX6_hangingOn_44 : decode cX6_hangingOn 44 = .ok (.iinc 3 1, 3) := by decide +kernel
theorem dX6_hangingOn_47 : decode cX6_hangingOn 47 = .ok (.goto (-43), 3) := by decide +kernel
theorem dX6_hangingOn_50 : decode cX6_hangingOn 50 = .ok (.iload_n 2, 1) := by decide +kernel
theorem dX6_hangingOn_51 : decode cX6_hangingOn 51 = .ok (.ireturn, 1) := by decide +kernel
theorem dX6_mates_0 : decode cX6_mates 0 = .ok (.aload_n 0, 1) := by decide +kernel
theorem dX6_mates_1 : decode cX6_mates 1 = .ok (.aload_n 0, 1) := by decide +kernel
theorem dX6_mates_2 : decode cX6_mates 2 = .ok (.iload_n 1, 1) := by decide +kernel
theorem dX6_mates_3 : decode cX6_mates 3 = .ok (.iconst 1, 1) := by decide +kernel
theorem dX6_mates_4 : decode cX6_mates 4 = .ok (.invokevirtual 163, 3) := by decide +kernel
theorem dX6_mates_7 : decode cX6_mates 7 = .ok (.invokevirtual 166, 3) := by decide +kernel
theorem dX6_mates_10 : decode cX6_mates 10 = .ok (.iconst 1, 1) := by decide +kernel
theorem dX6_mates_11 : decode cX6_mates 11 = .ok (.iload_n 1, 1) := by decide +kernel
theorem dX6_mates_12 : decode cX6_mates 12 = .ok (.ishl, 1) := by decide +kernel
theorem dX6_mates_13 : decode cX6_mates 13 = .ok (.iconst (-1), 1) := by decide +kernel
theorem dX6_mates_14 : decode cX6_mates 14 = .ok (.ixor, 1) := by decide +kernel
theorem dX6_mates_15 : decode cX6_mates 15 = .ok (.iand, 1) := by decide +kernel
theorem dX6_mates_16 : decode cX6_mates 16 = .ok (.invokestatic 169, 3) := by decide +kernel
theorem dX6_mates_19 : decode cX6_mates 19 = .ok (.ireturn, 1) := by decide +kernel
theorem dX6_loses_0 : decode cX6_loses 0 = .ok (.iconst 1, 1) := by decide +kernel
theorem dX6_loses_1 : decode cX6_loses 1 = .ok (.aload_n 0, 1) := by decide +kernel
theorem dX6_loses_2 : decode cX6_loses 2 = .ok (.getfield 7, 3) := by decide +kernel
theorem dX6_loses_5 : decode cX6_loses 5 = .ok (.iconst 4, 1) := by decide +kernel
theorem dX6_loses_6 : decode cX6_loses 6 = .ok (.iaload, 1) := by decide +kernel
theorem dX6_loses_7 : decode cX6_loses 7 = .ok (.iadd, 1) := by decide +kernel
theorem dX6_loses_8 : decode cX6_loses 8 = .ok (.aload_n 0, 1) := by decide +kernel
theorem dX6_loses_9 : decode cX6_loses 9 = .ok (.getfield 7, 3) := by decide +kernel
theorem dX6_loses_12 : decode cX6_loses 12 = .ok (.bipush 8, 2) := by decide +kernel
theorem dX6_loses_14 : decode cX6_loses 14 = .ok (.aload_n 0, 1) := by decide +kernel
theorem dX6_loses_15 : decode cX6_loses 15 = .ok (.iload_n 1, 1) := by decide +kernel
theorem dX6_loses_16 : decode cX6_loses 16 = .ok (.iconst 1, 1) := by decide +kernel
theorem dX6_loses_17 : decode cX6_loses 17 = .ok (.invokevirtual 163, 3) := by decide +kernel
theorem dX6_loses_20 : decode cX6_loses 20 = .ok (.iadd, 1) := by decide +kernel
theorem dX6_loses_21 : decode cX6_loses 21 = .ok (.iaload, 1) := by decide +kernel
theorem dX6_loses_22 : decode cX6_loses 22 = .ok (.iadd, 1) := by decide +kernel
theorem dX6_loses_23 : decode cX6_loses 23 = .ok (.istore_n 2, 1) := by decide +kernel
theorem dX6_loses_24 : decode cX6_loses 24 = .ok (.aload_n 0, 1) := by decide +kernel
theorem dX6_loses_25 : decode cX6_loses 25 = .ok (.iload_n 1, 1) := by decide +kernel
theorem dX6_loses_26 : decode cX6_loses 26 = .ok (.iconst 0, 1) := by decide +kernel
theorem dX6_loses_27 : decode cX6_loses 27 = .ok (.invokevirtual 163, 3) := by decide +kernel
theorem dX6_loses_30 : decode cX6_loses 30 = .ok (.tableswitch 110 1 5 #[34, 43, 51, 62, 93], 34) := by decide +kernel
theorem dX6_loses_64 : decode cX6_loses 64 = .ok (.iload_n 2, 1) := by decide +kernel
theorem dX6_loses_65 : decode cX6_loses 65 = .ok (.aload_n 0, 1) := by decide +kernel
theorem dX6_loses_66 : decode cX6_loses 66 = .ok (.getfield 7, 3) := by decide +kernel
theorem dX6_loses_69 : decode cX6_loses 69 = .ok (.iconst 5, 1) := by decide +kernel
theorem dX6_loses_70 : decode cX6_loses 70 = .ok (.iaload, 1) := by decide +kernel
theorem dX6_loses_71 : decode cX6_loses 71 = .ok (.iadd, 1) := by decide +kernel
theorem dX6_loses_72 : decode cX6_loses 72 = .ok (.ireturn, 1) := by decide +kernel
theorem dX6_loses_73 : decode cX6_loses 73 = .ok (.iload_n 2, 1) := by decide +kernel
theorem dX6_loses_74 : decode cX6_loses 74 = .ok (.aload_n 0, 1) := by decide +kernel
theorem dX6_loses_75 : decode cX6_loses 75 = .ok (.iload_n 1, 1) := by decide +kernel
theorem dX6_loses_76 : decode cX6_loses 76 = .ok (.invokevirtual 172, 3) := by decide +kernel
theorem dX6_loses_79 : decode cX6_loses 79 = .ok (.isub, 1) := by decide +kernel
theorem dX6_loses_80 : decode cX6_loses 80 = .ok (.ireturn, 1) := by decide +kernel
theorem dX6_loses_81 : decode cX6_loses 81 = .ok (.iconst 2, 1) := by decide +kernel
theorem dX6_loses_82 : decode cX6_loses 82 = .ok (.iload_n 2, 1) := by decide +kernel
theorem dX6_loses_83 : decode cX6_loses 83 = .ok (.aload_n 0, 1) := by decide +kernel
theorem dX6_loses_84 : decode cX6_loses 84 = .ok (.getfield 7, 3) := by decide +kernel
theorem dX6_loses_87 : decode cX6_loses 87 = .ok (.iconst 5, 1) := by decide +kernel
theorem dX6_loses_88 : decode cX6_loses 88 = .ok (.iaload, 1) := by decide +kernel
theorem dX6_loses_89 : decode cX6_loses 89 = .ok (.iadd, 1) := by decide +kernel
theorem dX6_loses_90 : decode cX6_loses 90 = .ok (.imul, 1) := by decide +kernel
theorem dX6_loses_91 : decode cX6_loses 91 = .ok (.ireturn, 1) := by decide +kernel
theorem dX6_loses_92 : decode cX6_loses 92 = .ok (.iload_n 2, 1) := by decide +kernel
theorem dX6_loses_93 : decode cX6_loses 93 = .ok (.aload_n 0, 1) := by decide +kernel
theorem dX6_loses_94 : decode cX6_loses 94 = .ok (.iload_n 1, 1) := by decide +kernel
theorem dX6_loses_95 : decode cX6_loses 95 = .ok (.invokevirtual 172, 3) := by decide +kernel
theorem dX6_loses_98 : decode cX6_loses 98 = .ok (.isub, 1) := by decide +kernel
theorem dX6_loses_99 : decode cX6_loses 99 = .ok (.aload_n 0, 1) := by decide +kernel
theorem dX6_loses_100 : decode cX6_loses 100 = .ok (.getfield 7, 3) := by decide +kernel
theorem dX6_loses_103 : decode cX6_loses 103 = .ok (.iconst 1, 1) := by decide +kernel
theorem dX6_loses_104 : decode cX6_loses 104 = .ok (.iaload, 1) := by decide +kernel
theorem dX6_loses_105 : decode cX6_loses 105 = .ok (.iconst 2, 1) := by decide +kernel
theorem dX6_loses_106 : decode cX6_loses 106 = .ok (.irem, 1) := by decide +kernel
theorem dX6_loses_107 : decode cX6_loses 107 = .ok (.ifCond .ne 13, 3) := by decide +kernel
theorem dX6_loses_110 : decode cX6_loses 110 = .ok (.aload_n 0, 1) := by decide +kernel
theorem dX6_loses_111 : decode cX6_loses 111 = .ok (.getfield 7, 3) := by decide +kernel
theorem dX6_loses_114 : decode cX6_loses 114 = .ok (.bipush 6, 2) := by decide +kernel
theorem dX6_loses_116 : decode cX6_loses 116 = .ok (.iaload, 1) := by decide +kernel
theorem dX6_loses_117 : decode cX6_loses 117 = .ok (.goto 4, 3) := by decide +kernel
theorem dX6_loses_120 : decode cX6_loses 120 = .ok (.iconst 0, 1) := by decide +kernel
theorem dX6_loses_121 : decode cX6_loses 121 = .ok (.iadd, 1) := by decide +kernel
theorem dX6_loses_122 : decode cX6_loses 122 = .ok (.ireturn, 1) := by decide +kernel
theorem dX6_loses_123 : decode cX6_loses 123 = .ok (.aload_n 0, 1) := by decide +kernel
theorem dX6_loses_124 : decode cX6_loses 124 = .ok (.getfield 7, 3) := by decide +kernel
theorem dX6_loses_127 : decode cX6_loses 127 = .ok (.iconst 1, 1) := by decide +kernel
theorem dX6_loses_128 : decode cX6_loses 128 = .ok (.iaload, 1) := by decide +kernel
theorem dX6_loses_129 : decode cX6_loses 129 = .ok (.iconst 5, 1) := by decide +kernel
theorem dX6_loses_130 : decode cX6_loses 130 = .ok (.irem, 1) := by decide +kernel
theorem dX6_loses_131 : decode cX6_loses 131 = .ok (.ifCond .ne 7, 3) := by decide +kernel
theorem dX6_loses_134 : decode cX6_loses 134 = .ok (.iload_n 2, 1) := by decide +kernel
theorem dX6_loses_135 : decode cX6_loses 135 = .ok (.goto 4, 3) := by decide +kernel
theorem dX6_loses_138 : decode cX6_loses 138 = .ok (.iconst 0, 1) := by decide +kernel
theorem dX6_loses_139 : decode cX6_loses 139 = .ok (.ireturn, 1) := by decide +kernel
theorem dX6_loses_140 : decode cX6_loses 140 = .ok (.iload_n 2, 1) := by decide +kernel
theorem dX6_loses_141 : decode cX6_loses 141 = .ok (.ireturn, 1) := by decide +kernel
theorem dX6_rank_0 : decode cX6_rank 0 = .ok (.aload_n 0, 1) := by decide +kernel
theorem dX6_rank_1 : decode cX6_rank 1 = .ok (.iload_n 1, 1) := by decide +kernel
theorem dX6_rank_2 : decode cX6_rank 2 = .ok (.iconst 3, 1) := by decide +kernel
theorem dX6_rank_3 : decode cX6_rank 3 = .ok (.invokevirtual 163, 3) := by decide +kernel
theorem dX6_rank_6 : decode cX6_rank 6 = .ok (.istore_n 2, 1) := by decide +kernel
theorem dX6_rank_7 : decode cX6_rank 7 = .ok (.aload_n 0, 1) := by decide +kernel
theorem dX6_rank_8 : decode cX6_rank 8 = .ok (.iload_n 1, 1) := by decide +kernel
theorem dX6_rank_9 : decode cX6_rank 9 = .ok (.iconst 0, 1) := by decide +kernel
theorem dX6_rank_10 : decode cX6_rank 10 = .ok (.invokevirtual 163, 3) := by decide +kernel
theorem dX6_rank_13 : decode cX6_rank 13 = .ok (.tableswitch 66 1 5 #[35, 39, 44, 55, 62], 35) := by decide +kernel
theorem dX6_rank_48 : decode cX6_rank 48 = .ok (.iload_n 2, 1) := by decide +kernel
theorem dX6_rank_49 : decode cX6_rank 49 = .ok (.iconst 3, 1) := by decide +kernel
theorem dX6_rank_50 : decode cX6_rank 50 = .ok (.iadd, 1) := by decide +kernel
theorem dX6_rank_51 : decode cX6_rank 51 = .ok (.ireturn, 1) := by decide +kernel
theorem dX6_rank_52 : decode cX6_rank 52 = .ok (.bipush 10, 2) := by decide +kernel
theorem dX6_rank_54 : decode cX6_rank 54 = .ok (.iload_n 2, 1) := by decide +kernel
theorem dX6_rank_55 : decode cX6_rank 55 = .ok (.isub, 1) := by decide +kernel
theorem dX6_rank_56 : decode cX6_rank 56 = .ok (.ireturn, 1) := by decide +kernel
theorem dX6_rank_57 : decode cX6_rank 57 = .ok (.iload_n 2, 1) := by decide +kernel
theorem dX6_rank_58 : decode cX6_rank 58 = .ok (.iconst 3, 1) := by decide +kernel
theorem dX6_rank_59 : decode cX6_rank 59 = .ok (.iadd, 1) := by decide +kernel
theorem dX6_rank_60 : decode cX6_rank 60 = .ok (.aload_n 0, 1) := by decide +kernel
theorem dX6_rank_61 : decode cX6_rank 61 = .ok (.iload_n 1, 1) := by decide +kernel
theorem dX6_rank_62 : decode cX6_rank 62 = .ok (.iconst 1, 1) := by decide +kernel
theorem dX6_rank_63 : decode cX6_rank 63 = .ok (.invokevirtual 163, 3) := by decide +kernel
theorem dX6_rank_66 : decode cX6_rank 66 = .ok (.iadd, 1) := by decide +kernel
theorem dX6_rank_67 : decode cX6_rank 67 = .ok (.ireturn, 1) := by decide +kernel
theorem dX6_rank_68 : decode cX6_rank 68 = .ok (.iconst 2, 1) := by decide +kernel
theorem dX6_rank_69 : decode cX6_rank 69 = .ok (.bipush 10, 2) := by decide +kernel
theorem dX6_rank_71 : decode cX6_rank 71 = .ok (.iload_n 2, 1) := by decide +kernel
theorem dX6_rank_72 : decode cX6_rank 72 = .ok (.isub, 1) := by decide +kernel
theorem dX6_rank_73 : decode cX6_rank 73 = .ok (.imul, 1) := by decide +kernel
theorem dX6_rank_74 : decode cX6_rank 74 = .ok (.ireturn, 1) := by decide +kernel
theorem dX6_rank_75 : decode cX6_rank 75 = .ok (.iconst 0, 1) := by decide +kernel
theorem dX6_rank_76 : decode cX6_rank 76 = .ok (.iload_n 2, 1) := by decide +kernel
theorem dX6_rank_77 : decode cX6_rank 77 = .ok (.isub, 1) := by decide +kernel
theorem dX6_rank_78 : decode cX6_rank 78 = .ok (.ireturn, 1) := by decide +kernel
theorem dX6_rank_79 : decode cX6_rank 79 = .ok (.iload_n 2, 1) := by decide +kernel
theorem dX6_rank_80 : decode cX6_rank 80 = .ok (.ireturn, 1) := by decide +kernel
theorem dX6_of_0 : decode cX6_of 0 = .ok (.aload_n 0, 1) := by decide +kernel
theorem dX6_of_1 : decode cX6_of 1 = .ok (.iload_n 1, 1) := by decide +kernel
theorem dX6_of_2 : decode cX6_of 2 = .ok (.invokevirtual 175, 3) := by decide +kernel
theorem dX6_of_5 : decode cX6_of 5 = .ok (.ifCond .eq 15, 3) := by decide +kernel
theorem dX6_of_8 : decode cX6_of 8 = .ok (.iload_n 2, 1) := by decide +kernel
theorem dX6_of_9 : decode cX6_of 9 = .ok (.i2l, 1) := by decide +kernel
theorem dX6_of_10 : decode cX6_of 10 = .ok (.lconst 0, 1) := by decide +kernel
theorem dX6_of_11 : decode cX6_of 11 = .ok (.ldc2_w 178, 3) := by decide +kernel
theorem dX6_of_14 : decode cX6_of 14 = .ok (.invokestatic 57, 3) := by decide +kernel
theorem dX6_of_17 : decode cX6_of 17 = .ok (.ifCond .ne 5, 3) := by decide +kernel
theorem dX6_of_20 : decode cX6_of 20 = .ok (.iconst (-1), 1) := by decide +kernel
theorem dX6_of_21 : decode cX6_of 21 = .ok (.ireturn, 1) := by decide +kernel
theorem dX6_of_22 : decode cX6_of 22 = .ok (.iload_n 2, 1) := by decide +kernel
theorem dX6_of_23 : decode cX6_of 23 = .ok (.bipush 6, 2) := by decide +kernel
theorem dX6_of_25 : decode cX6_of 25 = .ok (.if_icmp .ne 11, 3) := by decide +kernel
theorem dX6_of_28 : decode cX6_of 28 = .ok (.aload_n 0, 1) := by decide +kernel
theorem dX6_of_29 : decode cX6_of 29 = .ok (.iload_n 1, 1) := by decide +kernel
theorem dX6_of_30 : decode cX6_of 30 = .ok (.invokevirtual 172, 3) := by decide +kernel
theorem dX6_of_33 : decode cX6_of 33 = .ok (.goto 9, 3) := by decide +kernel
theorem dX6_of_36 : decode cX6_of 36 = .ok (.aload_n 0, 1) := by decide +kernel
theorem dX6_of_37 : decode cX6_of 37 = .ok (.iload_n 1, 1) := by decide +kernel
theorem dX6_of_38 : decode cX6_of 38 = .ok (.iload_n 2, 1) := by decide +kernel
theorem dX6_of_39 : decode cX6_of 39 = .ok (.invokevirtual 163, 3) := by decide +kernel
theorem dX6_of_42 : decode cX6_of 42 = .ok (.ireturn, 1) := by decide +kernel
theorem dX6_does_0 : decode cX6_does 0 = .ok (.aload_n 0, 1) := by decide +kernel
theorem dX6_does_1 : decode cX6_does 1 = .ok (.iload_n 1, 1) := by decide +kernel
theorem dX6_does_2 : decode cX6_does 2 = .ok (.invokevirtual 175, 3) := by decide +kernel
theorem dX6_does_5 : decode cX6_does 5 = .ok (.ifCond .eq 13, 3) := by decide +kernel
theorem dX6_does_8 : decode cX6_does 8 = .ok (.iload_n 2, 1) := by decide +kernel
theorem dX6_does_9 : decode cX6_does 9 = .ok (.i2l, 1) := by decide +kernel
theorem dX6_does_10 : decode cX6_does 10 = .ok (.lconst 0, 1) := by decide +kernel
theorem dX6_does_11 : decode cX6_does 11 = .ok (.lconst 1, 1) := by decide +kernel
theorem dX6_does_12 : decode cX6_does 12 = .ok (.invokestatic 57, 3) := by decide +kernel
theorem dX6_does_15 : decode cX6_does 15 = .ok (.ifCond .ne 5, 3) := by decide +kernel
theorem dX6_does_18 : decode cX6_does 18 = .ok (.iconst (-1), 1) := by decide +kernel
theorem dX6_does_19 : decode cX6_does 19 = .ok (.ireturn, 1) := by decide +kernel
theorem dX6_does_20 : decode cX6_does 20 = .ok (.sipush 1000, 3) := by decide +kernel
theorem dX6_does_23 : decode cX6_does 23 = .ok (.iload_n 2, 1) := by decide +kernel
theorem dX6_does_24 : decode cX6_does 24 = .ok (.ifCond .ne 11, 3) := by decide +kernel
theorem dX6_does_27 : decode cX6_does 27 = .ok (.aload_n 0, 1) := by decide +kernel
theorem dX6_does_28 : decode cX6_does 28 = .ok (.iload_n 1, 1) := by decide +kernel
theorem dX6_does_29 : decode cX6_does 29 = .ok (.invokevirtual 180, 3) := by decide +kernel
theorem dX6_does_32 : decode cX6_does 32 = .ok (.goto 8, 3) := by decide +kernel
theorem dX6_does_35 : decode cX6_does 35 = .ok (.aload_n 0, 1) := by decide +kernel
theorem dX6_does_36 : decode cX6_does 36 = .ok (.iload_n 1, 1) := by decide +kernel
theorem dX6_does_37 : decode cX6_does 37 = .ok (.invokevirtual 183, 3) := by decide +kernel
theorem dX6_does_40 : decode cX6_does 40 = .ok (.iadd, 1) := by decide +kernel
theorem dX6_does_41 : decode cX6_does 41 = .ok (.ireturn, 1) := by decide +kernel
theorem dX6_mind_0 : decode cX6_mind 0 = .ok (.aload_n 0, 1) := by decide +kernel
theorem dX6_mind_1 : decode cX6_mind 1 = .ok (.iload_n 1, 1) := by decide +kernel
theorem dX6_mind_2 : decode cX6_mind 2 = .ok (.invokevirtual 175, 3) := by decide +kernel
theorem dX6_mind_5 : decode cX6_mind 5 = .ok (.ifCond .eq 27, 3) := by decide +kernel
theorem dX6_mind_8 : decode cX6_mind 8 = .ok (.iload_n 2, 1) := by decide +kernel
theorem dX6_mind_9 : decode cX6_mind 9 = .ok (.i2l, 1) := by decide +kernel
theorem dX6_mind_10 : decode cX6_mind 10 = .ok (.lconst 0, 1) := by decide +kernel
theorem dX6_mind_11 : decode cX6_mind 11 = .ok (.ldc2_w 158, 3) := by decide +kernel
theorem dX6_mind_14 : decode cX6_mind 14 = .ok (.invokestatic 57, 3) := by decide +kernel
theorem dX6_mind_17 : decode cX6_mind 17 = .ok (.ifCond .eq 15, 3) := by decide +kernel
theorem dX6_mind_20 : decode cX6_mind 20 = .ok (.iload_n 3, 1) := by decide +kernel
theorem dX6_mind_21 : decode cX6_mind 21 = .ok (.i2l, 1) := by decide +kernel
theorem dX6_mind_22 : decode cX6_mind 22 = .ok (.lconst 0, 1) := by decide +kernel
theorem dX6_mind_23 : decode cX6_mind 23 = .ok (.ldc2_w 152, 3) := by decide +kernel
theorem dX6_mind_26 : decode cX6_mind 26 = .ok (.invokestatic 57, 3) := by decide +kernel
theorem dX6_mind_29 : decode cX6_mind 29 = .ok (.ifCond .ne 5, 3) := by decide +kernel
theorem dX6_mind_32 : decode cX6_mind 32 = .ok (.iconst (-1), 1) := by decide +kernel
theorem dX6_mind_33 : decode cX6_mind 33 = .ok (.ireturn, 1) := by decide +kernel
theorem dX6_mind_34 : decode cX6_mind 34 = .ok (.aload_n 0, 1) := by decide +kernel
theorem dX6_mind_35 : decode cX6_mind 35 = .ok (.getfield 7, 3) := by decide +kernel
theorem dX6_mind_38 : decode cX6_mind 38 = .ok (.bipush 14, 2) := by decide +kernel
theorem dX6_mind_40 : decode cX6_mind 40 = .ok (.bipush 6, 2) := by decide +kernel
theorem dX6_mind_42 : decode cX6_mind 42 = .ok (.iload_n 1, 1) := by decide +kernel
theorem dX6_mind_43 : decode cX6_mind 43 = .ok (.imul, 1) := by decide +kernel
theorem dX6_mind_44 : decode cX6_mind 44 = .ok (.iadd, 1) := by decide +kernel
theorem dX6_mind_45 : decode cX6_mind 45 = .ok (.iconst 3, 1) := by decide +kernel
theorem dX6_mind_46 : decode cX6_mind 46 = .ok (.iadd, 1) := by decide +kernel
theorem dX6_mind_47 : decode cX6_mind 47 = .ok (.iload_n 3, 1) := by decide +kernel
theorem dX6_mind_48 : decode cX6_mind 48 = .ok (.iastore, 1) := by decide +kernel
theorem dX6_mind_49 : decode cX6_mind 49 = .ok (.aload_n 0, 1) := by decide +kernel
theorem dX6_mind_50 : decode cX6_mind 50 = .ok (.bipush 14, 2) := by decide +kernel
theorem dX6_mind_52 : decode cX6_mind 52 = .ok (.bipush 6, 2) := by decide +kernel
theorem dX6_mind_54 : decode cX6_mind 54 = .ok (.iload_n 1, 1) := by decide +kernel
theorem dX6_mind_55 : decode cX6_mind 55 = .ok (.imul, 1) := by decide +kernel
theorem dX6_mind_56 : decode cX6_mind 56 = .ok (.iadd, 1) := by decide +kernel
theorem dX6_mind_57 : decode cX6_mind 57 = .ok (.iload_n 2, 1) := by decide +kernel
theorem dX6_mind_58 : decode cX6_mind 58 = .ok (.invokevirtual 154, 3) := by decide +kernel
theorem dX6_mind_61 : decode cX6_mind 61 = .ok (.ireturn, 1) := by decide +kernel
theorem dX6_hold_0 : decode cX6_hold 0 = .ok (.aload_n 0, 1) := by decide +kernel
theorem dX6_hold_1 : decode cX6_hold 1 = .ok (.iload_n 1, 1) := by decide +kernel
theorem dX6_hold_2 : decode cX6_hold 2 = .ok (.invokevirtual 175, 3) := by decide +kernel
theorem dX6_hold_5 : decode cX6_hold 5 = .ok (.ifCond .eq 32, 3) := by decide +kernel
theorem dX6_hold_8 : decode cX6_hold 8 = .ok (.iload_n 2, 1) := by decide +kernel
theorem dX6_hold_9 : decode cX6_hold 9 = .ok (.i2l, 1) := by decide +kernel
theorem dX6_hold_10 : decode cX6_hold 10 = .ok (.lconst 0, 1) := by decide +kernel
theorem dX6_hold_11 : decode cX6_hold 11 = .ok (.ldc2_w 150, 3) := by decide +kernel
theorem dX6_hold_14 : decode cX6_hold 14 = .ok (.invokestatic 57, 3) := by decide +kernel
theorem dX6_hold_17 : decode cX6_hold 17 = .ok (.ifCond .eq 20, 3) := by decide +kernel
theorem dX6_hold_20 : decode cX6_hold 20 = .ok (.aload_n 0, 1) := by decide +kernel
theorem dX6_hold_21 : decode cX6_hold 21 = .ok (.bipush 14, 2) := by decide +kernel
theorem dX6_hold_23 : decode cX6_hold 23 = .ok (.bipush 6, 2) := by decide +kernel
theorem dX6_hold_25 : decode cX6_hold 25 = .ok (.iload_n 1, 1) := by decide +kernel
theorem dX6_hold_26 : decode cX6_hold 26 = .ok (.imul, 1) := by decide +kernel
theorem dX6_hold_27 : decode cX6_hold 27 = .ok (.iadd, 1) := by decide +kernel
theorem dX6_hold_28 : decode cX6_hold 28 = .ok (.iconst 2, 1) := by decide +kernel
theorem dX6_hold_29 : decode cX6_hold 29 = .ok (.iadd, 1) := by decide +kernel
theorem dX6_hold_30 : decode cX6_hold 30 = .ok (.iload_n 2, 1) := by decide +kernel
theorem dX6_hold_31 : decode cX6_hold 31 = .ok (.invokevirtual 154, 3) := by decide +kernel
theorem dX6_hold_34 : decode cX6_hold 34 = .ok (.goto 4, 3) := by decide +kernel
theorem dX6_hold_37 : decode cX6_hold 37 = .ok (.iconst (-1), 1) := by decide +kernel
theorem dX6_hold_38 : decode cX6_hold 38 = .ok (.ireturn, 1) := by decide +kernel
theorem dX6_move_0 : decode cX6_move 0 = .ok (.aload_n 0, 1) := by decide +kernel
theorem dX6_move_1 : decode cX6_move 1 = .ok (.iload_n 1, 1) := by decide +kernel
theorem dX6_move_2 : decode cX6_move 2 = .ok (.invokevirtual 175, 3) := by decide +kernel
theorem dX6_move_5 : decode cX6_move 5 = .ok (.ifCond .eq 27, 3) := by decide +kernel
theorem dX6_move_8 : decode cX6_move 8 = .ok (.iload_n 2, 1) := by decide +kernel
theorem dX6_move_9 : decode cX6_move 9 = .ok (.invokestatic 160, 3) := by decide +kernel
theorem dX6_move_12 : decode cX6_move 12 = .ok (.ifCond .eq 20, 3) := by decide +kernel
theorem dX6_move_15 : decode cX6_move 15 = .ok (.aload_n 0, 1) := by decide +kernel
theorem dX6_move_16 : decode cX6_move 16 = .ok (.bipush 14, 2) := by decide +kernel
theorem dX6_move_18 : decode cX6_move 18 = .ok (.bipush 6, 2) := by decide +kernel
theorem dX6_move_20 : decode cX6_move 20 = .ok (.iload_n 1, 1) := by decide +kernel
theorem dX6_move_21 : decode cX6_move 21 = .ok (.imul, 1) := by decide +kernel
theorem dX6_move_22 : decode cX6_move 22 = .ok (.iadd, 1) := by decide +kernel
theorem dX6_move_23 : decode cX6_move 23 = .ok (.iconst 1, 1) := by decide +kernel
theorem dX6_move_24 : decode cX6_move 24 = .ok (.iadd, 1) := by decide +kernel
theorem dX6_move_25 : decode cX6_move 25 = .ok (.iload_n 2, 1) := by decide +kernel
theorem dX6_move_26 : decode cX6_move 26 = .ok (.invokevirtual 154, 3) := by decide +kernel
theorem dX6_move_29 : decode cX6_move 29 = .ok (.goto 4, 3) := by decide +kernel
theorem dX6_move_32 : decode cX6_move 32 = .ok (.iconst (-1), 1) := by decide +kernel
theorem dX6_move_33 : decode cX6_move 33 = .ok (.ireturn, 1) := by decide +kernel
theorem dX6_hanging_0 : decode cX6_hanging 0 = .ok (.iconst 0, 1) := by decide +kernel
theorem dX6_hanging_1 : decode cX6_hanging 1 = .ok (.istore_n 1, 1) := by decide +kernel
theorem dX6_hanging_2 : decode cX6_hanging 2 = .ok (.iconst 0, 1) := by decide +kernel
theorem dX6_hanging_3 : decode cX6_hanging 3 = .ok (.istore_n 2, 1) := by decide +kernel
theorem dX6_hanging_4 : decode cX6_hanging 4 = .ok (.iload_n 2, 1) := by decide +kernel
theorem dX6_hanging_5 : decode cX6_hanging 5 = .ok (.aload_n 0, 1) := by decide +kernel
theorem dX6_hanging_6 : decode cX6_hanging 6 = .ok (.getfield 7, 3) := by decide +kernel
theorem dX6_hanging_9 : decode cX6_hanging 9 = .ok (.iconst 0, 1) := by decide +kernel
theorem dX6_hanging_10 : decode cX6_hanging 10 = .ok (.iaload, 1) := by decide +kernel
theorem dX6_hanging_11 : decode cX6_hanging 11 = .ok (.if_icmp .ge 20, 3) := by decide +kernel
theorem dX6_hanging_14 : decode cX6_hanging 14 = .ok (.iload_n 1, 1) := by decide +kernel
theorem dX6_hanging_15 : decode cX6_hanging 15 = .ok (.aload_n 0, 1) := by decide +kernel
theorem dX6_hanging_16 : decode cX6_hanging 16 = .ok (.iload_n 2, 1) := by decide +kernel
theorem dX6_hanging_17 : decode cX6_hanging 17 = .ok (.iconst 4, 1) := by decide +kernel
theorem dX6_hanging_18 : decode cX6_hanging 18 = .ok (.invokevirtual 163, 3) := by decide +kernel
theorem dX6_hanging_21 : decode cX6_hanging 21 = .ok (.iload_n 2, 1) := by decide +kernel
theorem dX6_hanging_22 : decode cX6_hanging 22 = .ok (.ishl, 1) := by decide +kernel
theorem dX6_hanging_23 : decode cX6_hanging 23 = .ok (.ior, 1) := by decide +kernel
theorem dX6_hanging_24 : decode cX6_hanging 24 = .ok (.istore_n 1, 1) := by decide +kernel
theorem dX6_hanging_25 : decode cX6_hanging 25 = .ok (.iinc 2 1, 3) := by decide +kernel
theorem dX6_hanging_28 : decode cX6_hanging 28 = .ok (.goto (-24), 3) := by decide +kernel
theorem dX6_hanging_31 : decode cX6_hanging 31 = .ok (.iload_n 1, 1) := by decide +kernel
theorem dX6_hanging_32 : decode cX6_hanging 32 = .ok (.ireturn, 1) := by decide +kernel
theorem dX6_falls0_0 : decode cX6_falls0 0 = .ok (.aload_n 0, 1) := by decide +kernel
theorem dX6_falls0_1 : decode cX6_falls0 1 = .ok (.getfield 7, 3) := by decide +kernel
theorem dX6_falls0_4 : decode cX6_falls0 4 = .ok (.iconst 3, 1) := by decide +kernel
theorem dX6_falls0_5 : decode cX6_falls0 5 = .ok (.dup2, 1) := by decide +kernel
theorem dX6_falls0_6 : decode cX6_falls0 6 = .ok (.iaload, 1) := by decide +kernel
theorem dX6_falls0_7 : decode cX6_falls0 7 = .ok (.iconst 1, 1) := by decide +kernel
theorem dX6_falls0_8 : decode cX6_falls0 8 = .ok (.iadd, 1) := by decide +kernel
theorem dX6_falls0_9 : decode cX6_falls0 9 = .ok (.iastore, 1) := by decide +kernel
theorem dX6_falls0_10 : decode cX6_falls0 10 = .ok (.aload_n 0, 1) := by decide +kernel
theorem dX6_falls0_11 : decode cX6_falls0 11 = .ok (.getfield 7, 3) := by decide +kernel
theorem dX6_falls0_14 : decode cX6_falls0 14 = .ok (.bipush 14, 2) := by decide +kernel
theorem dX6_falls0_16 : decode cX6_falls0 16 = .ok (.bipush 6, 2) := by decide +kernel
theorem dX6_falls0_18 : decode cX6_falls0 18 = .ok (.iload_n 1, 1) := by decide +kernel
theorem dX6_falls0_19 : decode cX6_falls0 19 = .ok (.imul, 1) := by decide +kernel
theorem dX6_falls0_20 : decode cX6_falls0 20 = .ok (.iadd, 1) := by decide +kernel
theorem dX6_falls0_21 : decode cX6_falls0 21 = .ok (.iconst 4, 1) := by decide +kernel
theorem dX6_falls0_22 : decode cX6_falls0 22 = .ok (.iadd, 1) := by decide +kernel
theorem dX6_falls0_23 : decode cX6_falls0 23 = .ok (.iconst 0, 1) := by decide +kernel
theorem dX6_falls0_24 : decode cX6_falls0 24 = .ok (.iastore, 1) := by decide +kernel
theorem dX6_falls0_25 : decode cX6_falls0 25 = .ok (.aload_n 0, 1) := by decide +kernel
theorem dX6_falls0_26 : decode cX6_falls0 26 = .ok (.getfield 7, 3) := by decide +kernel
theorem dX6_falls0_29 : decode cX6_falls0 29 = .ok (.bipush 14, 2) := by decide +kernel
theorem dX6_falls0_31 : decode cX6_falls0 31 = .ok (.bipush 6, 2) := by decide +kernel
theorem dX6_falls0_33 : decode cX6_falls0 33 = .ok (.iload_n 1, 1) := by decide +kernel
theorem dX6_falls0_34 : decode cX6_falls0 34 = .ok (.imul, 1) := by decide +kernel
theorem dX6_falls0_35 : decode cX6_falls0 35 = .ok (.iadd, 1) := by decide +kernel
theorem dX6_falls0_36 : decode cX6_falls0 36 = .ok (.iconst 5, 1) := by decide +kernel
theorem dX6_falls0_37 : decode cX6_falls0 37 = .ok (.iadd, 1) := by decide +kernel
theorem dX6_falls0_38 : decode cX6_falls0 38 = .ok (.aload_n 0, 1) := by decide +kernel
theorem dX6_falls0_39 : decode cX6_falls0 39 = .ok (.getfield 7, 3) := by decide +kernel
theorem dX6_falls0_42 : decode cX6_falls0 42 = .ok (.iconst 3, 1) := by decide +kernel
theorem dX6_falls0_43 : decode cX6_falls0 43 = .ok (.iaload, 1) := by decide +kernel
theorem dX6_falls0_44 : decode cX6_falls0 44 = .ok (.iastore, 1) := by decide +kernel
theorem dX6_falls0_45 : decode cX6_falls0 45 = .ok (.return_, 1) := by decide +kernel
theorem dX6_pluck_0 : decode cX6_pluck 0 = .ok (.aload_n 0, 1) := by decide +kernel
theorem dX6_pluck_1 : decode cX6_pluck 1 = .ok (.iload_n 1, 1) := by decide +kernel
theorem dX6_pluck_2 : decode cX6_pluck 2 = .ok (.invokevirtual 175, 3) := by decide +kernel
theorem dX6_pluck_5 : decode cX6_pluck 5 = .ok (.ifCond .ne 5, 3) := by decide +kernel
theorem dX6_pluck_8 : decode cX6_pluck 8 = .ok (.iconst (-1), 1) := by decide +kernel
theorem dX6_pluck_9 : decode cX6_pluck 9 = .ok (.ireturn, 1) := by decide +kernel
theorem dX6_pluck_10 : decode cX6_pluck 10 = .ok (.aload_n 0, 1) := by decide +kernel
theorem dX6_pluck_11 : decode cX6_pluck 11 = .ok (.iload_n 1, 1) := by decide +kernel
theorem dX6_pluck_12 : decode cX6_pluck 12 = .ok (.iconst 4, 1) := by decide +kernel
theorem dX6_pluck_13 : decode cX6_pluck 13 = .ok (.invokevirtual 163, 3) := by decide +kernel
theorem dX6_pluck_16 : decode cX6_pluck 16 = .ok (.ifCond .ne 6, 3) := by decide +kernel
theorem dX6_pluck_19 : decode cX6_pluck 19 = .ok (.bipush (-3), 2) := by decide +kernel
theorem dX6_pluck_21 : decode cX6_pluck 21 = .ok (.ireturn, 1) := by decide +kernel
theorem dX6_pluck_22 : decode cX6_pluck 22 = .ok (.aload_n 0, 1) := by decide +kernel
theorem dX6_pluck_23 : decode cX6_pluck 23 = .ok (.iload_n 1, 1) := by decide +kernel
theorem dX6_pluck_24 : decode cX6_pluck 24 = .ok (.invokevirtual 186, 3) := by decide +kernel
theorem dX6_pluck_27 : decode cX6_pluck 27 = .ok (.aload_n 0, 1) := by decide +kernel
theorem dX6_pluck_28 : decode cX6_pluck 28 = .ok (.invokevirtual 189, 3) := by decide +kernel
theorem dX6_pluck_31 : decode cX6_pluck 31 = .ok (.invokestatic 169, 3) := by decide +kernel
theorem dX6_pluck_34 : decode cX6_pluck 34 = .ok (.ireturn, 1) := by decide +kernel
theorem dX6_bough_0 : decode cX6_bough 0 = .ok (.iload_n 1, 1) := by decide +kernel
theorem dX6_bough_1 : decode cX6_bough 1 = .ok (.invokestatic 160, 3) := by decide +kernel
theorem dX6_bough_4 : decode cX6_bough 4 = .ok (.ifCond .eq 13, 3) := by decide +kernel
theorem dX6_bough_7 : decode cX6_bough 7 = .ok (.iload_n 2, 1) := by decide +kernel
theorem dX6_bough_8 : decode cX6_bough 8 = .ok (.i2l, 1) := by decide +kernel
theorem dX6_bough_9 : decode cX6_bough 9 = .ok (.lconst 0, 1) := by decide +kernel
theorem dX6_bough_10 : decode cX6_bough 10 = .ok (.lconst 1, 1) := by decide +kernel
theorem dX6_bough_11 : decode cX6_bough 11 = .ok (.invokestatic 57, 3) := by decide +kernel
theorem dX6_bough_14 : decode cX6_bough 14 = .ok (.ifCond .ne 5, 3) := by decide +kernel
theorem dX6_bough_17 : decode cX6_bough 17 = .ok (.iconst (-1), 1) := by decide +kernel
theorem dX6_bough_18 : decode cX6_bough 18 = .ok (.ireturn, 1) := by decide +kernel
theorem dX6_bough_19 : decode cX6_bough 19 = .ok (.iload_n 2, 1) := by decide +kernel
theorem dX6_bough_20 : decode cX6_bough 20 = .ok (.ifCond .ne 15, 3) := by decide +kernel
theorem dX6_bough_23 : decode cX6_bough 23 = .ok (.aload_n 0, 1) := by decide +kernel
theorem dX6_bough_24 : decode cX6_bough 24 = .ok (.getfield 7, 3) := by decide +kernel
theorem dX6_bough_27 : decode cX6_bough 27 = .ok (.bipush 8, 2) := by decide +kernel
theorem dX6_bough_29 : decode cX6_bough 29 = .ok (.iload_n 1, 1) := by decide +kernel
theorem dX6_bough_30 : decode cX6_bough 30 = .ok (.iadd, 1) := by decide +kernel
theorem dX6_bough_31 : decode cX6_bough 31 = .ok (.iaload, 1) := by decide +kernel
theorem dX6_bough_32 : decode cX6_bough 32 = .ok (.goto 8, 3) := by decide +kernel
theorem dX6_bough_35 : decode cX6_bough 35 = .ok (.aload_n 0, 1) := by decide +kernel
theorem dX6_bough_36 : decode cX6_bough 36 = .ok (.iload_n 1, 1) := by decide +kernel
theorem dX6_bough_37 : decode cX6_bough 37 = .ok (.invokevirtual 166, 3) := by decide +kernel
theorem dX6_bough_40 : decode cX6_bough 40 = .ok (.ireturn, 1) := by decide +kernel
theorem dX6_sway_0 : decode cX6_sway 0 = .ok (.iload_n 1, 1) := by decide +kernel
theorem dX6_sway_1 : decode cX6_sway 1 = .ok (.invokestatic 160, 3) := by decide +kernel
theorem dX6_sway_4 : decode cX6_sway 4 = .ok (.ifCond .eq 27, 3) := by decide +kernel
theorem dX6_sway_7 : decode cX6_sway 7 = .ok (.iload_n 2, 1) := by decide +kernel
theorem dX6_sway_8 : decode cX6_sway 8 = .ok (.i2l, 1) := by decide +kernel
theorem dX6_sway_9 : decode cX6_sway 9 = .ok (.lconst 0, 1) := by decide +kernel
theorem dX6_sway_10 : decode cX6_sway 10 = .ok (.ldc2_w 152, 3) := by decide +kernel
theorem dX6_sway_13 : decode cX6_sway 13 = .ok (.invokestatic 57, 3) := by decide +kernel
theorem dX6_sway_16 : decode cX6_sway 16 = .ok (.ifCond .eq 15, 3) := by decide +kernel
theorem dX6_sway_19 : decode cX6_sway 19 = .ok (.aload_n 0, 1) := by decide +kernel
theorem dX6_sway_20 : decode cX6_sway 20 = .ok (.bipush 8, 2) := by decide +kernel
theorem dX6_sway_22 : decode cX6_sway 22 = .ok (.iload_n 1, 1) := by decide +kernel
theorem dX6_sway_23 : decode cX6_sway 23 = .ok (.iadd, 1) := by decide +kernel
theorem dX6_sway_24 : decode cX6_sway 24 = .ok (.iload_n 2, 1) := by decide +kernel
theorem dX6_sway_25 : decode cX6_sway 25 = .ok (.invokevirtual 154, 3) := by decide +kernel
theorem dX6_sway_28 : decode cX6_sway 28 = .ok (.goto 4, 3) := by decide +kernel
theorem dX6_sway_31 : decode cX6_sway 31 = .ok (.iconst (-1), 1) := by decide +kernel
theorem dX6_sway_32 : decode cX6_sway 32 = .ok (.ireturn, 1) := by decide +kernel
theorem dX6_goesBy_0 : decode cX6_goesBy 0 = .ok (.iconst 0, 1) := by decide +kernel
theorem dX6_goesBy_1 : decode cX6_goesBy 1 = .ok (.istore_n 2, 1) := by decide +kernel
theorem dX6_goesBy_2 : decode cX6_goesBy 2 = .ok (.iload_n 2, 1) := by decide +kernel
theorem dX6_goesBy_3 : decode cX6_goesBy 3 = .ok (.aload_n 0, 1) := by decide +kernel
theorem dX6_goesBy_4 : decode cX6_goesBy 4 = .ok (.getfield 7, 3) := by decide +kernel
theorem dX6_goesBy_7 : decode cX6_goesBy 7 = .ok (.iconst 0, 1) := by decide +kernel
theorem dX6_goesBy_8 : decode cX6_goesBy 8 = .ok (.iaload, 1) := by decide +kernel
theorem dX6_goesBy_9 : decode cX6_goesBy 9 = .ok (.if_icmp .ge 42, 3) := by decide +kernel
theorem dX6_goesBy_12 : decode cX6_goesBy 12 = .ok (.aload_n 0, 1) := by decide +kernel
theorem dX6_goesBy_13 : decode cX6_goesBy 13 = .ok (.getfield 25, 3) := by decide +kernel
theorem dX6_goesBy_16 : decode cX6_goesBy 16 = .ok (.iload_n 2, 1) := by decide +kernel
theorem dX6_goesBy_17 : decode cX6_goesBy 17 = .ok (.iload_n 1, 1) := by decide +kernel
theorem dX6_goesBy_18 : decode cX6_goesBy 18 = .ok (.iload_n 2, 1) := by decide +kernel
theorem dX6_goesBy_19 : decode cX6_goesBy 19 = .ok (.ishr, 1) := by decide +kernel
theorem dX6_goesBy_20 : decode cX6_goesBy 20 = .ok (.iconst 1, 1) := by decide +kernel
theorem dX6_goesBy_21 : decode cX6_goesBy 21 = .ok (.iand, 1) := by decide +kernel
theorem dX6_goesBy_22 : decode cX6_goesBy 22 = .ok (.iconst 1, 1) := by decide +kernel
theorem dX6_goesBy_23 : decode cX6_goesBy 23 = .ok (.if_icmp .eq 12, 3) := by decide +kernel
theorem dX6_goesBy_26 : decode cX6_goesBy 26 = .ok (.aload_n 0, 1) := by decide +kernel
theorem dX6_goesBy_27 : decode cX6_goesBy 27 = .ok (.iload_n 2, 1) := by decide +kernel
theorem dX6_goesBy_28 : decode cX6_goesBy 28 = .ok (.iconst 4, 1) := by decide +kernel
theorem dX6_goesBy_29 : decode cX6_goesBy 29 = .ok (.invokevirtual 163, 3) := by decide +kernel
theorem dX6_goesBy_32 : decode cX6_goesBy 32 = .ok (.ifCond .ne 7, 3) := by decide +kernel
theorem dX6_goesBy_35 : decode cX6_goesBy 35 = .ok (.iconst 0, 1) := by decide +kernel
theorem dX6_goesBy_36 : decode cX6_goesBy 36 = .ok (.goto 8, 3) := by decide +kernel
theorem dX6_goesBy_39 : decode cX6_goesBy 39 = .ok (.aload_n 0, 1) := by decide +kernel
theorem dX6_goesBy_40 : decode cX6_goesBy 40 = .ok (.iload_n 2, 1) := by decide +kernel
theorem dX6_goesBy_41 : decode cX6_goesBy 41 = .ok (.invokevirtual 180, 3) := by decide +kernel
theorem dX6_goesBy_44 : decode cX6_goesBy 44 = .ok (.iastore, 1) := by decide +kernel
theorem dX6_goesBy_45 : decode cX6_goesBy 45 = .ok (.iinc 2 1, 3) := by decide +kernel
theorem dX6_goesBy_48 : decode cX6_goesBy 48 = .ok (.goto (-46), 3) := by decide +kernel
theorem dX6_goesBy_51 : decode cX6_goesBy 51 = .ok (.iconst (-1), 1) := by decide +kernel
theorem dX6_goesBy_52 : decode cX6_goesBy 52 = .ok (.istore_n 2, 1) := by decide +kernel
theorem dX6_goesBy_53 : decode cX6_goesBy 53 = .ok (.iconst 0, 1) := by decide +kernel
theorem dX6_goesBy_54 : decode cX6_goesBy 54 = .ok (.istore_n 3, 1) := by decide +kernel
theorem dX6_goesBy_55 : decode cX6_goesBy 55 = .ok (.iload_n 3, 1) := by decide +kernel
theorem dX6_goesBy_56 : decode cX6_goesBy 56 = .ok (.aload_n 0, 1) := by decide +kernel
theorem dX6_goesBy_57 : decode cX6_goesBy 57 = .ok (.getfield 7, 3) := by decide +kernel
theorem dX6_goesBy_60 : decode cX6_goesBy 60 = .ok (.iconst 0, 1) := by decide +kernel
theorem dX6_goesBy_61 : decode cX6_goesBy 61 = .ok (.iaload, 1) := by decide +kernel
theorem dX6_goesBy_62 : decode cX6_goesBy 62 = .ok (.if_icmp .ge 101, 3) := by decide +kernel
theorem dX6_goesBy_65 : decode cX6_goesBy 65 = .ok (.aload_n 0, 1) := by decide +kernel
theorem dX6_goesBy_66 : decode cX6_goesBy 66 = .ok (.getfield 7, 3) := by decide +kernel
theorem dX6_goesBy_69 : decode cX6_goesBy 69 = .ok (.bipush 14, 2) := by decide +kernel
theorem dX6_goesBy_71 : decode cX6_goesBy 71 = .ok (.bipush 6, 2) := by decide +kernel
theorem dX6_goesBy_73 : decode cX6_goesBy 73 = .ok (.iload_n 3, 1) := by decide +kernel
theorem dX6_goesBy_74 : decode cX6_goesBy 74 = .ok (.imul, 1) := by decide +kernel
theorem dX6_goesBy_75 : decode cX6_goesBy 75 = .ok (.iadd, 1) := by decide +kernel
theorem dX6_goesBy_76 : decode cX6_goesBy 76 = .ok (.iconst 2, 1) := by decide +kernel
theorem dX6_goesBy_77 : decode cX6_goesBy 77 = .ok (.iadd, 1) := by decide +kernel
theorem dX6_goesBy_78 : decode cX6_goesBy 78 = .ok (.aload_n 0, 1) := by decide +kernel
theorem dX6_goesBy_79 : decode cX6_goesBy 79 = .ok (.iload_n 3, 1) := by decide +kernel
theorem dX6_goesBy_80 : decode cX6_goesBy 80 = .ok (.iconst 2, 1) := by decide +kernel
theorem dX6_goesBy_81 : decode cX6_goesBy 81 = .ok (.invokevirtual 163, 3) := by decide +kernel
theorem dX6_goesBy_84 : decode cX6_goesBy 84 = .ok (.aload_n 0, 1) := by decide +kernel
theorem dX6_goesBy_85 : decode cX6_goesBy 85 = .ok (.getfield 25, 3) := by decide +kernel
theorem dX6_goesBy_88 : decode cX6_goesBy 88 = .ok (.iload_n 3, 1) := by decide +kernel
theorem dX6_goesBy_89 : decode cX6_goesBy 89 = .ok (.iaload, 1) := by decide +kernel
theorem dX6_goesBy_90 : decode cX6_goesBy 90 = .ok (.isub, 1) := by decide +kernel
theorem dX6_goesBy_91 : decode cX6_goesBy 91 = .ok (.invokestatic 192, 3) := by decide +kernel
theorem dX6_goesBy_94 : decode cX6_goesBy 94 = .ok (.iastore, 1) := by decide +kernel
theorem dX6_goesBy_95 : decode cX6_goesBy 95 = .ok (.aload_n 0, 1) := by decide +kernel
theorem dX6_goesBy_96 : decode cX6_goesBy 96 = .ok (.iload_n 3, 1) := by decide +kernel
theorem dX6_goesBy_97 : decode cX6_goesBy 97 = .ok (.iconst 4, 1) := by decide +kernel
theorem dX6_goesBy_98 : decode cX6_goesBy 98 = .ok (.invokevirtual 163, 3) := by decide +kernel
theorem dX6_goesBy_101 : decode cX6_goesBy 101 = .ok (.iconst 1, 1) := by decide +kernel
theorem dX6_goesBy_102 : decode cX6_goesBy 102 = .ok (.if_icmp .ne 24, 3) := by decide +kernel
theorem dX6_goesBy_105 : decode cX6_goesBy 105 = .ok (.aload_n 0, 1) := by decide +kernel
theorem dX6_goesBy_106 : decode cX6_goesBy 106 = .ok (.iload_n 3, 1) := by decide +kernel
theorem dX6_goesBy_107 : decode cX6_goesBy 107 = .ok (.iconst 2, 1) := by decide +kernel
theorem dX6_goesBy_108 : decode cX6_goesBy 108 = .ok (.invokevirtual 163, 3) := by decide +kernel
theorem dX6_goesBy_111 : decode cX6_goesBy 111 = .ok (.ifCond .ne 15, 3) := by decide +kernel
theorem dX6_goesBy_114 : decode cX6_goesBy 114 = .ok (.iload_n 1, 1) := by decide +kernel
theorem dX6_goesBy_115 : decode cX6_goesBy 115 = .ok (.iload_n 3, 1) := by decide +kernel
theorem dX6_goesBy_116 : decode cX6_goesBy 116 = .ok (.ishr, 1) := by decide +kernel
theorem dX6_goesBy_117 : decode cX6_goesBy 117 = .ok (.iconst 1, 1) := by decide +kernel
theorem dX6_goesBy_118 : decode cX6_goesBy 118 = .ok (.iand, 1) := by decide +kernel
theorem dX6_goesBy_119 : decode cX6_goesBy 119 = .ok (.ifCond .ne 7, 3) := by decide +kernel
theorem dX6_goesBy_122 : decode cX6_goesBy 122 = .ok (.iconst 1, 1) := by decide +kernel
theorem dX6_goesBy_123 : decode cX6_goesBy 123 = .ok (.goto 4, 3) := by decide +kernel
theorem dX6_goesBy_126 : decode cX6_goesBy 126 = .ok (.iconst 0, 1) := by decide +kernel
theorem dX6_goesBy_127 : decode cX6_goesBy 127 = .ok (.istore 4, 2) := by decide +kernel
theorem dX6_goesBy_129 : decode cX6_goesBy 129 = .ok (.iload 4, 2) := by decide +kernel
theorem dX6_goesBy_131 : decode cX6_goesBy 131 = .ok (.ifCond .eq 24, 3) := by decide +kernel
theorem dX6_goesBy_134 : decode cX6_goesBy 134 = .ok (.iload_n 2, 1) := by decide +kernel
theorem dX6_goesBy_135 : decode cX6_goesBy 135 = .ok (.ifCond .lt 16, 3) := by decide +kernel
theorem dX6_goesBy_138 : decode cX6_goesBy 138 = .ok (.aload_n 0, 1) := by decide +kernel
theorem dX6_goesBy_139 : decode cX6_goesBy 139 = .ok (.iload_n 3, 1) := by decide +kernel
theorem dX6_goesBy_140 : decode cX6_goesBy 140 = .ok (.invokevirtual 183, 3) := by decide +kernel
theorem dX6_goesBy_143 : decode cX6_goesBy 143 = .ok (.aload_n 0, 1) := by decide +kernel
theorem dX6_goesBy_144 : decode cX6_goesBy 144 = .ok (.iload_n 2, 1) := by decide +kernel
theorem dX6_goesBy_145 : decode cX6_goesBy 145 = .ok (.invokevirtual 183, 3) := by decide +kernel
theorem dX6_goesBy_148 : decode cX6_goesBy 148 = .ok (.if_icmp .le 7, 3) := by decide +kernel
theorem dX6_goesBy_151 : decode cX6_goesBy 151 = .ok (.iload_n 3, 1) := by decide +kernel
theorem dX6_goesBy_152 : decode cX6_goesBy 152 = .ok (.goto 4, 3) := by decide +kernel
theorem dX6_goesBy_155 : decode cX6_goesBy 155 = .ok (.iload_n 2, 1) := by decide +kernel
theorem dX6_goesBy_156 : decode cX6_goesBy 156 = .ok (.istore_n 2, 1) := by decide +kernel
theorem dX6_goesBy_157 : decode cX6_goesBy 157 = .ok (.iinc 3 1, 3) := by decide +kernel
theorem dX6_goesBy_160 : decode cX6_goesBy 160 = .ok (.goto (-105), 3) := by decide +kernel
theorem dX6_goesBy_163 : decode cX6_goesBy 163 = .ok (.iload_n 2, 1) := by decide +kernel
theorem dX6_goesBy_164 : decode cX6_goesBy 164 = .ok (.ifCond .lt 8, 3) := by decide +kernel
theorem dX6_goesBy_167 : decode cX6_goesBy 167 = .ok (.aload_n 0, 1) := by decide +kernel
theorem dX6_goesBy_168 : decode cX6_goesBy 168 = .ok (.iload_n 2, 1) := by decide +kernel
theorem dX6_goesBy_169 : decode cX6_goesBy 169 = .ok (.invokevirtual 186, 3) := by decide +kernel
theorem dX6_goesBy_172 : decode cX6_goesBy 172 = .ok (.aload_n 0, 1) := by decide +kernel
theorem dX6_goesBy_173 : decode cX6_goesBy 173 = .ok (.getfield 7, 3) := by decide +kernel
theorem dX6_goesBy_176 : decode cX6_goesBy 176 = .ok (.iconst 1, 1) := by decide +kernel
theorem dX6_goesBy_177 : decode cX6_goesBy 177 = .ok (.dup2, 1) := by decide +kernel
theorem dX6_goesBy_178 : decode cX6_goesBy 178 = .ok (.iaload, 1) := by decide +kernel
theorem dX6_goesBy_179 : decode cX6_goesBy 179 = .ok (.iconst 1, 1) := by decide +kernel
theorem dX6_goesBy_180 : decode cX6_goesBy 180 = .ok (.iadd, 1) := by decide +kernel
theorem dX6_goesBy_181 : decode cX6_goesBy 181 = .ok (.iastore, 1) := by decide +kernel
theorem dX6_goesBy_182 : decode cX6_goesBy 182 = .ok (.iload_n 2, 1) := by decide +kernel
theorem dX6_goesBy_183 : decode cX6_goesBy 183 = .ok (.ireturn, 1) := by decide +kernel
theorem dX6_days_0 : decode cX6_days 0 = .ok (.iload_n 1, 1) := by decide +kernel
theorem dX6_days_1 : decode cX6_days 1 = .ok (.i2l, 1) := by decide +kernel
theorem dX6_days_2 : decode cX6_days 2 = .ok (.lconst 1, 1) := by decide +kernel
theorem dX6_days_3 : decode cX6_days 3 = .ok (.ldc2_w 195, 3) := by decide +kernel
theorem dX6_days_6 : decode cX6_days 6 = .ok (.invokestatic 57, 3) := by decide +kernel
theorem dX6_days_9 : decode cX6_days 9 = .ok (.ifCond .ne 5, 3) := by decide +kernel
theorem dX6_days_12 : decode cX6_days 12 = .ok (.iconst (-1), 1) := by decide +kernel
theorem dX6_days_13 : decode cX6_days 13 = .ok (.ireturn, 1) := by decide +kernel
theorem dX6_days_14 : decode cX6_days 14 = .ok (.iconst 0, 1) := by decide +kernel
theorem dX6_days_15 : decode cX6_days 15 = .ok (.istore_n 2, 1) := by decide +kernel
theorem dX6_days_16 : decode cX6_days 16 = .ok (.iload_n 2, 1) := by decide +kernel
theorem dX6_days_17 : decode cX6_days 17 = .ok (.iload_n 1, 1) := by decide +kernel
theorem dX6_days_18 : decode cX6_days 18 = .ok (.if_icmp .ge 15, 3) := by decide +kernel
theorem dX6_days_21 : decode cX6_days 21 = .ok (.aload_n 0, 1) := by decide +kernel
theorem dX6_days_22 : decode cX6_days 22 = .ok (.iconst 0, 1) := by decide +kernel
theorem dX6_days_23 : decode cX6_days 23 = .ok (.invokevirtual 197, 3) := by decide +kernel
theorem dX6_days_26 : decode cX6_days 26 = .ok (.istore_n 3, 1) := by decide +kernel
theorem dX6_days_27 : decode cX6_days 27 = .ok (.iinc 2 1, 3) := by decide +kernel
theorem dX6_days_30 : decode cX6_days 30 = .ok (.goto (-14), 3) := by decide +kernel
theorem dX6_days_33 : decode cX6_days 33 = .ok (.aload_n 0, 1) := by decide +kernel
theorem dX6_days_34 : decode cX6_days 34 = .ok (.invokevirtual 189, 3) := by decide +kernel
theorem dX6_days_37 : decode cX6_days 37 = .ok (.invokestatic 169, 3) := by decide +kernel
theorem dX6_days_40 : decode cX6_days 40 = .ok (.ireturn, 1) := by decide +kernel
theorem dX6_seed_0 : decode cX6_seed 0 = .ok (.aload_n 0, 1) := by decide +kernel
theorem dX6_seed_1 : decode cX6_seed 1 = .ok (.iconst 2, 1) := by decide +kernel
theorem dX6_seed_2 : decode cX6_seed 2 = .ok (.iload_n 1, 1) := by decide +kernel
theorem dX6_seed_3 : decode cX6_seed 3 = .ok (.invokevirtual 154, 3) := by decide +kernel
theorem dX6_seed_6 : decode cX6_seed 6 = .ok (.ireturn, 1) := by decide +kernel
theorem dX6_drawn_0 : decode cX6_drawn 0 = .ok (.aload_n 0, 1) := by decide +kernel
theorem dX6_drawn_1 : decode cX6_drawn 1 = .ok (.getfield 7, 3) := by decide +kernel
theorem dX6_drawn_4 : decode cX6_drawn 4 = .ok (.iconst 2, 1) := by decide +kernel
theorem dX6_drawn_5 : decode cX6_drawn 5 = .ok (.aload_n 0, 1) := by decide +kernel
theorem dX6_drawn_6 : decode cX6_drawn 6 = .ok (.getfield 7, 3) := by decide +kernel
theorem dX6_drawn_9 : decode cX6_drawn 9 = .ok (.iconst 2, 1) := by decide +kernel
theorem dX6_drawn_10 : decode cX6_drawn 10 = .ok (.iaload, 1) := by decide +kernel
theorem dX6_drawn_11 : decode cX6_drawn 11 = .ok (.ldc 200, 2) := by decide +kernel
theorem dX6_drawn_13 : decode cX6_drawn 13 = .ok (.imul, 1) := by decide +kernel
theorem dX6_drawn_14 : decode cX6_drawn 14 = .ok (.sipush 12345, 3) := by decide +kernel
theorem dX6_drawn_17 : decode cX6_drawn 17 = .ok (.iadd, 1) := by decide +kernel
theorem dX6_drawn_18 : decode cX6_drawn 18 = .ok (.iastore, 1) := by decide +kernel
theorem dX6_drawn_19 : decode cX6_drawn 19 = .ok (.aload_n 0, 1) := by decide +kernel
theorem dX6_drawn_20 : decode cX6_drawn 20 = .ok (.getfield 7, 3) := by decide +kernel
theorem dX6_drawn_23 : decode cX6_drawn 23 = .ok (.iconst 2, 1) := by decide +kernel
theorem dX6_drawn_24 : decode cX6_drawn 24 = .ok (.iaload, 1) := by decide +kernel
theorem dX6_drawn_25 : decode cX6_drawn 25 = .ok (.bipush 16, 2) := by decide +kernel
theorem dX6_drawn_27 : decode cX6_drawn 27 = .ok (.iushr, 1) := by decide +kernel
theorem dX6_drawn_28 : decode cX6_drawn 28 = .ok (.ireturn, 1) := by decide +kernel
theorem dX6_goesByDraws_0 : decode cX6_goesByDraws 0 = .ok (.aload_n 0, 1) := by decide +kernel
theorem dX6_goesByDraws_1 : decode cX6_goesByDraws 1 = .ok (.getfield 7, 3) := by decide +kernel
theorem dX6_goesByDraws_4 : decode cX6_goesByDraws 4 = .ok (.iconst 0, 1) := by decide +kernel
theorem dX6_goesByDraws_5 : decode cX6_goesByDraws 5 = .ok (.iaload, 1) := by decide +kernel
theorem dX6_goesByDraws_6 : decode cX6_goesByDraws 6 = .ok (.ifCond .le 63, 3) := by decide +kernel
theorem dX6_goesByDraws_9 : decode cX6_goesByDraws 9 = .ok (.bipush 14, 2) := by decide +kernel
theorem dX6_goesByDraws_11 : decode cX6_goesByDraws 11 = .ok (.bipush 6, 2) := by decide +kernel
theorem dX6_goesByDraws_13 : decode cX6_goesByDraws 13 = .ok (.aload_n 0, 1) := by decide +kernel
theorem dX6_goesByDraws_14 : decode cX6_goesByDraws 14 = .ok (.invokevirtual 201, 3) := by decide +kernel
theorem dX6_goesByDraws_17 : decode cX6_goesByDraws 17 = .ok (.aload_n 0, 1) := by decide +kernel
theorem dX6_goesByDraws_18 : decode cX6_goesByDraws 18 = .ok (.getfield 7, 3) := by decide +kernel
theorem dX6_goesByDraws_21 : decode cX6_goesByDraws 21 = .ok (.iconst 0, 1) := by decide +kernel
theorem dX6_goesByDraws_22 : decode cX6_goesByDraws 22 = .ok (.iaload, 1) := by decide +kernel
theorem dX6_goesByDraws_23 : decode cX6_goesByDraws 23 = .ok (.irem, 1) := by decide +kernel
theorem dX6_goesByDraws_24 : decode cX6_goesByDraws 24 = .ok (.imul, 1) := by decide +kernel
theorem dX6_goesByDraws_25 : decode cX6_goesByDraws 25 = .ok (.iadd, 1) := by decide +kernel
theorem dX6_goesByDraws_26 : decode cX6_goesByDraws 26 = .ok (.iconst 2, 1) := by decide +kernel
theorem dX6_goesByDraws_27 : decode cX6_goesByDraws 27 = .ok (.iadd, 1) := by decide +kernel
theorem dX6_goesByDraws_28 : decode cX6_goesByDraws 28 = .ok (.istore_n 1, 1) := by decide +kernel
theorem dX6_goesByDraws_29 : decode cX6_goesByDraws 29 = .ok (.aload_n 0, 1) := by decide +kernel
theorem dX6_goesByDraws_30 : decode cX6_goesByDraws 30 = .ok (.getfield 7, 3) := by decide +kernel
theorem dX6_goesByDraws_33 : decode cX6_goesByDraws 33 = .ok (.iload_n 1, 1) := by decide +kernel
theorem dX6_goesByDraws_34 : decode cX6_goesByDraws 34 = .ok (.aload_n 0, 1) := by decide +kernel
theorem dX6_goesByDraws_35 : decode cX6_goesByDraws 35 = .ok (.invokevirtual 201, 3) := by decide +kernel
theorem dX6_goesByDraws_38 : decode cX6_goesByDraws 38 = .ok (.bipush 100, 2) := by decide +kernel
theorem dX6_goesByDraws_40 : decode cX6_goesByDraws 40 = .ok (.irem, 1) := by decide +kernel
theorem dX6_goesByDraws_41 : decode cX6_goesByDraws 41 = .ok (.aload_n 0, 1) := by decide +kernel
theorem dX6_goesByDraws_42 : decode cX6_goesByDraws 42 = .ok (.getfield 7, 3) := by decide +kernel
theorem dX6_goesByDraws_45 : decode cX6_goesByDraws 45 = .ok (.bipush 7, 2) := by decide +kernel
theorem dX6_goesByDraws_47 : decode cX6_goesByDraws 47 = .ok (.iaload, 1) := by decide +kernel
theorem dX6_goesByDraws_48 : decode cX6_goesByDraws 48 = .ok (.if_icmp .ge 14, 3) := by decide +kernel
theorem dX6_goesByDraws_51 : decode cX6_goesByDraws 51 = .ok (.aload_n 0, 1) := by decide +kernel
theorem dX6_goesByDraws_52 : decode cX6_goesByDraws 52 = .ok (.getfield 7, 3) := by decide +kernel
theorem dX6_goesByDraws_55 : decode cX6_goesByDraws 55 = .ok (.iload_n 1, 1) := by decide +kernel
theorem dX6_goesByDraws_56 : decode cX6_goesByDraws 56 = .ok (.iaload, 1) := by decide +kernel
theorem dX6_goesByDraws_57 : decode cX6_goesByDraws 57 = .ok (.iconst 3, 1) := by decide +kernel
theorem dX6_goesByDraws_58 : decode cX6_goesByDraws 58 = .ok (.idiv, 1) := by decide +kernel
theorem dX6_goesByDraws_59 : decode cX6_goesByDraws 59 = .ok (.goto 9, 3) := by decide +kernel
theorem dX6_goesByDraws_62 : decode cX6_goesByDraws 62 = .ok (.aload_n 0, 1) := by decide +kernel
theorem dX6_goesByDraws_63 : decode cX6_goesByDraws 63 = .ok (.getfield 7, 3) := by decide +kernel
theorem dX6_goesByDraws_66 : decode cX6_goesByDraws 66 = .ok (.iload_n 1, 1) := by decide +kernel
theorem dX6_goesByDraws_67 : decode cX6_goesByDraws 67 = .ok (.iaload, 1) := by decide +kernel
theorem dX6_goesByDraws_68 : decode cX6_goesByDraws 68 = .ok (.iastore, 1) := by decide +kernel
theorem dX6_goesByDraws_69 : decode cX6_goesByDraws 69 = .ok (.aload_n 0, 1) := by decide +kernel
theorem dX6_goesByDraws_70 : decode cX6_goesByDraws 70 = .ok (.iconst 0, 1) := by decide +kernel
theorem dX6_goesByDraws_71 : decode cX6_goesByDraws 71 = .ok (.invokevirtual 197, 3) := by decide +kernel
theorem dX6_goesByDraws_74 : decode cX6_goesByDraws 74 = .ok (.ireturn, 1) := by decide +kernel
theorem dX6_day_0 : decode cX6_day 0 = .ok (.aload_n 0, 1) := by decide +kernel
theorem dX6_day_1 : decode cX6_day 1 = .ok (.invokevirtual 204, 3) := by decide +kernel
theorem dX6_day_4 : decode cX6_day 4 = .ok (.istore_n 1, 1) := by decide +kernel
theorem dX6_day_5 : decode cX6_day 5 = .ok (.aload_n 0, 1) := by decide +kernel
theorem dX6_day_6 : decode cX6_day 6 = .ok (.invokevirtual 189, 3) := by decide +kernel
theorem dX6_day_9 : decode cX6_day 9 = .ok (.invokestatic 169, 3) := by decide +kernel
theorem dX6_day_12 : decode cX6_day 12 = .ok (.ireturn, 1) := by decide +kernel
theorem dX6_lost_0 : decode cX6_lost 0 = .ok (.iload_n 1, 1) := by decide +kernel
theorem dX6_lost_1 : decode cX6_lost 1 = .ok (.i2l, 1) := by decide +kernel
theorem dX6_lost_2 : decode cX6_lost 2 = .ok (.lconst 1, 1) := by decide +kernel
theorem dX6_lost_3 : decode cX6_lost 3 = .ok (.ldc2_w 207, 3) := by decide +kernel
theorem dX6_lost_6 : decode cX6_lost 6 = .ok (.invokestatic 57, 3) := by decide +kernel
theorem dX6_lost_9 : decode cX6_lost 9 = .ok (.ifCond .ne 5, 3) := by decide +kernel
theorem dX6_lost_12 : decode cX6_lost 12 = .ok (.iconst (-1), 1) := by decide +kernel
theorem dX6_lost_13 : decode cX6_lost 13 = .ok (.ireturn, 1) := by decide +kernel
theorem dX6_lost_14 : decode cX6_lost 14 = .ok (.aload_n 0, 1) := by decide +kernel
theorem dX6_lost_15 : decode cX6_lost 15 = .ok (.getfield 7, 3) := by decide +kernel
theorem dX6_lost_18 : decode cX6_lost 18 = .ok (.aload_n 0, 1) := by decide +kernel
theorem dX6_lost_19 : decode cX6_lost 19 = .ok (.getfield 16, 3) := by decide +kernel
theorem dX6_lost_22 : decode cX6_lost 22 = .ok (.invokestatic 138, 3) := by decide +kernel
theorem dX6_lost_25 : decode cX6_lost 25 = .ok (.aload_n 0, 1) := by decide +kernel
theorem dX6_lost_26 : decode cX6_lost 26 = .ok (.iconst 0, 1) := by decide +kernel
theorem dX6_lost_27 : decode cX6_lost 27 = .ok (.invokevirtual 197, 3) := by decide +kernel
theorem dX6_lost_30 : decode cX6_lost 30 = .ok (.istore_n 2, 1) := by decide +kernel
theorem dX6_lost_31 : decode cX6_lost 31 = .ok (.aload_n 0, 1) := by decide +kernel
theorem dX6_lost_32 : decode cX6_lost 32 = .ok (.getfield 16, 3) := by decide +kernel
theorem dX6_lost_35 : decode cX6_lost 35 = .ok (.iconst 2, 1) := by decide +kernel
theorem dX6_lost_36 : decode cX6_lost 36 = .ok (.iaload, 1) := by decide +kernel
theorem dX6_lost_37 : decode cX6_lost 37 = .ok (.istore_n 3, 1) := by decide +kernel
theorem dX6_lost_38 : decode cX6_lost 38 = .ok (.iconst 0, 1) := by decide +kernel
theorem dX6_lost_39 : decode cX6_lost 39 = .ok (.istore 4, 2) := by decide +kernel
theorem dX6_lost_41 : decode cX6_lost 41 = .ok (.iconst 0, 1) := by decide +kernel
theorem dX6_lost_42 : decode cX6_lost 42 = .ok (.istore 5, 2) := by decide +kernel
theorem dX6_lost_44 : decode cX6_lost 44 = .ok (.iload 5, 2) := by decide +kernel
theorem dX6_lost_46 : decode cX6_lost 46 = .ok (.iload_n 1, 1) := by decide +kernel
theorem dX6_lost_47 : decode cX6_lost 47 = .ok (.if_icmp .ge 52, 3) := by decide +kernel
theorem dX6_lost_50 : decode cX6_lost 50 = .ok (.aload_n 0, 1) := by decide +kernel
theorem dX6_lost_51 : decode cX6_lost 51 = .ok (.getfield 16, 3) := by decide +kernel
theorem dX6_lost_54 : decode cX6_lost 54 = .ok (.aload_n 0, 1) := by decide +kernel
theorem dX6_lost_55 : decode cX6_lost 55 = .ok (.getfield 7, 3) := by decide +kernel
theorem dX6_lost_58 : decode cX6_lost 58 = .ok (.invokestatic 138, 3) := by decide +kernel
theorem dX6_lost_61 : decode cX6_lost 61 = .ok (.aload_n 0, 1) := by decide +kernel
theorem dX6_lost_62 : decode cX6_lost 62 = .ok (.getfield 7, 3) := by decide +kernel
theorem dX6_lost_65 : decode cX6_lost 65 = .ok (.iconst 2, 1) := by decide +kernel
theorem dX6_lost_66 : decode cX6_lost 66 = .ok (.iload_n 3, 1) := by decide +kernel
theorem dX6_lost_67 : decode cX6_lost 67 = .ok (.iastore, 1) := by decide +kernel
theorem dX6_lost_68 : decode cX6_lost 68 = .ok (.iload 4, 2) := by decide +kernel
theorem dX6_lost_70 : decode cX6_lost 70 = .ok (.aload_n 0, 1) := by decide +kernel
theorem dX6_lost_71 : decode cX6_lost 71 = .ok (.invokevirtual 204, 3) := by decide +kernel
theorem dX6_lost_74 : decode cX6_lost 74 = .ok (.iload_n 2, 1) := by decide +kernel
theorem dX6_lost_75 : decode cX6_lost 75 = .ok (.if_icmp .ne 7, 3) := by decide +kernel
theorem dX6_lost_78 : decode cX6_lost 78 = .ok (.iconst 0, 1) := by decide +kernel
theorem dX6_lost_79 : decode cX6_lost 79 = .ok (.goto 4, 3) := by decide +kernel
theorem dX6_lost_82 : decode cX6_lost 82 = .ok (.iconst 1, 1) := by decide +kernel
theorem dX6_lost_83 : decode cX6_lost 83 = .ok (.iadd, 1) := by decide +kernel
theorem dX6_lost_84 : decode cX6_lost 84 = .ok (.istore 4, 2) := by decide +kernel
theorem dX6_lost_86 : decode cX6_lost 86 = .ok (.aload_n 0, 1) := by decide +kernel
theorem dX6_lost_87 : decode cX6_lost 87 = .ok (.getfield 7, 3) := by decide +kernel
theorem dX6_lost_90 : decode cX6_lost 90 = .ok (.iconst 2, 1) := by decide +kernel
theorem dX6_lost_91 : decode cX6_lost 91 = .ok (.iaload, 1) := by decide +kernel
theorem dX6_lost_92 : decode cX6_lost 92 = .ok (.istore_n 3, 1) := by decide +kernel
theorem dX6_lost_93 : decode cX6_lost 93 = .ok (.iinc 5 1, 3) := by decide +kernel
theorem dX6_lost_96 : decode cX6_lost 96 = .ok (.goto (-52), 3) := by decide +kernel
theorem dX6_lost_99 : decode cX6_lost 99 = .ok (.aload_n 0, 1) := by decide +kernel
theorem dX6_lost_100 : decode cX6_lost 100 = .ok (.getfield 16, 3) := by decide +kernel
theorem dX6_lost_103 : decode cX6_lost 103 = .ok (.aload_n 0, 1) := by decide +kernel
theorem dX6_lost_104 : decode cX6_lost 104 = .ok (.getfield 7, 3) := by decide +kernel
theorem dX6_lost_107 : decode cX6_lost 107 = .ok (.invokestatic 138, 3) := by decide +kernel
theorem dX6_lost_110 : decode cX6_lost 110 = .ok (.iload 4, 2) := by decide +kernel
theorem dX6_lost_112 : decode cX6_lost 112 = .ok (.ireturn, 1) := by decide +kernel
theorem dX6_signOf_0 : decode cX6_signOf 0 = .ok (.iconst 0, 1) := by decide +kernel
theorem dX6_signOf_1 : decode cX6_signOf 1 = .ok (.istore_n 2, 1) := by decide +kernel
theorem dX6_signOf_2 : decode cX6_signOf 2 = .ok (.iconst 0, 1) := by decide +kernel
theorem dX6_signOf_3 : decode cX6_signOf 3 = .ok (.istore_n 3, 1) := by decide +kernel
theorem dX6_signOf_4 : decode cX6_signOf 4 = .ok (.iload_n 3, 1) := by decide +kernel
theorem dX6_signOf_5 : decode cX6_signOf 5 = .ok (.aload_n 0, 1) := by decide +kernel
theorem dX6_signOf_6 : decode cX6_signOf 6 = .ok (.getfield 7, 3) := by decide +kernel
theorem dX6_signOf_9 : decode cX6_signOf 9 = .ok (.iconst 0, 1) := by decide +kernel
theorem dX6_signOf_10 : decode cX6_signOf 10 = .ok (.iaload, 1) := by decide +kernel
theorem dX6_signOf_11 : decode cX6_signOf 11 = .ok (.if_icmp .ge 32, 3) := by decide +kernel
theorem dX6_signOf_14 : decode cX6_signOf 14 = .ok (.aload_n 0, 1) := by decide +kernel
theorem dX6_signOf_15 : decode cX6_signOf 15 = .ok (.iload_n 3, 1) := by decide +kernel
theorem dX6_signOf_16 : decode cX6_signOf 16 = .ok (.iconst 5, 1) := by decide +kernel
theorem dX6_signOf_17 : decode cX6_signOf 17 = .ok (.invokevirtual 163, 3) := by decide +kernel
theorem dX6_signOf_20 : decode cX6_signOf 20 = .ok (.iload_n 1, 1) := by decide +kernel
theorem dX6_signOf_21 : decode cX6_signOf 21 = .ok (.iconst 1, 1) := by decide +kernel
theorem dX6_signOf_22 : decode cX6_signOf 22 = .ok (.iadd, 1) := by decide +kernel
theorem dX6_signOf_23 : decode cX6_signOf 23 = .ok (.if_icmp .ne 12, 3) := by decide +kernel
theorem dX6_signOf_26 : decode cX6_signOf 26 = .ok (.aload_n 0, 1) := by decide +kernel
theorem dX6_signOf_27 : decode cX6_signOf 27 = .ok (.iload_n 3, 1) := by decide +kernel
theorem dX6_signOf_28 : decode cX6_signOf 28 = .ok (.iconst 3, 1) := by decide +kernel
theorem dX6_signOf_29 : decode cX6_signOf 29 = .ok (.invokevirtual 163, 3) := by decide +kernel
theorem dX6_signOf_32 : decode cX6_signOf 32 = .ok (.goto 4, 3) := by decide +kernel
theorem dX6_signOf_35 : decode cX6_signOf 35 = .ok (.iload_n 2, 1) := by decide +kernel
theorem dX6_signOf_36 : decode cX6_signOf 36 = .ok (.istore_n 2, 1) := by decide +kernel
theorem dX6_signOf_37 : decode cX6_signOf 37 = .ok (.iinc 3 1, 3) := by decide +kernel
theorem dX6_signOf_40 : decode cX6_signOf 40 = .ok (.goto (-36), 3) := by decide +kernel
theorem dX6_signOf_43 : decode cX6_signOf 43 = .ok (.iload_n 2, 1) := by decide +kernel
theorem dX6_signOf_44 : decode cX6_signOf 44 = .ok (.ireturn, 1) := by decide +kernel
theorem dX6_written_0 : decode cX6_written 0 = .ok (.iload_n 1, 1) := by decide +kernel
theorem dX6_written_1 : decode cX6_written 1 = .ok (.i2l, 1) := by decide +kernel
theorem dX6_written_2 : decode cX6_written 2 = .ok (.lconst 0, 1) := by decide +kernel
theorem dX6_written_3 : decode cX6_written 3 = .ok (.aload_n 0, 1) := by decide +kernel
theorem dX6_written_4 : decode cX6_written 4 = .ok (.getfield 7, 3) := by decide +kernel
theorem dX6_written_7 : decode cX6_written 7 = .ok (.iconst 3, 1) := by decide +kernel
theorem dX6_written_8 : decode cX6_written 8 = .ok (.iaload, 1) := by decide +kernel
theorem dX6_written_9 : decode cX6_written 9 = .ok (.iconst 1, 1) := by decide +kernel
theorem dX6_written_10 : decode cX6_written 10 = .ok (.isub, 1) := by decide +kernel
theorem dX6_written_11 : decode cX6_written 11 = .ok (.i2l, 1) := by decide +kernel
theorem dX6_written_12 : decode cX6_written 12 = .ok (.invokestatic 57, 3) := by decide +kernel
theorem dX6_written_15 : decode cX6_written 15 = .ok (.ifCond .eq 11, 3) := by decide +kernel
theorem dX6_written_18 : decode cX6_written 18 = .ok (.aload_n 0, 1) := by decide +kernel
theorem dX6_written_19 : decode cX6_written 19 = .ok (.iload_n 1, 1) := by decide +kernel
theorem dX6_written_20 : decode cX6_written 20 = .ok (.invokevirtual 209, 3) := by decide +kernel
theorem dX6_written_23 : decode cX6_written 23 = .ok (.goto 5, 3) := by decide +kernel
theorem dX6_written_26 : decode cX6_written 26 = .ok (.bipush (-3), 2) := by decide +kernel
theorem dX6_written_28 : decode cX6_written 28 = .ok (.ireturn, 1) := by decide +kernel
theorem dX6_rhymes_0 : decode cX6_rhymes 0 = .ok (.iconst 0, 1) := by decide +kernel
theorem dX6_rhymes_1 : decode cX6_rhymes 1 = .ok (.istore_n 1, 1) := by decide +kernel
theorem dX6_rhymes_2 : decode cX6_rhymes 2 = .ok (.iconst 1, 1) := by decide +kernel
theorem dX6_rhymes_3 : decode cX6_rhymes 3 = .ok (.istore_n 2, 1) := by decide +kernel
theorem dX6_rhymes_4 : decode cX6_rhymes 4 = .ok (.iload_n 2, 1) := by decide +kernel
theorem dX6_rhymes_5 : decode cX6_rhymes 5 = .ok (.aload_n 0, 1) := by decide +kernel
theorem dX6_rhymes_6 : decode cX6_rhymes 6 = .ok (.getfield 7, 3) := by decide +kernel
theorem dX6_rhymes_9 : decode cX6_rhymes 9 = .ok (.iconst 3, 1) := by decide +kernel
theorem dX6_rhymes_10 : decode cX6_rhymes 10 = .ok (.iaload, 1) := by decide +kernel
theorem dX6_rhymes_11 : decode cX6_rhymes 11 = .ok (.if_icmp .ge 32, 3) := by decide +kernel
theorem dX6_rhymes_14 : decode cX6_rhymes 14 = .ok (.iload_n 1, 1) := by decide +kernel
theorem dX6_rhymes_15 : decode cX6_rhymes 15 = .ok (.aload_n 0, 1) := by decide +kernel
theorem dX6_rhymes_16 : decode cX6_rhymes 16 = .ok (.iload_n 2, 1) := by decide +kernel
theorem dX6_rhymes_17 : decode cX6_rhymes 17 = .ok (.invokevirtual 209, 3) := by decide +kernel
theorem dX6_rhymes_20 : decode cX6_rhymes 20 = .ok (.aload_n 0, 1) := by decide +kernel
theorem dX6_rhymes_21 : decode cX6_rhymes 21 = .ok (.iload_n 2, 1) := by decide +kernel
theorem dX6_rhymes_22 : decode cX6_rhymes 22 = .ok (.iconst 1, 1) := by decide +kernel
theorem dX6_rhymes_23 : decode cX6_rhymes 23 = .ok (.isub, 1) := by decide +kernel
theorem dX6_rhymes_24 : decode cX6_rhymes 24 = .ok (.invokevirtual 209, 3) := by decide +kernel
theorem dX6_rhymes_27 : decode cX6_rhymes 27 = .ok (.if_icmp .ne 7, 3) := by decide +kernel
theorem dX6_rhymes_30 : decode cX6_rhymes 30 = .ok (.iconst 1, 1) := by decide +kernel
theorem dX6_rhymes_31 : decode cX6_rhymes 31 = .ok (.goto 4, 3) := by decide +kernel
theorem dX6_rhymes_34 : decode cX6_rhymes 34 = .ok (.iconst 0, 1) := by decide +kernel
theorem dX6_rhymes_35 : decode cX6_rhymes 35 = .ok (.iadd, 1) := by decide +kernel
theorem dX6_rhymes_36 : decode cX6_rhymes 36 = .ok (.istore_n 1, 1) := by decide +kernel
theorem dX6_rhymes_37 : decode cX6_rhymes 37 = .ok (.iinc 2 1, 3) := by decide +kernel
theorem dX6_rhymes_40 : decode cX6_rhymes 40 = .ok (.goto (-36), 3) := by decide +kernel
theorem dX6_rhymes_43 : decode cX6_rhymes 43 = .ok (.iload_n 1, 1) := by decide +kernel
theorem dX6_rhymes_44 : decode cX6_rhymes 44 = .ok (.ireturn, 1) := by decide +kernel
theorem dX6_spelled_0 : decode cX6_spelled 0 = .ok (.iconst 0, 1) := by decide +kernel
theorem dX6_spelled_1 : decode cX6_spelled 1 = .ok (.istore_n 1, 1) := by decide +kernel
theorem dX6_spelled_2 : decode cX6_spelled 2 = .ok (.iconst 0, 1) := by decide +kernel
theorem dX6_spelled_3 : decode cX6_spelled 3 = .ok (.istore_n 2, 1) := by decide +kernel
theorem dX6_spelled_4 : decode cX6_spelled 4 = .ok (.iload_n 2, 1) := by decide +kernel
theorem dX6_spelled_5 : decode cX6_spelled 5 = .ok (.aload_n 0, 1) := by decide +kernel
theorem dX6_spelled_6 : decode cX6_spelled 6 = .ok (.getfield 7, 3) := by decide +kernel
theorem dX6_spelled_9 : decode cX6_spelled 9 = .ok (.iconst 3, 1) := by decide +kernel
theorem dX6_spelled_10 : decode cX6_spelled 10 = .ok (.iaload, 1) := by decide +kernel
theorem dX6_spelled_11 : decode cX6_spelled 11 = .ok (.if_icmp .ge 20, 3) := by decide +kernel
theorem dX6_spelled_14 : decode cX6_spelled 14 = .ok (.bipush 10, 2) := by decide +kernel
theorem dX6_spelled_16 : decode cX6_spelled 16 = .ok (.iload_n 1, 1) := by decide +kernel
theorem dX6_spelled_17 : decode cX6_spelled 17 = .ok (.imul, 1) := by decide +kernel
theorem dX6_spelled_18 : decode cX6_spelled 18 = .ok (.aload_n 0, 1) := by decide +kernel
theorem dX6_spelled_19 : decode cX6_spelled 19 = .ok (.iload_n 2, 1) := by decide +kernel
theorem dX6_spelled_20 : decode cX6_spelled 20 = .ok (.invokevirtual 209, 3) := by decide +kernel
theorem dX6_spelled_23 : decode cX6_spelled 23 = .ok (.iadd, 1) := by decide +kernel
theorem dX6_spelled_24 : decode cX6_spelled 24 = .ok (.istore_n 1, 1) := by decide +kernel
theorem dX6_spelled_25 : decode cX6_spelled 25 = .ok (.iinc 2 1, 3) := by decide +kernel
theorem dX6_spelled_28 : decode cX6_spelled 28 = .ok (.goto (-24), 3) := by decide +kernel
theorem dX6_spelled_31 : decode cX6_spelled 31 = .ok (.iload_n 1, 1) := by decide +kernel
theorem dX6_spelled_32 : decode cX6_spelled 32 = .ok (.ireturn, 1) := by decide +kernel
theorem dX6_holdOfAll_0 : decode cX6_holdOfAll 0 = .ok (.iconst 0, 1) := by decide +kernel
theorem dX6_holdOfAll_1 : decode cX6_holdOfAll 1 = .ok (.istore_n 1, 1) := by decide +kernel
theorem dX6_holdOfAll_2 : decode cX6_holdOfAll 2 = .ok (.iconst 0, 1) := by decide +kernel
theorem dX6_holdOfAll_3 : decode cX6_holdOfAll 3 = .ok (.istore_n 2, 1) := by decide +kernel
theorem dX6_holdOfAll_4 : decode cX6_holdOfAll 4 = .ok (.iload_n 2, 1) := by decide +kernel
theorem dX6_holdOfAll_5 : decode cX6_holdOfAll 5 = .ok (.aload_n 0, 1) := by decide +kernel
theorem dX6_holdOfAll_6 : decode cX6_holdOfAll 6 = .ok (.getfield 7, 3) := by decide +kernel
theorem dX6_holdOfAll_9 : decode cX6_holdOfAll 9 = .ok (.iconst 0, 1) := by decide +kernel
theorem dX6_holdOfAll_10 : decode cX6_holdOfAll 10 = .ok (.iaload, 1) := by decide +kernel
theorem dX6_holdOfAll_11 : decode cX6_holdOfAll 11 = .ok (.if_icmp .ge 25, 3) := by decide +kernel
theorem dX6_holdOfAll_14 : decode cX6_holdOfAll 14 = .ok (.iload_n 1, 1) := by decide +kernel
theorem dX6_holdOfAll_15 : decode cX6_holdOfAll 15 = .ok (.aload_n 0, 1) := by decide +kernel
theorem dX6_holdOfAll_16 : decode cX6_holdOfAll 16 = .ok (.iload_n 2, 1) := by decide +kernel
theorem dX6_holdOfAll_17 : decode cX6_holdOfAll 17 = .ok (.iconst 4, 1) := by decide +kernel
theorem dX6_holdOfAll_18 : decode cX6_holdOfAll 18 = .ok (.invokevirtual 163, 3) := by decide +kernel
theorem dX6_holdOfAll_21 : decode cX6_holdOfAll 21 = .ok (.aload_n 0, 1) := by decide +kernel
theorem dX6_holdOfAll_22 : decode cX6_holdOfAll 22 = .ok (.iload_n 2, 1) := by decide +kernel
theorem dX6_holdOfAll_23 : decode cX6_holdOfAll 23 = .ok (.iconst 2, 1) := by decide +kernel
theorem dX6_holdOfAll_24 : decode cX6_holdOfAll 24 = .ok (.invokevirtual 163, 3) := by decide +kernel
theorem dX6_holdOfAll_27 : decode cX6_holdOfAll 27 = .ok (.imul, 1) := by decide +kernel
theorem dX6_holdOfAll_28 : decode cX6_holdOfAll 28 = .ok (.iadd, 1) := by decide +kernel
theorem dX6_holdOfAll_29 : decode cX6_holdOfAll 29 = .ok (.istore_n 1, 1) := by decide +kernel
theorem dX6_holdOfAll_30 : decode cX6_holdOfAll 30 = .ok (.iinc 2 1, 3) := by decide +kernel
theorem dX6_holdOfAll_33 : decode cX6_holdOfAll 33 = .ok (.goto (-29), 3) := by decide +kernel
theorem dX6_holdOfAll_36 : decode cX6_holdOfAll 36 = .ok (.iload_n 1, 1) := by decide +kernel
theorem dX6_holdOfAll_37 : decode cX6_holdOfAll 37 = .ok (.ireturn, 1) := by decide +kernel
theorem dX6_swayOfAll_0 : decode cX6_swayOfAll 0 = .ok (.iconst 0, 1) := by decide +kernel
theorem dX6_swayOfAll_1 : decode cX6_swayOfAll 1 = .ok (.istore_n 1, 1) := by decide +kernel
theorem dX6_swayOfAll_2 : decode cX6_swayOfAll 2 = .ok (.iconst 0, 1) := by decide +kernel
theorem dX6_swayOfAll_3 : decode cX6_swayOfAll 3 = .ok (.istore_n 2, 1) := by decide +kernel
theorem dX6_swayOfAll_4 : decode cX6_swayOfAll 4 = .ok (.iload_n 2, 1) := by decide +kernel
theorem dX6_swayOfAll_5 : decode cX6_swayOfAll 5 = .ok (.bipush 6, 2) := by decide +kernel
theorem dX6_swayOfAll_7 : decode cX6_swayOfAll 7 = .ok (.if_icmp .ge 21, 3) := by decide +kernel
theorem dX6_swayOfAll_10 : decode cX6_swayOfAll 10 = .ok (.iload_n 1, 1) := by decide +kernel
theorem dX6_swayOfAll_11 : decode cX6_swayOfAll 11 = .ok (.aload_n 0, 1) := by decide +kernel
theorem dX6_swayOfAll_12 : decode cX6_swayOfAll 12 = .ok (.getfield 7, 3) := by decide +kernel
theorem dX6_swayOfAll_15 : decode cX6_swayOfAll 15 = .ok (.bipush 8, 2) := by decide +kernel
theorem dX6_swayOfAll_17 : decode cX6_swayOfAll 17 = .ok (.iload_n 2, 1) := by decide +kernel
theorem dX6_swayOfAll_18 : decode cX6_swayOfAll 18 = .ok (.iadd, 1) := by decide +kernel
theorem dX6_swayOfAll_19 : decode cX6_swayOfAll 19 = .ok (.iaload, 1) := by decide +kernel
theorem dX6_swayOfAll_20 : decode cX6_swayOfAll 20 = .ok (.iadd, 1) := by decide +kernel
theorem dX6_swayOfAll_21 : decode cX6_swayOfAll 21 = .ok (.istore_n 1, 1) := by decide +kernel
theorem dX6_swayOfAll_22 : decode cX6_swayOfAll 22 = .ok (.iinc 2 1, 3) := by decide +kernel
theorem dX6_swayOfAll_25 : decode cX6_swayOfAll 25 = .ok (.goto (-21), 3) := by decide +kernel
theorem dX6_swayOfAll_28 : decode cX6_swayOfAll 28 = .ok (.iload_n 1, 1) := by decide +kernel
theorem dX6_swayOfAll_29 : decode cX6_swayOfAll 29 = .ok (.ireturn, 1) := by decide +kernel
theorem dX6_state_0 : decode cX6_state 0 = .ok (.iload_n 1, 1) := by decide +kernel
theorem dX6_state_1 : decode cX6_state 1 = .ok (.tableswitch 71 0 5 #[39, 46, 51, 56, 61, 66], 39) := by decide +kernel
theorem dX6_state_40 : decode cX6_state 40 = .ok (.aload_n 0, 1) := by decide +kernel
theorem dX6_state_41 : decode cX6_state 41 = .ok (.getfield 7, 3) := by decide +kernel
theorem dX6_state_44 : decode cX6_state 44 = .ok (.iconst 1, 1) := by decide +kernel
theorem dX6_state_45 : decode cX6_state 45 = .ok (.iaload, 1) := by decide +kernel
theorem dX6_state_46 : decode cX6_state 46 = .ok (.ireturn, 1) := by decide +kernel
theorem dX6_state_47 : decode cX6_state 47 = .ok (.aload_n 0, 1) := by decide +kernel
theorem dX6_state_48 : decode cX6_state 48 = .ok (.invokevirtual 189, 3) := by decide +kernel
theorem dX6_state_51 : decode cX6_state 51 = .ok (.ireturn, 1) := by decide +kernel
theorem dX6_state_52 : decode cX6_state 52 = .ok (.aload_n 0, 1) := by decide +kernel
theorem dX6_state_53 : decode cX6_state 53 = .ok (.invokevirtual 212, 3) := by decide +kernel
theorem dX6_state_56 : decode cX6_state 56 = .ok (.ireturn, 1) := by decide +kernel
theorem dX6_state_57 : decode cX6_state 57 = .ok (.aload_n 0, 1) := by decide +kernel
theorem dX6_state_58 : decode cX6_state 58 = .ok (.invokevirtual 215, 3) := by decide +kernel
theorem dX6_state_61 : decode cX6_state 61 = .ok (.ireturn, 1) := by decide +kernel
theorem dX6_state_62 : decode cX6_state 62 = .ok (.aload_n 0, 1) := by decide +kernel
theorem dX6_state_63 : decode cX6_state 63 = .ok (.invokevirtual 218, 3) := by decide +kernel
theorem dX6_state_66 : decode cX6_state 66 = .ok (.ireturn, 1) := by decide +kernel
theorem dX6_state_67 : decode cX6_state 67 = .ok (.aload_n 0, 1) := by decide +kernel
theorem dX6_state_68 : decode cX6_state 68 = .ok (.invokevirtual 221, 3) := by decide +kernel
theorem dX6_state_71 : decode cX6_state 71 = .ok (.ireturn, 1) := by decide +kernel
theorem dX6_state_72 : decode cX6_state 72 = .ok (.iconst (-1), 1) := by decide +kernel
theorem dX6_state_73 : decode cX6_state 73 = .ok (.ireturn, 1) := by decide +kernel
theorem dX6_fallsBy_0 : decode cX6_fallsBy 0 = .ok (.aload_n 0, 1) := by decide +kernel
theorem dX6_fallsBy_1 : decode cX6_fallsBy 1 = .ok (.getfield 7, 3) := by decide +kernel
theorem dX6_fallsBy_4 : decode cX6_fallsBy 4 = .ok (.aload_n 0, 1) := by decide +kernel
theorem dX6_fallsBy_5 : decode cX6_fallsBy 5 = .ok (.getfield 16, 3) := by decide +kernel
theorem dX6_fallsBy_8 : decode cX6_fallsBy 8 = .ok (.invokestatic 138, 3) := by decide +kernel
theorem dX6_fallsBy_11 : decode cX6_fallsBy 11 = .ok (.iconst 0, 1) := by decide +kernel
theorem dX6_fallsBy_12 : decode cX6_fallsBy 12 = .ok (.istore_n 2, 1) := by decide +kernel
theorem dX6_fallsBy_13 : decode cX6_fallsBy 13 = .ok (.iload_n 2, 1) := by decide +kernel
theorem dX6_fallsBy_14 : decode cX6_fallsBy 14 = .ok (.bipush 60, 2) := by decide +kernel
theorem dX6_fallsBy_16 : decode cX6_fallsBy 16 = .ok (.if_icmp .gt 25, 3) := by decide +kernel
theorem dX6_fallsBy_19 : decode cX6_fallsBy 19 = .ok (.aload_n 0, 1) := by decide +kernel
theorem dX6_fallsBy_20 : decode cX6_fallsBy 20 = .ok (.iload_n 1, 1) := by decide +kernel
theorem dX6_fallsBy_21 : decode cX6_fallsBy 21 = .ok (.iconst 4, 1) := by decide +kernel
theorem dX6_fallsBy_22 : decode cX6_fallsBy 22 = .ok (.invokevirtual 163, 3) := by decide +kernel
theorem dX6_fallsBy_25 : decode cX6_fallsBy 25 = .ok (.iconst 1, 1) := by decide +kernel
theorem dX6_fallsBy_26 : decode cX6_fallsBy 26 = .ok (.if_icmp .ne 15, 3) := by decide +kernel
theorem dX6_fallsBy_29 : decode cX6_fallsBy 29 = .ok (.aload_n 0, 1) := by decide +kernel
theorem dX6_fallsBy_30 : decode cX6_fallsBy 30 = .ok (.iconst 0, 1) := by decide +kernel
theorem dX6_fallsBy_31 : decode cX6_fallsBy 31 = .ok (.invokevirtual 197, 3) := by decide +kernel
theorem dX6_fallsBy_34 : decode cX6_fallsBy 34 = .ok (.istore_n 3, 1) := by decide +kernel
theorem dX6_fallsBy_35 : decode cX6_fallsBy 35 = .ok (.iinc 2 1, 3) := by decide +kernel
theorem dX6_fallsBy_38 : decode cX6_fallsBy 38 = .ok (.goto (-25), 3) := by decide +kernel
theorem dX6_fallsBy_41 : decode cX6_fallsBy 41 = .ok (.aload_n 0, 1) := by decide +kernel
theorem dX6_fallsBy_42 : decode cX6_fallsBy 42 = .ok (.getfield 16, 3) := by decide +kernel
theorem dX6_fallsBy_45 : decode cX6_fallsBy 45 = .ok (.aload_n 0, 1) := by decide +kernel
theorem dX6_fallsBy_46 : decode cX6_fallsBy 46 = .ok (.getfield 7, 3) := by decide +kernel
theorem dX6_fallsBy_49 : decode cX6_fallsBy 49 = .ok (.invokestatic 138, 3) := by decide +kernel
theorem dX6_fallsBy_52 : decode cX6_fallsBy 52 = .ok (.iload_n 2, 1) := by decide +kernel
theorem dX6_fallsBy_53 : decode cX6_fallsBy 53 = .ok (.ireturn, 1) := by decide +kernel
theorem dX6_falls_0 : decode cX6_falls 0 = .ok (.aload_n 0, 1) := by decide +kernel
theorem dX6_falls_1 : decode cX6_falls 1 = .ok (.iload_n 1, 1) := by decide +kernel
theorem dX6_falls_2 : decode cX6_falls 2 = .ok (.invokevirtual 175, 3) := by decide +kernel
theorem dX6_falls_5 : decode cX6_falls 5 = .ok (.ifCond .ne 5, 3) := by decide +kernel
theorem dX6_falls_8 : decode cX6_falls 8 = .ok (.iconst (-1), 1) := by decide +kernel
theorem dX6_falls_9 : decode cX6_falls 9 = .ok (.ireturn, 1) := by decide +kernel
theorem dX6_falls_10 : decode cX6_falls 10 = .ok (.aload_n 0, 1) := by decide +kernel
theorem dX6_falls_11 : decode cX6_falls 11 = .ok (.iload_n 1, 1) := by decide +kernel
theorem dX6_falls_12 : decode cX6_falls 12 = .ok (.invokevirtual 224, 3) := by decide +kernel
theorem dX6_falls_15 : decode cX6_falls 15 = .ok (.istore_n 2, 1) := by decide +kernel
theorem dX6_falls_16 : decode cX6_falls 16 = .ok (.iload_n 2, 1) := by decide +kernel
theorem dX6_falls_17 : decode cX6_falls 17 = .ok (.bipush 60, 2) := by decide +kernel
theorem dX6_falls_19 : decode cX6_falls 19 = .ok (.if_icmp .gt 7, 3) := by decide +kernel
theorem dX6_falls_22 : decode cX6_falls 22 = .ok (.iload_n 2, 1) := by decide +kernel
theorem dX6_falls_23 : decode cX6_falls 23 = .ok (.goto 5, 3) := by decide +kernel
theorem dX6_falls_26 : decode cX6_falls 26 = .ok (.bipush (-3), 2) := by decide +kernel
theorem dX6_falls_28 : decode cX6_falls 28 = .ok (.ireturn, 1) := by decide +kernel
theorem dX6_bare_0 : decode cX6_bare 0 = .ok (.aload_n 0, 1) := by decide +kernel
theorem dX6_bare_1 : decode cX6_bare 1 = .ok (.getfield 7, 3) := by decide +kernel
theorem dX6_bare_4 : decode cX6_bare 4 = .ok (.aload_n 0, 1) := by decide +kernel
theorem dX6_bare_5 : decode cX6_bare 5 = .ok (.getfield 16, 3) := by decide +kernel
theorem dX6_bare_8 : decode cX6_bare 8 = .ok (.invokestatic 138, 3) := by decide +kernel
theorem dX6_bare_11 : decode cX6_bare 11 = .ok (.iconst 0, 1) := by decide +kernel
theorem dX6_bare_12 : decode cX6_bare 12 = .ok (.istore_n 1, 1) := by decide +kernel
theorem dX6_bare_13 : decode cX6_bare 13 = .ok (.iload_n 1, 1) := by decide +kernel
theorem dX6_bare_14 : decode cX6_bare 14 = .ok (.bipush 60, 2) := by decide +kernel
theorem dX6_bare_16 : decode cX6_bare 16 = .ok (.if_icmp .gt 22, 3) := by decide +kernel
theorem dX6_bare_19 : decode cX6_bare 19 = .ok (.aload_n 0, 1) := by decide +kernel
theorem dX6_bare_20 : decode cX6_bare 20 = .ok (.invokevirtual 189, 3) := by decide +kernel
theorem dX6_bare_23 : decode cX6_bare 23 = .ok (.ifCond .eq 15, 3) := by decide +kernel
theorem dX6_bare_26 : decode cX6_bare 26 = .ok (.aload_n 0, 1) := by decide +kernel
theorem dX6_bare_27 : decode cX6_bare 27 = .ok (.iconst 0, 1) := by decide +kernel
theorem dX6_bare_28 : decode cX6_bare 28 = .ok (.invokevirtual 197, 3) := by decide +kernel
theorem dX6_bare_31 : decode cX6_bare 31 = .ok (.istore_n 2, 1) := by decide +kernel
theorem dX6_bare_32 : decode cX6_bare 32 = .ok (.iinc 1 1, 3) := by decide +kernel
theorem dX6_bare_35 : decode cX6_bare 35 = .ok (.goto (-22), 3) := by decide +kernel
theorem dX6_bare_38 : decode cX6_bare 38 = .ok (.aload_n 0, 1) := by decide +kernel
theorem dX6_bare_39 : decode cX6_bare 39 = .ok (.getfield 16, 3) := by decide +kernel
theorem dX6_bare_42 : decode cX6_bare 42 = .ok (.aload_n 0, 1) := by decide +kernel
theorem dX6_bare_43 : decode cX6_bare 43 = .ok (.getfield 7, 3) := by decide +kernel
theorem dX6_bare_46 : decode cX6_bare 46 = .ok (.invokestatic 138, 3) := by decide +kernel
theorem dX6_bare_49 : decode cX6_bare 49 = .ok (.iload_n 1, 1) := by decide +kernel
theorem dX6_bare_50 : decode cX6_bare 50 = .ok (.bipush 60, 2) := by decide +kernel
theorem dX6_bare_52 : decode cX6_bare 52 = .ok (.if_icmp .gt 7, 3) := by decide +kernel
theorem dX6_bare_55 : decode cX6_bare 55 = .ok (.iload_n 1, 1) := by decide +kernel
theorem dX6_bare_56 : decode cX6_bare 56 = .ok (.goto 5, 3) := by decide +kernel
theorem dX6_bare_59 : decode cX6_bare 59 = .ok (.bipush (-3), 2) := by decide +kernel
theorem dX6_bare_61 : decode cX6_bare 61 = .ok (.ireturn, 1) := by decide +kernel
theorem dX6_next_0 : decode cX6_next 0 = .ok (.aload_n 0, 1) := by decide +kernel
theorem dX6_next_1 : decode cX6_next 1 = .ok (.getfield 7, 3) := by decide +kernel
theorem dX6_next_4 : decode cX6_next 4 = .ok (.aload_n 0, 1) := by decide +kernel
theorem dX6_next_5 : decode cX6_next 5 = .ok (.getfield 16, 3) := by decide +kernel
theorem dX6_next_8 : decode cX6_next 8 = .ok (.invokestatic 138, 3) := by decide +kernel
theorem dX6_next_11 : decode cX6_next 11 = .ok (.iconst (-1), 1) := by decide +kernel
theorem dX6_next_12 : decode cX6_next 12 = .ok (.istore_n 1, 1) := by decide +kernel
theorem dX6_next_13 : decode cX6_next 13 = .ok (.iconst 0, 1) := by decide +kernel
theorem dX6_next_14 : decode cX6_next 14 = .ok (.istore_n 2, 1) := by decide +kernel
theorem dX6_next_15 : decode cX6_next 15 = .ok (.iload_n 2, 1) := by decide +kernel
theorem dX6_next_16 : decode cX6_next 16 = .ok (.bipush 60, 2) := by decide +kernel
theorem dX6_next_18 : decode cX6_next 18 = .ok (.if_icmp .ge 19, 3) := by decide +kernel
theorem dX6_next_21 : decode cX6_next 21 = .ok (.iload_n 1, 1) := by decide +kernel
theorem dX6_next_22 : decode cX6_next 22 = .ok (.ifCond .ge 15, 3) := by decide +kernel
theorem dX6_next_25 : decode cX6_next 25 = .ok (.aload_n 0, 1) := by decide +kernel
theorem dX6_next_26 : decode cX6_next 26 = .ok (.iconst 0, 1) := by decide +kernel
theorem dX6_next_27 : decode cX6_next 27 = .ok (.invokevirtual 197, 3) := by decide +kernel
theorem dX6_next_30 : decode cX6_next 30 = .ok (.istore_n 1, 1) := by decide +kernel
theorem dX6_next_31 : decode cX6_next 31 = .ok (.iinc 2 1, 3) := by decide +kernel
theorem dX6_next_34 : decode cX6_next 34 = .ok (.goto (-19), 3) := by decide +kernel
theorem dX6_next_37 : decode cX6_next 37 = .ok (.aload_n 0, 1) := by decide +kernel
theorem dX6_next_38 : decode cX6_next 38 = .ok (.getfield 16, 3) := by decide +kernel
theorem dX6_next_41 : decode cX6_next 41 = .ok (.aload_n 0, 1) := by decide +kernel
theorem dX6_next_42 : decode cX6_next 42 = .ok (.getfield 7, 3) := by decide +kernel
theorem dX6_next_45 : decode cX6_next 45 = .ok (.invokestatic 138, 3) := by decide +kernel
theorem dX6_next_48 : decode cX6_next 48 = .ok (.iload_n 1, 1) := by decide +kernel
theorem dX6_next_49 : decode cX6_next 49 = .ok (.ifCond .ge 8, 3) := by decide +kernel
theorem dX6_next_52 : decode cX6_next 52 = .ok (.bipush (-3), 2) := by decide +kernel
theorem dX6_next_54 : decode cX6_next 54 = .ok (.goto 4, 3) := by decide +kernel
theorem dX6_next_57 : decode cX6_next 57 = .ok (.iload_n 1, 1) := by decide +kernel
theorem dX6_next_58 : decode cX6_next 58 = .ok (.ireturn, 1) := by decide +kernel
theorem dX6_latest_0 : decode cX6_latest 0 = .ok (.bipush (-3), 2) := by decide +kernel
theorem dX6_latest_2 : decode cX6_latest 2 = .ok (.istore_n 1, 1) := by decide +kernel
theorem dX6_latest_3 : decode cX6_latest 3 = .ok (.iconst (-1), 1) := by decide +kernel
theorem dX6_latest_4 : decode cX6_latest 4 = .ok (.istore_n 2, 1) := by decide +kernel
theorem dX6_latest_5 : decode cX6_latest 5 = .ok (.iconst 0, 1) := by decide +kernel
theorem dX6_latest_6 : decode cX6_latest 6 = .ok (.istore_n 3, 1) := by decide +kernel
theorem dX6_latest_7 : decode cX6_latest 7 = .ok (.iload_n 3, 1) := by decide +kernel
theorem dX6_latest_8 : decode cX6_latest 8 = .ok (.aload_n 0, 1) := by decide +kernel
theorem dX6_latest_9 : decode cX6_latest 9 = .ok (.getfield 7, 3) := by decide +kernel
theorem dX6_latest_12 : decode cX6_latest 12 = .ok (.iconst 0, 1) := by decide +kernel
theorem dX6_latest_13 : decode cX6_latest 13 = .ok (.iaload, 1) := by decide +kernel
theorem dX6_latest_14 : decode cX6_latest 14 = .ok (.if_icmp .ge 55, 3) := by decide +kernel
theorem dX6_latest_17 : decode cX6_latest 17 = .ok (.aload_n 0, 1) := by decide +kernel
theorem dX6_latest_18 : decode cX6_latest 18 = .ok (.iload_n 3, 1) := by decide +kernel
theorem dX6_latest_19 : decode cX6_latest 19 = .ok (.iconst 4, 1) := by decide +kernel
theorem dX6_latest_20 : decode cX6_latest 20 = .ok (.invokevirtual 163, 3) := by decide +kernel
theorem dX6_latest_23 : decode cX6_latest 23 = .ok (.iconst 1, 1) := by decide +kernel
theorem dX6_latest_24 : decode cX6_latest 24 = .ok (.if_icmp .ne 11, 3) := by decide +kernel
theorem dX6_latest_27 : decode cX6_latest 27 = .ok (.aload_n 0, 1) := by decide +kernel
theorem dX6_latest_28 : decode cX6_latest 28 = .ok (.iload_n 3, 1) := by decide +kernel
theorem dX6_latest_29 : decode cX6_latest 29 = .ok (.invokevirtual 224, 3) := by decide +kernel
theorem dX6_latest_32 : decode cX6_latest 32 = .ok (.goto 4, 3) := by decide +kernel
theorem dX6_latest_35 : decode cX6_latest 35 = .ok (.iconst (-1), 1) := by decide +kernel
theorem dX6_latest_36 : decode cX6_latest 36 = .ok (.istore 4, 2) := by decide +kernel
theorem dX6_latest_38 : decode cX6_latest 38 = .ok (.iload 4, 2) := by decide +kernel
theorem dX6_latest_40 : decode cX6_latest 40 = .ok (.iload_n 2, 1) := by decide +kernel
theorem dX6_latest_41 : decode cX6_latest 41 = .ok (.if_icmp .le 7, 3) := by decide +kernel
theorem dX6_latest_44 : decode cX6_latest 44 = .ok (.iload_n 3, 1) := by decide +kernel
theorem dX6_latest_45 : decode cX6_latest 45 = .ok (.goto 4, 3) := by decide +kernel
theorem dX6_latest_48 : decode cX6_latest 48 = .ok (.iload_n 1, 1) := by decide +kernel
theorem dX6_latest_49 : decode cX6_latest 49 = .ok (.istore_n 1, 1) := by decide +kernel
theorem dX6_latest_50 : decode cX6_latest 50 = .ok (.iload 4, 2) := by decide +kernel
theorem dX6_latest_52 : decode cX6_latest 52 = .ok (.iload_n 2, 1) := by decide +kernel
theorem dX6_latest_53 : decode cX6_latest 53 = .ok (.if_icmp .le 8, 3) := by decide +kernel
theorem dX6_latest_56 : decode cX6_latest 56 = .ok (.iload 4, 2) := by decide +kernel
theorem dX6_latest_58 : decode cX6_latest 58 = .ok (.goto 4, 3) := by decide +kernel
theorem dX6_latest_61 : decode cX6_latest 61 = .ok (.iload_n 2, 1) := by decide +kernel
theorem dX6_latest_62 : decode cX6_latest 62 = .ok (.istore_n 2, 1) := by decide +kernel
theorem dX6_latest_63 : decode cX6_latest 63 = .ok (.iinc 3 1, 3) := by decide +kernel
theorem dX6_latest_66 : decode cX6_latest 66 = .ok (.goto (-59), 3) := by decide +kernel
theorem dX6_latest_69 : decode cX6_latest 69 = .ok (.iload_n 1, 1) := by decide +kernel
theorem dX6_latest_70 : decode cX6_latest 70 = .ok (.ireturn, 1) := by decide +kernel
theorem dX6_lastBy_0 : decode cX6_lastBy 0 = .ok (.aload_n 0, 1) := by decide +kernel
theorem dX6_lastBy_1 : decode cX6_lastBy 1 = .ok (.getfield 7, 3) := by decide +kernel
theorem dX6_lastBy_4 : decode cX6_lastBy 4 = .ok (.iload_n 2, 1) := by decide +kernel
theorem dX6_lastBy_5 : decode cX6_lastBy 5 = .ok (.iaload, 1) := by decide +kernel
theorem dX6_lastBy_6 : decode cX6_lastBy 6 = .ok (.istore 4, 2) := by decide +kernel
theorem dX6_lastBy_8 : decode cX6_lastBy 8 = .ok (.iconst 0, 1) := by decide +kernel
theorem dX6_lastBy_9 : decode cX6_lastBy 9 = .ok (.istore 5, 2) := by decide +kernel
theorem dX6_lastBy_11 : decode cX6_lastBy 11 = .ok (.iconst (-1), 1) := by decide +kernel
theorem dX6_lastBy_12 : decode cX6_lastBy 12 = .ok (.istore 6, 2) := by decide +kernel
theorem dX6_lastBy_14 : decode cX6_lastBy 14 = .ok (.iconst 0, 1) := by decide +kernel
theorem dX6_lastBy_15 : decode cX6_lastBy 15 = .ok (.istore 7, 2) := by decide +kernel
theorem dX6_lastBy_17 : decode cX6_lastBy 17 = .ok (.iload 7, 2) := by decide +kernel
theorem dX6_lastBy_19 : decode cX6_lastBy 19 = .ok (.iload_n 3, 1) := by decide +kernel
theorem dX6_lastBy_20 : decode cX6_lastBy 20 = .ok (.if_icmp .gt 56, 3) := by decide +kernel
theorem dX6_lastBy_23 : decode cX6_lastBy 23 = .ok (.aload_n 0, 1) := by decide +kernel
theorem dX6_lastBy_24 : decode cX6_lastBy 24 = .ok (.getfield 7, 3) := by decide +kernel
theorem dX6_lastBy_27 : decode cX6_lastBy 27 = .ok (.iload_n 2, 1) := by decide +kernel
theorem dX6_lastBy_28 : decode cX6_lastBy 28 = .ok (.iload 7, 2) := by decide +kernel
theorem dX6_lastBy_30 : decode cX6_lastBy 30 = .ok (.iastore, 1) := by decide +kernel
theorem dX6_lastBy_31 : decode cX6_lastBy 31 = .ok (.aload_n 0, 1) := by decide +kernel
theorem dX6_lastBy_32 : decode cX6_lastBy 32 = .ok (.iload_n 1, 1) := by decide +kernel
theorem dX6_lastBy_33 : decode cX6_lastBy 33 = .ok (.invokevirtual 224, 3) := by decide +kernel
theorem dX6_lastBy_36 : decode cX6_lastBy 36 = .ok (.istore 8, 2) := by decide +kernel
theorem dX6_lastBy_38 : decode cX6_lastBy 38 = .ok (.iload 8, 2) := by decide +kernel
theorem dX6_lastBy_40 : decode cX6_lastBy 40 = .ok (.iload 6, 2) := by decide +kernel
theorem dX6_lastBy_42 : decode cX6_lastBy 42 = .ok (.if_icmp .le 8, 3) := by decide +kernel
theorem dX6_lastBy_45 : decode cX6_lastBy 45 = .ok (.iload 7, 2) := by decide +kernel
theorem dX6_lastBy_47 : decode cX6_lastBy 47 = .ok (.goto 5, 3) := by decide +kernel
theorem dX6_lastBy_50 : decode cX6_lastBy 50 = .ok (.iload 5, 2) := by decide +kernel
theorem dX6_lastBy_52 : decode cX6_lastBy 52 = .ok (.istore 5, 2) := by decide +kernel
theorem dX6_lastBy_54 : decode cX6_lastBy 54 = .ok (.iload 8, 2) := by decide +kernel
theorem dX6_lastBy_56 : decode cX6_lastBy 56 = .ok (.iload 6, 2) := by decide +kernel
theorem dX6_lastBy_58 : decode cX6_lastBy 58 = .ok (.if_icmp .le 8, 3) := by decide +kernel
theorem dX6_lastBy_61 : decode cX6_lastBy 61 = .ok (.iload 8, 2) := by decide +kernel
theorem dX6_lastBy_63 : decode cX6_lastBy 63 = .ok (.goto 5, 3) := by decide +kernel
theorem dX6_lastBy_66 : decode cX6_lastBy 66 = .ok (.iload 6, 2) := by decide +kernel
theorem dX6_lastBy_68 : decode cX6_lastBy 68 = .ok (.istore 6, 2) := by decide +kernel
theorem dX6_lastBy_70 : decode cX6_lastBy 70 = .ok (.iinc 7 1, 3) := by decide +kernel
theorem dX6_lastBy_73 : decode cX6_lastBy 73 = .ok (.goto (-56), 3) := by decide +kernel
theorem dX6_lastBy_76 : decode cX6_lastBy 76 = .ok (.aload_n 0, 1) := by decide +kernel
theorem dX6_lastBy_77 : decode cX6_lastBy 77 = .ok (.getfield 7, 3) := by decide +kernel
theorem dX6_lastBy_80 : decode cX6_lastBy 80 = .ok (.iload_n 2, 1) := by decide +kernel
theorem dX6_lastBy_81 : decode cX6_lastBy 81 = .ok (.iload 4, 2) := by decide +kernel
theorem dX6_lastBy_83 : decode cX6_lastBy 83 = .ok (.iastore, 1) := by decide +kernel
theorem dX6_lastBy_84 : decode cX6_lastBy 84 = .ok (.iload 5, 2) := by decide +kernel
theorem dX6_lastBy_86 : decode cX6_lastBy 86 = .ok (.ireturn, 1) := by decide +kernel
theorem dX6_boughFor_0 : decode cX6_boughFor 0 = .ok (.aload_n 0, 1) := by decide +kernel
theorem dX6_boughFor_1 : decode cX6_boughFor 1 = .ok (.iload_n 1, 1) := by decide +kernel
theorem dX6_boughFor_2 : decode cX6_boughFor 2 = .ok (.invokevirtual 175, 3) := by decide +kernel
theorem dX6_boughFor_5 : decode cX6_boughFor 5 = .ok (.ifCond .ne 5, 3) := by decide +kernel
theorem dX6_boughFor_8 : decode cX6_boughFor 8 = .ok (.iconst (-1), 1) := by decide +kernel
theorem dX6_boughFor_9 : decode cX6_boughFor 9 = .ok (.ireturn, 1) := by decide +kernel
theorem dX6_boughFor_10 : decode cX6_boughFor 10 = .ok (.aload_n 0, 1) := by decide +kernel
theorem dX6_boughFor_11 : decode cX6_boughFor 11 = .ok (.iload_n 1, 1) := by decide +kernel
theorem dX6_boughFor_12 : decode cX6_boughFor 12 = .ok (.iconst 4, 1) := by decide +kernel
theorem dX6_boughFor_13 : decode cX6_boughFor 13 = .ok (.invokevirtual 163, 3) := by decide +kernel
theorem dX6_boughFor_16 : decode cX6_boughFor 16 = .ok (.ifCond .ne 8, 3) := by decide +kernel
theorem dX6_boughFor_19 : decode cX6_boughFor 19 = .ok (.bipush (-3), 2) := by decide +kernel
theorem dX6_boughFor_21 : decode cX6_boughFor 21 = .ok (.goto 18, 3) := by decide +kernel
theorem dX6_boughFor_24 : decode cX6_boughFor 24 = .ok (.aload_n 0, 1) := by decide +kernel
theorem dX6_boughFor_25 : decode cX6_boughFor 25 = .ok (.iload_n 1, 1) := by decide +kernel
theorem dX6_boughFor_26 : decode cX6_boughFor 26 = .ok (.bipush 14, 2) := by decide +kernel
theorem dX6_boughFor_28 : decode cX6_boughFor 28 = .ok (.bipush 6, 2) := by decide +kernel
theorem dX6_boughFor_30 : decode cX6_boughFor 30 = .ok (.iload_n 1, 1) := by decide +kernel
theorem dX6_boughFor_31 : decode cX6_boughFor 31 = .ok (.imul, 1) := by decide +kernel
theorem dX6_boughFor_32 : decode cX6_boughFor 32 = .ok (.iadd, 1) := by decide +kernel
theorem dX6_boughFor_33 : decode cX6_boughFor 33 = .ok (.iconst 1, 1) := by decide +kernel
theorem dX6_boughFor_34 : decode cX6_boughFor 34 = .ok (.iadd, 1) := by decide +kernel
theorem dX6_boughFor_35 : decode cX6_boughFor 35 = .ok (.iconst 5, 1) := by decide +kernel
theorem dX6_boughFor_36 : decode cX6_boughFor 36 = .ok (.invokevirtual 227, 3) := by decide +kernel
theorem dX6_boughFor_39 : decode cX6_boughFor 39 = .ok (.ireturn, 1) := by decide +kernel
theorem dX6_kindFor_0 : decode cX6_kindFor 0 = .ok (.aload_n 0, 1) := by decide +kernel
theorem dX6_kindFor_1 : decode cX6_kindFor 1 = .ok (.iload_n 1, 1) := by decide +kernel
theorem dX6_kindFor_2 : decode cX6_kindFor 2 = .ok (.invokevirtual 175, 3) := by decide +kernel
theorem dX6_kindFor_5 : decode cX6_kindFor 5 = .ok (.ifCond .ne 5, 3) := by decide +kernel
theorem dX6_kindFor_8 : decode cX6_kindFor 8 = .ok (.iconst (-1), 1) := by decide +kernel
theorem dX6_kindFor_9 : decode cX6_kindFor 9 = .ok (.ireturn, 1) := by decide +kernel
theorem dX6_kindFor_10 : decode cX6_kindFor 10 = .ok (.aload_n 0, 1) := by decide +kernel
theorem dX6_kindFor_11 : decode cX6_kindFor 11 = .ok (.iload_n 1, 1) := by decide +kernel
theorem dX6_kindFor_12 : decode cX6_kindFor 12 = .ok (.iconst 4, 1) := by decide +kernel
theorem dX6_kindFor_13 : decode cX6_kindFor 13 = .ok (.invokevirtual 163, 3) := by decide +kernel
theorem dX6_kindFor_16 : decode cX6_kindFor 16 = .ok (.ifCond .ne 8, 3) := by decide +kernel
theorem dX6_kindFor_19 : decode cX6_kindFor 19 = .ok (.bipush (-3), 2) := by decide +kernel
theorem dX6_kindFor_21 : decode cX6_kindFor 21 = .ok (.goto 16, 3) := by decide +kernel
theorem dX6_kindFor_24 : decode cX6_kindFor 24 = .ok (.aload_n 0, 1) := by decide +kernel
theorem dX6_kindFor_25 : decode cX6_kindFor 25 = .ok (.iload_n 1, 1) := by decide +kernel
theorem dX6_kindFor_26 : decode cX6_kindFor 26 = .ok (.bipush 14, 2) := by decide +kernel
theorem dX6_kindFor_28 : decode cX6_kindFor 28 = .ok (.bipush 6, 2) := by decide +kernel
theorem dX6_kindFor_30 : decode cX6_kindFor 30 = .ok (.iload_n 1, 1) := by decide +kernel
theorem dX6_kindFor_31 : decode cX6_kindFor 31 = .ok (.imul, 1) := by decide +kernel
theorem dX6_kindFor_32 : decode cX6_kindFor 32 = .ok (.iadd, 1) := by decide +kernel
theorem dX6_kindFor_33 : decode cX6_kindFor 33 = .ok (.iconst 5, 1) := by decide +kernel
theorem dX6_kindFor_34 : decode cX6_kindFor 34 = .ok (.invokevirtual 227, 3) := by decide +kernel
theorem dX6_kindFor_37 : decode cX6_kindFor 37 = .ok (.ireturn, 1) := by decide +kernel
theorem dX6_isShort_0 : decode cX6_isShort 0 = .ok (.iload_n 0, 1) := by decide +kernel
theorem dX6_isShort_1 : decode cX6_isShort 1 = .ok (.i2l, 1) := by decide +kernel
theorem dX6_isShort_2 : decode cX6_isShort 2 = .ok (.lconst 1, 1) := by decide +kernel
theorem dX6_isShort_3 : decode cX6_isShort 3 = .ok (.ldc2_w 231, 3) := by decide +kernel
theorem dX6_isShort_6 : decode cX6_isShort 6 = .ok (.invokestatic 57, 3) := by decide +kernel
theorem dX6_isShort_9 : decode cX6_isShort 9 = .ok (.ireturn, 1) := by decide +kernel
theorem dX6_hangsBehind_0 : decode cX6_hangsBehind 0 = .ok (.aload_n 0, 1) := by decide +kernel
theorem dX6_hangsBehind_1 : decode cX6_hangsBehind 1 = .ok (.getfield 7, 3) := by decide +kernel
theorem dX6_hangsBehind_4 : decode cX6_hangsBehind 4 = .ok (.aload_n 0, 1) := by decide +kernel
theorem dX6_hangsBehind_5 : decode cX6_hangsBehind 5 = .ok (.getfield 16, 3) := by decide +kernel
theorem dX6_hangsBehind_8 : decode cX6_hangsBehind 8 = .ok (.invokestatic 138, 3) := by decide +kernel
theorem dX6_hangsBehind_11 : decode cX6_hangsBehind 11 = .ok (.iconst 0, 1) := by decide +kernel
theorem dX6_hangsBehind_12 : decode cX6_hangsBehind 12 = .ok (.istore 4, 2) := by decide +kernel
theorem dX6_hangsBehind_14 : decode cX6_hangsBehind 14 = .ok (.iload 4, 2) := by decide +kernel
theorem dX6_hangsBehind_16 : decode cX6_hangsBehind 16 = .ok (.iload_n 2, 1) := by decide +kernel
theorem dX6_hangsBehind_17 : decode cX6_hangsBehind 17 = .ok (.if_icmp .ge 16, 3) := by decide +kernel
theorem dX6_hangsBehind_20 : decode cX6_hangsBehind 20 = .ok (.aload_n 0, 1) := by decide +kernel
theorem dX6_hangsBehind_21 : decode cX6_hangsBehind 21 = .ok (.iload_n 3, 1) := by decide +kernel
theorem dX6_hangsBehind_22 : decode cX6_hangsBehind 22 = .ok (.invokevirtual 197, 3) := by decide +kernel
theorem dX6_hangsBehind_25 : decode cX6_hangsBehind 25 = .ok (.istore 5, 2) := by decide +kernel
theorem dX6_hangsBehind_27 : decode cX6_hangsBehind 27 = .ok (.iinc 4 1, 3) := by decide +kernel
theorem dX6_hangsBehind_30 : decode cX6_hangsBehind 30 = .ok (.goto (-16), 3) := by decide +kernel
theorem dX6_hangsBehind_33 : decode cX6_hangsBehind 33 = .ok (.aload_n 0, 1) := by decide +kernel
theorem dX6_hangsBehind_34 : decode cX6_hangsBehind 34 = .ok (.iload_n 1, 1) := by decide +kernel
theorem dX6_hangsBehind_35 : decode cX6_hangsBehind 35 = .ok (.iconst 4, 1) := by decide +kernel
theorem dX6_hangsBehind_36 : decode cX6_hangsBehind 36 = .ok (.invokevirtual 163, 3) := by decide +kernel
theorem dX6_hangsBehind_39 : decode cX6_hangsBehind 39 = .ok (.iconst 1, 1) := by decide +kernel
theorem dX6_hangsBehind_40 : decode cX6_hangsBehind 40 = .ok (.if_icmp .ne 7, 3) := by decide +kernel
theorem dX6_hangsBehind_43 : decode cX6_hangsBehind 43 = .ok (.iconst 1, 1) := by decide +kernel
theorem dX6_hangsBehind_44 : decode cX6_hangsBehind 44 = .ok (.goto 4, 3) := by decide +kernel
theorem dX6_hangsBehind_47 : decode cX6_hangsBehind 47 = .ok (.iconst 0, 1) := by decide +kernel
theorem dX6_hangsBehind_48 : decode cX6_hangsBehind 48 = .ok (.istore 4, 2) := by decide +kernel
theorem dX6_hangsBehind_50 : decode cX6_hangsBehind 50 = .ok (.aload_n 0, 1) := by decide +kernel
theorem dX6_hangsBehind_51 : decode cX6_hangsBehind 51 = .ok (.getfield 16, 3) := by decide +kernel
theorem dX6_hangsBehind_54 : decode cX6_hangsBehind 54 = .ok (.aload_n 0, 1) := by decide +kernel
theorem dX6_hangsBehind_55 : decode cX6_hangsBehind 55 = .ok (.getfield 7, 3) := by decide +kernel
theorem dX6_hangsBehind_58 : decode cX6_hangsBehind 58 = .ok (.invokestatic 138, 3) := by decide +kernel
theorem dX6_hangsBehind_61 : decode cX6_hangsBehind 61 = .ok (.iload 4, 2) := by decide +kernel
theorem dX6_hangsBehind_63 : decode cX6_hangsBehind 63 = .ok (.ireturn, 1) := by decide +kernel
theorem dX6_holdFor_0 : decode cX6_holdFor 0 = .ok (.aload_n 0, 1) := by decide +kernel
theorem dX6_holdFor_1 : decode cX6_holdFor 1 = .ok (.iload_n 1, 1) := by decide +kernel
theorem dX6_holdFor_2 : decode cX6_holdFor 2 = .ok (.invokevirtual 175, 3) := by decide +kernel
theorem dX6_holdFor_5 : decode cX6_holdFor 5 = .ok (.ifCond .eq 10, 3) := by decide +kernel
theorem dX6_holdFor_8 : decode cX6_holdFor 8 = .ok (.iload_n 2, 1) := by decide +kernel
theorem dX6_holdFor_9 : decode cX6_holdFor 9 = .ok (.invokestatic 233, 3) := by decide +kernel
theorem dX6_holdFor_12 : decode cX6_holdFor 12 = .ok (.ifCond .ne 5, 3) := by decide +kernel
theorem dX6_holdFor_15 : decode cX6_holdFor 15 = .ok (.iconst (-1), 1) := by decide +kernel
theorem dX6_holdFor_16 : decode cX6_holdFor 16 = .ok (.ireturn, 1) := by decide +kernel
theorem dX6_holdFor_17 : decode cX6_holdFor 17 = .ok (.bipush 14, 2) := by decide +kernel
theorem dX6_holdFor_19 : decode cX6_holdFor 19 = .ok (.bipush 6, 2) := by decide +kernel
theorem dX6_holdFor_21 : decode cX6_holdFor 21 = .ok (.iload_n 1, 1) := by decide +kernel
theorem dX6_holdFor_22 : decode cX6_holdFor 22 = .ok (.imul, 1) := by decide +kernel
theorem dX6_holdFor_23 : decode cX6_holdFor 23 = .ok (.iadd, 1) := by decide +kernel
theorem dX6_holdFor_24 : decode cX6_holdFor 24 = .ok (.iconst 2, 1) := by decide +kernel
theorem dX6_holdFor_25 : decode cX6_holdFor 25 = .ok (.iadd, 1) := by decide +kernel
theorem dX6_holdFor_26 : decode cX6_holdFor 26 = .ok (.istore_n 3, 1) := by decide +kernel
theorem dX6_holdFor_27 : decode cX6_holdFor 27 = .ok (.aload_n 0, 1) := by decide +kernel
theorem dX6_holdFor_28 : decode cX6_holdFor 28 = .ok (.getfield 7, 3) := by decide +kernel
theorem dX6_holdFor_31 : decode cX6_holdFor 31 = .ok (.iload_n 3, 1) := by decide +kernel
theorem dX6_holdFor_32 : decode cX6_holdFor 32 = .ok (.iaload, 1) := by decide +kernel
theorem dX6_holdFor_33 : decode cX6_holdFor 33 = .ok (.istore 4, 2) := by decide +kernel
theorem dX6_holdFor_35 : decode cX6_holdFor 35 = .ok (.bipush (-3), 2) := by decide +kernel
theorem dX6_holdFor_37 : decode cX6_holdFor 37 = .ok (.istore 5, 2) := by decide +kernel
theorem dX6_holdFor_39 : decode cX6_holdFor 39 = .ok (.iconst 0, 1) := by decide +kernel
theorem dX6_holdFor_40 : decode cX6_holdFor 40 = .ok (.istore 6, 2) := by decide +kernel
theorem dX6_holdFor_42 : decode cX6_holdFor 42 = .ok (.iload 6, 2) := by decide +kernel
theorem dX6_holdFor_44 : decode cX6_holdFor 44 = .ok (.bipush 99, 2) := by decide +kernel
theorem dX6_holdFor_46 : decode cX6_holdFor 46 = .ok (.if_icmp .gt 41, 3) := by decide +kernel
theorem dX6_holdFor_49 : decode cX6_holdFor 49 = .ok (.iload 5, 2) := by decide +kernel
theorem dX6_holdFor_51 : decode cX6_holdFor 51 = .ok (.ifCond .ge 36, 3) := by decide +kernel
theorem dX6_holdFor_54 : decode cX6_holdFor 54 = .ok (.aload_n 0, 1) := by decide +kernel
theorem dX6_holdFor_55 : decode cX6_holdFor 55 = .ok (.getfield 7, 3) := by decide +kernel
theorem dX6_holdFor_58 : decode cX6_holdFor 58 = .ok (.iload_n 3, 1) := by decide +kernel
theorem dX6_holdFor_59 : decode cX6_holdFor 59 = .ok (.iload 6, 2) := by decide +kernel
theorem dX6_holdFor_61 : decode cX6_holdFor 61 = .ok (.iastore, 1) := by decide +kernel
theorem dX6_holdFor_62 : decode cX6_holdFor 62 = .ok (.aload_n 0, 1) := by decide +kernel
theorem dX6_holdFor_63 : decode cX6_holdFor 63 = .ok (.iload_n 1, 1) := by decide +kernel
theorem dX6_holdFor_64 : decode cX6_holdFor 64 = .ok (.iload_n 2, 1) := by decide +kernel
theorem dX6_holdFor_65 : decode cX6_holdFor 65 = .ok (.iconst 0, 1) := by decide +kernel
theorem dX6_holdFor_66 : decode cX6_holdFor 66 = .ok (.invokevirtual 236, 3) := by decide +kernel
theorem dX6_holdFor_69 : decode cX6_holdFor 69 = .ok (.ifCond .eq 8, 3) := by decide +kernel
theorem dX6_holdFor_72 : decode cX6_holdFor 72 = .ok (.iload 6, 2) := by decide +kernel
theorem dX6_holdFor_74 : decode cX6_holdFor 74 = .ok (.goto 5, 3) := by decide +kernel
theorem dX6_holdFor_77 : decode cX6_holdFor 77 = .ok (.bipush (-3), 2) := by decide +kernel
theorem dX6_holdFor_79 : decode cX6_holdFor 79 = .ok (.istore 5, 2) := by decide +kernel
theorem dX6_holdFor_81 : decode cX6_holdFor 81 = .ok (.iinc 6 1, 3) := by decide +kernel
theorem dX6_holdFor_84 : decode cX6_holdFor 84 = .ok (.goto (-42), 3) := by decide +kernel
theorem dX6_holdFor_87 : decode cX6_holdFor 87 = .ok (.aload_n 0, 1) := by decide +kernel
theorem dX6_holdFor_88 : decode cX6_holdFor 88 = .ok (.getfield 7, 3) := by decide +kernel
theorem dX6_holdFor_91 : decode cX6_holdFor 91 = .ok (.iload_n 3, 1) := by decide +kernel
theorem dX6_holdFor_92 : decode cX6_holdFor 92 = .ok (.iload 4, 2) := by decide +kernel
theorem dX6_holdFor_94 : decode cX6_holdFor 94 = .ok (.iastore, 1) := by decide +kernel
theorem dX6_holdFor_95 : decode cX6_holdFor 95 = .ok (.iload 5, 2) := by decide +kernel
theorem dX6_holdFor_97 : decode cX6_holdFor 97 = .ok (.ireturn, 1) := by decide +kernel
theorem dX6_tiedFor_0 : decode cX6_tiedFor 0 = .ok (.aload_n 0, 1) := by decide +kernel
theorem dX6_tiedFor_1 : decode cX6_tiedFor 1 = .ok (.iload_n 1, 1) := by decide +kernel
theorem dX6_tiedFor_2 : decode cX6_tiedFor 2 = .ok (.invokevirtual 175, 3) := by decide +kernel
theorem dX6_tiedFor_5 : decode cX6_tiedFor 5 = .ok (.ifCond .eq 10, 3) := by decide +kernel
theorem dX6_tiedFor_8 : decode cX6_tiedFor 8 = .ok (.iload_n 2, 1) := by decide +kernel
theorem dX6_tiedFor_9 : decode cX6_tiedFor 9 = .ok (.invokestatic 233, 3) := by decide +kernel
theorem dX6_tiedFor_12 : decode cX6_tiedFor 12 = .ok (.ifCond .ne 5, 3) := by decide +kernel
theorem dX6_tiedFor_15 : decode cX6_tiedFor 15 = .ok (.iconst (-1), 1) := by decide +kernel
theorem dX6_tiedFor_16 : decode cX6_tiedFor 16 = .ok (.ireturn, 1) := by decide +kernel
theorem dX6_tiedFor_17 : decode cX6_tiedFor 17 = .ok (.aload_n 0, 1) := by decide +kernel
theorem dX6_tiedFor_18 : decode cX6_tiedFor 18 = .ok (.invokevirtual 189, 3) := by decide +kernel
theorem dX6_tiedFor_21 : decode cX6_tiedFor 21 = .ok (.iconst 1, 1) := by decide +kernel
theorem dX6_tiedFor_22 : decode cX6_tiedFor 22 = .ok (.iload_n 1, 1) := by decide +kernel
theorem dX6_tiedFor_23 : decode cX6_tiedFor 23 = .ok (.ishl, 1) := by decide +kernel
theorem dX6_tiedFor_24 : decode cX6_tiedFor 24 = .ok (.iconst (-1), 1) := by decide +kernel
theorem dX6_tiedFor_25 : decode cX6_tiedFor 25 = .ok (.ixor, 1) := by decide +kernel
theorem dX6_tiedFor_26 : decode cX6_tiedFor 26 = .ok (.iand, 1) := by decide +kernel
theorem dX6_tiedFor_27 : decode cX6_tiedFor 27 = .ok (.istore_n 3, 1) := by decide +kernel
theorem dX6_tiedFor_28 : decode cX6_tiedFor 28 = .ok (.bipush (-3), 2) := by decide +kernel
theorem dX6_tiedFor_30 : decode cX6_tiedFor 30 = .ok (.istore 4, 2) := by decide +kernel
theorem dX6_tiedFor_32 : decode cX6_tiedFor 32 = .ok (.iconst 0, 1) := by decide +kernel
theorem dX6_tiedFor_33 : decode cX6_tiedFor 33 = .ok (.istore 5, 2) := by decide +kernel
theorem dX6_tiedFor_35 : decode cX6_tiedFor 35 = .ok (.iload 5, 2) := by decide +kernel
theorem dX6_tiedFor_37 : decode cX6_tiedFor 37 = .ok (.iconst 1, 1) := by decide +kernel
theorem dX6_tiedFor_38 : decode cX6_tiedFor 38 = .ok (.aload_n 0, 1) := by decide +kernel
theorem dX6_tiedFor_39 : decode cX6_tiedFor 39 = .ok (.getfield 7, 3) := by decide +kernel
theorem dX6_tiedFor_42 : decode cX6_tiedFor 42 = .ok (.iconst 0, 1) := by decide +kernel
theorem dX6_tiedFor_43 : decode cX6_tiedFor 43 = .ok (.iaload, 1) := by decide +kernel
theorem dX6_tiedFor_44 : decode cX6_tiedFor 44 = .ok (.ishl, 1) := by decide +kernel
theorem dX6_tiedFor_45 : decode cX6_tiedFor 45 = .ok (.if_icmp .ge 68, 3) := by decide +kernel
theorem dX6_tiedFor_48 : decode cX6_tiedFor 48 = .ok (.iload 4, 2) := by decide +kernel
theorem dX6_tiedFor_50 : decode cX6_tiedFor 50 = .ok (.ifCond .lt 16, 3) := by decide +kernel
theorem dX6_tiedFor_53 : decode cX6_tiedFor 53 = .ok (.iload 5, 2) := by decide +kernel
theorem dX6_tiedFor_55 : decode cX6_tiedFor 55 = .ok (.invokestatic 169, 3) := by decide +kernel
theorem dX6_tiedFor_58 : decode cX6_tiedFor 58 = .ok (.iload 4, 2) := by decide +kernel
theorem dX6_tiedFor_60 : decode cX6_tiedFor 60 = .ok (.invokestatic 169, 3) := by decide +kernel
theorem dX6_tiedFor_63 : decode cX6_tiedFor 63 = .ok (.if_icmp .ge 7, 3) := by decide +kernel
theorem dX6_tiedFor_66 : decode cX6_tiedFor 66 = .ok (.iconst 1, 1) := by decide +kernel
theorem dX6_tiedFor_67 : decode cX6_tiedFor 67 = .ok (.goto 4, 3) := by decide +kernel
theorem dX6_tiedFor_70 : decode cX6_tiedFor 70 = .ok (.iconst 0, 1) := by decide +kernel
theorem dX6_tiedFor_71 : decode cX6_tiedFor 71 = .ok (.istore 6, 2) := by decide +kernel
theorem dX6_tiedFor_73 : decode cX6_tiedFor 73 = .ok (.iload 6, 2) := by decide +kernel
theorem dX6_tiedFor_75 : decode cX6_tiedFor 75 = .ok (.ifCond .eq 28, 3) := by decide +kernel
theorem dX6_tiedFor_78 : decode cX6_tiedFor 78 = .ok (.iload 5, 2) := by decide +kernel
theorem dX6_tiedFor_80 : decode cX6_tiedFor 80 = .ok (.iload_n 3, 1) := by decide +kernel
theorem dX6_tiedFor_81 : decode cX6_tiedFor 81 = .ok (.iconst (-1), 1) := by decide +kernel
theorem dX6_tiedFor_82 : decode cX6_tiedFor 82 = .ok (.ixor, 1) := by decide +kernel
theorem dX6_tiedFor_83 : decode cX6_tiedFor 83 = .ok (.iand, 1) := by decide +kernel
theorem dX6_tiedFor_84 : decode cX6_tiedFor 84 = .ok (.ifCond .ne 19, 3) := by decide +kernel
theorem dX6_tiedFor_87 : decode cX6_tiedFor 87 = .ok (.aload_n 0, 1) := by decide +kernel
theorem dX6_tiedFor_88 : decode cX6_tiedFor 88 = .ok (.iload_n 1, 1) := by decide +kernel
theorem dX6_tiedFor_89 : decode cX6_tiedFor 89 = .ok (.iload_n 2, 1) := by decide +kernel
theorem dX6_tiedFor_90 : decode cX6_tiedFor 90 = .ok (.iload 5, 2) := by decide +kernel
theorem dX6_tiedFor_92 : decode cX6_tiedFor 92 = .ok (.invokevirtual 236, 3) := by decide +kernel
theorem dX6_tiedFor_95 : decode cX6_tiedFor 95 = .ok (.ifCond .eq 8, 3) := by decide +kernel
theorem dX6_tiedFor_98 : decode cX6_tiedFor 98 = .ok (.iload 5, 2) := by decide +kernel
theorem dX6_tiedFor_100 : decode cX6_tiedFor 100 = .ok (.goto 5, 3) := by decide +kernel
theorem dX6_tiedFor_103 : decode cX6_tiedFor 103 = .ok (.iload 4, 2) := by decide +kernel
theorem dX6_tiedFor_105 : decode cX6_tiedFor 105 = .ok (.istore 4, 2) := by decide +kernel
theorem dX6_tiedFor_107 : decode cX6_tiedFor 107 = .ok (.iinc 5 1, 3) := by decide +kernel
theorem dX6_tiedFor_110 : decode cX6_tiedFor 110 = .ok (.goto (-75), 3) := by decide +kernel
theorem dX6_tiedFor_113 : decode cX6_tiedFor 113 = .ok (.iload 4, 2) := by decide +kernel
theorem dX6_tiedFor_115 : decode cX6_tiedFor 115 = .ok (.ireturn, 1) := by decide +kernel
theorem dX6_product_0 : decode cX6_product 0 = .ok (.lconst 1, 1) := by decide +kernel
theorem dX6_product_1 : decode cX6_product 1 = .ok (.lstore_n 1, 1) := by decide +kernel
theorem dX6_product_2 : decode cX6_product 2 = .ok (.iconst 2, 1) := by decide +kernel
theorem dX6_product_3 : decode cX6_product 3 = .ok (.istore_n 3, 1) := by decide +kernel
theorem dX6_product_4 : decode cX6_product 4 = .ok (.iload_n 3, 1) := by decide +kernel
theorem dX6_product_5 : decode cX6_product 5 = .ok (.iload_n 0, 1) := by decide +kernel
theorem dX6_product_6 : decode cX6_product 6 = .ok (.if_icmp .gt 14, 3) := by decide +kernel
theorem dX6_product_9 : decode cX6_product 9 = .ok (.lload_n 1, 1) := by decide +kernel
theorem dX6_product_10 : decode cX6_product 10 = .ok (.iload_n 3, 1) := by decide +kernel
theorem dX6_product_11 : decode cX6_product 11 = .ok (.i2l, 1) := by decide +kernel
theorem dX6_product_12 : decode cX6_product 12 = .ok (.lmul, 1) := by decide +kernel
theorem dX6_product_13 : decode cX6_product 13 = .ok (.lstore_n 1, 1) := by decide +kernel
theorem dX6_product_14 : decode cX6_product 14 = .ok (.iinc 3 1, 3) := by decide +kernel
theorem dX6_product_17 : decode cX6_product 17 = .ok (.goto (-13), 3) := by decide +kernel
theorem dX6_product_20 : decode cX6_product 20 = .ok (.lload_n 1, 1) := by decide +kernel
theorem dX6_product_21 : decode cX6_product 21 = .ok (.lreturn, 1) := by decide +kernel
theorem dX6_partOf_0 : decode cX6_partOf 0 = .ok (.lload_n 2, 1) := by decide +kernel
theorem dX6_partOf_1 : decode cX6_partOf 1 = .ok (.lstore 5, 2) := by decide +kernel
theorem dX6_partOf_3 : decode cX6_partOf 3 = .ok (.lload_n 0, 1) := by decide +kernel
theorem dX6_partOf_4 : decode cX6_partOf 4 = .ok (.lstore 7, 2) := by decide +kernel
theorem dX6_partOf_6 : decode cX6_partOf 6 = .ok (.lload 7, 2) := by decide +kernel
theorem dX6_partOf_8 : decode cX6_partOf 8 = .ok (.lconst 0, 1) := by decide +kernel
theorem dX6_partOf_9 : decode cX6_partOf 9 = .ok (.lcmp, 1) := by decide +kernel
theorem dX6_partOf_10 : decode cX6_partOf 10 = .ok (.ifCond .eq 21, 3) := by decide +kernel
theorem dX6_partOf_13 : decode cX6_partOf 13 = .ok (.lload 5, 2) := by decide +kernel
theorem dX6_partOf_15 : decode cX6_partOf 15 = .ok (.lload 7, 2) := by decide +kernel
theorem dX6_partOf_17 : decode cX6_partOf 17 = .ok (.lrem, 1) := by decide +kernel
theorem dX6_partOf_18 : decode cX6_partOf 18 = .ok (.lstore 9, 2) := by decide +kernel
theorem dX6_partOf_20 : decode cX6_partOf 20 = .ok (.lload 7, 2) := by decide +kernel
theorem dX6_partOf_22 : decode cX6_partOf 22 = .ok (.lstore 5, 2) := by decide +kernel
theorem dX6_partOf_24 : decode cX6_partOf 24 = .ok (.lload 9, 2) := by decide +kernel
theorem dX6_partOf_26 : decode cX6_partOf 26 = .ok (.lstore 7, 2) := by decide +kernel
theorem dX6_partOf_28 : decode cX6_partOf 28 = .ok (.goto (-22), 3) := by decide +kernel
theorem dX6_partOf_31 : decode cX6_partOf 31 = .ok (.iload 4, 2) := by decide +kernel
theorem dX6_partOf_33 : decode cX6_partOf 33 = .ok (.ifCond .ne 10, 3) := by decide +kernel
theorem dX6_partOf_36 : decode cX6_partOf 36 = .ok (.lload_n 0, 1) := by decide +kernel
theorem dX6_partOf_37 : decode cX6_partOf 37 = .ok (.lload 5, 2) := by decide +kernel
theorem dX6_partOf_39 : decode cX6_partOf 39 = .ok (.ldiv, 1) := by decide +kernel
theorem dX6_partOf_40 : decode cX6_partOf 40 = .ok (.goto 7, 3) := by decide +kernel
theorem dX6_partOf_43 : decode cX6_partOf 43 = .ok (.lload_n 2, 1) := by decide +kernel
theorem dX6_partOf_44 : decode cX6_partOf 44 = .ok (.lload 5, 2) := by decide +kernel
theorem dX6_partOf_46 : decode cX6_partOf 46 = .ok (.ldiv, 1) := by decide +kernel
theorem dX6_partOf_47 : decode cX6_partOf 47 = .ok (.lreturn, 1) := by decide +kernel
theorem dX6_isTold_0 : decode cX6_isTold 0 = .ok (.aload_n 0, 1) := by decide +kernel
theorem dX6_isTold_1 : decode cX6_isTold 1 = .ok (.getfield 7, 3) := by decide +kernel
theorem dX6_isTold_4 : decode cX6_isTold 4 = .ok (.aload_n 0, 1) := by decide +kernel
theorem dX6_isTold_5 : decode cX6_isTold 5 = .ok (.getfield 16, 3) := by decide +kernel
theorem dX6_isTold_8 : decode cX6_isTold 8 = .ok (.invokestatic 138, 3) := by decide +kernel
theorem dX6_isTold_11 : decode cX6_isTold 11 = .ok (.iconst 1, 1) := by decide +kernel
theorem dX6_isTold_12 : decode cX6_isTold 12 = .ok (.istore_n 2, 1) := by decide +kernel
theorem dX6_isTold_13 : decode cX6_isTold 13 = .ok (.iconst 0, 1) := by decide +kernel
theorem dX6_isTold_14 : decode cX6_isTold 14 = .ok (.istore_n 3, 1) := by decide +kernel
theorem dX6_isTold_15 : decode cX6_isTold 15 = .ok (.iload_n 3, 1) := by decide +kernel
theorem dX6_isTold_16 : decode cX6_isTold 16 = .ok (.aload_n 0, 1) := by decide +kernel
theorem dX6_isTold_17 : decode cX6_isTold 17 = .ok (.getfield 34, 3) := by decide +kernel
theorem dX6_isTold_20 : decode cX6_isTold 20 = .ok (.iload_n 1, 1) := by decide +kernel
theorem dX6_isTold_21 : decode cX6_isTold 21 = .ok (.iaload, 1) := by decide +kernel
theorem dX6_isTold_22 : decode cX6_isTold 22 = .ok (.if_icmp .ge 76, 3) := by decide +kernel
theorem dX6_isTold_25 : decode cX6_isTold 25 = .ok (.iload_n 2, 1) := by decide +kernel
theorem dX6_isTold_26 : decode cX6_isTold 26 = .ok (.ifCond .eq 72, 3) := by decide +kernel
theorem dX6_isTold_29 : decode cX6_isTold 29 = .ok (.aload_n 0, 1) := by decide +kernel
theorem dX6_isTold_30 : decode cX6_isTold 30 = .ok (.iconst 0, 1) := by decide +kernel
theorem dX6_isTold_31 : decode cX6_isTold 31 = .ok (.invokevirtual 197, 3) := by decide +kernel
theorem dX6_isTold_34 : decode cX6_isTold 34 = .ok (.istore 4, 2) := by decide +kernel
theorem dX6_isTold_36 : decode cX6_isTold 36 = .ok (.iload 4, 2) := by decide +kernel
theorem dX6_isTold_38 : decode cX6_isTold 38 = .ok (.ifCond .ge 8, 3) := by decide +kernel
theorem dX6_isTold_41 : decode cX6_isTold 41 = .ok (.bipush 10, 2) := by decide +kernel
theorem dX6_isTold_43 : decode cX6_isTold 43 = .ok (.goto 10, 3) := by decide +kernel
theorem dX6_isTold_46 : decode cX6_isTold 46 = .ok (.aload_n 0, 1) := by decide +kernel
theorem dX6_isTold_47 : decode cX6_isTold 47 = .ok (.iload 4, 2) := by decide +kernel
theorem dX6_isTold_49 : decode cX6_isTold 49 = .ok (.iconst 3, 1) := by decide +kernel
theorem dX6_isTold_50 : decode cX6_isTold 50 = .ok (.invokevirtual 163, 3) := by decide +kernel
theorem dX6_isTold_53 : decode cX6_isTold 53 = .ok (.istore 5, 2) := by decide +kernel
theorem dX6_isTold_55 : decode cX6_isTold 55 = .ok (.aload_n 0, 1) := by decide +kernel
theorem dX6_isTold_56 : decode cX6_isTold 56 = .ok (.getfield 37, 3) := by decide +kernel
theorem dX6_isTold_59 : decode cX6_isTold 59 = .ok (.bipush 40, 2) := by decide +kernel
theorem dX6_isTold_61 : decode cX6_isTold 61 = .ok (.iload_n 1, 1) := by decide +kernel
theorem dX6_isTold_62 : decode cX6_isTold 62 = .ok (.imul, 1) := by decide +kernel
theorem dX6_isTold_63 : decode cX6_isTold 63 = .ok (.iload_n 3, 1) := by decide +kernel
theorem dX6_isTold_64 : decode cX6_isTold 64 = .ok (.iadd, 1) := by decide +kernel
theorem dX6_isTold_65 : decode cX6_isTold 65 = .ok (.iaload, 1) := by decide +kernel
theorem dX6_isTold_66 : decode cX6_isTold 66 = .ok (.iconst (-1), 1) := by decide +kernel
theorem dX6_isTold_67 : decode cX6_isTold 67 = .ok (.if_icmp .eq 19, 3) := by decide +kernel
theorem dX6_isTold_70 : decode cX6_isTold 70 = .ok (.aload_n 0, 1) := by decide +kernel
theorem dX6_isTold_71 : decode cX6_isTold 71 = .ok (.getfield 37, 3) := by decide +kernel
theorem dX6_isTold_74 : decode cX6_isTold 74 = .ok (.bipush 40, 2) := by decide +kernel
theorem dX6_isTold_76 : decode cX6_isTold 76 = .ok (.iload_n 1, 1) := by decide +kernel
theorem dX6_isTold_77 : decode cX6_isTold 77 = .ok (.imul, 1) := by decide +kernel
theorem dX6_isTold_78 : decode cX6_isTold 78 = .ok (.iload_n 3, 1) := by decide +kernel
theorem dX6_isTold_79 : decode cX6_isTold 79 = .ok (.iadd, 1) := by decide +kernel
theorem dX6_isTold_80 : decode cX6_isTold 80 = .ok (.iaload, 1) := by decide +kernel
theorem dX6_isTold_81 : decode cX6_isTold 81 = .ok (.iload 5, 2) := by decide +kernel
theorem dX6_isTold_83 : decode cX6_isTold 83 = .ok (.if_icmp .ne 7, 3) := by decide +kernel
theorem dX6_isTold_86 : decode cX6_isTold 86 = .ok (.iconst 1, 1) := by decide +kernel
theorem dX6_isTold_87 : decode cX6_isTold 87 = .ok (.goto 4, 3) := by decide +kernel
theorem dX6_isTold_90 : decode cX6_isTold 90 = .ok (.iconst 0, 1) := by decide +kernel
theorem dX6_isTold_91 : decode cX6_isTold 91 = .ok (.istore_n 2, 1) := by decide +kernel
theorem dX6_isTold_92 : decode cX6_isTold 92 = .ok (.iinc 3 1, 3) := by decide +kernel
theorem dX6_isTold_95 : decode cX6_isTold 95 = .ok (.goto (-80), 3) := by decide +kernel
theorem dX6_isTold_98 : decode cX6_isTold 98 = .ok (.aload_n 0, 1) := by decide +kernel
theorem dX6_isTold_99 : decode cX6_isTold 99 = .ok (.getfield 16, 3) := by decide +kernel
theorem dX6_isTold_102 : decode cX6_isTold 102 = .ok (.aload_n 0, 1) := by decide +kernel
theorem dX6_isTold_103 : decode cX6_isTold 103 = .ok (.getfield 7, 3) := by decide +kernel
theorem dX6_isTold_106 : decode cX6_isTold 106 = .ok (.invokestatic 138, 3) := by decide +kernel
theorem dX6_isTold_109 : decode cX6_isTold 109 = .ok (.iload_n 2, 1) := by decide +kernel
theorem dX6_isTold_110 : decode cX6_isTold 110 = .ok (.ireturn, 1) := by decide +kernel
theorem dX6_fits_0 : decode cX6_fits 0 = .ok (.iload_n 1, 1) := by decide +kernel
theorem dX6_fits_1 : decode cX6_fits 1 = .ok (.invokestatic 240, 3) := by decide +kernel
theorem dX6_fits_4 : decode cX6_fits 4 = .ok (.ifCond .eq 21, 3) := by decide +kernel
theorem dX6_fits_7 : decode cX6_fits 7 = .ok (.aload_n 0, 1) := by decide +kernel
theorem dX6_fits_8 : decode cX6_fits 8 = .ok (.iload_n 2, 1) := by decide +kernel
theorem dX6_fits_9 : decode cX6_fits 9 = .ok (.invokevirtual 175, 3) := by decide +kernel
theorem dX6_fits_12 : decode cX6_fits 12 = .ok (.ifCond .eq 13, 3) := by decide +kernel
theorem dX6_fits_15 : decode cX6_fits 15 = .ok (.iload_n 3, 1) := by decide +kernel
theorem dX6_fits_16 : decode cX6_fits 16 = .ok (.i2l, 1) := by decide +kernel
theorem dX6_fits_17 : decode cX6_fits 17 = .ok (.lconst 0, 1) := by decide +kernel
theorem dX6_fits_18 : decode cX6_fits 18 = .ok (.lconst 1, 1) := by decide +kernel
theorem dX6_fits_19 : decode cX6_fits 19 = .ok (.invokestatic 57, 3) := by decide +kernel
theorem dX6_fits_22 : decode cX6_fits 22 = .ok (.ifCond .ne 5, 3) := by decide +kernel
theorem dX6_fits_25 : decode cX6_fits 25 = .ok (.iconst (-1), 1) := by decide +kernel
theorem dX6_fits_26 : decode cX6_fits 26 = .ok (.ireturn, 1) := by decide +kernel
theorem dX6_fits_27 : decode cX6_fits 27 = .ok (.aload_n 0, 1) := by decide +kernel
theorem dX6_fits_28 : decode cX6_fits 28 = .ok (.getfield 31, 3) := by decide +kernel
theorem dX6_fits_31 : decode cX6_fits 31 = .ok (.iload_n 1, 1) := by decide +kernel
theorem dX6_fits_32 : decode cX6_fits 32 = .ok (.iaload, 1) := by decide +kernel
theorem dX6_fits_33 : decode cX6_fits 33 = .ok (.ifCond .ge 6, 3) := by decide +kernel
theorem dX6_fits_36 : decode cX6_fits 36 = .ok (.bipush (-11), 2) := by decide +kernel
theorem dX6_fits_38 : decode cX6_fits 38 = .ok (.ireturn, 1) := by decide +kernel
theorem dX6_fits_39 : decode cX6_fits 39 = .ok (.bipush 14, 2) := by decide +kernel
theorem dX6_fits_41 : decode cX6_fits 41 = .ok (.bipush 6, 2) := by decide +kernel
theorem dX6_fits_43 : decode cX6_fits 43 = .ok (.iload_n 2, 1) := by decide +kernel
theorem dX6_fits_44 : decode cX6_fits 44 = .ok (.imul, 1) := by decide +kernel
theorem dX6_fits_45 : decode cX6_fits 45 = .ok (.iadd, 1) := by decide +kernel
theorem dX6_fits_46 : decode cX6_fits 46 = .ok (.iconst 2, 1) := by decide +kernel
theorem dX6_fits_47 : decode cX6_fits 47 = .ok (.iadd, 1) := by decide +kernel
theorem dX6_fits_48 : decode cX6_fits 48 = .ok (.istore 4, 2) := by decide +kernel
theorem dX6_fits_50 : decode cX6_fits 50 = .ok (.aload_n 0, 1) := by decide +kernel
theorem dX6_fits_51 : decode cX6_fits 51 = .ok (.getfield 7, 3) := by decide +kernel
theorem dX6_fits_54 : decode cX6_fits 54 = .ok (.iload 4, 2) := by decide +kernel
theorem dX6_fits_56 : decode cX6_fits 56 = .ok (.iaload, 1) := by decide +kernel
theorem dX6_fits_57 : decode cX6_fits 57 = .ok (.istore 5, 2) := by decide +kernel
theorem dX6_fits_59 : decode cX6_fits 59 = .ok (.iconst 0, 1) := by decide +kernel
theorem dX6_fits_60 : decode cX6_fits 60 = .ok (.istore 6, 2) := by decide +kernel
theorem dX6_fits_62 : decode cX6_fits 62 = .ok (.bipush (-3), 2) := by decide +kernel
theorem dX6_fits_64 : decode cX6_fits 64 = .ok (.istore 7, 2) := by decide +kernel
theorem dX6_fits_66 : decode cX6_fits 66 = .ok (.bipush 99, 2) := by decide +kernel
theorem dX6_fits_68 : decode cX6_fits 68 = .ok (.istore 8, 2) := by decide +kernel
theorem dX6_fits_70 : decode cX6_fits 70 = .ok (.iload 8, 2) := by decide +kernel
theorem dX6_fits_72 : decode cX6_fits 72 = .ok (.ifCond .lt 54, 3) := by decide +kernel
theorem dX6_fits_75 : decode cX6_fits 75 = .ok (.aload_n 0, 1) := by decide +kernel
theorem dX6_fits_76 : decode cX6_fits 76 = .ok (.getfield 7, 3) := by decide +kernel
theorem dX6_fits_79 : decode cX6_fits 79 = .ok (.iload 4, 2) := by decide +kernel
theorem dX6_fits_81 : decode cX6_fits 81 = .ok (.iload 8, 2) := by decide +kernel
theorem dX6_fits_83 : decode cX6_fits 83 = .ok (.iastore, 1) := by decide +kernel
theorem dX6_fits_84 : decode cX6_fits 84 = .ok (.aload_n 0, 1) := by decide +kernel
theorem dX6_fits_85 : decode cX6_fits 85 = .ok (.iload_n 1, 1) := by decide +kernel
theorem dX6_fits_86 : decode cX6_fits 86 = .ok (.invokevirtual 243, 3) := by decide +kernel
theorem dX6_fits_89 : decode cX6_fits 89 = .ok (.istore 9, 2) := by decide +kernel
theorem dX6_fits_91 : decode cX6_fits 91 = .ok (.iload 6, 2) := by decide +kernel
theorem dX6_fits_93 : decode cX6_fits 93 = .ok (.iload 9, 2) := by decide +kernel
theorem dX6_fits_95 : decode cX6_fits 95 = .ok (.ifCond .eq 7, 3) := by decide +kernel
theorem dX6_fits_98 : decode cX6_fits 98 = .ok (.iconst 1, 1) := by decide +kernel
theorem dX6_fits_99 : decode cX6_fits 99 = .ok (.goto 4, 3) := by decide +kernel
theorem dX6_fits_102 : decode cX6_fits 102 = .ok (.iconst 0, 1) := by decide +kernel
theorem dX6_fits_103 : decode cX6_fits 103 = .ok (.iadd, 1) := by decide +kernel
theorem dX6_fits_104 : decode cX6_fits 104 = .ok (.istore 6, 2) := by decide +kernel
theorem dX6_fits_106 : decode cX6_fits 106 = .ok (.iload 9, 2) := by decide +kernel
theorem dX6_fits_108 : decode cX6_fits 108 = .ok (.ifCond .eq 8, 3) := by decide +kernel
theorem dX6_fits_111 : decode cX6_fits 111 = .ok (.iload 8, 2) := by decide +kernel
theorem dX6_fits_113 : decode cX6_fits 113 = .ok (.goto 5, 3) := by decide +kernel
theorem dX6_fits_116 : decode cX6_fits 116 = .ok (.iload 7, 2) := by decide +kernel
theorem dX6_fits_118 : decode cX6_fits 118 = .ok (.istore 7, 2) := by decide +kernel
theorem dX6_fits_120 : decode cX6_fits 120 = .ok (.iinc 8 (-1), 3) := by decide +kernel
theorem dX6_fits_123 : decode cX6_fits 123 = .ok (.goto (-53), 3) := by decide +kernel
theorem dX6_fits_126 : decode cX6_fits 126 = .ok (.aload_n 0, 1) := by decide +kernel
theorem dX6_fits_127 : decode cX6_fits 127 = .ok (.getfield 7, 3) := by decide +kernel
theorem dX6_fits_130 : decode cX6_fits 130 = .ok (.iload 4, 2) := by decide +kernel
theorem dX6_fits_132 : decode cX6_fits 132 = .ok (.iload 5, 2) := by decide +kernel
theorem dX6_fits_134 : decode cX6_fits 134 = .ok (.iastore, 1) := by decide +kernel
theorem dX6_fits_135 : decode cX6_fits 135 = .ok (.iload_n 3, 1) := by decide +kernel
theorem dX6_fits_136 : decode cX6_fits 136 = .ok (.ifCond .ne 8, 3) := by decide +kernel
theorem dX6_fits_139 : decode cX6_fits 139 = .ok (.iload 6, 2) := by decide +kernel
theorem dX6_fits_141 : decode cX6_fits 141 = .ok (.goto 5, 3) := by decide +kernel
theorem dX6_fits_144 : decode cX6_fits 144 = .ok (.iload 7, 2) := by decide +kernel
theorem dX6_fits_146 : decode cX6_fits 146 = .ok (.ireturn, 1) := by decide +kernel
theorem dX6_odds_0 : decode cX6_odds 0 = .ok (.iload_n 1, 1) := by decide +kernel
theorem dX6_odds_1 : decode cX6_odds 1 = .ok (.i2l, 1) := by decide +kernel
theorem dX6_odds_2 : decode cX6_odds 2 = .ok (.lconst 0, 1) := by decide +kernel
theorem dX6_odds_3 : decode cX6_odds 3 = .ok (.ldc2_w 55, 3) := by decide +kernel
theorem dX6_odds_6 : decode cX6_odds 6 = .ok (.invokestatic 57, 3) := by decide +kernel
theorem dX6_odds_9 : decode cX6_odds 9 = .ok (.ifCond .eq 24, 3) := by decide +kernel
theorem dX6_odds_12 : decode cX6_odds 12 = .ok (.iload_n 2, 1) := by decide +kernel
theorem dX6_odds_13 : decode cX6_odds 13 = .ok (.i2l, 1) := by decide +kernel
theorem dX6_odds_14 : decode cX6_odds 14 = .ok (.lconst 0, 1) := by decide +kernel
theorem dX6_odds_15 : decode cX6_odds 15 = .ok (.iload_n 1, 1) := by decide +kernel
theorem dX6_odds_16 : decode cX6_odds 16 = .ok (.i2l, 1) := by decide +kernel
theorem dX6_odds_17 : decode cX6_odds 17 = .ok (.invokestatic 57, 3) := by decide +kernel
theorem dX6_odds_20 : decode cX6_odds 20 = .ok (.ifCond .eq 13, 3) := by decide +kernel
theorem dX6_odds_23 : decode cX6_odds 23 = .ok (.iload_n 3, 1) := by decide +kernel
theorem dX6_odds_24 : decode cX6_odds 24 = .ok (.i2l, 1) := by decide +kernel
theorem dX6_odds_25 : decode cX6_odds 25 = .ok (.lconst 0, 1) := by decide +kernel
theorem dX6_odds_26 : decode cX6_odds 26 = .ok (.lconst 1, 1) := by decide +kernel
theorem dX6_odds_27 : decode cX6_odds 27 = .ok (.invokestatic 57, 3) := by decide +kernel
theorem dX6_odds_30 : decode cX6_odds 30 = .ok (.ifCond .ne 7, 3) := by decide +kernel
theorem dX6_odds_33 : decode cX6_odds 33 = .ok (.ldc2_w 246, 3) := by decide +kernel
theorem dX6_odds_36 : decode cX6_odds 36 = .ok (.lreturn, 1) := by decide +kernel
theorem dX6_odds_37 : decode cX6_odds 37 = .ok (.iload_n 1, 1) := by decide +kernel
theorem dX6_odds_38 : decode cX6_odds 38 = .ok (.invokestatic 248, 3) := by decide +kernel
theorem dX6_odds_41 : decode cX6_odds 41 = .ok (.iload_n 2, 1) := by decide +kernel
theorem dX6_odds_42 : decode cX6_odds 42 = .ok (.invokestatic 248, 3) := by decide +kernel
theorem dX6_odds_45 : decode cX6_odds 45 = .ok (.ldiv, 1) := by decide +kernel
theorem dX6_odds_46 : decode cX6_odds 46 = .ok (.iload_n 1, 1) := by decide +kernel
theorem dX6_odds_47 : decode cX6_odds 47 = .ok (.iload_n 2, 1) := by decide +kernel
theorem dX6_odds_48 : decode cX6_odds 48 = .ok (.isub, 1) := by decide +kernel
theorem dX6_odds_49 : decode cX6_odds 49 = .ok (.invokestatic 248, 3) := by decide +kernel
theorem dX6_odds_52 : decode cX6_odds 52 = .ok (.ldiv, 1) := by decide +kernel
theorem dX6_odds_53 : decode cX6_odds 53 = .ok (.lstore 4, 2) := by decide +kernel
theorem dX6_odds_55 : decode cX6_odds 55 = .ok (.lconst 1, 1) := by decide +kernel
theorem dX6_odds_56 : decode cX6_odds 56 = .ok (.lstore 6, 2) := by decide +kernel
theorem dX6_odds_58 : decode cX6_odds 58 = .ok (.iconst 0, 1) := by decide +kernel
theorem dX6_odds_59 : decode cX6_odds 59 = .ok (.istore 8, 2) := by decide +kernel
theorem dX6_odds_61 : decode cX6_odds 61 = .ok (.iload 8, 2) := by decide +kernel
theorem dX6_odds_63 : decode cX6_odds 63 = .ok (.iload_n 1, 1) := by decide +kernel
theorem dX6_odds_64 : decode cX6_odds 64 = .ok (.if_icmp .ge 50, 3) := by decide +kernel
theorem dX6_odds_67 : decode cX6_odds 67 = .ok (.lload 4, 2) := by decide +kernel
theorem dX6_odds_69 : decode cX6_odds 69 = .ok (.iload 8, 2) := by decide +kernel
theorem dX6_odds_71 : decode cX6_odds 71 = .ok (.iload_n 2, 1) := by decide +kernel
theorem dX6_odds_72 : decode cX6_odds 72 = .ok (.if_icmp .ge 14, 3) := by decide +kernel
theorem dX6_odds_75 : decode cX6_odds 75 = .ok (.aload_n 0, 1) := by decide +kernel
theorem dX6_odds_76 : decode cX6_odds 76 = .ok (.getfield 7, 3) := by decide +kernel
theorem dX6_odds_79 : decode cX6_odds 79 = .ok (.bipush 7, 2) := by decide +kernel
theorem dX6_odds_81 : decode cX6_odds 81 = .ok (.iaload, 1) := by decide +kernel
theorem dX6_odds_82 : decode cX6_odds 82 = .ok (.i2l, 1) := by decide +kernel
theorem dX6_odds_83 : decode cX6_odds 83 = .ok (.goto 14, 3) := by decide +kernel
theorem dX6_odds_86 : decode cX6_odds 86 = .ok (.bipush 100, 2) := by decide +kernel
theorem dX6_odds_88 : decode cX6_odds 88 = .ok (.aload_n 0, 1) := by decide +kernel
theorem dX6_odds_89 : decode cX6_odds 89 = .ok (.getfield 7, 3) := by decide +kernel
theorem dX6_odds_92 : decode cX6_odds 92 = .ok (.bipush 7, 2) := by decide +kernel
theorem dX6_odds_94 : decode cX6_odds 94 = .ok (.iaload, 1) := by decide +kernel
theorem dX6_odds_95 : decode cX6_odds 95 = .ok (.isub, 1) := by decide +kernel
theorem dX6_odds_96 : decode cX6_odds 96 = .ok (.i2l, 1) := by decide +kernel
theorem dX6_odds_97 : decode cX6_odds 97 = .ok (.lmul, 1) := by decide +kernel
theorem dX6_odds_98 : decode cX6_odds 98 = .ok (.lstore 4, 2) := by decide +kernel
theorem dX6_odds_100 : decode cX6_odds 100 = .ok (.lload 6, 2) := by decide +kernel
theorem dX6_odds_102 : decode cX6_odds 102 = .ok (.ldc2_w 252, 3) := by decide +kernel
theorem dX6_odds_105 : decode cX6_odds 105 = .ok (.lmul, 1) := by decide +kernel
theorem dX6_odds_106 : decode cX6_odds 106 = .ok (.lstore 6, 2) := by decide +kernel
theorem dX6_odds_108 : decode cX6_odds 108 = .ok (.iinc 8 1, 3) := by decide +kernel
theorem dX6_odds_111 : decode cX6_odds 111 = .ok (.goto (-50), 3) := by decide +kernel
theorem dX6_odds_114 : decode cX6_odds 114 = .ok (.lload 4, 2) := by decide +kernel
theorem dX6_odds_116 : decode cX6_odds 116 = .ok (.lload 6, 2) := by decide +kernel
theorem dX6_odds_118 : decode cX6_odds 118 = .ok (.iload_n 3, 1) := by decide +kernel
theorem dX6_odds_119 : decode cX6_odds 119 = .ok (.invokestatic 254, 3) := by decide +kernel
theorem dX6_odds_122 : decode cX6_odds 122 = .ok (.lreturn, 1) := by decide +kernel
theorem dX6_hope_0 : decode cX6_hope 0 = .ok (.iload_n 1, 1) := by decide +kernel
theorem dX6_hope_1 : decode cX6_hope 1 = .ok (.i2l, 1) := by decide +kernel
theorem dX6_hope_2 : decode cX6_hope 2 = .ok (.lconst 0, 1) := by decide +kernel
theorem dX6_hope_3 : decode cX6_hope 3 = .ok (.ldc2_w 150, 3) := by decide +kernel
theorem dX6_hope_6 : decode cX6_hope 6 = .ok (.invokestatic 57, 3) := by decide +kernel
theorem dX6_hope_9 : decode cX6_hope 9 = .ok (.ifCond .eq 34, 3) := by decide +kernel
theorem dX6_hope_12 : decode cX6_hope 12 = .ok (.iload_n 2, 1) := by decide +kernel
theorem dX6_hope_13 : decode cX6_hope 13 = .ok (.i2l, 1) := by decide +kernel
theorem dX6_hope_14 : decode cX6_hope 14 = .ok (.lconst 0, 1) := by decide +kernel
theorem dX6_hope_15 : decode cX6_hope 15 = .ok (.lconst 1, 1) := by decide +kernel
theorem dX6_hope_16 : decode cX6_hope 16 = .ok (.invokestatic 57, 3) := by decide +kernel
theorem dX6_hope_19 : decode cX6_hope 19 = .ok (.ifCond .eq 24, 3) := by decide +kernel
theorem dX6_hope_22 : decode cX6_hope 22 = .ok (.iload_n 1, 1) := by decide +kernel
theorem dX6_hope_23 : decode cX6_hope 23 = .ok (.i2l, 1) := by decide +kernel
theorem dX6_hope_24 : decode cX6_hope 24 = .ok (.aload_n 0, 1) := by decide +kernel
theorem dX6_hope_25 : decode cX6_hope 25 = .ok (.getfield 7, 3) := by decide +kernel
theorem dX6_hope_28 : decode cX6_hope 28 = .ok (.bipush 7, 2) := by decide +kernel
theorem dX6_hope_30 : decode cX6_hope 30 = .ok (.iaload, 1) := by decide +kernel
theorem dX6_hope_31 : decode cX6_hope 31 = .ok (.i2l, 1) := by decide +kernel
theorem dX6_hope_32 : decode cX6_hope 32 = .ok (.lmul, 1) := by decide +kernel
theorem dX6_hope_33 : decode cX6_hope 33 = .ok (.ldc2_w 252, 3) := by decide +kernel
theorem dX6_hope_36 : decode cX6_hope 36 = .ok (.iload_n 2, 1) := by decide +kernel
theorem dX6_hope_37 : decode cX6_hope 37 = .ok (.invokestatic 254, 3) := by decide +kernel
theorem dX6_hope_40 : decode cX6_hope 40 = .ok (.goto 6, 3) := by decide +kernel
theorem dX6_hope_43 : decode cX6_hope 43 = .ok (.ldc2_w 246, 3) := by decide +kernel
theorem dX6_hope_46 : decode cX6_hope 46 = .ok (.lreturn, 1) := by decide +kernel
theorem dX6_prove_0 : decode cX6_prove 0 = .ok (.aload_n 0, 1) := by decide +kernel
theorem dX6_prove_1 : decode cX6_prove 1 = .ok (.iload_n 1, 1) := by decide +kernel
theorem dX6_prove_2 : decode cX6_prove 2 = .ok (.invokevirtual 175, 3) := by decide +kernel
theorem dX6_prove_5 : decode cX6_prove 5 = .ok (.ifCond .eq 15, 3) := by decide +kernel
theorem dX6_prove_8 : decode cX6_prove 8 = .ok (.iload_n 2, 1) := by decide +kernel
theorem dX6_prove_9 : decode cX6_prove 9 = .ok (.i2l, 1) := by decide +kernel
theorem dX6_prove_10 : decode cX6_prove 10 = .ok (.lconst 1, 1) := by decide +kernel
theorem dX6_prove_11 : decode cX6_prove 11 = .ok (.ldc2_w 258, 3) := by decide +kernel
theorem dX6_prove_14 : decode cX6_prove 14 = .ok (.invokestatic 57, 3) := by decide +kernel
theorem dX6_prove_17 : decode cX6_prove 17 = .ok (.ifCond .ne 5, 3) := by decide +kernel
theorem dX6_prove_20 : decode cX6_prove 20 = .ok (.iconst (-1), 1) := by decide +kernel
theorem dX6_prove_21 : decode cX6_prove 21 = .ok (.ireturn, 1) := by decide +kernel
theorem dX6_prove_22 : decode cX6_prove 22 = .ok (.aload_n 0, 1) := by decide +kernel
theorem dX6_prove_23 : decode cX6_prove 23 = .ok (.getfield 7, 3) := by decide +kernel
theorem dX6_prove_26 : decode cX6_prove 26 = .ok (.aload_n 0, 1) := by decide +kernel
theorem dX6_prove_27 : decode cX6_prove 27 = .ok (.getfield 16, 3) := by decide +kernel
theorem dX6_prove_30 : decode cX6_prove 30 = .ok (.invokestatic 138, 3) := by decide +kernel
theorem dX6_prove_33 : decode cX6_prove 33 = .ok (.iconst 0, 1) := by decide +kernel
theorem dX6_prove_34 : decode cX6_prove 34 = .ok (.istore_n 3, 1) := by decide +kernel
theorem dX6_prove_35 : decode cX6_prove 35 = .ok (.iload_n 3, 1) := by decide +kernel
theorem dX6_prove_36 : decode cX6_prove 36 = .ok (.iload_n 2, 1) := by decide +kernel
theorem dX6_prove_37 : decode cX6_prove 37 = .ok (.if_icmp .ge 62, 3) := by decide +kernel
theorem dX6_prove_40 : decode cX6_prove 40 = .ok (.aload_n 0, 1) := by decide +kernel
theorem dX6_prove_41 : decode cX6_prove 41 = .ok (.iconst 0, 1) := by decide +kernel
theorem dX6_prove_42 : decode cX6_prove 42 = .ok (.invokevirtual 197, 3) := by decide +kernel
theorem dX6_prove_45 : decode cX6_prove 45 = .ok (.istore 4, 2) := by decide +kernel
theorem dX6_prove_47 : decode cX6_prove 47 = .ok (.aload_n 0, 1) := by decide +kernel
theorem dX6_prove_48 : decode cX6_prove 48 = .ok (.getfield 28, 3) := by decide +kernel
theorem dX6_prove_51 : decode cX6_prove 51 = .ok (.iconst 3, 1) := by decide +kernel
theorem dX6_prove_52 : decode cX6_prove 52 = .ok (.iload_n 3, 1) := by decide +kernel
theorem dX6_prove_53 : decode cX6_prove 53 = .ok (.imul, 1) := by decide +kernel
theorem dX6_prove_54 : decode cX6_prove 54 = .ok (.aload_n 0, 1) := by decide +kernel
theorem dX6_prove_55 : decode cX6_prove 55 = .ok (.iload_n 1, 1) := by decide +kernel
theorem dX6_prove_56 : decode cX6_prove 56 = .ok (.iconst 2, 1) := by decide +kernel
theorem dX6_prove_57 : decode cX6_prove 57 = .ok (.invokevirtual 163, 3) := by decide +kernel
theorem dX6_prove_60 : decode cX6_prove 60 = .ok (.iastore, 1) := by decide +kernel
theorem dX6_prove_61 : decode cX6_prove 61 = .ok (.aload_n 0, 1) := by decide +kernel
theorem dX6_prove_62 : decode cX6_prove 62 = .ok (.getfield 28, 3) := by decide +kernel
theorem dX6_prove_65 : decode cX6_prove 65 = .ok (.iconst 3, 1) := by decide +kernel
theorem dX6_prove_66 : decode cX6_prove 66 = .ok (.iload_n 3, 1) := by decide +kernel
theorem dX6_prove_67 : decode cX6_prove 67 = .ok (.imul, 1) := by decide +kernel
theorem dX6_prove_68 : decode cX6_prove 68 = .ok (.iconst 1, 1) := by decide +kernel
theorem dX6_prove_69 : decode cX6_prove 69 = .ok (.iadd, 1) := by decide +kernel
theorem dX6_prove_70 : decode cX6_prove 70 = .ok (.aload_n 0, 1) := by decide +kernel
theorem dX6_prove_71 : decode cX6_prove 71 = .ok (.iload_n 1, 1) := by decide +kernel
theorem dX6_prove_72 : decode cX6_prove 72 = .ok (.iconst 4, 1) := by decide +kernel
theorem dX6_prove_73 : decode cX6_prove 73 = .ok (.invokevirtual 163, 3) := by decide +kernel
theorem dX6_prove_76 : decode cX6_prove 76 = .ok (.iastore, 1) := by decide +kernel
theorem dX6_prove_77 : decode cX6_prove 77 = .ok (.aload_n 0, 1) := by decide +kernel
theorem dX6_prove_78 : decode cX6_prove 78 = .ok (.getfield 28, 3) := by decide +kernel
theorem dX6_prove_81 : decode cX6_prove 81 = .ok (.iconst 3, 1) := by decide +kernel
theorem dX6_prove_82 : decode cX6_prove 82 = .ok (.iload_n 3, 1) := by decide +kernel
theorem dX6_prove_83 : decode cX6_prove 83 = .ok (.imul, 1) := by decide +kernel
theorem dX6_prove_84 : decode cX6_prove 84 = .ok (.iconst 2, 1) := by decide +kernel
theorem dX6_prove_85 : decode cX6_prove 85 = .ok (.iadd, 1) := by decide +kernel
theorem dX6_prove_86 : decode cX6_prove 86 = .ok (.aload_n 0, 1) := by decide +kernel
theorem dX6_prove_87 : decode cX6_prove 87 = .ok (.getfield 7, 3) := by decide +kernel
theorem dX6_prove_90 : decode cX6_prove 90 = .ok (.iconst 3, 1) := by decide +kernel
theorem dX6_prove_91 : decode cX6_prove 91 = .ok (.iaload, 1) := by decide +kernel
theorem dX6_prove_92 : decode cX6_prove 92 = .ok (.iastore, 1) := by decide +kernel
theorem dX6_prove_93 : decode cX6_prove 93 = .ok (.iinc 3 1, 3) := by decide +kernel
theorem dX6_prove_96 : decode cX6_prove 96 = .ok (.goto (-61), 3) := by decide +kernel
theorem dX6_prove_99 : decode cX6_prove 99 = .ok (.aload_n 0, 1) := by decide +kernel
theorem dX6_prove_100 : decode cX6_prove 100 = .ok (.getfield 16, 3) := by decide +kernel
theorem dX6_prove_103 : decode cX6_prove 103 = .ok (.aload_n 0, 1) := by decide +kernel
theorem dX6_prove_104 : decode cX6_prove 104 = .ok (.getfield 7, 3) := by decide +kernel
theorem dX6_prove_107 : decode cX6_prove 107 = .ok (.invokestatic 138, 3) := by decide +kernel
theorem dX6_prove_110 : decode cX6_prove 110 = .ok (.aload_n 0, 1) := by decide +kernel
theorem dX6_prove_111 : decode cX6_prove 111 = .ok (.iload_n 2, 1) := by decide +kernel
theorem dX6_prove_112 : decode cX6_prove 112 = .ok (.putfield 145, 3) := by decide +kernel
theorem dX6_prove_115 : decode cX6_prove 115 = .ok (.iload_n 2, 1) := by decide +kernel
theorem dX6_prove_116 : decode cX6_prove 116 = .ok (.ireturn, 1) := by decide +kernel
theorem dX6_isRow_0 : decode cX6_isRow 0 = .ok (.iload_n 1, 1) := by decide +kernel
theorem dX6_isRow_1 : decode cX6_isRow 1 = .ok (.i2l, 1) := by decide +kernel
theorem dX6_isRow_2 : decode cX6_isRow 2 = .ok (.lconst 0, 1) := by decide +kernel
theorem dX6_isRow_3 : decode cX6_isRow 3 = .ok (.aload_n 0, 1) := by decide +kernel
theorem dX6_isRow_4 : decode cX6_isRow 4 = .ok (.getfield 145, 3) := by decide +kernel
theorem dX6_isRow_7 : decode cX6_isRow 7 = .ok (.iconst 1, 1) := by decide +kernel
theorem dX6_isRow_8 : decode cX6_isRow 8 = .ok (.isub, 1) := by decide +kernel
theorem dX6_isRow_9 : decode cX6_isRow 9 = .ok (.i2l, 1) := by decide +kernel
theorem dX6_isRow_10 : decode cX6_isRow 10 = .ok (.invokestatic 57, 3) := by decide +kernel
theorem dX6_isRow_13 : decode cX6_isRow 13 = .ok (.ifCond .eq 19, 3) := by decide +kernel
theorem dX6_isRow_16 : decode cX6_isRow 16 = .ok (.iload_n 2, 1) := by decide +kernel
theorem dX6_isRow_17 : decode cX6_isRow 17 = .ok (.i2l, 1) := by decide +kernel
theorem dX6_isRow_18 : decode cX6_isRow 18 = .ok (.lconst 0, 1) := by decide +kernel
theorem dX6_isRow_19 : decode cX6_isRow 19 = .ok (.ldc2_w 260, 3) := by decide +kernel
theorem dX6_isRow_22 : decode cX6_isRow 22 = .ok (.invokestatic 57, 3) := by decide +kernel
theorem dX6_isRow_25 : decode cX6_isRow 25 = .ok (.ifCond .eq 7, 3) := by decide +kernel
theorem dX6_isRow_28 : decode cX6_isRow 28 = .ok (.iconst 1, 1) := by decide +kernel
theorem dX6_isRow_29 : decode cX6_isRow 29 = .ok (.goto 4, 3) := by decide +kernel
theorem dX6_isRow_32 : decode cX6_isRow 32 = .ok (.iconst 0, 1) := by decide +kernel
theorem dX6_isRow_33 : decode cX6_isRow 33 = .ok (.ireturn, 1) := by decide +kernel
theorem dX6_row_0 : decode cX6_row 0 = .ok (.aload_n 0, 1) := by decide +kernel
theorem dX6_row_1 : decode cX6_row 1 = .ok (.iload_n 1, 1) := by decide +kernel
theorem dX6_row_2 : decode cX6_row 2 = .ok (.iload_n 2, 1) := by decide +kernel
theorem dX6_row_3 : decode cX6_row 3 = .ok (.invokevirtual 262, 3) := by decide +kernel
theorem dX6_row_6 : decode cX6_row 6 = .ok (.ifCond .eq 16, 3) := by decide +kernel
theorem dX6_row_9 : decode cX6_row 9 = .ok (.aload_n 0, 1) := by decide +kernel
theorem dX6_row_10 : decode cX6_row 10 = .ok (.getfield 28, 3) := by decide +kernel
theorem dX6_row_13 : decode cX6_row 13 = .ok (.iconst 3, 1) := by decide +kernel
theorem dX6_row_14 : decode cX6_row 14 = .ok (.iload_n 1, 1) := by decide +kernel
theorem dX6_row_15 : decode cX6_row 15 = .ok (.imul, 1) := by decide +kernel
theorem dX6_row_16 : decode cX6_row 16 = .ok (.iload_n 2, 1) := by decide +kernel
theorem dX6_row_17 : decode cX6_row 17 = .ok (.iadd, 1) := by decide +kernel
theorem dX6_row_18 : decode cX6_row 18 = .ok (.iaload, 1) := by decide +kernel
theorem dX6_row_19 : decode cX6_row 19 = .ok (.goto 5, 3) := by decide +kernel
theorem dX6_row_22 : decode cX6_row 22 = .ok (.bipush (-9), 2) := by decide +kernel
theorem dX6_row_24 : decode cX6_row 24 = .ok (.ireturn, 1) := by decide +kernel
theorem dX6_alterRow_0 : decode cX6_alterRow 0 = .ok (.aload_n 0, 1) := by decide +kernel
theorem dX6_alterRow_1 : decode cX6_alterRow 1 = .ok (.iload_n 1, 1) := by decide +kernel
theorem dX6_alterRow_2 : decode cX6_alterRow 2 = .ok (.iload_n 2, 1) := by decide +kernel
theorem dX6_alterRow_3 : decode cX6_alterRow 3 = .ok (.invokevirtual 262, 3) := by decide +kernel
theorem dX6_alterRow_6 : decode cX6_alterRow 6 = .ok (.ifCond .ne 6, 3) := by decide +kernel
theorem dX6_alterRow_9 : decode cX6_alterRow 9 = .ok (.bipush (-9), 2) := by decide +kernel
theorem dX6_alterRow_11 : decode cX6_alterRow 11 = .ok (.ireturn, 1) := by decide +kernel
theorem dX6_alterRow_12 : decode cX6_alterRow 12 = .ok (.aload_n 0, 1) := by decide +kernel
theorem dX6_alterRow_13 : decode cX6_alterRow 13 = .ok (.getfield 28, 3) := by decide +kernel
theorem dX6_alterRow_16 : decode cX6_alterRow 16 = .ok (.iconst 3, 1) := by decide +kernel
theorem dX6_alterRow_17 : decode cX6_alterRow 17 = .ok (.iload_n 1, 1) := by decide +kernel
theorem dX6_alterRow_18 : decode cX6_alterRow 18 = .ok (.imul, 1) := by decide +kernel
theorem dX6_alterRow_19 : decode cX6_alterRow 19 = .ok (.iload_n 2, 1) := by decide +kernel
theorem dX6_alterRow_20 : decode cX6_alterRow 20 = .ok (.iadd, 1) := by decide +kernel
theorem dX6_alterRow_21 : decode cX6_alterRow 21 = .ok (.iaload, 1) := by decide +kernel
theorem dX6_alterRow_22 : decode cX6_alterRow 22 = .ok (.istore 4, 2) := by decide +kernel
theorem dX6_alterRow_24 : decode cX6_alterRow 24 = .ok (.aload_n 0, 1) := by decide +kernel
theorem dX6_alterRow_25 : decode cX6_alterRow 25 = .ok (.getfield 28, 3) := by decide +kernel
theorem dX6_alterRow_28 : decode cX6_alterRow 28 = .ok (.iconst 3, 1) := by decide +kernel
theorem dX6_alterRow_29 : decode cX6_alterRow 29 = .ok (.iload_n 1, 1) := by decide +kernel
theorem dX6_alterRow_30 : decode cX6_alterRow 30 = .ok (.imul, 1) := by decide +kernel
theorem dX6_alterRow_31 : decode cX6_alterRow 31 = .ok (.iload_n 2, 1) := by decide +kernel
theorem dX6_alterRow_32 : decode cX6_alterRow 32 = .ok (.iadd, 1) := by decide +kernel
theorem dX6_alterRow_33 : decode cX6_alterRow 33 = .ok (.iload_n 3, 1) := by decide +kernel
theorem dX6_alterRow_34 : decode cX6_alterRow 34 = .ok (.iastore, 1) := by decide +kernel
theorem dX6_alterRow_35 : decode cX6_alterRow 35 = .ok (.iload 4, 2) := by decide +kernel
theorem dX6_alterRow_37 : decode cX6_alterRow 37 = .ok (.ireturn, 1) := by decide +kernel
theorem dX6_judge_0 : decode cX6_judge 0 = .ok (.aload_n 0, 1) := by decide +kernel
theorem dX6_judge_1 : decode cX6_judge 1 = .ok (.iload_n 1, 1) := by decide +kernel
theorem dX6_judge_2 : decode cX6_judge 2 = .ok (.invokevirtual 175, 3) := by decide +kernel
theorem dX6_judge_5 : decode cX6_judge 5 = .ok (.ifCond .ne 5, 3) := by decide +kernel
theorem dX6_judge_8 : decode cX6_judge 8 = .ok (.iconst (-1), 1) := by decide +kernel
theorem dX6_judge_9 : decode cX6_judge 9 = .ok (.ireturn, 1) := by decide +kernel
theorem dX6_judge_10 : decode cX6_judge 10 = .ok (.aload_n 0, 1) := by decide +kernel
theorem dX6_judge_11 : decode cX6_judge 11 = .ok (.getfield 7, 3) := by decide +kernel
theorem dX6_judge_14 : decode cX6_judge 14 = .ok (.aload_n 0, 1) := by decide +kernel
theorem dX6_judge_15 : decode cX6_judge 15 = .ok (.getfield 16, 3) := by decide +kernel
theorem dX6_judge_18 : decode cX6_judge 18 = .ok (.invokestatic 138, 3) := by decide +kernel
theorem dX6_judge_21 : decode cX6_judge 21 = .ok (.iconst 0, 1) := by decide +kernel
theorem dX6_judge_22 : decode cX6_judge 22 = .ok (.istore_n 2, 1) := by decide +kernel
theorem dX6_judge_23 : decode cX6_judge 23 = .ok (.iconst 1, 1) := by decide +kernel
theorem dX6_judge_24 : decode cX6_judge 24 = .ok (.istore_n 3, 1) := by decide +kernel
theorem dX6_judge_25 : decode cX6_judge 25 = .ok (.iload_n 2, 1) := by decide +kernel
theorem dX6_judge_26 : decode cX6_judge 26 = .ok (.aload_n 0, 1) := by decide +kernel
theorem dX6_judge_27 : decode cX6_judge 27 = .ok (.getfield 145, 3) := by decide +kernel
theorem dX6_judge_30 : decode cX6_judge 30 = .ok (.if_icmp .ge 81, 3) := by decide +kernel
theorem dX6_judge_33 : decode cX6_judge 33 = .ok (.iload_n 3, 1) := by decide +kernel
theorem dX6_judge_34 : decode cX6_judge 34 = .ok (.ifCond .eq 77, 3) := by decide +kernel
theorem dX6_judge_37 : decode cX6_judge 37 = .ok (.aload_n 0, 1) := by decide +kernel
theorem dX6_judge_38 : decode cX6_judge 38 = .ok (.iconst 0, 1) := by decide +kernel
theorem dX6_judge_39 : decode cX6_judge 39 = .ok (.invokevirtual 197, 3) := by decide +kernel
theorem dX6_judge_42 : decode cX6_judge 42 = .ok (.istore 4, 2) := by decide +kernel
theorem dX6_judge_44 : decode cX6_judge 44 = .ok (.aload_n 0, 1) := by decide +kernel
theorem dX6_judge_45 : decode cX6_judge 45 = .ok (.getfield 28, 3) := by decide +kernel
theorem dX6_judge_48 : decode cX6_judge 48 = .ok (.iconst 3, 1) := by decide +kernel
theorem dX6_judge_49 : decode cX6_judge 49 = .ok (.iload_n 2, 1) := by decide +kernel
theorem dX6_judge_50 : decode cX6_judge 50 = .ok (.imul, 1) := by decide +kernel
theorem dX6_judge_51 : decode cX6_judge 51 = .ok (.iaload, 1) := by decide +kernel
theorem dX6_judge_52 : decode cX6_judge 52 = .ok (.aload_n 0, 1) := by decide +kernel
theorem dX6_judge_53 : decode cX6_judge 53 = .ok (.iload_n 1, 1) := by decide +kernel
theorem dX6_judge_54 : decode cX6_judge 54 = .ok (.iconst 2, 1) := by decide +kernel
theorem dX6_judge_55 : decode cX6_judge 55 = .ok (.invokevirtual 163, 3) := by decide +kernel
theorem dX6_judge_58 : decode cX6_judge 58 = .ok (.if_icmp .ne 45, 3) := by decide +kernel
theorem dX6_judge_61 : decode cX6_judge 61 = .ok (.aload_n 0, 1) := by decide +kernel
theorem dX6_judge_62 : decode cX6_judge 62 = .ok (.getfield 28, 3) := by decide +kernel
theorem dX6_judge_65 : decode cX6_judge 65 = .ok (.iconst 3, 1) := by decide +kernel
theorem dX6_judge_66 : decode cX6_judge 66 = .ok (.iload_n 2, 1) := by decide +kernel
theorem dX6_judge_67 : decode cX6_judge 67 = .ok (.imul, 1) := by decide +kernel
theorem dX6_judge_68 : decode cX6_judge 68 = .ok (.iconst 1, 1) := by decide +kernel
theorem dX6_judge_69 : decode cX6_judge 69 = .ok (.iadd, 1) := by decide +kernel
theorem dX6_judge_70 : decode cX6_judge 70 = .ok (.iaload, 1) := by decide +kernel
theorem dX6_judge_71 : decode cX6_judge 71 = .ok (.aload_n 0, 1) := by decide +kernel
theorem dX6_judge_72 : decode cX6_judge 72 = .ok (.iload_n 1, 1) := by decide +kernel
theorem dX6_judge_73 : decode cX6_judge 73 = .ok (.iconst 4, 1) := by decide +kernel
theorem dX6_judge_74 : decode cX6_judge 74 = .ok (.invokevirtual 163, 3) := by decide +kernel
theorem dX6_judge_77 : decode cX6_judge 77 = .ok (.if_icmp .ne 26, 3) := by decide +kernel
theorem dX6_judge_80 : decode cX6_judge 80 = .ok (.aload_n 0, 1) := by decide +kernel
theorem dX6_judge_81 : decode cX6_judge 81 = .ok (.getfield 28, 3) := by decide +kernel
theorem dX6_judge_84 : decode cX6_judge 84 = .ok (.iconst 3, 1) := by decide +kernel
theorem dX6_judge_85 : decode cX6_judge 85 = .ok (.iload_n 2, 1) := by decide +kernel
theorem dX6_judge_86 : decode cX6_judge 86 = .ok (.imul, 1) := by decide +kernel
theorem dX6_judge_87 : decode cX6_judge 87 = .ok (.iconst 2, 1) := by decide +kernel
theorem dX6_judge_88 : decode cX6_judge 88 = .ok (.iadd, 1) := by decide +kernel
theorem dX6_judge_89 : decode cX6_judge 89 = .ok (.iaload, 1) := by decide +kernel
theorem dX6_judge_90 : decode cX6_judge 90 = .ok (.aload_n 0, 1) := by decide +kernel
theorem dX6_judge_91 : decode cX6_judge 91 = .ok (.getfield 7, 3) := by decide +kernel
theorem dX6_judge_94 : decode cX6_judge 94 = .ok (.iconst 3, 1) := by decide +kernel
theorem dX6_judge_95 : decode cX6_judge 95 = .ok (.iaload, 1) := by decide +kernel
theorem dX6_judge_96 : decode cX6_judge 96 = .ok (.if_icmp .ne 7, 3) := by decide +kernel
theorem dX6_judge_99 : decode cX6_judge 99 = .ok (.iconst 1, 1) := by decide +kernel
theorem dX6_judge_100 : decode cX6_judge 100 = .ok (.goto 4, 3) := by decide +kernel
theorem dX6_judge_103 : decode cX6_judge 103 = .ok (.iconst 0, 1) := by decide +kernel
theorem dX6_judge_104 : decode cX6_judge 104 = .ok (.istore_n 3, 1) := by decide +kernel
theorem dX6_judge_105 : decode cX6_judge 105 = .ok (.iinc 2 1, 3) := by decide +kernel
theorem dX6_judge_108 : decode cX6_judge 108 = .ok (.goto (-83), 3) := by decide +kernel
theorem dX6_judge_111 : decode cX6_judge 111 = .ok (.aload_n 0, 1) := by decide +kernel
theorem dX6_judge_112 : decode cX6_judge 112 = .ok (.getfield 16, 3) := by decide +kernel
theorem dX6_judge_115 : decode cX6_judge 115 = .ok (.aload_n 0, 1) := by decide +kernel
theorem dX6_judge_116 : decode cX6_judge 116 = .ok (.getfield 7, 3) := by decide +kernel
theorem dX6_judge_119 : decode cX6_judge 119 = .ok (.invokestatic 138, 3) := by decide +kernel
theorem dX6_judge_122 : decode cX6_judge 122 = .ok (.iload_n 3, 1) := by decide +kernel
theorem dX6_judge_123 : decode cX6_judge 123 = .ok (.ifCond .eq 7, 3) := by decide +kernel
theorem dX6_judge_126 : decode cX6_judge 126 = .ok (.iconst 0, 1) := by decide +kernel
theorem dX6_judge_127 : decode cX6_judge 127 = .ok (.goto 4, 3) := by decide +kernel
theorem dX6_judge_130 : decode cX6_judge 130 = .ok (.iload_n 2, 1) := by decide +kernel
theorem dX6_judge_131 : decode cX6_judge 131 = .ok (.ireturn, 1) := by decide +kernel
theorem dX6_isSheet_0 : decode cX6_isSheet 0 = .ok (.iload_n 0, 1) := by decide +kernel
theorem dX6_isSheet_1 : decode cX6_isSheet 1 = .ok (.i2l, 1) := by decide +kernel
theorem dX6_isSheet_2 : decode cX6_isSheet 2 = .ok (.lconst 0, 1) := by decide +kernel
theorem dX6_isSheet_3 : decode cX6_isSheet 3 = .ok (.ldc2_w 148, 3) := by decide +kernel
theorem dX6_isSheet_6 : decode cX6_isSheet 6 = .ok (.invokestatic 57, 3) := by decide +kernel
theorem dX6_isSheet_9 : decode cX6_isSheet 9 = .ok (.ireturn, 1) := by decide +kernel
theorem dX6_isShelf_0 : decode cX6_isShelf 0 = .ok (.iload_n 0, 1) := by decide +kernel
theorem dX6_isShelf_1 : decode cX6_isShelf 1 = .ok (.i2l, 1) := by decide +kernel
theorem dX6_isShelf_2 : decode cX6_isShelf 2 = .ok (.lconst 0, 1) := by decide +kernel
theorem dX6_isShelf_3 : decode cX6_isShelf 3 = .ok (.ldc2_w 148, 3) := by decide +kernel
theorem dX6_isShelf_6 : decode cX6_isShelf 6 = .ok (.invokestatic 57, 3) := by decide +kernel
theorem dX6_isShelf_9 : decode cX6_isShelf 9 = .ok (.ireturn, 1) := by decide +kernel
theorem dX6_sheet_0 : decode cX6_sheet 0 = .ok (.iload_n 1, 1) := by decide +kernel
theorem dX6_sheet_1 : decode cX6_sheet 1 = .ok (.invokestatic 240, 3) := by decide +kernel
theorem dX6_sheet_4 : decode cX6_sheet 4 = .ok (.ifCond .eq 27, 3) := by decide +kernel
theorem dX6_sheet_7 : decode cX6_sheet 7 = .ok (.iload_n 2, 1) := by decide +kernel
theorem dX6_sheet_8 : decode cX6_sheet 8 = .ok (.i2l, 1) := by decide +kernel
theorem dX6_sheet_9 : decode cX6_sheet 9 = .ok (.ldc2_w 246, 3) := by decide +kernel
theorem dX6_sheet_12 : decode cX6_sheet 12 = .ok (.ldc2_w 148, 3) := by decide +kernel
theorem dX6_sheet_15 : decode cX6_sheet 15 = .ok (.invokestatic 57, 3) := by decide +kernel
theorem dX6_sheet_18 : decode cX6_sheet 18 = .ok (.ifCond .eq 13, 3) := by decide +kernel
theorem dX6_sheet_21 : decode cX6_sheet 21 = .ok (.iload_n 2, 1) := by decide +kernel
theorem dX6_sheet_22 : decode cX6_sheet 22 = .ok (.ifCond .lt 11, 3) := by decide +kernel
theorem dX6_sheet_25 : decode cX6_sheet 25 = .ok (.iload_n 3, 1) := by decide +kernel
theorem dX6_sheet_26 : decode cX6_sheet 26 = .ok (.bipush 40, 2) := by decide +kernel
theorem dX6_sheet_28 : decode cX6_sheet 28 = .ok (.if_icmp .le 5, 3) := by decide +kernel
theorem dX6_sheet_31 : decode cX6_sheet 31 = .ok (.iconst (-1), 1) := by decide +kernel
theorem dX6_sheet_32 : decode cX6_sheet 32 = .ok (.ireturn, 1) := by decide +kernel
theorem dX6_sheet_33 : decode cX6_sheet 33 = .ok (.iload_n 2, 1) := by decide +kernel
theorem dX6_sheet_34 : decode cX6_sheet 34 = .ok (.ifCond .lt 10, 3) := by decide +kernel
theorem dX6_sheet_37 : decode cX6_sheet 37 = .ok (.iload_n 3, 1) := by decide +kernel
theorem dX6_sheet_38 : decode cX6_sheet 38 = .ok (.ifCond .ge 6, 3) := by decide +kernel
theorem dX6_sheet_41 : decode cX6_sheet 41 = .ok (.bipush (-14), 2) := by decide +kernel
theorem dX6_sheet_43 : decode cX6_sheet 43 = .ok (.ireturn, 1) := by decide +kernel
theorem dX6_sheet_44 : decode cX6_sheet 44 = .ok (.aload_n 0, 1) := by decide +kernel
theorem dX6_sheet_45 : decode cX6_sheet 45 = .ok (.getfield 31, 3) := by decide +kernel
theorem dX6_sheet_48 : decode cX6_sheet 48 = .ok (.iload_n 1, 1) := by decide +kernel
theorem dX6_sheet_49 : decode cX6_sheet 49 = .ok (.iload_n 2, 1) := by decide +kernel
theorem dX6_sheet_50 : decode cX6_sheet 50 = .ok (.iastore, 1) := by decide +kernel
theorem dX6_sheet_51 : decode cX6_sheet 51 = .ok (.aload_n 0, 1) := by decide +kernel
theorem dX6_sheet_52 : decode cX6_sheet 52 = .ok (.getfield 34, 3) := by decide +kernel
theorem dX6_sheet_55 : decode cX6_sheet 55 = .ok (.iload_n 1, 1) := by decide +kernel
theorem dX6_sheet_56 : decode cX6_sheet 56 = .ok (.iload_n 2, 1) := by decide +kernel
theorem dX6_sheet_57 : decode cX6_sheet 57 = .ok (.ifCond .ge 7, 3) := by decide +kernel
theorem dX6_sheet_60 : decode cX6_sheet 60 = .ok (.iconst 0, 1) := by decide +kernel
theorem dX6_sheet_61 : decode cX6_sheet 61 = .ok (.goto 4, 3) := by decide +kernel
theorem dX6_sheet_64 : decode cX6_sheet 64 = .ok (.iload_n 3, 1) := by decide +kernel
theorem dX6_sheet_65 : decode cX6_sheet 65 = .ok (.iastore, 1) := by decide +kernel
theorem dX6_sheet_66 : decode cX6_sheet 66 = .ok (.iconst 0, 1) := by decide +kernel
theorem dX6_sheet_67 : decode cX6_sheet 67 = .ok (.istore 4, 2) := by decide +kernel
theorem dX6_sheet_69 : decode cX6_sheet 69 = .ok (.iload 4, 2) := by decide +kernel
theorem dX6_sheet_71 : decode cX6_sheet 71 = .ok (.bipush 40, 2) := by decide +kernel
theorem dX6_sheet_73 : decode cX6_sheet 73 = .ok (.if_icmp .ge 22, 3) := by decide +kernel
theorem dX6_sheet_76 : decode cX6_sheet 76 = .ok (.aload_n 0, 1) := by decide +kernel
theorem dX6_sheet_77 : decode cX6_sheet 77 = .ok (.getfield 37, 3) := by decide +kernel
theorem dX6_sheet_80 : decode cX6_sheet 80 = .ok (.bipush 40, 2) := by decide +kernel
theorem dX6_sheet_82 : decode cX6_sheet 82 = .ok (.iload_n 1, 1) := by decide +kernel
theorem dX6_sheet_83 : decode cX6_sheet 83 = .ok (.imul, 1) := by decide +kernel
theorem dX6_sheet_84 : decode cX6_sheet 84 = .ok (.iload 4, 2) := by decide +kernel
theorem dX6_sheet_86 : decode cX6_sheet 86 = .ok (.iadd, 1) := by decide +kernel
theorem dX6_sheet_87 : decode cX6_sheet 87 = .ok (.iconst 0, 1) := by decide +kernel
theorem dX6_sheet_88 : decode cX6_sheet 88 = .ok (.iastore, 1) := by decide +kernel
theorem dX6_sheet_89 : decode cX6_sheet 89 = .ok (.iinc 4 1, 3) := by decide +kernel
theorem dX6_sheet_92 : decode cX6_sheet 92 = .ok (.goto (-23), 3) := by decide +kernel
theorem dX6_sheet_95 : decode cX6_sheet 95 = .ok (.iconst 1, 1) := by decide +kernel
theorem dX6_sheet_96 : decode cX6_sheet 96 = .ok (.ireturn, 1) := by decide +kernel
theorem dX6_put_0 : decode cX6_put 0 = .ok (.iload_n 1, 1) := by decide +kernel
theorem dX6_put_1 : decode cX6_put 1 = .ok (.invokestatic 240, 3) := by decide +kernel
theorem dX6_put_4 : decode cX6_put 4 = .ok (.ifCond .ne 5, 3) := by decide +kernel
theorem dX6_put_7 : decode cX6_put 7 = .ok (.iconst (-1), 1) := by decide +kernel
theorem dX6_put_8 : decode cX6_put 8 = .ok (.ireturn, 1) := by decide +kernel
theorem dX6_put_9 : decode cX6_put 9 = .ok (.aload_n 0, 1) := by decide +kernel
theorem dX6_put_10 : decode cX6_put 10 = .ok (.getfield 31, 3) := by decide +kernel
theorem dX6_put_13 : decode cX6_put 13 = .ok (.iload_n 1, 1) := by decide +kernel
theorem dX6_put_14 : decode cX6_put 14 = .ok (.iaload, 1) := by decide +kernel
theorem dX6_put_15 : decode cX6_put 15 = .ok (.ifCond .ge 6, 3) := by decide +kernel
theorem dX6_put_18 : decode cX6_put 18 = .ok (.bipush (-11), 2) := by decide +kernel
theorem dX6_put_20 : decode cX6_put 20 = .ok (.ireturn, 1) := by decide +kernel
theorem dX6_put_21 : decode cX6_put 21 = .ok (.iload_n 2, 1) := by decide +kernel
theorem dX6_put_22 : decode cX6_put 22 = .ok (.i2l, 1) := by decide +kernel
theorem dX6_put_23 : decode cX6_put 23 = .ok (.lconst 0, 1) := by decide +kernel
theorem dX6_put_24 : decode cX6_put 24 = .ok (.aload_n 0, 1) := by decide +kernel
theorem dX6_put_25 : decode cX6_put 25 = .ok (.getfield 34, 3) := by decide +kernel
theorem dX6_put_28 : decode cX6_put 28 = .ok (.iload_n 1, 1) := by decide +kernel
theorem dX6_put_29 : decode cX6_put 29 = .ok (.iaload, 1) := by decide +kernel
theorem dX6_put_30 : decode cX6_put 30 = .ok (.iconst 1, 1) := by decide +kernel
theorem dX6_put_31 : decode cX6_put 31 = .ok (.isub, 1) := by decide +kernel
theorem dX6_put_32 : decode cX6_put 32 = .ok (.i2l, 1) := by decide +kernel
theorem dX6_put_33 : decode cX6_put 33 = .ok (.invokestatic 57, 3) := by decide +kernel
theorem dX6_put_36 : decode cX6_put 36 = .ok (.ifCond .ne 6, 3) := by decide +kernel
theorem dX6_put_39 : decode cX6_put 39 = .ok (.bipush (-12), 2) := by decide +kernel
theorem dX6_put_41 : decode cX6_put 41 = .ok (.ireturn, 1) := by decide +kernel
theorem dX6_put_42 : decode cX6_put 42 = .ok (.aload_n 0, 1) := by decide +kernel
theorem dX6_put_43 : decode cX6_put 43 = .ok (.getfield 37, 3) := by decide +kernel
theorem dX6_put_46 : decode cX6_put 46 = .ok (.bipush 40, 2) := by decide +kernel
theorem dX6_put_48 : decode cX6_put 48 = .ok (.iload_n 1, 1) := by decide +kernel
theorem dX6_put_49 : decode cX6_put 49 = .ok (.imul, 1) := by decide +kernel
theorem dX6_put_50 : decode cX6_put 50 = .ok (.iload_n 2, 1) := by decide +kernel
theorem dX6_put_51 : decode cX6_put 51 = .ok (.iadd, 1) := by decide +kernel
theorem dX6_put_52 : decode cX6_put 52 = .ok (.aload_n 0, 1) := by decide +kernel
theorem dX6_put_53 : decode cX6_put 53 = .ok (.getfield 31, 3) := by decide +kernel
theorem dX6_put_56 : decode cX6_put 56 = .ok (.iload_n 1, 1) := by decide +kernel
theorem dX6_put_57 : decode cX6_put 57 = .ok (.iaload, 1) := by decide +kernel
theorem dX6_put_58 : decode cX6_put 58 = .ok (.ifCond .ne 8, 3) := by decide +kernel
theorem dX6_put_61 : decode cX6_put 61 = .ok (.iload_n 3, 1) := by decide +kernel
theorem dX6_put_62 : decode cX6_put 62 = .ok (.i2b, 1) := by decide +kernel
theorem dX6_put_63 : decode cX6_put 63 = .ok (.goto 19, 3) := by decide +kernel
theorem dX6_put_66 : decode cX6_put 66 = .ok (.aload_n 0, 1) := by decide +kernel
theorem dX6_put_67 : decode cX6_put 67 = .ok (.getfield 31, 3) := by decide +kernel
theorem dX6_put_70 : decode cX6_put 70 = .ok (.iload_n 1, 1) := by decide +kernel
theorem dX6_put_71 : decode cX6_put 71 = .ok (.iaload, 1) := by decide +kernel
theorem dX6_put_72 : decode cX6_put 72 = .ok (.iconst 1, 1) := by decide +kernel
theorem dX6_put_73 : decode cX6_put 73 = .ok (.if_icmp .ne 8, 3) := by decide +kernel
theorem dX6_put_76 : decode cX6_put 76 = .ok (.iload_n 3, 1) := by decide +kernel
theorem dX6_put_77 : decode cX6_put 77 = .ok (.i2s, 1) := by decide +kernel
theorem dX6_put_78 : decode cX6_put 78 = .ok (.goto 4, 3) := by decide +kernel
theorem dX6_put_81 : decode cX6_put 81 = .ok (.iload_n 3, 1) := by decide +kernel
theorem dX6_put_82 : decode cX6_put 82 = .ok (.iastore, 1) := by decide +kernel
theorem dX6_put_83 : decode cX6_put 83 = .ok (.iconst 1, 1) := by decide +kernel
theorem dX6_put_84 : decode cX6_put 84 = .ok (.ireturn, 1) := by decide +kernel
theorem dX6_lacks_0 : decode cX6_lacks 0 = .ok (.aload_n 0, 1) := by decide +kernel
theorem dX6_lacks_1 : decode cX6_lacks 1 = .ok (.getfield 31, 3) := by decide +kernel
theorem dX6_lacks_4 : decode cX6_lacks 4 = .ok (.iload_n 1, 1) := by decide +kernel
theorem dX6_lacks_5 : decode cX6_lacks 5 = .ok (.iaload, 1) := by decide +kernel
theorem dX6_lacks_6 : decode cX6_lacks 6 = .ok (.ifCond .ge 8, 3) := by decide +kernel
theorem dX6_lacks_9 : decode cX6_lacks 9 = .ok (.bipush (-11), 2) := by decide +kernel
theorem dX6_lacks_11 : decode cX6_lacks 11 = .ok (.goto 19, 3) := by decide +kernel
theorem dX6_lacks_14 : decode cX6_lacks 14 = .ok (.aload_n 0, 1) := by decide +kernel
theorem dX6_lacks_15 : decode cX6_lacks 15 = .ok (.getfield 31, 3) := by decide +kernel
theorem dX6_lacks_18 : decode cX6_lacks 18 = .ok (.iload_n 1, 1) := by decide +kernel
theorem dX6_lacks_19 : decode cX6_lacks 19 = .ok (.iaload, 1) := by decide +kernel
theorem dX6_lacks_20 : decode cX6_lacks 20 = .ok (.iload_n 2, 1) := by decide +kernel
theorem dX6_lacks_21 : decode cX6_lacks 21 = .ok (.if_icmp .eq 8, 3) := by decide +kernel
theorem dX6_lacks_24 : decode cX6_lacks 24 = .ok (.bipush (-13), 2) := by decide +kernel
theorem dX6_lacks_26 : decode cX6_lacks 26 = .ok (.goto 4, 3) := by decide +kernel
theorem dX6_lacks_29 : decode cX6_lacks 29 = .ok (.iconst 0, 1) := by decide +kernel
theorem dX6_lacks_30 : decode cX6_lacks 30 = .ok (.ireturn, 1) := by decide +kernel
theorem dX6_item_0 : decode cX6_item 0 = .ok (.iload_n 1, 1) := by decide +kernel
theorem dX6_item_1 : decode cX6_item 1 = .ok (.invokestatic 240, 3) := by decide +kernel
theorem dX6_item_4 : decode cX6_item 4 = .ok (.ifCond .eq 15, 3) := by decide +kernel
theorem dX6_item_7 : decode cX6_item 7 = .ok (.iload_n 2, 1) := by decide +kernel
theorem dX6_item_8 : decode cX6_item 8 = .ok (.i2l, 1) := by decide +kernel
theorem dX6_item_9 : decode cX6_item 9 = .ok (.lconst 0, 1) := by decide +kernel
theorem dX6_item_10 : decode cX6_item 10 = .ok (.ldc2_w 148, 3) := by decide +kernel
theorem dX6_item_13 : decode cX6_item 13 = .ok (.invokestatic 57, 3) := by decide +kernel
theorem dX6_item_16 : decode cX6_item 16 = .ok (.ifCond .ne 5, 3) := by decide +kernel
theorem dX6_item_19 : decode cX6_item 19 = .ok (.iconst (-1), 1) := by decide +kernel
theorem dX6_item_20 : decode cX6_item 20 = .ok (.ireturn, 1) := by decide +kernel
theorem dX6_item_21 : decode cX6_item 21 = .ok (.aload_n 0, 1) := by decide +kernel
theorem dX6_item_22 : decode cX6_item 22 = .ok (.iload_n 1, 1) := by decide +kernel
theorem dX6_item_23 : decode cX6_item 23 = .ok (.iload_n 2, 1) := by decide +kernel
theorem dX6_item_24 : decode cX6_item 24 = .ok (.invokevirtual 265, 3) := by decide +kernel
theorem dX6_item_27 : decode cX6_item 27 = .ok (.ifCond .eq 10, 3) := by decide +kernel
theorem dX6_item_30 : decode cX6_item 30 = .ok (.aload_n 0, 1) := by decide +kernel
theorem dX6_item_31 : decode cX6_item 31 = .ok (.iload_n 1, 1) := by decide +kernel
theorem dX6_item_32 : decode cX6_item 32 = .ok (.iload_n 2, 1) := by decide +kernel
theorem dX6_item_33 : decode cX6_item 33 = .ok (.invokevirtual 265, 3) := by decide +kernel
theorem dX6_item_36 : decode cX6_item 36 = .ok (.ireturn, 1) := by decide +kernel
theorem dX6_item_37 : decode cX6_item 37 = .ok (.iload_n 3, 1) := by decide +kernel
theorem dX6_item_38 : decode cX6_item 38 = .ok (.i2l, 1) := by decide +kernel
theorem dX6_item_39 : decode cX6_item 39 = .ok (.lconst 0, 1) := by decide +kernel
theorem dX6_item_40 : decode cX6_item 40 = .ok (.aload_n 0, 1) := by decide +kernel
theorem dX6_item_41 : decode cX6_item 41 = .ok (.getfield 34, 3) := by decide +kernel
theorem dX6_item_44 : decode cX6_item 44 = .ok (.iload_n 1, 1) := by decide +kernel
theorem dX6_item_45 : decode cX6_item 45 = .ok (.iaload, 1) := by decide +kernel
theorem dX6_item_46 : decode cX6_item 46 = .ok (.iconst 1, 1) := by decide +kernel
theorem dX6_item_47 : decode cX6_item 47 = .ok (.isub, 1) := by decide +kernel
theorem dX6_item_48 : decode cX6_item 48 = .ok (.i2l, 1) := by decide +kernel
theorem dX6_item_49 : decode cX6_item 49 = .ok (.invokestatic 57, 3) := by decide +kernel
theorem dX6_item_52 : decode cX6_item 52 = .ok (.ifCond .eq 17, 3) := by decide +kernel
theorem dX6_item_55 : decode cX6_item 55 = .ok (.aload_n 0, 1) := by decide +kernel
theorem dX6_item_56 : decode cX6_item 56 = .ok (.getfield 37, 3) := by decide +kernel
theorem dX6_item_59 : decode cX6_item 59 = .ok (.bipush 40, 2) := by decide +kernel
theorem dX6_item_61 : decode cX6_item 61 = .ok (.iload_n 1, 1) := by decide +kernel
theorem dX6_item_62 : decode cX6_item 62 = .ok (.imul, 1) := by decide +kernel
theorem dX6_item_63 : decode cX6_item 63 = .ok (.iload_n 3, 1) := by decide +kernel
theorem dX6_item_64 : decode cX6_item 64 = .ok (.iadd, 1) := by decide +kernel
theorem dX6_item_65 : decode cX6_item 65 = .ok (.iaload, 1) := by decide +kernel
theorem dX6_item_66 : decode cX6_item 66 = .ok (.goto 5, 3) := by decide +kernel
theorem dX6_item_69 : decode cX6_item 69 = .ok (.bipush (-12), 2) := by decide +kernel
theorem dX6_item_71 : decode cX6_item 71 = .ok (.ireturn, 1) := by decide +kernel
theorem dX6_minds_0 : decode cX6_minds 0 = .ok (.iload_n 1, 1) := by decide +kernel
theorem dX6_minds_1 : decode cX6_minds 1 = .ok (.invokestatic 240, 3) := by decide +kernel
theorem dX6_minds_4 : decode cX6_minds 4 = .ok (.ifCond .eq 37, 3) := by decide +kernel
theorem dX6_minds_7 : decode cX6_minds 7 = .ok (.aload_n 0, 1) := by decide +kernel
theorem dX6_minds_8 : decode cX6_minds 8 = .ok (.iload_n 3, 1) := by decide +kernel
theorem dX6_minds_9 : decode cX6_minds 9 = .ok (.invokevirtual 175, 3) := by decide +kernel
theorem dX6_minds_12 : decode cX6_minds 12 = .ok (.ifCond .eq 29, 3) := by decide +kernel
theorem dX6_minds_15 : decode cX6_minds 15 = .ok (.iload 4, 2) := by decide +kernel
theorem dX6_minds_17 : decode cX6_minds 17 = .ok (.i2l, 1) := by decide +kernel
theorem dX6_minds_18 : decode cX6_minds 18 = .ok (.lconst 0, 1) := by decide +kernel
theorem dX6_minds_19 : decode cX6_minds 19 = .ok (.ldc2_w 55, 3) := by decide +kernel
theorem dX6_minds_22 : decode cX6_minds 22 = .ok (.invokestatic 57, 3) := by decide +kernel
theorem dX6_minds_25 : decode cX6_minds 25 = .ok (.ifCond .eq 16, 3) := by decide +kernel
theorem dX6_minds_28 : decode cX6_minds 28 = .ok (.iload_n 3, 1) := by decide +kernel
theorem dX6_minds_29 : decode cX6_minds 29 = .ok (.iload 4, 2) := by decide +kernel
theorem dX6_minds_31 : decode cX6_minds 31 = .ok (.iadd, 1) := by decide +kernel
theorem dX6_minds_32 : decode cX6_minds 32 = .ok (.aload_n 0, 1) := by decide +kernel
theorem dX6_minds_33 : decode cX6_minds 33 = .ok (.getfield 7, 3) := by decide +kernel
theorem dX6_minds_36 : decode cX6_minds 36 = .ok (.iconst 0, 1) := by decide +kernel
theorem dX6_minds_37 : decode cX6_minds 37 = .ok (.iaload, 1) := by decide +kernel
theorem dX6_minds_38 : decode cX6_minds 38 = .ok (.if_icmp .le 5, 3) := by decide +kernel
theorem dX6_minds_41 : decode cX6_minds 41 = .ok (.iconst (-1), 1) := by decide +kernel
theorem dX6_minds_42 : decode cX6_minds 42 = .ok (.ireturn, 1) := by decide +kernel
theorem dX6_minds_43 : decode cX6_minds 43 = .ok (.aload_n 0, 1) := by decide +kernel
theorem dX6_minds_44 : decode cX6_minds 44 = .ok (.iload_n 1, 1) := by decide +kernel
theorem dX6_minds_45 : decode cX6_minds 45 = .ok (.iconst 0, 1) := by decide +kernel
theorem dX6_minds_46 : decode cX6_minds 46 = .ok (.invokevirtual 265, 3) := by decide +kernel
theorem dX6_minds_49 : decode cX6_minds 49 = .ok (.ifCond .eq 10, 3) := by decide +kernel
theorem dX6_minds_52 : decode cX6_minds 52 = .ok (.aload_n 0, 1) := by decide +kernel
theorem dX6_minds_53 : decode cX6_minds 53 = .ok (.iload_n 1, 1) := by decide +kernel
theorem dX6_minds_54 : decode cX6_minds 54 = .ok (.iconst 0, 1) := by decide +kernel
theorem dX6_minds_55 : decode cX6_minds 55 = .ok (.invokevirtual 265, 3) := by decide +kernel
theorem dX6_minds_58 : decode cX6_minds 58 = .ok (.ireturn, 1) := by decide +kernel
theorem dX6_minds_59 : decode cX6_minds 59 = .ok (.iload_n 2, 1) := by decide +kernel
theorem dX6_minds_60 : decode cX6_minds 60 = .ok (.i2l, 1) := by decide +kernel
theorem dX6_minds_61 : decode cX6_minds 61 = .ok (.lconst 0, 1) := by decide +kernel
theorem dX6_minds_62 : decode cX6_minds 62 = .ok (.aload_n 0, 1) := by decide +kernel
theorem dX6_minds_63 : decode cX6_minds 63 = .ok (.getfield 34, 3) := by decide +kernel
theorem dX6_minds_66 : decode cX6_minds 66 = .ok (.iload_n 1, 1) := by decide +kernel
theorem dX6_minds_67 : decode cX6_minds 67 = .ok (.iaload, 1) := by decide +kernel
theorem dX6_minds_68 : decode cX6_minds 68 = .ok (.i2l, 1) := by decide +kernel
theorem dX6_minds_69 : decode cX6_minds 69 = .ok (.invokestatic 57, 3) := by decide +kernel
theorem dX6_minds_72 : decode cX6_minds 72 = .ok (.ifCond .eq 20, 3) := by decide +kernel
theorem dX6_minds_75 : decode cX6_minds 75 = .ok (.iload_n 2, 1) := by decide +kernel
theorem dX6_minds_76 : decode cX6_minds 76 = .ok (.i2l, 1) := by decide +kernel
theorem dX6_minds_77 : decode cX6_minds 77 = .ok (.iload 4, 2) := by decide +kernel
theorem dX6_minds_79 : decode cX6_minds 79 = .ok (.i2l, 1) := by decide +kernel
theorem dX6_minds_80 : decode cX6_minds 80 = .ok (.ladd, 1) := by decide +kernel
theorem dX6_minds_81 : decode cX6_minds 81 = .ok (.aload_n 0, 1) := by decide +kernel
theorem dX6_minds_82 : decode cX6_minds 82 = .ok (.getfield 34, 3) := by decide +kernel
theorem dX6_minds_85 : decode cX6_minds 85 = .ok (.iload_n 1, 1) := by decide +kernel
theorem dX6_minds_86 : decode cX6_minds 86 = .ok (.iaload, 1) := by decide +kernel
theorem dX6_minds_87 : decode cX6_minds 87 = .ok (.i2l, 1) := by decide +kernel
theorem dX6_minds_88 : decode cX6_minds 88 = .ok (.lcmp, 1) := by decide +kernel
theorem dX6_minds_89 : decode cX6_minds 89 = .ok (.ifCond .le 6, 3) := by decide +kernel
theorem dX6_minds_92 : decode cX6_minds 92 = .ok (.bipush (-12), 2) := by decide +kernel
theorem dX6_minds_94 : decode cX6_minds 94 = .ok (.ireturn, 1) := by decide +kernel
theorem dX6_minds_95 : decode cX6_minds 95 = .ok (.iconst 0, 1) := by decide +kernel
theorem dX6_minds_96 : decode cX6_minds 96 = .ok (.istore 5, 2) := by decide +kernel
theorem dX6_minds_98 : decode cX6_minds 98 = .ok (.iload 5, 2) := by decide +kernel
theorem dX6_minds_100 : decode cX6_minds 100 = .ok (.iload 4, 2) := by decide +kernel
theorem dX6_minds_102 : decode cX6_minds 102 = .ok (.if_icmp .ge 43, 3) := by decide +kernel
theorem dX6_minds_105 : decode cX6_minds 105 = .ok (.aload_n 0, 1) := by decide +kernel
theorem dX6_minds_106 : decode cX6_minds 106 = .ok (.getfield 7, 3) := by decide +kernel
theorem dX6_minds_109 : decode cX6_minds 109 = .ok (.bipush 14, 2) := by decide +kernel
theorem dX6_minds_111 : decode cX6_minds 111 = .ok (.bipush 6, 2) := by decide +kernel
theorem dX6_minds_113 : decode cX6_minds 113 = .ok (.iload_n 3, 1) := by decide +kernel
theorem dX6_minds_114 : decode cX6_minds 114 = .ok (.iload 5, 2) := by decide +kernel
theorem dX6_minds_116 : decode cX6_minds 116 = .ok (.iadd, 1) := by decide +kernel
theorem dX6_minds_117 : decode cX6_minds 117 = .ok (.imul, 1) := by decide +kernel
theorem dX6_minds_118 : decode cX6_minds 118 = .ok (.iadd, 1) := by decide +kernel
theorem dX6_minds_119 : decode cX6_minds 119 = .ok (.iconst 2, 1) := by decide +kernel
theorem dX6_minds_120 : decode cX6_minds 120 = .ok (.iadd, 1) := by decide +kernel
theorem dX6_minds_121 : decode cX6_minds 121 = .ok (.aload_n 0, 1) := by decide +kernel
theorem dX6_minds_122 : decode cX6_minds 122 = .ok (.getfield 37, 3) := by decide +kernel
theorem dX6_minds_125 : decode cX6_minds 125 = .ok (.bipush 40, 2) := by decide +kernel
theorem dX6_minds_127 : decode cX6_minds 127 = .ok (.iload_n 1, 1) := by decide +kernel
theorem dX6_minds_128 : decode cX6_minds 128 = .ok (.imul, 1) := by decide +kernel
theorem dX6_minds_129 : decode cX6_minds 129 = .ok (.iload_n 2, 1) := by decide +kernel
theorem dX6_minds_130 : decode cX6_minds 130 = .ok (.iadd, 1) := by decide +kernel
theorem dX6_minds_131 : decode cX6_minds 131 = .ok (.iload 5, 2) := by decide +kernel
theorem dX6_minds_133 : decode cX6_minds 133 = .ok (.iadd, 1) := by decide +kernel
theorem dX6_minds_134 : decode cX6_minds 134 = .ok (.iaload, 1) := by decide +kernel
theorem dX6_minds_135 : decode cX6_minds 135 = .ok (.invokestatic 192, 3) := by decide +kernel
theorem dX6_minds_138 : decode cX6_minds 138 = .ok (.iastore, 1) := by decide +kernel
theorem dX6_minds_139 : decode cX6_minds 139 = .ok (.iinc 5 1, 3) := by decide +kernel
theorem dX6_minds_142 : decode cX6_minds 142 = .ok (.goto (-44), 3) := by decide +kernel
theorem dX6_minds_145 : decode cX6_minds 145 = .ok (.iload 4, 2) := by decide +kernel
theorem dX6_minds_147 : decode cX6_minds 147 = .ok (.ireturn, 1) := by decide +kernel
theorem dX6_shelf_0 : decode cX6_shelf 0 = .ok (.iload_n 1, 1) := by decide +kernel
theorem dX6_shelf_1 : decode cX6_shelf 1 = .ok (.invokestatic 268, 3) := by decide +kernel
theorem dX6_shelf_4 : decode cX6_shelf 4 = .ok (.ifCond .eq 39, 3) := by decide +kernel
theorem dX6_shelf_7 : decode cX6_shelf 7 = .ok (.iload_n 2, 1) := by decide +kernel
theorem dX6_shelf_8 : decode cX6_shelf 8 = .ok (.i2l, 1) := by decide +kernel
theorem dX6_shelf_9 : decode cX6_shelf 9 = .ok (.lconst 0, 1) := by decide +kernel
theorem dX6_shelf_10 : decode cX6_shelf 10 = .ok (.ldc2_w 260, 3) := by decide +kernel
theorem dX6_shelf_13 : decode cX6_shelf 13 = .ok (.invokestatic 57, 3) := by decide +kernel
theorem dX6_shelf_16 : decode cX6_shelf 16 = .ok (.ifCond .eq 27, 3) := by decide +kernel
theorem dX6_shelf_19 : decode cX6_shelf 19 = .ok (.iload_n 2, 1) := by decide +kernel
theorem dX6_shelf_20 : decode cX6_shelf 20 = .ok (.ifCond .ne 11, 3) := by decide +kernel
theorem dX6_shelf_23 : decode cX6_shelf 23 = .ok (.aload_n 0, 1) := by decide +kernel
theorem dX6_shelf_24 : decode cX6_shelf 24 = .ok (.iload_n 3, 1) := by decide +kernel
theorem dX6_shelf_25 : decode cX6_shelf 25 = .ok (.invokevirtual 175, 3) := by decide +kernel
theorem dX6_shelf_28 : decode cX6_shelf 28 = .ok (.ifCond .eq 15, 3) := by decide +kernel
theorem dX6_shelf_31 : decode cX6_shelf 31 = .ok (.iload_n 2, 1) := by decide +kernel
theorem dX6_shelf_32 : decode cX6_shelf 32 = .ok (.iconst 1, 1) := by decide +kernel
theorem dX6_shelf_33 : decode cX6_shelf 33 = .ok (.if_icmp .ne 12, 3) := by decide +kernel
theorem dX6_shelf_36 : decode cX6_shelf 36 = .ok (.iload_n 3, 1) := by decide +kernel
theorem dX6_shelf_37 : decode cX6_shelf 37 = .ok (.invokestatic 240, 3) := by decide +kernel
theorem dX6_shelf_40 : decode cX6_shelf 40 = .ok (.ifCond .ne 5, 3) := by decide +kernel
theorem dX6_shelf_43 : decode cX6_shelf 43 = .ok (.iconst (-1), 1) := by decide +kernel
theorem dX6_shelf_44 : decode cX6_shelf 44 = .ok (.ireturn, 1) := by decide +kernel
theorem dX6_shelf_45 : decode cX6_shelf 45 = .ok (.iload_n 2, 1) := by decide +kernel
theorem dX6_shelf_46 : decode cX6_shelf 46 = .ok (.iconst 1, 1) := by decide +kernel
theorem dX6_shelf_47 : decode cX6_shelf 47 = .ok (.if_icmp .ne 16, 3) := by decide +kernel
theorem dX6_shelf_50 : decode cX6_shelf 50 = .ok (.aload_n 0, 1) := by decide +kernel
theorem dX6_shelf_51 : decode cX6_shelf 51 = .ok (.getfield 31, 3) := by decide +kernel
theorem dX6_shelf_54 : decode cX6_shelf 54 = .ok (.iload_n 3, 1) := by decide +kernel
theorem dX6_shelf_55 : decode cX6_shelf 55 = .ok (.iaload, 1) := by decide +kernel
theorem dX6_shelf_56 : decode cX6_shelf 56 = .ok (.ifCond .lt 7, 3) := by decide +kernel
theorem dX6_shelf_59 : decode cX6_shelf 59 = .ok (.iconst 1, 1) := by decide +kernel
theorem dX6_shelf_60 : decode cX6_shelf 60 = .ok (.goto 4, 3) := by decide +kernel
theorem dX6_shelf_63 : decode cX6_shelf 63 = .ok (.iconst 0, 1) := by decide +kernel
theorem dX6_shelf_64 : decode cX6_shelf 64 = .ok (.istore 4, 2) := by decide +kernel
theorem dX6_shelf_66 : decode cX6_shelf 66 = .ok (.aload_n 0, 1) := by decide +kernel
theorem dX6_shelf_67 : decode cX6_shelf 67 = .ok (.getfield 40, 3) := by decide +kernel
theorem dX6_shelf_70 : decode cX6_shelf 70 = .ok (.iload_n 1, 1) := by decide +kernel
theorem dX6_shelf_71 : decode cX6_shelf 71 = .ok (.iload_n 2, 1) := by decide +kernel
theorem dX6_shelf_72 : decode cX6_shelf 72 = .ok (.ifCond .ne 7, 3) := by decide +kernel
theorem dX6_shelf_75 : decode cX6_shelf 75 = .ok (.iconst 1, 1) := by decide +kernel
theorem dX6_shelf_76 : decode cX6_shelf 76 = .ok (.goto 13, 3) := by decide +kernel
theorem dX6_shelf_79 : decode cX6_shelf 79 = .ok (.iload 4, 2) := by decide +kernel
theorem dX6_shelf_81 : decode cX6_shelf 81 = .ok (.ifCond .eq 7, 3) := by decide +kernel
theorem dX6_shelf_84 : decode cX6_shelf 84 = .ok (.iconst 2, 1) := by decide +kernel
theorem dX6_shelf_85 : decode cX6_shelf 85 = .ok (.goto 4, 3) := by decide +kernel
theorem dX6_shelf_88 : decode cX6_shelf 88 = .ok (.iconst 0, 1) := by decide +kernel
theorem dX6_shelf_89 : decode cX6_shelf 89 = .ok (.iastore, 1) := by decide +kernel
theorem dX6_shelf_90 : decode cX6_shelf 90 = .ok (.aload_n 0, 1) := by decide +kernel
theorem dX6_shelf_91 : decode cX6_shelf 91 = .ok (.getfield 43, 3) := by decide +kernel
theorem dX6_shelf_94 : decode cX6_shelf 94 = .ok (.iload_n 1, 1) := by decide +kernel
theorem dX6_shelf_95 : decode cX6_shelf 95 = .ok (.iload_n 2, 1) := by decide +kernel
theorem dX6_shelf_96 : decode cX6_shelf 96 = .ok (.ifCond .ne 7, 3) := by decide +kernel
theorem dX6_shelf_99 : decode cX6_shelf 99 = .ok (.iload_n 3, 1) := by decide +kernel
theorem dX6_shelf_100 : decode cX6_shelf 100 = .ok (.goto 18, 3) := by decide +kernel
theorem dX6_shelf_103 : decode cX6_shelf 103 = .ok (.iload 4, 2) := by decide +kernel
theorem dX6_shelf_105 : decode cX6_shelf 105 = .ok (.ifCond .eq 12, 3) := by decide +kernel
theorem dX6_shelf_108 : decode cX6_shelf 108 = .ok (.aload_n 0, 1) := by decide +kernel
theorem dX6_shelf_109 : decode cX6_shelf 109 = .ok (.getfield 31, 3) := by decide +kernel
theorem dX6_shelf_112 : decode cX6_shelf 112 = .ok (.iload_n 3, 1) := by decide +kernel
theorem dX6_shelf_113 : decode cX6_shelf 113 = .ok (.iaload, 1) := by decide +kernel
theorem dX6_shelf_114 : decode cX6_shelf 114 = .ok (.goto 4, 3) := by decide +kernel
theorem dX6_shelf_117 : decode cX6_shelf 117 = .ok (.iconst 0, 1) := by decide +kernel
theorem dX6_shelf_118 : decode cX6_shelf 118 = .ok (.iastore, 1) := by decide +kernel
theorem dX6_shelf_119 : decode cX6_shelf 119 = .ok (.aload_n 0, 1) := by decide +kernel
theorem dX6_shelf_120 : decode cX6_shelf 120 = .ok (.getfield 46, 3) := by decide +kernel
theorem dX6_shelf_123 : decode cX6_shelf 123 = .ok (.iload_n 1, 1) := by decide +kernel
theorem dX6_shelf_124 : decode cX6_shelf 124 = .ok (.iload 4, 2) := by decide +kernel
theorem dX6_shelf_126 : decode cX6_shelf 126 = .ok (.ifCond .eq 12, 3) := by decide +kernel
theorem dX6_shelf_129 : decode cX6_shelf 129 = .ok (.aload_n 0, 1) := by decide +kernel
theorem dX6_shelf_130 : decode cX6_shelf 130 = .ok (.getfield 34, 3) := by decide +kernel
theorem dX6_shelf_133 : decode cX6_shelf 133 = .ok (.iload_n 3, 1) := by decide +kernel
theorem dX6_shelf_134 : decode cX6_shelf 134 = .ok (.iaload, 1) := by decide +kernel
theorem dX6_shelf_135 : decode cX6_shelf 135 = .ok (.goto 4, 3) := by decide +kernel
theorem dX6_shelf_138 : decode cX6_shelf 138 = .ok (.iconst 0, 1) := by decide +kernel
theorem dX6_shelf_139 : decode cX6_shelf 139 = .ok (.iastore, 1) := by decide +kernel
theorem dX6_shelf_140 : decode cX6_shelf 140 = .ok (.iconst 1, 1) := by decide +kernel
theorem dX6_shelf_141 : decode cX6_shelf 141 = .ok (.ireturn, 1) := by decide +kernel
theorem dX6_heldOn_0 : decode cX6_heldOn 0 = .ok (.aload_n 0, 1) := by decide +kernel
theorem dX6_heldOn_1 : decode cX6_heldOn 1 = .ok (.getfield 40, 3) := by decide +kernel
theorem dX6_heldOn_4 : decode cX6_heldOn 4 = .ok (.iload_n 1, 1) := by decide +kernel
theorem dX6_heldOn_5 : decode cX6_heldOn 5 = .ok (.iaload, 1) := by decide +kernel
theorem dX6_heldOn_6 : decode cX6_heldOn 6 = .ok (.iconst 1, 1) := by decide +kernel
theorem dX6_heldOn_7 : decode cX6_heldOn 7 = .ok (.if_icmp .ne 20, 3) := by decide +kernel
theorem dX6_heldOn_10 : decode cX6_heldOn 10 = .ok (.aload_n 0, 1) := by decide +kernel
theorem dX6_heldOn_11 : decode cX6_heldOn 11 = .ok (.aload_n 0, 1) := by decide +kernel
theorem dX6_heldOn_12 : decode cX6_heldOn 12 = .ok (.getfield 43, 3) := by decide +kernel
theorem dX6_heldOn_15 : decode cX6_heldOn 15 = .ok (.iload_n 1, 1) := by decide +kernel
theorem dX6_heldOn_16 : decode cX6_heldOn 16 = .ok (.iaload, 1) := by decide +kernel
theorem dX6_heldOn_17 : decode cX6_heldOn 17 = .ok (.invokevirtual 175, 3) := by decide +kernel
theorem dX6_heldOn_20 : decode cX6_heldOn 20 = .ok (.ifCond .ne 7, 3) := by decide +kernel
theorem dX6_heldOn_23 : decode cX6_heldOn 23 = .ok (.iconst 0, 1) := by decide +kernel
theorem dX6_heldOn_24 : decode cX6_heldOn 24 = .ok (.goto 9, 3) := by decide +kernel
theorem dX6_heldOn_27 : decode cX6_heldOn 27 = .ok (.aload_n 0, 1) := by decide +kernel
theorem dX6_heldOn_28 : decode cX6_heldOn 28 = .ok (.getfield 40, 3) := by decide +kernel
theorem dX6_heldOn_31 : decode cX6_heldOn 31 = .ok (.iload_n 1, 1) := by decide +kernel
theorem dX6_heldOn_32 : decode cX6_heldOn 32 = .ok (.iaload, 1) := by decide +kernel
theorem dX6_heldOn_33 : decode cX6_heldOn 33 = .ok (.ireturn, 1) := by decide +kernel
theorem dX6_taken_0 : decode cX6_taken 0 = .ok (.iload_n 1, 1) := by decide +kernel
theorem dX6_taken_1 : decode cX6_taken 1 = .ok (.invokestatic 268, 3) := by decide +kernel
theorem dX6_taken_4 : decode cX6_taken 4 = .ok (.ifCond .eq 29, 3) := by decide +kernel
theorem dX6_taken_7 : decode cX6_taken 7 = .ok (.iload_n 2, 1) := by decide +kernel
theorem dX6_taken_8 : decode cX6_taken 8 = .ok (.i2l, 1) := by decide +kernel
theorem dX6_taken_9 : decode cX6_taken 9 = .ok (.lconst 0, 1) := by decide +kernel
theorem dX6_taken_10 : decode cX6_taken 10 = .ok (.ldc2_w 271, 3) := by decide +kernel
theorem dX6_taken_13 : decode cX6_taken 13 = .ok (.invokestatic 57, 3) := by decide +kernel
theorem dX6_taken_16 : decode cX6_taken 16 = .ok (.ifCond .eq 17, 3) := by decide +kernel
theorem dX6_taken_19 : decode cX6_taken 19 = .ok (.iload_n 2, 1) := by decide +kernel
theorem dX6_taken_20 : decode cX6_taken 20 = .ok (.i2l, 1) := by decide +kernel
theorem dX6_taken_21 : decode cX6_taken 21 = .ok (.ldc2_w 178, 3) := by decide +kernel
theorem dX6_taken_24 : decode cX6_taken 24 = .ok (.ldc2_w 152, 3) := by decide +kernel
theorem dX6_taken_27 : decode cX6_taken 27 = .ok (.invokestatic 57, 3) := by decide +kernel
theorem dX6_taken_30 : decode cX6_taken 30 = .ok (.ifCond .eq 5, 3) := by decide +kernel
theorem dX6_taken_33 : decode cX6_taken 33 = .ok (.iconst (-1), 1) := by decide +kernel
theorem dX6_taken_34 : decode cX6_taken 34 = .ok (.ireturn, 1) := by decide +kernel
theorem dX6_taken_35 : decode cX6_taken 35 = .ok (.aload_n 0, 1) := by decide +kernel
theorem dX6_taken_36 : decode cX6_taken 36 = .ok (.iload_n 1, 1) := by decide +kernel
theorem dX6_taken_37 : decode cX6_taken 37 = .ok (.invokevirtual 273, 3) := by decide +kernel
theorem dX6_taken_40 : decode cX6_taken 40 = .ok (.istore_n 3, 1) := by decide +kernel
theorem dX6_taken_41 : decode cX6_taken 41 = .ok (.iload_n 3, 1) := by decide +kernel
theorem dX6_taken_42 : decode cX6_taken 42 = .ok (.ifCond .ne 6, 3) := by decide +kernel
theorem dX6_taken_45 : decode cX6_taken 45 = .ok (.bipush (-11), 2) := by decide +kernel
theorem dX6_taken_47 : decode cX6_taken 47 = .ok (.ireturn, 1) := by decide +kernel
theorem dX6_taken_48 : decode cX6_taken 48 = .ok (.iload_n 2, 1) := by decide +kernel
theorem dX6_taken_49 : decode cX6_taken 49 = .ok (.bipush 10, 2) := by decide +kernel
theorem dX6_taken_51 : decode cX6_taken 51 = .ok (.if_icmp .ge 38, 3) := by decide +kernel
theorem dX6_taken_54 : decode cX6_taken 54 = .ok (.iload_n 3, 1) := by decide +kernel
theorem dX6_taken_55 : decode cX6_taken 55 = .ok (.iconst 1, 1) := by decide +kernel
theorem dX6_taken_56 : decode cX6_taken 56 = .ok (.if_icmp .ne 30, 3) := by decide +kernel
theorem dX6_taken_59 : decode cX6_taken 59 = .ok (.aload_n 0, 1) := by decide +kernel
theorem dX6_taken_60 : decode cX6_taken 60 = .ok (.aload_n 0, 1) := by decide +kernel
theorem dX6_taken_61 : decode cX6_taken 61 = .ok (.getfield 43, 3) := by decide +kernel
theorem dX6_taken_64 : decode cX6_taken 64 = .ok (.iload_n 1, 1) := by decide +kernel
theorem dX6_taken_65 : decode cX6_taken 65 = .ok (.iaload, 1) := by decide +kernel
theorem dX6_taken_66 : decode cX6_taken 66 = .ok (.iconst 0, 1) := by decide +kernel
theorem dX6_taken_67 : decode cX6_taken 67 = .ok (.invokevirtual 163, 3) := by decide +kernel
theorem dX6_taken_70 : decode cX6_taken 70 = .ok (.iload_n 2, 1) := by decide +kernel
theorem dX6_taken_71 : decode cX6_taken 71 = .ok (.invokestatic 276, 3) := by decide +kernel
theorem dX6_taken_74 : decode cX6_taken 74 = .ok (.ifCond .eq 12, 3) := by decide +kernel
theorem dX6_taken_77 : decode cX6_taken 77 = .ok (.aload_n 0, 1) := by decide +kernel
theorem dX6_taken_78 : decode cX6_taken 78 = .ok (.getfield 43, 3) := by decide +kernel
theorem dX6_taken_81 : decode cX6_taken 81 = .ok (.iload_n 1, 1) := by decide +kernel
theorem dX6_taken_82 : decode cX6_taken 82 = .ok (.iaload, 1) := by decide +kernel
theorem dX6_taken_83 : decode cX6_taken 83 = .ok (.goto 5, 3) := by decide +kernel
theorem dX6_taken_86 : decode cX6_taken 86 = .ok (.bipush (-13), 2) := by decide +kernel
theorem dX6_taken_88 : decode cX6_taken 88 = .ok (.ireturn, 1) := by decide +kernel
theorem dX6_taken_89 : decode cX6_taken 89 = .ok (.iload_n 3, 1) := by decide +kernel
theorem dX6_taken_90 : decode cX6_taken 90 = .ok (.iconst 2, 1) := by decide +kernel
theorem dX6_taken_91 : decode cX6_taken 91 = .ok (.if_icmp .ne 25, 3) := by decide +kernel
theorem dX6_taken_94 : decode cX6_taken 94 = .ok (.aload_n 0, 1) := by decide +kernel
theorem dX6_taken_95 : decode cX6_taken 95 = .ok (.getfield 43, 3) := by decide +kernel
theorem dX6_taken_98 : decode cX6_taken 98 = .ok (.iload_n 1, 1) := by decide +kernel
theorem dX6_taken_99 : decode cX6_taken 99 = .ok (.iaload, 1) := by decide +kernel
theorem dX6_taken_100 : decode cX6_taken 100 = .ok (.iload_n 2, 1) := by decide +kernel
theorem dX6_taken_101 : decode cX6_taken 101 = .ok (.bipush 10, 2) := by decide +kernel
theorem dX6_taken_103 : decode cX6_taken 103 = .ok (.isub, 1) := by decide +kernel
theorem dX6_taken_104 : decode cX6_taken 104 = .ok (.if_icmp .ne 12, 3) := by decide +kernel
theorem dX6_taken_107 : decode cX6_taken 107 = .ok (.aload_n 0, 1) := by decide +kernel
theorem dX6_taken_108 : decode cX6_taken 108 = .ok (.getfield 46, 3) := by decide +kernel
theorem dX6_taken_111 : decode cX6_taken 111 = .ok (.iload_n 1, 1) := by decide +kernel
theorem dX6_taken_112 : decode cX6_taken 112 = .ok (.iaload, 1) := by decide +kernel
theorem dX6_taken_113 : decode cX6_taken 113 = .ok (.goto 5, 3) := by decide +kernel
theorem dX6_taken_116 : decode cX6_taken 116 = .ok (.bipush (-13), 2) := by decide +kernel
theorem dX6_taken_118 : decode cX6_taken 118 = .ok (.ireturn, 1) := by decide +kernel
theorem dX6_runs_0 : decode cX6_runs 0 = .ok (.aload_n 0, 1) := by decide +kernel
theorem dX6_runs_1 : decode cX6_runs 1 = .ok (.getfield 279, 3) := by decide +kernel
theorem dX6_runs_4 : decode cX6_runs 4 = .ok (.bipush 30, 2) := by decide +kernel
theorem dX6_runs_6 : decode cX6_runs 6 = .ok (.if_icmp .ge 23, 3) := by decide +kernel
theorem dX6_runs_9 : decode cX6_runs 9 = .ok (.aload_n 0, 1) := by decide +kernel
theorem dX6_runs_10 : decode cX6_runs 10 = .ok (.getfield 49, 3) := by decide +kernel
theorem dX6_runs_13 : decode cX6_runs 13 = .ok (.aload_n 0, 1) := by decide +kernel
theorem dX6_runs_14 : decode cX6_runs 14 = .ok (.getfield 279, 3) := by decide +kernel
theorem dX6_runs_17 : decode cX6_runs 17 = .ok (.iload_n 1, 1) := by decide +kernel
theorem dX6_runs_18 : decode cX6_runs 18 = .ok (.iastore, 1) := by decide +kernel
theorem dX6_runs_19 : decode cX6_runs 19 = .ok (.aload_n 0, 1) := by decide +kernel
theorem dX6_runs_20 : decode cX6_runs 20 = .ok (.dup, 1) := by decide +kernel
theorem dX6_runs_21 : decode cX6_runs 21 = .ok (.getfield 279, 3) := by decide +kernel
theorem dX6_runs_24 : decode cX6_runs 24 = .ok (.iconst 1, 1) := by decide +kernel
theorem dX6_runs_25 : decode cX6_runs 25 = .ok (.iadd, 1) := by decide +kernel
theorem dX6_runs_26 : decode cX6_runs 26 = .ok (.putfield 279, 3) := by decide +kernel
theorem dX6_runs_29 : decode cX6_runs 29 = .ok (.return_, 1) := by decide +kernel
theorem dX6_turnsPlain_0 : decode cX6_turnsPlain 0 = .ok (.aload_n 0, 1) := by decide +kernel
theorem dX6_turnsPlain_1 : decode cX6_turnsPlain 1 = .ok (.bipush 10, 2) := by decide +kernel
theorem dX6_turnsPlain_3 : decode cX6_turnsPlain 3 = .ok (.invokevirtual 282, 3) := by decide +kernel
theorem dX6_turnsPlain_6 : decode cX6_turnsPlain 6 = .ok (.iload_n 1, 1) := by decide +kernel
theorem dX6_turnsPlain_7 : decode cX6_turnsPlain 7 = .ok (.iconst 2, 1) := by decide +kernel
theorem dX6_turnsPlain_8 : decode cX6_turnsPlain 8 = .ok (.imul, 1) := by decide +kernel
theorem dX6_turnsPlain_9 : decode cX6_turnsPlain 9 = .ok (.aload_n 0, 1) := by decide +kernel
theorem dX6_turnsPlain_10 : decode cX6_turnsPlain 10 = .ok (.getfield 285, 3) := by decide +kernel
theorem dX6_turnsPlain_13 : decode cX6_turnsPlain 13 = .ok (.iconst 5, 1) := by decide +kernel
theorem dX6_turnsPlain_14 : decode cX6_turnsPlain 14 = .ok (.imul, 1) := by decide +kernel
theorem dX6_turnsPlain_15 : decode cX6_turnsPlain 15 = .ok (.iadd, 1) := by decide +kernel
theorem dX6_turnsPlain_16 : decode cX6_turnsPlain 16 = .ok (.ireturn, 1) := by decide +kernel
theorem dX6_turnsOfYellow_0 : decode cX6_turnsOfYellow 0 = .ok (.aload_n 0, 1) := by decide +kernel
theorem dX6_turnsOfYellow_1 : decode cX6_turnsOfYellow 1 = .ok (.bipush 30, 2) := by decide +kernel
theorem dX6_turnsOfYellow_3 : decode cX6_turnsOfYellow 3 = .ok (.invokevirtual 282, 3) := by decide +kernel
theorem dX6_turnsOfYellow_6 : decode cX6_turnsOfYellow 6 = .ok (.aload_n 0, 1) := by decide +kernel
theorem dX6_turnsOfYellow_7 : decode cX6_turnsOfYellow 7 = .ok (.iload_n 1, 1) := by decide +kernel
theorem dX6_turnsOfYellow_8 : decode cX6_turnsOfYellow 8 = .ok (.invokevirtual 288, 3) := by decide +kernel
theorem dX6_turnsOfYellow_11 : decode cX6_turnsOfYellow 11 = .ok (.iconst 1, 1) := by decide +kernel
theorem dX6_turnsOfYellow_12 : decode cX6_turnsOfYellow 12 = .ok (.ixor, 1) := by decide +kernel
theorem dX6_turnsOfYellow_13 : decode cX6_turnsOfYellow 13 = .ok (.ireturn, 1) := by decide +kernel
theorem dX6_turns_0 : decode cX6_turns 0 = .ok (.aload_n 0, 1) := by decide +kernel
theorem dX6_turns_1 : decode cX6_turns 1 = .ok (.getfield 291, 3) := by decide +kernel
theorem dX6_turns_4 : decode cX6_turns 4 = .ok (.tableswitch 65 2 4 #[28, 48, 34], 28) := by decide +kernel
theorem dX6_turns_32 : decode cX6_turns 32 = .ok (.aload_n 0, 1) := by decide +kernel
theorem dX6_turns_33 : decode cX6_turns 33 = .ok (.iload_n 1, 1) := by decide +kernel
theorem dX6_turns_34 : decode cX6_turns 34 = .ok (.invokevirtual 294, 3) := by decide +kernel
theorem dX6_turns_37 : decode cX6_turns 37 = .ok (.ireturn, 1) := by decide +kernel
theorem dX6_turns_38 : decode cX6_turns 38 = .ok (.aload_n 0, 1) := by decide +kernel
theorem dX6_turns_39 : decode cX6_turns 39 = .ok (.bipush 40, 2) := by decide +kernel
theorem dX6_turns_41 : decode cX6_turns 41 = .ok (.invokevirtual 282, 3) := by decide +kernel
theorem dX6_turns_44 : decode cX6_turns 44 = .ok (.aload_n 0, 1) := by decide +kernel
theorem dX6_turns_45 : decode cX6_turns 45 = .ok (.iload_n 1, 1) := by decide +kernel
theorem dX6_turns_46 : decode cX6_turns 46 = .ok (.invokevirtual 294, 3) := by decide +kernel
theorem dX6_turns_49 : decode cX6_turns 49 = .ok (.iconst 2, 1) := by decide +kernel
theorem dX6_turns_50 : decode cX6_turns 50 = .ok (.imul, 1) := by decide +kernel
theorem dX6_turns_51 : decode cX6_turns 51 = .ok (.ireturn, 1) := by decide +kernel
theorem dX6_turns_52 : decode cX6_turns 52 = .ok (.aload_n 0, 1) := by decide +kernel
theorem dX6_turns_53 : decode cX6_turns 53 = .ok (.bipush 51, 2) := by decide +kernel
theorem dX6_turns_55 : decode cX6_turns 55 = .ok (.invokevirtual 282, 3) := by decide +kernel
theorem dX6_turns_58 : decode cX6_turns 58 = .ok (.aload_n 0, 1) := by decide +kernel
theorem dX6_turns_59 : decode cX6_turns 59 = .ok (.iload_n 1, 1) := by decide +kernel
theorem dX6_turns_60 : decode cX6_turns 60 = .ok (.invokevirtual 288, 3) := by decide +kernel
theorem dX6_turns_63 : decode cX6_turns 63 = .ok (.aload_n 0, 1) := by decide +kernel
theorem dX6_turns_64 : decode cX6_turns 64 = .ok (.getfield 297, 3) := by decide +kernel
theorem dX6_turns_67 : decode cX6_turns 67 = .ok (.iadd, 1) := by decide +kernel
theorem dX6_turns_68 : decode cX6_turns 68 = .ok (.ireturn, 1) := by decide +kernel
theorem dX6_turns_69 : decode cX6_turns 69 = .ok (.aload_n 0, 1) := by decide +kernel
theorem dX6_turns_70 : decode cX6_turns 70 = .ok (.iload_n 1, 1) := by decide +kernel
theorem dX6_turns_71 : decode cX6_turns 71 = .ok (.invokevirtual 288, 3) := by decide +kernel
theorem dX6_turns_74 : decode cX6_turns 74 = .ok (.ireturn, 1) := by decide +kernel
theorem dX6_namesPlain_0 : decode cX6_namesPlain 0 = .ok (.aload_n 0, 1) := by decide +kernel
theorem dX6_namesPlain_1 : decode cX6_namesPlain 1 = .ok (.bipush 11, 2) := by decide +kernel
theorem dX6_namesPlain_3 : decode cX6_namesPlain 3 = .ok (.invokevirtual 282, 3) := by decide +kernel
theorem dX6_namesPlain_6 : decode cX6_namesPlain 6 = .ok (.aload_n 0, 1) := by decide +kernel
theorem dX6_namesPlain_7 : decode cX6_namesPlain 7 = .ok (.iload_n 1, 1) := by decide +kernel
theorem dX6_namesPlain_8 : decode cX6_namesPlain 8 = .ok (.invokevirtual 300, 3) := by decide +kernel
theorem dX6_namesPlain_11 : decode cX6_namesPlain 11 = .ok (.aload_n 0, 1) := by decide +kernel
theorem dX6_namesPlain_12 : decode cX6_namesPlain 12 = .ok (.getfield 297, 3) := by decide +kernel
theorem dX6_namesPlain_15 : decode cX6_namesPlain 15 = .ok (.isub, 1) := by decide +kernel
theorem dX6_namesPlain_16 : decode cX6_namesPlain 16 = .ok (.ireturn, 1) := by decide +kernel
theorem dX6_names_0 : decode cX6_names 0 = .ok (.aload_n 0, 1) := by decide +kernel
theorem dX6_names_1 : decode cX6_names 1 = .ok (.getfield 291, 3) := by decide +kernel
theorem dX6_names_4 : decode cX6_names 4 = .ok (.iconst 1, 1) := by decide +kernel
theorem dX6_names_5 : decode cX6_names 5 = .ok (.if_icmp .eq 11, 3) := by decide +kernel
theorem dX6_names_8 : decode cX6_names 8 = .ok (.aload_n 0, 1) := by decide +kernel
theorem dX6_names_9 : decode cX6_names 9 = .ok (.getfield 291, 3) := by decide +kernel
theorem dX6_names_12 : decode cX6_names 12 = .ok (.iconst 3, 1) := by decide +kernel
theorem dX6_names_13 : decode cX6_names 13 = .ok (.if_icmp .ne 18, 3) := by decide +kernel
theorem dX6_names_16 : decode cX6_names 16 = .ok (.aload_n 0, 1) := by decide +kernel
theorem dX6_names_17 : decode cX6_names 17 = .ok (.bipush 20, 2) := by decide +kernel
theorem dX6_names_19 : decode cX6_names 19 = .ok (.invokevirtual 282, 3) := by decide +kernel
theorem dX6_names_22 : decode cX6_names 22 = .ok (.aload_n 0, 1) := by decide +kernel
theorem dX6_names_23 : decode cX6_names 23 = .ok (.iload_n 1, 1) := by decide +kernel
theorem dX6_names_24 : decode cX6_names 24 = .ok (.invokevirtual 303, 3) := by decide +kernel
theorem dX6_names_27 : decode cX6_names 27 = .ok (.bipush 7, 2) := by decide +kernel
theorem dX6_names_29 : decode cX6_names 29 = .ok (.iadd, 1) := by decide +kernel
theorem dX6_names_30 : decode cX6_names 30 = .ok (.ireturn, 1) := by decide +kernel
theorem dX6_names_31 : decode cX6_names 31 = .ok (.aload_n 0, 1) := by decide +kernel
theorem dX6_names_32 : decode cX6_names 32 = .ok (.getfield 291, 3) := by decide +kernel
theorem dX6_names_35 : decode cX6_names 35 = .ok (.iconst 4, 1) := by decide +kernel
theorem dX6_names_36 : decode cX6_names 36 = .ok (.if_icmp .ne 26, 3) := by decide +kernel
theorem dX6_names_39 : decode cX6_names 39 = .ok (.aload_n 0, 1) := by decide +kernel
theorem dX6_names_40 : decode cX6_names 40 = .ok (.bipush 41, 2) := by decide +kernel
theorem dX6_names_42 : decode cX6_names 42 = .ok (.invokevirtual 282, 3) := by decide +kernel
theorem dX6_names_45 : decode cX6_names 45 = .ok (.aload_n 0, 1) := by decide +kernel
theorem dX6_names_46 : decode cX6_names 46 = .ok (.iload_n 1, 1) := by decide +kernel
theorem dX6_names_47 : decode cX6_names 47 = .ok (.invokevirtual 303, 3) := by decide +kernel
theorem dX6_names_50 : decode cX6_names 50 = .ok (.istore_n 2, 1) := by decide +kernel
theorem dX6_names_51 : decode cX6_names 51 = .ok (.iload_n 2, 1) := by decide +kernel
theorem dX6_names_52 : decode cX6_names 52 = .ok (.aload_n 0, 1) := by decide +kernel
theorem dX6_names_53 : decode cX6_names 53 = .ok (.aload_n 0, 1) := by decide +kernel
theorem dX6_names_54 : decode cX6_names 54 = .ok (.getfield 297, 3) := by decide +kernel
theorem dX6_names_57 : decode cX6_names 57 = .ok (.invokevirtual 300, 3) := by decide +kernel
theorem dX6_names_60 : decode cX6_names 60 = .ok (.isub, 1) := by decide +kernel
theorem dX6_names_61 : decode cX6_names 61 = .ok (.ireturn, 1) := by decide +kernel
theorem dX6_names_62 : decode cX6_names 62 = .ok (.aload_n 0, 1) := by decide +kernel
theorem dX6_names_63 : decode cX6_names 63 = .ok (.iload_n 1, 1) := by decide +kernel
theorem dX6_names_64 : decode cX6_names 64 = .ok (.invokevirtual 303, 3) := by decide +kernel
theorem dX6_names_67 : decode cX6_names 67 = .ok (.ireturn, 1) := by decide +kernel
theorem dX6_partsPlain_0 : decode cX6_partsPlain 0 = .ok (.aload_n 0, 1) := by decide +kernel
theorem dX6_partsPlain_1 : decode cX6_partsPlain 1 = .ok (.bipush 12, 2) := by decide +kernel
theorem dX6_partsPlain_3 : decode cX6_partsPlain 3 = .ok (.invokevirtual 282, 3) := by decide +kernel
theorem dX6_partsPlain_6 : decode cX6_partsPlain 6 = .ok (.aload_n 0, 1) := by decide +kernel
theorem dX6_partsPlain_7 : decode cX6_partsPlain 7 = .ok (.aload_n 0, 1) := by decide +kernel
theorem dX6_partsPlain_8 : decode cX6_partsPlain 8 = .ok (.getfield 306, 3) := by decide +kernel
theorem dX6_partsPlain_11 : decode cX6_partsPlain 11 = .ok (.ifCond .ne 14, 3) := by decide +kernel
theorem dX6_partsPlain_14 : decode cX6_partsPlain 14 = .ok (.aload_n 0, 1) := by decide +kernel
theorem dX6_partsPlain_15 : decode cX6_partsPlain 15 = .ok (.getfield 285, 3) := by decide +kernel
theorem dX6_partsPlain_18 : decode cX6_partsPlain 18 = .ok (.aload_n 0, 1) := by decide +kernel
theorem dX6_partsPlain_19 : decode cX6_partsPlain 19 = .ok (.getfield 297, 3) := by decide +kernel
theorem dX6_partsPlain_22 : decode cX6_partsPlain 22 = .ok (.if_icmp .ne 7, 3) := by decide +kernel
theorem dX6_partsPlain_25 : decode cX6_partsPlain 25 = .ok (.iconst 1, 1) := by decide +kernel
theorem dX6_partsPlain_26 : decode cX6_partsPlain 26 = .ok (.goto 4, 3) := by decide +kernel
theorem dX6_partsPlain_29 : decode cX6_partsPlain 29 = .ok (.iconst 0, 1) := by decide +kernel
theorem dX6_partsPlain_30 : decode cX6_partsPlain 30 = .ok (.putfield 306, 3) := by decide +kernel
theorem dX6_partsPlain_33 : decode cX6_partsPlain 33 = .ok (.aload_n 0, 1) := by decide +kernel
theorem dX6_partsPlain_34 : decode cX6_partsPlain 34 = .ok (.getfield 306, 3) := by decide +kernel
theorem dX6_partsPlain_37 : decode cX6_partsPlain 37 = .ok (.ifCond .eq 7, 3) := by decide +kernel
theorem dX6_partsPlain_40 : decode cX6_partsPlain 40 = .ok (.iconst 0, 1) := by decide +kernel
theorem dX6_partsPlain_41 : decode cX6_partsPlain 41 = .ok (.goto 14, 3) := by decide +kernel
theorem dX6_partsPlain_44 : decode cX6_partsPlain 44 = .ok (.iload_n 1, 1) := by decide +kernel
theorem dX6_partsPlain_45 : decode cX6_partsPlain 45 = .ok (.aload_n 0, 1) := by decide +kernel
theorem dX6_partsPlain_46 : decode cX6_partsPlain 46 = .ok (.getfield 297, 3) := by decide +kernel
theorem dX6_partsPlain_49 : decode cX6_partsPlain 49 = .ok (.aload_n 0, 1) := by decide +kernel
theorem dX6_partsPlain_50 : decode cX6_partsPlain 50 = .ok (.getfield 285, 3) := by decide +kernel
theorem dX6_partsPlain_53 : decode cX6_partsPlain 53 = .ok (.isub, 1) := by decide +kernel
theorem dX6_partsPlain_54 : decode cX6_partsPlain 54 = .ok (.idiv, 1) := by decide +kernel
theorem dX6_partsPlain_55 : decode cX6_partsPlain 55 = .ok (.ireturn, 1) := by decide +kernel
theorem dX6_parts_0 : decode cX6_parts 0 = .ok (.aload_n 0, 1) := by decide +kernel
theorem dX6_parts_1 : decode cX6_parts 1 = .ok (.getfield 291, 3) := by decide +kernel
theorem dX6_parts_4 : decode cX6_parts 4 = .ok (.iconst 3, 1) := by decide +kernel
theorem dX6_parts_5 : decode cX6_parts 5 = .ok (.if_icmp .ne 19, 3) := by decide +kernel
theorem dX6_parts_8 : decode cX6_parts 8 = .ok (.aload_n 0, 1) := by decide +kernel
theorem dX6_parts_9 : decode cX6_parts 9 = .ok (.bipush 50, 2) := by decide +kernel
theorem dX6_parts_11 : decode cX6_parts 11 = .ok (.invokevirtual 282, 3) := by decide +kernel
theorem dX6_parts_14 : decode cX6_parts 14 = .ok (.iconst 0, 1) := by decide +kernel
theorem dX6_parts_15 : decode cX6_parts 15 = .ok (.aload_n 0, 1) := by decide +kernel
theorem dX6_parts_16 : decode cX6_parts 16 = .ok (.iload_n 1, 1) := by decide +kernel
theorem dX6_parts_17 : decode cX6_parts 17 = .ok (.iconst 3, 1) := by decide +kernel
theorem dX6_parts_18 : decode cX6_parts 18 = .ok (.iadd, 1) := by decide +kernel
theorem dX6_parts_19 : decode cX6_parts 19 = .ok (.invokevirtual 309, 3) := by decide +kernel
theorem dX6_parts_22 : decode cX6_parts 22 = .ok (.isub, 1) := by decide +kernel
theorem dX6_parts_23 : decode cX6_parts 23 = .ok (.ireturn, 1) := by decide +kernel
theorem dX6_parts_24 : decode cX6_parts 24 = .ok (.aload_n 0, 1) := by decide +kernel
theorem dX6_parts_25 : decode cX6_parts 25 = .ok (.getfield 291, 3) := by decide +kernel
theorem dX6_parts_28 : decode cX6_parts 28 = .ok (.iconst 5, 1) := by decide +kernel
theorem dX6_parts_29 : decode cX6_parts 29 = .ok (.if_icmp .ne 37, 3) := by decide +kernel
theorem dX6_parts_32 : decode cX6_parts 32 = .ok (.aload_n 0, 1) := by decide +kernel
theorem dX6_parts_33 : decode cX6_parts 33 = .ok (.bipush 61, 2) := by decide +kernel
theorem dX6_parts_35 : decode cX6_parts 35 = .ok (.invokevirtual 282, 3) := by decide +kernel
theorem dX6_parts_38 : decode cX6_parts 38 = .ok (.aload_n 0, 1) := by decide +kernel
theorem dX6_parts_39 : decode cX6_parts 39 = .ok (.iload_n 1, 1) := by decide +kernel
theorem dX6_parts_40 : decode cX6_parts 40 = .ok (.invokevirtual 309, 3) := by decide +kernel
theorem dX6_parts_43 : decode cX6_parts 43 = .ok (.istore_n 2, 1) := by decide +kernel
theorem dX6_parts_44 : decode cX6_parts 44 = .ok (.aload_n 0, 1) := by decide +kernel
theorem dX6_parts_45 : decode cX6_parts 45 = .ok (.getfield 306, 3) := by decide +kernel
theorem dX6_parts_48 : decode cX6_parts 48 = .ok (.ifCond .eq 7, 3) := by decide +kernel
theorem dX6_parts_51 : decode cX6_parts 51 = .ok (.iconst 0, 1) := by decide +kernel
theorem dX6_parts_52 : decode cX6_parts 52 = .ok (.goto 13, 3) := by decide +kernel
theorem dX6_parts_55 : decode cX6_parts 55 = .ok (.iload_n 2, 1) := by decide +kernel
theorem dX6_parts_56 : decode cX6_parts 56 = .ok (.aload_n 0, 1) := by decide +kernel
theorem dX6_parts_57 : decode cX6_parts 57 = .ok (.aload_n 0, 1) := by decide +kernel
theorem dX6_parts_58 : decode cX6_parts 58 = .ok (.getfield 285, 3) := by decide +kernel
theorem dX6_parts_61 : decode cX6_parts 61 = .ok (.invokevirtual 300, 3) := by decide +kernel
theorem dX6_parts_64 : decode cX6_parts 64 = .ok (.iadd, 1) := by decide +kernel
theorem dX6_parts_65 : decode cX6_parts 65 = .ok (.ireturn, 1) := by decide +kernel
theorem dX6_parts_66 : decode cX6_parts 66 = .ok (.aload_n 0, 1) := by decide +kernel
theorem dX6_parts_67 : decode cX6_parts 67 = .ok (.iload_n 1, 1) := by decide +kernel
theorem dX6_parts_68 : decode cX6_parts 68 = .ok (.invokevirtual 309, 3) := by decide +kernel
theorem dX6_parts_71 : decode cX6_parts 71 = .ok (.ireturn, 1) := by decide +kernel
theorem dX6_landsPlain_0 : decode cX6_landsPlain 0 = .ok (.aload_n 0, 1) := by decide +kernel
theorem dX6_landsPlain_1 : decode cX6_landsPlain 1 = .ok (.bipush 13, 2) := by decide +kernel
theorem dX6_landsPlain_3 : decode cX6_landsPlain 3 = .ok (.invokevirtual 282, 3) := by decide +kernel
theorem dX6_landsPlain_6 : decode cX6_landsPlain 6 = .ok (.aload_n 0, 1) := by decide +kernel
theorem dX6_landsPlain_7 : decode cX6_landsPlain 7 = .ok (.iload_n 1, 1) := by decide +kernel
theorem dX6_landsPlain_8 : decode cX6_landsPlain 8 = .ok (.invokevirtual 312, 3) := by decide +kernel
theorem dX6_landsPlain_11 : decode cX6_landsPlain 11 = .ok (.bipush 20, 2) := by decide +kernel
theorem dX6_landsPlain_13 : decode cX6_landsPlain 13 = .ok (.ixor, 1) := by decide +kernel
theorem dX6_landsPlain_14 : decode cX6_landsPlain 14 = .ok (.ireturn, 1) := by decide +kernel
theorem dX6_lands_0 : decode cX6_lands 0 = .ok (.aload_n 0, 1) := by decide +kernel
theorem dX6_lands_1 : decode cX6_lands 1 = .ok (.getfield 291, 3) := by decide +kernel
theorem dX6_lands_4 : decode cX6_lands 4 = .ok (.iconst 2, 1) := by decide +kernel
theorem dX6_lands_5 : decode cX6_lands 5 = .ok (.if_icmp .eq 11, 3) := by decide +kernel
theorem dX6_lands_8 : decode cX6_lands 8 = .ok (.aload_n 0, 1) := by decide +kernel
theorem dX6_lands_9 : decode cX6_lands 9 = .ok (.getfield 291, 3) := by decide +kernel
theorem dX6_lands_12 : decode cX6_lands 12 = .ok (.iconst 4, 1) := by decide +kernel
theorem dX6_lands_13 : decode cX6_lands 13 = .ok (.if_icmp .ne 26, 3) := by decide +kernel
theorem dX6_lands_16 : decode cX6_lands 16 = .ok (.aload_n 0, 1) := by decide +kernel
theorem dX6_lands_17 : decode cX6_lands 17 = .ok (.bipush 31, 2) := by decide +kernel
theorem dX6_lands_19 : decode cX6_lands 19 = .ok (.invokevirtual 282, 3) := by decide +kernel
theorem dX6_lands_22 : decode cX6_lands 22 = .ok (.aload_n 0, 1) := by decide +kernel
theorem dX6_lands_23 : decode cX6_lands 23 = .ok (.iload_n 1, 1) := by decide +kernel
theorem dX6_lands_24 : decode cX6_lands 24 = .ok (.invokevirtual 315, 3) := by decide +kernel
theorem dX6_lands_27 : decode cX6_lands 27 = .ok (.istore_n 2, 1) := by decide +kernel
theorem dX6_lands_28 : decode cX6_lands 28 = .ok (.iload_n 2, 1) := by decide +kernel
theorem dX6_lands_29 : decode cX6_lands 29 = .ok (.aload_n 0, 1) := by decide +kernel
theorem dX6_lands_30 : decode cX6_lands 30 = .ok (.aload_n 0, 1) := by decide +kernel
theorem dX6_lands_31 : decode cX6_lands 31 = .ok (.getfield 285, 3) := by decide +kernel
theorem dX6_lands_34 : decode cX6_lands 34 = .ok (.invokevirtual 318, 3) := by decide +kernel
theorem dX6_lands_37 : decode cX6_lands 37 = .ok (.isub, 1) := by decide +kernel
theorem dX6_lands_38 : decode cX6_lands 38 = .ok (.ireturn, 1) := by decide +kernel
theorem dX6_lands_39 : decode cX6_lands 39 = .ok (.aload_n 0, 1) := by decide +kernel
theorem dX6_lands_40 : decode cX6_lands 40 = .ok (.getfield 291, 3) := by decide +kernel
theorem dX6_lands_43 : decode cX6_lands 43 = .ok (.iconst 5, 1) := by decide +kernel
theorem dX6_lands_44 : decode cX6_lands 44 = .ok (.if_icmp .ne 17, 3) := by decide +kernel
theorem dX6_lands_47 : decode cX6_lands 47 = .ok (.aload_n 0, 1) := by decide +kernel
theorem dX6_lands_48 : decode cX6_lands 48 = .ok (.bipush 60, 2) := by decide +kernel
theorem dX6_lands_50 : decode cX6_lands 50 = .ok (.invokevirtual 282, 3) := by decide +kernel
theorem dX6_lands_53 : decode cX6_lands 53 = .ok (.aload_n 0, 1) := by decide +kernel
theorem dX6_lands_54 : decode cX6_lands 54 = .ok (.iload_n 1, 1) := by decide +kernel
theorem dX6_lands_55 : decode cX6_lands 55 = .ok (.invokevirtual 315, 3) := by decide +kernel
theorem dX6_lands_58 : decode cX6_lands 58 = .ok (.iload_n 1, 1) := by decide +kernel
theorem dX6_lands_59 : decode cX6_lands 59 = .ok (.ixor, 1) := by decide +kernel
theorem dX6_lands_60 : decode cX6_lands 60 = .ok (.ireturn, 1) := by decide +kernel
theorem dX6_lands_61 : decode cX6_lands 61 = .ok (.aload_n 0, 1) := by decide +kernel
theorem dX6_lands_62 : decode cX6_lands 62 = .ok (.iload_n 1, 1) := by decide +kernel
theorem dX6_lands_63 : decode cX6_lands 63 = .ok (.invokevirtual 315, 3) := by decide +kernel
theorem dX6_lands_66 : decode cX6_lands 66 = .ok (.ireturn, 1) := by decide +kernel
theorem dX6_act_0 : decode cX6_act 0 = .ok (.aload_n 0, 1) := by decide +kernel
theorem dX6_act_1 : decode cX6_act 1 = .ok (.iconst 0, 1) := by decide +kernel
theorem dX6_act_2 : decode cX6_act 2 = .ok (.putfield 279, 3) := by decide +kernel
theorem dX6_act_5 : decode cX6_act 5 = .ok (.iload_n 1, 1) := by decide +kernel
theorem dX6_act_6 : decode cX6_act 6 = .ok (.invokestatic 268, 3) := by decide +kernel
theorem dX6_act_9 : decode cX6_act 9 = .ok (.ifCond .eq 24, 3) := by decide +kernel
theorem dX6_act_12 : decode cX6_act 12 = .ok (.iload_n 2, 1) := by decide +kernel
theorem dX6_act_13 : decode cX6_act 13 = .ok (.i2l, 1) := by decide +kernel
theorem dX6_act_14 : decode cX6_act 14 = .ok (.lconst 0, 1) := by decide +kernel
theorem dX6_act_15 : decode cX6_act 15 = .ok (.ldc2_w 148, 3) := by decide +kernel
theorem dX6_act_18 : decode cX6_act 18 = .ok (.invokestatic 57, 3) := by decide +kernel
theorem dX6_act_21 : decode cX6_act 21 = .ok (.ifCond .eq 12, 3) := by decide +kernel
theorem dX6_act_24 : decode cX6_act 24 = .ok (.aload_n 0, 1) := by decide +kernel
theorem dX6_act_25 : decode cX6_act 25 = .ok (.iload_n 1, 1) := by decide +kernel
theorem dX6_act_26 : decode cX6_act 26 = .ok (.invokevirtual 273, 3) := by decide +kernel
theorem dX6_act_29 : decode cX6_act 29 = .ok (.iconst 1, 1) := by decide +kernel
theorem dX6_act_30 : decode cX6_act 30 = .ok (.if_icmp .eq 5, 3) := by decide +kernel
theorem dX6_act_33 : decode cX6_act 33 = .ok (.iconst 0, 1) := by decide +kernel
theorem dX6_act_34 : decode cX6_act 34 = .ok (.ireturn, 1) := by decide +kernel
theorem dX6_act_35 : decode cX6_act 35 = .ok (.aload_n 0, 1) := by decide +kernel
theorem dX6_act_36 : decode cX6_act 36 = .ok (.iconst 0, 1) := by decide +kernel
theorem dX6_act_37 : decode cX6_act 37 = .ok (.putfield 306, 3) := by decide +kernel
theorem dX6_act_40 : decode cX6_act 40 = .ok (.aload_n 0, 1) := by decide +kernel
theorem dX6_act_41 : decode cX6_act 41 = .ok (.aload_n 0, 1) := by decide +kernel
theorem dX6_act_42 : decode cX6_act 42 = .ok (.aload_n 0, 1) := by decide +kernel
theorem dX6_act_43 : decode cX6_act 43 = .ok (.getfield 43, 3) := by decide +kernel
theorem dX6_act_46 : decode cX6_act 46 = .ok (.iload_n 1, 1) := by decide +kernel
theorem dX6_act_47 : decode cX6_act 47 = .ok (.iaload, 1) := by decide +kernel
theorem dX6_act_48 : decode cX6_act 48 = .ok (.iconst 0, 1) := by decide +kernel
theorem dX6_act_49 : decode cX6_act 49 = .ok (.invokevirtual 163, 3) := by decide +kernel
theorem dX6_act_52 : decode cX6_act 52 = .ok (.putfield 291, 3) := by decide +kernel
theorem dX6_act_55 : decode cX6_act 55 = .ok (.aload_n 0, 1) := by decide +kernel
theorem dX6_act_56 : decode cX6_act 56 = .ok (.aload_n 0, 1) := by decide +kernel
theorem dX6_act_57 : decode cX6_act 57 = .ok (.getfield 43, 3) := by decide +kernel
theorem dX6_act_60 : decode cX6_act 60 = .ok (.iload_n 1, 1) := by decide +kernel
theorem dX6_act_61 : decode cX6_act 61 = .ok (.iaload, 1) := by decide +kernel
theorem dX6_act_62 : decode cX6_act 62 = .ok (.putfield 285, 3) := by decide +kernel
theorem dX6_act_65 : decode cX6_act 65 = .ok (.aload_n 0, 1) := by decide +kernel
theorem dX6_act_66 : decode cX6_act 66 = .ok (.aload_n 0, 1) := by decide +kernel
theorem dX6_act_67 : decode cX6_act 67 = .ok (.aload_n 0, 1) := by decide +kernel
theorem dX6_act_68 : decode cX6_act 68 = .ok (.getfield 43, 3) := by decide +kernel
theorem dX6_act_71 : decode cX6_act 71 = .ok (.iload_n 1, 1) := by decide +kernel
theorem dX6_act_72 : decode cX6_act 72 = .ok (.iaload, 1) := by decide +kernel
theorem dX6_act_73 : decode cX6_act 73 = .ok (.iconst 3, 1) := by decide +kernel
theorem dX6_act_74 : decode cX6_act 74 = .ok (.invokevirtual 163, 3) := by decide +kernel
theorem dX6_act_77 : decode cX6_act 77 = .ok (.putfield 297, 3) := by decide +kernel
theorem dX6_act_80 : decode cX6_act 80 = .ok (.iload_n 2, 1) := by decide +kernel
theorem dX6_act_81 : decode cX6_act 81 = .ok (.ifCond .ne 11, 3) := by decide +kernel
theorem dX6_act_84 : decode cX6_act 84 = .ok (.aload_n 0, 1) := by decide +kernel
theorem dX6_act_85 : decode cX6_act 85 = .ok (.iload_n 3, 1) := by decide +kernel
theorem dX6_act_86 : decode cX6_act 86 = .ok (.invokevirtual 300, 3) := by decide +kernel
theorem dX6_act_89 : decode cX6_act 89 = .ok (.goto 34, 3) := by decide +kernel
theorem dX6_act_92 : decode cX6_act 92 = .ok (.iload_n 2, 1) := by decide +kernel
theorem dX6_act_93 : decode cX6_act 93 = .ok (.iconst 1, 1) := by decide +kernel
theorem dX6_act_94 : decode cX6_act 94 = .ok (.if_icmp .ne 11, 3) := by decide +kernel
theorem dX6_act_97 : decode cX6_act 97 = .ok (.aload_n 0, 1) := by decide +kernel
theorem dX6_act_98 : decode cX6_act 98 = .ok (.iload_n 3, 1) := by decide +kernel
theorem dX6_act_99 : decode cX6_act 99 = .ok (.invokevirtual 312, 3) := by decide +kernel
theorem dX6_act_102 : decode cX6_act 102 = .ok (.goto 21, 3) := by decide +kernel
theorem dX6_act_105 : decode cX6_act 105 = .ok (.iload_n 2, 1) := by decide +kernel
theorem dX6_act_106 : decode cX6_act 106 = .ok (.iconst 2, 1) := by decide +kernel
theorem dX6_act_107 : decode cX6_act 107 = .ok (.if_icmp .ne 11, 3) := by decide +kernel
theorem dX6_act_110 : decode cX6_act 110 = .ok (.aload_n 0, 1) := by decide +kernel
theorem dX6_act_111 : decode cX6_act 111 = .ok (.iload_n 3, 1) := by decide +kernel
theorem dX6_act_112 : decode cX6_act 112 = .ok (.invokevirtual 318, 3) := by decide +kernel
theorem dX6_act_115 : decode cX6_act 115 = .ok (.goto 8, 3) := by decide +kernel
theorem dX6_act_118 : decode cX6_act 118 = .ok (.aload_n 0, 1) := by decide +kernel
theorem dX6_act_119 : decode cX6_act 119 = .ok (.iload_n 3, 1) := by decide +kernel
theorem dX6_act_120 : decode cX6_act 120 = .ok (.invokevirtual 321, 3) := by decide +kernel
theorem dX6_act_123 : decode cX6_act 123 = .ok (.istore 4, 2) := by decide +kernel
theorem dX6_act_125 : decode cX6_act 125 = .ok (.aload_n 0, 1) := by decide +kernel
theorem dX6_act_126 : decode cX6_act 126 = .ok (.getfield 306, 3) := by decide +kernel
theorem dX6_act_129 : decode cX6_act 129 = .ok (.ifCond .eq 8, 3) := by decide +kernel
theorem dX6_act_132 : decode cX6_act 132 = .ok (.bipush (-15), 2) := by decide +kernel
theorem dX6_act_134 : decode cX6_act 134 = .ok (.goto 5, 3) := by decide +kernel
theorem dX6_act_137 : decode cX6_act 137 = .ok (.iload 4, 2) := by decide +kernel
theorem dX6_act_139 : decode cX6_act 139 = .ok (.ireturn, 1) := by decide +kernel
theorem dX6_trace_0 : decode cX6_trace 0 = .ok (.iload_n 1, 1) := by decide +kernel
theorem dX6_trace_1 : decode cX6_trace 1 = .ok (.i2l, 1) := by decide +kernel
theorem dX6_trace_2 : decode cX6_trace 2 = .ok (.lconst 0, 1) := by decide +kernel
theorem dX6_trace_3 : decode cX6_trace 3 = .ok (.aload_n 0, 1) := by decide +kernel
theorem dX6_trace_4 : decode cX6_trace 4 = .ok (.getfield 279, 3) := by decide +kernel
theorem dX6_trace_7 : decode cX6_trace 7 = .ok (.iconst 1, 1) := by decide +kernel
theorem dX6_trace_8 : decode cX6_trace 8 = .ok (.isub, 1) := by decide +kernel
theorem dX6_trace_9 : decode cX6_trace 9 = .ok (.i2l, 1) := by decide +kernel
theorem dX6_trace_10 : decode cX6_trace 10 = .ok (.invokestatic 57, 3) := by decide +kernel
theorem dX6_trace_13 : decode cX6_trace 13 = .ok (.ifCond .eq 12, 3) := by decide +kernel
theorem dX6_trace_16 : decode cX6_trace 16 = .ok (.aload_n 0, 1) := by decide +kernel
theorem dX6_trace_17 : decode cX6_trace 17 = .ok (.getfield 49, 3) := by decide +kernel
theorem dX6_trace_20 : decode cX6_trace 20 = .ok (.iload_n 1, 1) := by decide +kernel
theorem dX6_trace_21 : decode cX6_trace 21 = .ok (.iaload, 1) := by decide +kernel
theorem dX6_trace_22 : decode cX6_trace 22 = .ok (.goto 5, 3) := by decide +kernel
theorem dX6_trace_25 : decode cX6_trace 25 = .ok (.bipush (-3), 2) := by decide +kernel
theorem dX6_trace_27 : decode cX6_trace 27 = .ok (.ireturn, 1) := by decide +kernel
theorem dX6_boughsInUse_0 : decode cX6_boughsInUse 0 = .ok (.iconst 0, 1) := by decide +kernel
theorem dX6_boughsInUse_1 : decode cX6_boughsInUse 1 = .ok (.istore_n 1, 1) := by decide +kernel
theorem dX6_boughsInUse_2 : decode cX6_boughsInUse 2 = .ok (.iconst 0, 1) := by decide +kernel
theorem dX6_boughsInUse_3 : decode cX6_boughsInUse 3 = .ok (.istore_n 2, 1) := by decide +kernel
theorem dX6_boughsInUse_4 : decode cX6_boughsInUse 4 = .ok (.iload_n 2, 1) := by decide +kernel
theorem dX6_boughsInUse_5 : decode cX6_boughsInUse 5 = .ok (.bipush 6, 2) := by decide +kernel
theorem dX6_boughsInUse_7 : decode cX6_boughsInUse 7 = .ok (.if_icmp .ge 25, 3) := by decide +kernel
theorem dX6_boughsInUse_10 : decode cX6_boughsInUse 10 = .ok (.iload_n 1, 1) := by decide +kernel
theorem dX6_boughsInUse_11 : decode cX6_boughsInUse 11 = .ok (.aload_n 0, 1) := by decide +kernel
theorem dX6_boughsInUse_12 : decode cX6_boughsInUse 12 = .ok (.iload_n 2, 1) := by decide +kernel
theorem dX6_boughsInUse_13 : decode cX6_boughsInUse 13 = .ok (.invokevirtual 166, 3) := by decide +kernel
theorem dX6_boughsInUse_16 : decode cX6_boughsInUse 16 = .ok (.ifCond .ne 7, 3) := by decide +kernel
theorem dX6_boughsInUse_19 : decode cX6_boughsInUse 19 = .ok (.iconst 0, 1) := by decide +kernel
theorem dX6_boughsInUse_20 : decode cX6_boughsInUse 20 = .ok (.goto 4, 3) := by decide +kernel
theorem dX6_boughsInUse_23 : decode cX6_boughsInUse 23 = .ok (.iconst 1, 1) := by decide +kernel
theorem dX6_boughsInUse_24 : decode cX6_boughsInUse 24 = .ok (.iadd, 1) := by decide +kernel
theorem dX6_boughsInUse_25 : decode cX6_boughsInUse 25 = .ok (.istore_n 1, 1) := by decide +kernel
theorem dX6_boughsInUse_26 : decode cX6_boughsInUse 26 = .ok (.iinc 2 1, 3) := by decide +kernel
theorem dX6_boughsInUse_29 : decode cX6_boughsInUse 29 = .ok (.goto (-25), 3) := by decide +kernel
theorem dX6_boughsInUse_32 : decode cX6_boughsInUse 32 = .ok (.iload_n 1, 1) := by decide +kernel
theorem dX6_boughsInUse_33 : decode cX6_boughsInUse 33 = .ok (.ireturn, 1) := by decide +kernel
theorem dX6_many_0 : decode cX6_many 0 = .ok (.iload_n 1, 1) := by decide +kernel
theorem dX6_many_1 : decode cX6_many 1 = .ok (.tableswitch 85 0 6 #[43, 50, 58, 65, 70, 75, 80], 43) := by decide +kernel
theorem dX6_many_44 : decode cX6_many 44 = .ok (.aload_n 0, 1) := by decide +kernel
theorem dX6_many_45 : decode cX6_many 45 = .ok (.getfield 7, 3) := by decide +kernel
theorem dX6_many_48 : decode cX6_many 48 = .ok (.iconst 0, 1) := by decide +kernel
theorem dX6_many_49 : decode cX6_many 49 = .ok (.iaload, 1) := by decide +kernel
theorem dX6_many_50 : decode cX6_many 50 = .ok (.ireturn, 1) := by decide +kernel
theorem dX6_many_51 : decode cX6_many 51 = .ok (.aload_n 0, 1) := by decide +kernel
theorem dX6_many_52 : decode cX6_many 52 = .ok (.invokevirtual 189, 3) := by decide +kernel
theorem dX6_many_55 : decode cX6_many 55 = .ok (.invokestatic 169, 3) := by decide +kernel
theorem dX6_many_58 : decode cX6_many 58 = .ok (.ireturn, 1) := by decide +kernel
theorem dX6_many_59 : decode cX6_many 59 = .ok (.aload_n 0, 1) := by decide +kernel
theorem dX6_many_60 : decode cX6_many 60 = .ok (.getfield 7, 3) := by decide +kernel
theorem dX6_many_63 : decode cX6_many 63 = .ok (.iconst 3, 1) := by decide +kernel
theorem dX6_many_64 : decode cX6_many 64 = .ok (.iaload, 1) := by decide +kernel
theorem dX6_many_65 : decode cX6_many 65 = .ok (.ireturn, 1) := by decide +kernel
theorem dX6_many_66 : decode cX6_many 66 = .ok (.aload_n 0, 1) := by decide +kernel
theorem dX6_many_67 : decode cX6_many 67 = .ok (.invokevirtual 324, 3) := by decide +kernel
theorem dX6_many_70 : decode cX6_many 70 = .ok (.ireturn, 1) := by decide +kernel
theorem dX6_many_71 : decode cX6_many 71 = .ok (.aload_n 0, 1) := by decide +kernel
theorem dX6_many_72 : decode cX6_many 72 = .ok (.getfield 145, 3) := by decide +kernel
theorem dX6_many_75 : decode cX6_many 75 = .ok (.ireturn, 1) := by decide +kernel
theorem dX6_many_76 : decode cX6_many 76 = .ok (.aload_n 0, 1) := by decide +kernel
theorem dX6_many_77 : decode cX6_many 77 = .ok (.getfield 61, 3) := by decide +kernel
theorem dX6_many_80 : decode cX6_many 80 = .ok (.ireturn, 1) := by decide +kernel
theorem dX6_many_81 : decode cX6_many 81 = .ok (.aload_n 0, 1) := by decide +kernel
theorem dX6_many_82 : decode cX6_many 82 = .ok (.getfield 279, 3) := by decide +kernel
theorem dX6_many_85 : decode cX6_many 85 = .ok (.ireturn, 1) := by decide +kernel
theorem dX6_many_86 : decode cX6_many 86 = .ok (.iconst (-1), 1) := by decide +kernel
theorem dX6_many_87 : decode cX6_many 87 = .ok (.ireturn, 1) := by decide +kernel
theorem dX6_keep_0 : decode cX6_keep 0 = .ok (.iconst 0, 1) := by decide +kernel
theorem dX6_keep_1 : decode cX6_keep 1 = .ok (.istore_n 1, 1) := by decide +kernel
theorem dX6_keep_2 : decode cX6_keep 2 = .ok (.iload_n 1, 1) := by decide +kernel
theorem dX6_keep_3 : decode cX6_keep 3 = .ok (.bipush 62, 2) := by decide +kernel
theorem dX6_keep_5 : decode cX6_keep 5 = .ok (.if_icmp .ge 21, 3) := by decide +kernel
theorem dX6_keep_8 : decode cX6_keep 8 = .ok (.aload_n 0, 1) := by decide +kernel
theorem dX6_keep_9 : decode cX6_keep 9 = .ok (.getfield 13, 3) := by decide +kernel
theorem dX6_keep_12 : decode cX6_keep 12 = .ok (.iload_n 1, 1) := by decide +kernel
theorem dX6_keep_13 : decode cX6_keep 13 = .ok (.aload_n 0, 1) := by decide +kernel
theorem dX6_keep_14 : decode cX6_keep 14 = .ok (.getfield 7, 3) := by decide +kernel
theorem dX6_keep_17 : decode cX6_keep 17 = .ok (.iload_n 1, 1) := by decide +kernel
theorem dX6_keep_18 : decode cX6_keep 18 = .ok (.iaload, 1) := by decide +kernel
theorem dX6_keep_19 : decode cX6_keep 19 = .ok (.iastore, 1) := by decide +kernel
theorem dX6_keep_20 : decode cX6_keep 20 = .ok (.iinc 1 1, 3) := by decide +kernel
theorem dX6_keep_23 : decode cX6_keep 23 = .ok (.goto (-21), 3) := by decide +kernel
theorem dX6_keep_26 : decode cX6_keep 26 = .ok (.aload_n 0, 1) := by decide +kernel
theorem dX6_keep_27 : decode cX6_keep 27 = .ok (.iconst 1, 1) := by decide +kernel
theorem dX6_keep_28 : decode cX6_keep 28 = .ok (.putfield 327, 3) := by decide +kernel
theorem dX6_keep_31 : decode cX6_keep 31 = .ok (.iconst 1, 1) := by decide +kernel
theorem dX6_keep_32 : decode cX6_keep 32 = .ok (.ireturn, 1) := by decide +kernel
theorem dX6_again_0 : decode cX6_again 0 = .ok (.aload_n 0, 1) := by decide +kernel
theorem dX6_again_1 : decode cX6_again 1 = .ok (.getfield 327, 3) := by decide +kernel
theorem dX6_again_4 : decode cX6_again 4 = .ok (.ifCond .ne 6, 3) := by decide +kernel
theorem dX6_again_7 : decode cX6_again 7 = .ok (.bipush (-3), 2) := by decide +kernel
theorem dX6_again_9 : decode cX6_again 9 = .ok (.ireturn, 1) := by decide +kernel
theorem dX6_again_10 : decode cX6_again 10 = .ok (.iconst 0, 1) := by decide +kernel
theorem dX6_again_11 : decode cX6_again 11 = .ok (.istore_n 1, 1) := by decide +kernel
theorem dX6_again_12 : decode cX6_again 12 = .ok (.iload_n 1, 1) := by decide +kernel
theorem dX6_again_13 : decode cX6_again 13 = .ok (.bipush 62, 2) := by decide +kernel
theorem dX6_again_15 : decode cX6_again 15 = .ok (.if_icmp .ge 21, 3) := by decide +kernel
theorem dX6_again_18 : decode cX6_again 18 = .ok (.aload_n 0, 1) := by decide +kernel
theorem dX6_again_19 : decode cX6_again 19 = .ok (.getfield 7, 3) := by decide +kernel
theorem dX6_again_22 : decode cX6_again 22 = .ok (.iload_n 1, 1) := by decide +kernel
theorem dX6_again_23 : decode cX6_again 23 = .ok (.aload_n 0, 1) := by decide +kernel
theorem dX6_again_24 : decode cX6_again 24 = .ok (.getfield 13, 3) := by decide +kernel
theorem dX6_again_27 : decode cX6_again 27 = .ok (.iload_n 1, 1) := by decide +kernel
theorem dX6_again_28 : decode cX6_again 28 = .ok (.iaload, 1) := by decide +kernel
theorem dX6_again_29 : decode cX6_again 29 = .ok (.iastore, 1) := by decide +kernel
theorem dX6_again_30 : decode cX6_again 30 = .ok (.iinc 1 1, 3) := by decide +kernel
theorem dX6_again_33 : decode cX6_again 33 = .ok (.goto (-21), 3) := by decide +kernel
theorem dX6_again_36 : decode cX6_again 36 = .ok (.aload_n 0, 1) := by decide +kernel
theorem dX6_again_37 : decode cX6_again 37 = .ok (.getfield 7, 3) := by decide +kernel
theorem dX6_again_40 : decode cX6_again 40 = .ok (.iconst 0, 1) := by decide +kernel
theorem dX6_again_41 : decode cX6_again 41 = .ok (.iaload, 1) := by decide +kernel
theorem dX6_again_42 : decode cX6_again 42 = .ok (.ireturn, 1) := by decide +kernel
