theorem dX5_init_0 : decode cX5_init 0 = .ok (.aload_n 0, 1) := by decide +kernel
theorem dX5_init_1 : decode cX5_init 1 = .ok (.invokespecial 1, 3) := by decide +kernel
theorem dX5_init_4 : decode cX5_init 4 = .ok (.aload_n 0, 1) := by decide +kernel
theorem dX5_init_5 : decode cX5_init 5 = .ok (.new 7, 3) := by decide +kernel
theorem dX5_init_8 : decode cX5_init 8 = .ok (.dup, 1) := by decide +kernel
theorem dX5_init_9 : decode cX5_init 9 = .ok (.invokespecial 9, 3) := by decide +kernel
theorem dX5_init_12 : decode cX5_init 12 = .ok (.putfield 10, 3) := by decide +kernel
theorem dX5_init_15 : decode cX5_init 15 = .ok (.aload_n 0, 1) := by decide +kernel
theorem dX5_init_16 : decode cX5_init 16 = .ok (.new 7, 3) := by decide +kernel
theorem dX5_init_19 : decode cX5_init 19 = .ok (.dup, 1) := by decide +kernel
theorem dX5_init_20 : decode cX5_init 20 = .ok (.invokespecial 9, 3) := by decide +kernel
theorem dX5_init_23 : decode cX5_init 23 = .ok (.putfield 16, 3) := by decide +kernel
theorem dX5_init_26 : decode cX5_init 26 = .ok (.aload_n 0, 1) := by decide +kernel
theorem dX5_init_27 : decode cX5_init 27 = .ok (.new 7, 3) := by decide +kernel
theorem dX5_init_30 : decode cX5_init 30 = .ok (.dup, 1) := by decide +kernel
theorem dX5_init_31 : decode cX5_init 31 = .ok (.invokespecial 9, 3) := by decide +kernel
theorem dX5_init_34 : decode cX5_init 34 = .ok (.putfield 19, 3) := by decide +kernel
theorem dX5_init_37 : decode cX5_init 37 = .ok (.aload_n 0, 1) := by decide +kernel
theorem dX5_init_38 : decode cX5_init 38 = .ok (.new 22, 3) := by decide +kernel
theorem dX5_init_41 : decode cX5_init 41 = .ok (.dup, 1) := by decide +kernel
theorem dX5_init_42 : decode cX5_init 42 = .ok (.invokespecial 24, 3) := by decide +kernel
theorem dX5_init_45 : decode cX5_init 45 = .ok (.putfield 25, 3) := by decide +kernel
theorem dX5_init_48 : decode cX5_init 48 = .ok (.aload_n 0, 1) := by decide +kernel
theorem dX5_init_49 : decode cX5_init 49 = .ok (.bipush 30, 2) := by decide +kernel
theorem dX5_init_51 : decode cX5_init 51 = .ok (.newarray .int, 2) := by decide +kernel
theorem dX5_init_53 : decode cX5_init 53 = .ok (.putfield 29, 3) := by decide +kernel
theorem dX5_init_56 : decode cX5_init 56 = .ok (.aload_n 0, 1) := by decide +kernel
theorem dX5_init_57 : decode cX5_init 57 = .ok (.iconst 4, 1) := by decide +kernel
theorem dX5_init_58 : decode cX5_init 58 = .ok (.anewarray 33, 3) := by decide +kernel
theorem dX5_init_61 : decode cX5_init 61 = .ok (.putfield 35, 3) := by decide +kernel
theorem dX5_init_64 : decode cX5_init 64 = .ok (.aload_n 0, 1) := by decide +kernel
theorem dX5_init_65 : decode cX5_init 65 = .ok (.iconst 4, 1) := by decide +kernel
theorem dX5_init_66 : decode cX5_init 66 = .ok (.anewarray 39, 3) := by decide +kernel
theorem dX5_init_69 : decode cX5_init 69 = .ok (.putfield 41, 3) := by decide +kernel
theorem dX5_init_72 : decode cX5_init 72 = .ok (.aload_n 0, 1) := by decide +kernel
theorem dX5_init_73 : decode cX5_init 73 = .ok (.new 45, 3) := by decide +kernel
theorem dX5_init_76 : decode cX5_init 76 = .ok (.dup, 1) := by decide +kernel
theorem dX5_init_77 : decode cX5_init 77 = .ok (.invokespecial 47, 3) := by decide +kernel
theorem dX5_init_80 : decode cX5_init 80 = .ok (.putfield 48, 3) := by decide +kernel
theorem dX5_init_83 : decode cX5_init 83 = .ok (.iconst 0, 1) := by decide +kernel
theorem dX5_init_84 : decode cX5_init 84 = .ok (.istore_n 1, 1) := by decide +kernel
theorem dX5_init_85 : decode cX5_init 85 = .ok (.iload_n 1, 1) := by decide +kernel
theorem dX5_init_86 : decode cX5_init 86 = .ok (.iconst 4, 1) := by decide +kernel
theorem dX5_init_87 : decode cX5_init 87 = .ok (.if_icmp .ge 22, 3) := by decide +kernel
theorem dX5_init_90 : decode cX5_init 90 = .ok (.aload_n 0, 1) := by decide +kernel
theorem dX5_init_91 : decode cX5_init 91 = .ok (.getfield 35, 3) := by decide +kernel
theorem dX5_init_94 : decode cX5_init 94 = .ok (.iload_n 1, 1) := by decide +kernel
theorem dX5_init_95 : decode cX5_init 95 = .ok (.new 33, 3) := by decide +kernel
theorem dX5_init_98 : decode cX5_init 98 = .ok (.dup, 1) := by decide +kernel
theorem dX5_init_99 : decode cX5_init 99 = .ok (.invokespecial 52, 3) := by decide +kernel
theorem dX5_init_102 : decode cX5_init 102 = .ok (.aastore, 1) := by decide +kernel
theorem dX5_init_103 : decode cX5_init 103 = .ok (.iinc 1 1, 3) := by decide +kernel
theorem dX5_init_106 : decode cX5_init 106 = .ok (.goto (-21), 3) := by decide +kernel
theorem dX5_init_109 : decode cX5_init 109 = .ok (.iconst 0, 1) := by decide +kernel
theorem dX5_init_110 : decode cX5_init 110 = .ok (.istore_n 1, 1) := by decide +kernel
theorem dX5_init_111 : decode cX5_init 111 = .ok (.iload_n 1, 1) := by decide +kernel
theorem dX5_init_112 : decode cX5_init 112 = .ok (.iconst 4, 1) := by decide +kernel
theorem dX5_init_113 : decode cX5_init 113 = .ok (.if_icmp .ge 22, 3) := by decide +kernel
theorem dX5_init_116 : decode cX5_init 116 = .ok (.aload_n 0, 1) := by decide +kernel
theorem dX5_init_117 : decode cX5_init 117 = .ok (.getfield 41, 3) := by decide +kernel
theorem dX5_init_120 : decode cX5_init 120 = .ok (.iload_n 1, 1) := by decide +kernel
theorem dX5_init_121 : decode cX5_init 121 = .ok (.new 39, 3) := by decide +kernel
theorem dX5_init_124 : decode cX5_init 124 = .ok (.dup, 1) := by decide +kernel
theorem dX5_init_125 : decode cX5_init 125 = .ok (.invokespecial 53, 3) := by decide +kernel
theorem dX5_init_128 : decode cX5_init 128 = .ok (.aastore, 1) := by decide +kernel
theorem dX5_init_129 : decode cX5_init 129 = .ok (.iinc 1 1, 3) := by decide +kernel
theorem dX5_init_132 : decode cX5_init 132 = .ok (.goto (-21), 3) := by decide +kernel
theorem dX5_init_135 : decode cX5_init 135 = .ok (.return_, 1) := by decide +kernel
theorem dX5_feed_0 : decode cX5_feed 0 = .ok (.iload_n 3, 1) := by decide +kernel
theorem dX5_feed_1 : decode cX5_feed 1 = .ok (.iconst 1, 1) := by decide +kernel
theorem dX5_feed_2 : decode cX5_feed 2 = .ok (.bipush 8, 2) := by decide +kernel
theorem dX5_feed_4 : decode cX5_feed 4 = .ok (.invokestatic 54, 3) := by decide +kernel
theorem dX5_feed_7 : decode cX5_feed 7 = .ok (.ifCond .ne 5, 3) := by decide +kernel
theorem dX5_feed_10 : decode cX5_feed 10 = .ok (.iconst (-1), 1) := by decide +kernel
theorem dX5_feed_11 : decode cX5_feed 11 = .ok (.ireturn, 1) := by decide +kernel
theorem dX5_feed_12 : decode cX5_feed 12 = .ok (.aload_n 0, 1) := by decide +kernel
theorem dX5_feed_13 : decode cX5_feed 13 = .ok (.getfield 25, 3) := by decide +kernel
theorem dX5_feed_16 : decode cX5_feed 16 = .ok (.getfield 58, 3) := by decide +kernel
theorem dX5_feed_19 : decode cX5_feed 19 = .ok (.iload_n 3, 1) := by decide +kernel
theorem dX5_feed_20 : decode cX5_feed 20 = .ok (.iadd, 1) := by decide +kernel
theorem dX5_feed_21 : decode cX5_feed 21 = .ok (.sipush 200, 3) := by decide +kernel
theorem dX5_feed_24 : decode cX5_feed 24 = .ok (.if_icmp .le 6, 3) := by decide +kernel
theorem dX5_feed_27 : decode cX5_feed 27 = .ok (.bipush (-2), 2) := by decide +kernel
theorem dX5_feed_29 : decode cX5_feed 29 = .ok (.ireturn, 1) := by decide +kernel
theorem dX5_feed_30 : decode cX5_feed 30 = .ok (.iconst 0, 1) := by decide +kernel
theorem dX5_feed_31 : decode cX5_feed 31 = .ok (.istore 4, 2) := by decide +kernel
theorem dX5_feed_33 : decode cX5_feed 33 = .ok (.iload 4, 2) := by decide +kernel
theorem dX5_feed_35 : decode cX5_feed 35 = .ok (.iload_n 3, 1) := by decide +kernel
theorem dX5_feed_36 : decode cX5_feed 36 = .ok (.if_icmp .ge 46, 3) := by decide +kernel
theorem dX5_feed_39 : decode cX5_feed 39 = .ok (.aload_n 0, 1) := by decide +kernel
theorem dX5_feed_40 : decode cX5_feed 40 = .ok (.getfield 25, 3) := by decide +kernel
theorem dX5_feed_43 : decode cX5_feed 43 = .ok (.getfield 62, 3) := by decide +kernel
theorem dX5_feed_46 : decode cX5_feed 46 = .ok (.aload_n 0, 1) := by decide +kernel
theorem dX5_feed_47 : decode cX5_feed 47 = .ok (.getfield 25, 3) := by decide +kernel
theorem dX5_feed_50 : decode cX5_feed 50 = .ok (.getfield 58, 3) := by decide +kernel
theorem dX5_feed_53 : decode cX5_feed 53 = .ok (.lload_n 1, 1) := by decide +kernel
theorem dX5_feed_54 : decode cX5_feed 54 = .ok (.bipush 8, 2) := by decide +kernel
theorem dX5_feed_56 : decode cX5_feed 56 = .ok (.iload 4, 2) := by decide +kernel
theorem dX5_feed_58 : decode cX5_feed 58 = .ok (.imul, 1) := by decide +kernel
theorem dX5_feed_59 : decode cX5_feed 59 = .ok (.lushr, 1) := by decide +kernel
theorem dX5_feed_60 : decode cX5_feed 60 = .ok (.l2i, 1) := by decide +kernel
theorem dX5_feed_61 : decode cX5_feed 61 = .ok (.i2b, 1) := by decide +kernel
theorem dX5_feed_62 : decode cX5_feed 62 = .ok (.bastore, 1) := by decide +kernel
theorem dX5_feed_63 : decode cX5_feed 63 = .ok (.aload_n 0, 1) := by decide +kernel
theorem dX5_feed_64 : decode cX5_feed 64 = .ok (.getfield 25, 3) := by decide +kernel
theorem dX5_feed_67 : decode cX5_feed 67 = .ok (.dup, 1) := by decide +kernel
theorem dX5_feed_68 : decode cX5_feed 68 = .ok (.getfield 58, 3) := by decide +kernel
theorem dX5_feed_71 : decode cX5_feed 71 = .ok (.iconst 1, 1) := by decide +kernel
theorem dX5_feed_72 : decode cX5_feed 72 = .ok (.iadd, 1) := by decide +kernel
theorem dX5_feed_73 : decode cX5_feed 73 = .ok (.putfield 58, 3) := by decide +kernel
theorem dX5_feed_76 : decode cX5_feed 76 = .ok (.iinc 4 1, 3) := by decide +kernel
theorem dX5_feed_79 : decode cX5_feed 79 = .ok (.goto (-46), 3) := by decide +kernel
theorem dX5_feed_82 : decode cX5_feed 82 = .ok (.aload_n 0, 1) := by decide +kernel
theorem dX5_feed_83 : decode cX5_feed 83 = .ok (.getfield 25, 3) := by decide +kernel
theorem dX5_feed_86 : decode cX5_feed 86 = .ok (.getfield 58, 3) := by decide +kernel
theorem dX5_feed_89 : decode cX5_feed 89 = .ok (.ireturn, 1) := by decide +kernel
theorem dX5_autumn_0 : decode cX5_autumn 0 = .ok (.aload_n 0, 1) := by decide +kernel
theorem dX5_autumn_1 : decode cX5_autumn 1 = .ok (.getfield 16, 3) := by decide +kernel
theorem dX5_autumn_4 : decode cX5_autumn 4 = .ok (.invokevirtual 66, 3) := by decide +kernel
theorem dX5_autumn_7 : decode cX5_autumn 7 = .ok (.aload_n 0, 1) := by decide +kernel
theorem dX5_autumn_8 : decode cX5_autumn 8 = .ok (.getfield 16, 3) := by decide +kernel
theorem dX5_autumn_11 : decode cX5_autumn 11 = .ok (.aload_n 0, 1) := by decide +kernel
theorem dX5_autumn_12 : decode cX5_autumn 12 = .ok (.getfield 10, 3) := by decide +kernel
theorem dX5_autumn_15 : decode cX5_autumn 15 = .ok (.getfield 69, 3) := by decide +kernel
theorem dX5_autumn_18 : decode cX5_autumn 18 = .ok (.putfield 69, 3) := by decide +kernel
theorem dX5_autumn_21 : decode cX5_autumn 21 = .ok (.aload_n 0, 1) := by decide +kernel
theorem dX5_autumn_22 : decode cX5_autumn 22 = .ok (.getfield 25, 3) := by decide +kernel
theorem dX5_autumn_25 : decode cX5_autumn 25 = .ok (.aload_n 0, 1) := by decide +kernel
theorem dX5_autumn_26 : decode cX5_autumn 26 = .ok (.getfield 16, 3) := by decide +kernel
theorem dX5_autumn_29 : decode cX5_autumn 29 = .ok (.invokevirtual 72, 3) := by decide +kernel
theorem dX5_autumn_32 : decode cX5_autumn 32 = .ok (.istore_n 1, 1) := by decide +kernel
theorem dX5_autumn_33 : decode cX5_autumn 33 = .ok (.aload_n 0, 1) := by decide +kernel
theorem dX5_autumn_34 : decode cX5_autumn 34 = .ok (.getfield 25, 3) := by decide +kernel
theorem dX5_autumn_37 : decode cX5_autumn 37 = .ok (.iconst 0, 1) := by decide +kernel
theorem dX5_autumn_38 : decode cX5_autumn 38 = .ok (.putfield 58, 3) := by decide +kernel
theorem dX5_autumn_41 : decode cX5_autumn 41 = .ok (.iload_n 1, 1) := by decide +kernel
theorem dX5_autumn_42 : decode cX5_autumn 42 = .ok (.ifCond .lt 8, 3) := by decide +kernel
theorem dX5_autumn_45 : decode cX5_autumn 45 = .ok (.bipush (-100), 2) := by decide +kernel
theorem dX5_autumn_47 : decode cX5_autumn 47 = .ok (.iload_n 1, 1) := by decide +kernel
theorem dX5_autumn_48 : decode cX5_autumn 48 = .ok (.isub, 1) := by decide +kernel
theorem dX5_autumn_49 : decode cX5_autumn 49 = .ok (.ireturn, 1) := by decide +kernel
theorem dX5_autumn_50 : decode cX5_autumn 50 = .ok (.aload_n 0, 1) := by decide +kernel
theorem dX5_autumn_51 : decode cX5_autumn 51 = .ok (.getfield 10, 3) := by decide +kernel
theorem dX5_autumn_54 : decode cX5_autumn 54 = .ok (.aload_n 0, 1) := by decide +kernel
theorem dX5_autumn_55 : decode cX5_autumn 55 = .ok (.getfield 16, 3) := by decide +kernel
theorem dX5_autumn_58 : decode cX5_autumn 58 = .ok (.invokevirtual 76, 3) := by decide +kernel
theorem dX5_autumn_61 : decode cX5_autumn 61 = .ok (.aload_n 0, 1) := by decide +kernel
theorem dX5_autumn_62 : decode cX5_autumn 62 = .ok (.iconst 0, 1) := by decide +kernel
theorem dX5_autumn_63 : decode cX5_autumn 63 = .ok (.putfield 80, 3) := by decide +kernel
theorem dX5_autumn_66 : decode cX5_autumn 66 = .ok (.aload_n 0, 1) := by decide +kernel
theorem dX5_autumn_67 : decode cX5_autumn 67 = .ok (.getfield 10, 3) := by decide +kernel
theorem dX5_autumn_70 : decode cX5_autumn 70 = .ok (.getfield 83, 3) := by decide +kernel
theorem dX5_autumn_73 : decode cX5_autumn 73 = .ok (.ireturn, 1) := by decide +kernel
theorem dX5_set_0 : decode cX5_set 0 = .ok (.iload_n 1, 1) := by decide +kernel
theorem dX5_set_1 : decode cX5_set 1 = .ok (.iconst 0, 1) := by decide +kernel
theorem dX5_set_2 : decode cX5_set 2 = .ok (.iconst 3, 1) := by decide +kernel
theorem dX5_set_3 : decode cX5_set 3 = .ok (.invokestatic 54, 3) := by decide +kernel
theorem dX5_set_6 : decode cX5_set 6 = .ok (.ifCond .eq 15, 3) := by decide +kernel
theorem dX5_set_9 : decode cX5_set 9 = .ok (.iload_n 2, 1) := by decide +kernel
theorem dX5_set_10 : decode cX5_set 10 = .ok (.iconst 0, 1) := by decide +kernel
theorem dX5_set_11 : decode cX5_set 11 = .ok (.iload_n 1, 1) := by decide +kernel
theorem dX5_set_12 : decode cX5_set 12 = .ok (.invokestatic 86, 3) := by decide +kernel
theorem dX5_set_15 : decode cX5_set 15 = .ok (.invokestatic 54, 3) := by decide +kernel
theorem dX5_set_18 : decode cX5_set 18 = .ok (.ifCond .ne 5, 3) := by decide +kernel
theorem dX5_set_21 : decode cX5_set 21 = .ok (.iconst (-1), 1) := by decide +kernel
theorem dX5_set_22 : decode cX5_set 22 = .ok (.ireturn, 1) := by decide +kernel
theorem dX5_set_23 : decode cX5_set 23 = .ok (.aload_n 0, 1) := by decide +kernel
theorem dX5_set_24 : decode cX5_set 24 = .ok (.getfield 10, 3) := by decide +kernel
theorem dX5_set_27 : decode cX5_set 27 = .ok (.getfield 90, 3) := by decide +kernel
theorem dX5_set_30 : decode cX5_set 30 = .ok (.iload_n 1, 1) := by decide +kernel
theorem dX5_set_31 : decode cX5_set 31 = .ok (.iaload, 1) := by decide +kernel
theorem dX5_set_32 : decode cX5_set 32 = .ok (.istore_n 3, 1) := by decide +kernel
theorem dX5_set_33 : decode cX5_set 33 = .ok (.aload_n 0, 1) := by decide +kernel
theorem dX5_set_34 : decode cX5_set 34 = .ok (.getfield 10, 3) := by decide +kernel
theorem dX5_set_37 : decode cX5_set 37 = .ok (.getfield 90, 3) := by decide +kernel
theorem dX5_set_40 : decode cX5_set 40 = .ok (.iload_n 1, 1) := by decide +kernel
theorem dX5_set_41 : decode cX5_set 41 = .ok (.iload_n 2, 1) := by decide +kernel
theorem dX5_set_42 : decode cX5_set 42 = .ok (.iastore, 1) := by decide +kernel
theorem dX5_set_43 : decode cX5_set 43 = .ok (.iload_n 3, 1) := by decide +kernel
theorem dX5_set_44 : decode cX5_set 44 = .ok (.ireturn, 1) := by decide +kernel
theorem dX5_lawOf_0 : decode cX5_lawOf 0 = .ok (.iload_n 1, 1) := by decide +kernel
theorem dX5_lawOf_1 : decode cX5_lawOf 1 = .ok (.iconst 0, 1) := by decide +kernel
theorem dX5_lawOf_2 : decode cX5_lawOf 2 = .ok (.iconst 3, 1) := by decide +kernel
theorem dX5_lawOf_3 : decode cX5_lawOf 3 = .ok (.invokestatic 54, 3) := by decide +kernel
theorem dX5_lawOf_6 : decode cX5_lawOf 6 = .ok (.ifCond .eq 15, 3) := by decide +kernel
theorem dX5_lawOf_9 : decode cX5_lawOf 9 = .ok (.aload_n 0, 1) := by decide +kernel
theorem dX5_lawOf_10 : decode cX5_lawOf 10 = .ok (.getfield 10, 3) := by decide +kernel
theorem dX5_lawOf_13 : decode cX5_lawOf 13 = .ok (.getfield 90, 3) := by decide +kernel
theorem dX5_lawOf_16 : decode cX5_lawOf 16 = .ok (.iload_n 1, 1) := by decide +kernel
theorem dX5_lawOf_17 : decode cX5_lawOf 17 = .ok (.iaload, 1) := by decide +kernel
theorem dX5_lawOf_18 : decode cX5_lawOf 18 = .ok (.goto 4, 3) := by decide +kernel
theorem dX5_lawOf_21 : decode cX5_lawOf 21 = .ok (.iconst (-1), 1) := by decide +kernel
theorem dX5_lawOf_22 : decode cX5_lawOf 22 = .ok (.ireturn, 1) := by decide +kernel
theorem dX5_leaf_0 : decode cX5_leaf 0 = .ok (.iload_n 1, 1) := by decide +kernel
theorem dX5_leaf_1 : decode cX5_leaf 1 = .ok (.iconst 0, 1) := by decide +kernel
theorem dX5_leaf_2 : decode cX5_leaf 2 = .ok (.iconst 5, 1) := by decide +kernel
theorem dX5_leaf_3 : decode cX5_leaf 3 = .ok (.invokestatic 54, 3) := by decide +kernel
theorem dX5_leaf_6 : decode cX5_leaf 6 = .ok (.ifCond .eq 33, 3) := by decide +kernel
theorem dX5_leaf_9 : decode cX5_leaf 9 = .ok (.iload_n 2, 1) := by decide +kernel
theorem dX5_leaf_10 : decode cX5_leaf 10 = .ok (.iconst 0, 1) := by decide +kernel
theorem dX5_leaf_11 : decode cX5_leaf 11 = .ok (.iconst 5, 1) := by decide +kernel
theorem dX5_leaf_12 : decode cX5_leaf 12 = .ok (.invokestatic 54, 3) := by decide +kernel
theorem dX5_leaf_15 : decode cX5_leaf 15 = .ok (.ifCond .eq 24, 3) := by decide +kernel
theorem dX5_leaf_18 : decode cX5_leaf 18 = .ok (.iload_n 3, 1) := by decide +kernel
theorem dX5_leaf_19 : decode cX5_leaf 19 = .ok (.iconst 0, 1) := by decide +kernel
theorem dX5_leaf_20 : decode cX5_leaf 20 = .ok (.bipush 99, 2) := by decide +kernel
theorem dX5_leaf_22 : decode cX5_leaf 22 = .ok (.invokestatic 54, 3) := by decide +kernel
theorem dX5_leaf_25 : decode cX5_leaf 25 = .ok (.ifCond .eq 14, 3) := by decide +kernel
theorem dX5_leaf_28 : decode cX5_leaf 28 = .ok (.iload 4, 2) := by decide +kernel
theorem dX5_leaf_30 : decode cX5_leaf 30 = .ok (.iconst 0, 1) := by decide +kernel
theorem dX5_leaf_31 : decode cX5_leaf 31 = .ok (.bipush 9, 2) := by decide +kernel
theorem dX5_leaf_33 : decode cX5_leaf 33 = .ok (.invokestatic 54, 3) := by decide +kernel
theorem dX5_leaf_36 : decode cX5_leaf 36 = .ok (.ifCond .ne 5, 3) := by decide +kernel
theorem dX5_leaf_39 : decode cX5_leaf 39 = .ok (.iconst (-1), 1) := by decide +kernel
theorem dX5_leaf_40 : decode cX5_leaf 40 = .ok (.ireturn, 1) := by decide +kernel
theorem dX5_leaf_41 : decode cX5_leaf 41 = .ok (.aload_n 0, 1) := by decide +kernel
theorem dX5_leaf_42 : decode cX5_leaf 42 = .ok (.getfield 10, 3) := by decide +kernel
theorem dX5_leaf_45 : decode cX5_leaf 45 = .ok (.getfield 83, 3) := by decide +kernel
theorem dX5_leaf_48 : decode cX5_leaf 48 = .ok (.bipush 8, 2) := by decide +kernel
theorem dX5_leaf_50 : decode cX5_leaf 50 = .ok (.if_icmp .lt 6, 3) := by decide +kernel
theorem dX5_leaf_53 : decode cX5_leaf 53 = .ok (.bipush (-2), 2) := by decide +kernel
theorem dX5_leaf_55 : decode cX5_leaf 55 = .ok (.ireturn, 1) := by decide +kernel
theorem dX5_leaf_56 : decode cX5_leaf 56 = .ok (.aload_n 0, 1) := by decide +kernel
theorem dX5_leaf_57 : decode cX5_leaf 57 = .ok (.getfield 10, 3) := by decide +kernel
theorem dX5_leaf_60 : decode cX5_leaf 60 = .ok (.iload_n 1, 1) := by decide +kernel
theorem dX5_leaf_61 : decode cX5_leaf 61 = .ok (.iload_n 2, 1) := by decide +kernel
theorem dX5_leaf_62 : decode cX5_leaf 62 = .ok (.iload_n 3, 1) := by decide +kernel
theorem dX5_leaf_63 : decode cX5_leaf 63 = .ok (.iload 4, 2) := by decide +kernel
theorem dX5_leaf_65 : decode cX5_leaf 65 = .ok (.invokevirtual 93, 3) := by decide +kernel
theorem dX5_leaf_68 : decode cX5_leaf 68 = .ok (.aload_n 0, 1) := by decide +kernel
theorem dX5_leaf_69 : decode cX5_leaf 69 = .ok (.getfield 10, 3) := by decide +kernel
theorem dX5_leaf_72 : decode cX5_leaf 72 = .ok (.getfield 83, 3) := by decide +kernel
theorem dX5_leaf_75 : decode cX5_leaf 75 = .ok (.iconst 1, 1) := by decide +kernel
theorem dX5_leaf_76 : decode cX5_leaf 76 = .ok (.isub, 1) := by decide +kernel
theorem dX5_leaf_77 : decode cX5_leaf 77 = .ok (.ireturn, 1) := by decide +kernel
theorem dX5_of_0 : decode cX5_of 0 = .ok (.aload_n 0, 1) := by decide +kernel
theorem dX5_of_1 : decode cX5_of 1 = .ok (.getfield 10, 3) := by decide +kernel
theorem dX5_of_4 : decode cX5_of 4 = .ok (.iload_n 1, 1) := by decide +kernel
theorem dX5_of_5 : decode cX5_of 5 = .ok (.invokevirtual 97, 3) := by decide +kernel
theorem dX5_of_8 : decode cX5_of 8 = .ok (.ifCond .ne 5, 3) := by decide +kernel
theorem dX5_of_11 : decode cX5_of 11 = .ok (.iconst (-1), 1) := by decide +kernel
theorem dX5_of_12 : decode cX5_of 12 = .ok (.ireturn, 1) := by decide +kernel
theorem dX5_of_13 : decode cX5_of 13 = .ok (.iload_n 2, 1) := by decide +kernel
theorem dX5_of_14 : decode cX5_of 14 = .ok (.tableswitch 118 0 6 #[42, 52, 62, 72, 82, 99, 109], 42) := by decide +kernel
theorem dX5_of_56 : decode cX5_of 56 = .ok (.aload_n 0, 1) := by decide +kernel
theorem dX5_of_57 : decode cX5_of 57 = .ok (.getfield 10, 3) := by decide +kernel
theorem dX5_of_60 : decode cX5_of 60 = .ok (.getfield 101, 3) := by decide +kernel
theorem dX5_of_63 : decode cX5_of 63 = .ok (.iload_n 1, 1) := by decide +kernel
theorem dX5_of_64 : decode cX5_of 64 = .ok (.iaload, 1) := by decide +kernel
theorem dX5_of_65 : decode cX5_of 65 = .ok (.ireturn, 1) := by decide +kernel
theorem dX5_of_66 : decode cX5_of 66 = .ok (.aload_n 0, 1) := by decide +kernel
theorem dX5_of_67 : decode cX5_of 67 = .ok (.getfield 10, 3) := by decide +kernel
theorem dX5_of_70 : decode cX5_of 70 = .ok (.getfield 104, 3) := by decide +kernel
theorem dX5_of_73 : decode cX5_of 73 = .ok (.iload_n 1, 1) := by decide +kernel
theorem dX5_of_74 : decode cX5_of 74 = .ok (.iaload, 1) := by decide +kernel
theorem dX5_of_75 : decode cX5_of 75 = .ok (.ireturn, 1) := by decide +kernel
theorem dX5_of_76 : decode cX5_of 76 = .ok (.aload_n 0, 1) := by decide +kernel
theorem dX5_of_77 : decode cX5_of 77 = .ok (.getfield 10, 3) := by decide +kernel
theorem dX5_of_80 : decode cX5_of 80 = .ok (.getfield 107, 3) := by decide +kernel
theorem dX5_of_83 : decode cX5_of 83 = .ok (.iload_n 1, 1) := by decide +kernel
theorem dX5_of_84 : decode cX5_of 84 = .ok (.iaload, 1) := by decide +kernel
theorem dX5_of_85 : decode cX5_of 85 = .ok (.ireturn, 1) := by decide +kernel
theorem dX5_of_86 : decode cX5_of 86 = .ok (.aload_n 0, 1) := by decide +kernel
theorem dX5_of_87 : decode cX5_of 87 = .ok (.getfield 10, 3) := by decide +kernel
theorem dX5_of_90 : decode cX5_of 90 = .ok (.getfield 110, 3) := by decide +kernel
theorem dX5_of_93 : decode cX5_of 93 = .ok (.iload_n 1, 1) := by decide +kernel
theorem dX5_of_94 : decode cX5_of 94 = .ok (.iaload, 1) := by decide +kernel
theorem dX5_of_95 : decode cX5_of 95 = .ok (.ireturn, 1) := by decide +kernel
theorem dX5_of_96 : decode cX5_of 96 = .ok (.aload_n 0, 1) := by decide +kernel
theorem dX5_of_97 : decode cX5_of 97 = .ok (.getfield 10, 3) := by decide +kernel
theorem dX5_of_100 : decode cX5_of 100 = .ok (.iload_n 1, 1) := by decide +kernel
theorem dX5_of_101 : decode cX5_of 101 = .ok (.invokevirtual 113, 3) := by decide +kernel
theorem dX5_of_104 : decode cX5_of 104 = .ok (.ifCond .eq 7, 3) := by decide +kernel
theorem dX5_of_107 : decode cX5_of 107 = .ok (.iconst 1, 1) := by decide +kernel
theorem dX5_of_108 : decode cX5_of 108 = .ok (.goto 4, 3) := by decide +kernel
theorem dX5_of_111 : decode cX5_of 111 = .ok (.iconst 0, 1) := by decide +kernel
theorem dX5_of_112 : decode cX5_of 112 = .ok (.ireturn, 1) := by decide +kernel
theorem dX5_of_113 : decode cX5_of 113 = .ok (.aload_n 0, 1) := by decide +kernel
theorem dX5_of_114 : decode cX5_of 114 = .ok (.getfield 10, 3) := by decide +kernel
theorem dX5_of_117 : decode cX5_of 117 = .ok (.getfield 116, 3) := by decide +kernel
theorem dX5_of_120 : decode cX5_of 120 = .ok (.iload_n 1, 1) := by decide +kernel
theorem dX5_of_121 : decode cX5_of 121 = .ok (.iaload, 1) := by decide +kernel
theorem dX5_of_122 : decode cX5_of 122 = .ok (.ireturn, 1) := by decide +kernel
theorem dX5_of_123 : decode cX5_of 123 = .ok (.aload_n 0, 1) := by decide +kernel
theorem dX5_of_124 : decode cX5_of 124 = .ok (.getfield 10, 3) := by decide +kernel
theorem dX5_of_127 : decode cX5_of 127 = .ok (.iload_n 1, 1) := by decide +kernel
theorem dX5_of_128 : decode cX5_of 128 = .ok (.invokevirtual 119, 3) := by decide +kernel
theorem dX5_of_131 : decode cX5_of 131 = .ok (.ireturn, 1) := by decide +kernel
theorem dX5_of_132 : decode cX5_of 132 = .ok (.iconst (-1), 1) := by decide +kernel
theorem dX5_of_133 : decode cX5_of 133 = .ok (.ireturn, 1) := by decide +kernel
theorem dX5_does_0 : decode cX5_does 0 = .ok (.aload_n 0, 1) := by decide +kernel
theorem dX5_does_1 : decode cX5_does 1 = .ok (.getfield 10, 3) := by decide +kernel
theorem dX5_does_4 : decode cX5_does 4 = .ok (.iload_n 1, 1) := by decide +kernel
theorem dX5_does_5 : decode cX5_does 5 = .ok (.invokevirtual 97, 3) := by decide +kernel
theorem dX5_does_8 : decode cX5_does 8 = .ok (.ifCond .eq 12, 3) := by decide +kernel
theorem dX5_does_11 : decode cX5_does 11 = .ok (.iload_n 2, 1) := by decide +kernel
theorem dX5_does_12 : decode cX5_does 12 = .ok (.iconst 0, 1) := by decide +kernel
theorem dX5_does_13 : decode cX5_does 13 = .ok (.iconst 1, 1) := by decide +kernel
theorem dX5_does_14 : decode cX5_does 14 = .ok (.invokestatic 54, 3) := by decide +kernel
theorem dX5_does_17 : decode cX5_does 17 = .ok (.ifCond .ne 5, 3) := by decide +kernel
theorem dX5_does_20 : decode cX5_does 20 = .ok (.iconst (-1), 1) := by decide +kernel
theorem dX5_does_21 : decode cX5_does 21 = .ok (.ireturn, 1) := by decide +kernel
theorem dX5_does_22 : decode cX5_does 22 = .ok (.sipush 1000, 3) := by decide +kernel
theorem dX5_does_25 : decode cX5_does 25 = .ok (.iload_n 2, 1) := by decide +kernel
theorem dX5_does_26 : decode cX5_does 26 = .ok (.ifCond .ne 14, 3) := by decide +kernel
theorem dX5_does_29 : decode cX5_does 29 = .ok (.aload_n 0, 1) := by decide +kernel
theorem dX5_does_30 : decode cX5_does 30 = .ok (.getfield 10, 3) := by decide +kernel
theorem dX5_does_33 : decode cX5_does 33 = .ok (.iload_n 1, 1) := by decide +kernel
theorem dX5_does_34 : decode cX5_does 34 = .ok (.invokevirtual 122, 3) := by decide +kernel
theorem dX5_does_37 : decode cX5_does 37 = .ok (.goto 11, 3) := by decide +kernel
theorem dX5_does_40 : decode cX5_does 40 = .ok (.aload_n 0, 1) := by decide +kernel
theorem dX5_does_41 : decode cX5_does 41 = .ok (.getfield 10, 3) := by decide +kernel
theorem dX5_does_44 : decode cX5_does 44 = .ok (.iload_n 1, 1) := by decide +kernel
theorem dX5_does_45 : decode cX5_does 45 = .ok (.invokevirtual 125, 3) := by decide +kernel
theorem dX5_does_48 : decode cX5_does 48 = .ok (.iadd, 1) := by decide +kernel
theorem dX5_does_49 : decode cX5_does 49 = .ok (.ireturn, 1) := by decide +kernel
theorem dX5_mind_0 : decode cX5_mind 0 = .ok (.aload_n 0, 1) := by decide +kernel
theorem dX5_mind_1 : decode cX5_mind 1 = .ok (.getfield 10, 3) := by decide +kernel
theorem dX5_mind_4 : decode cX5_mind 4 = .ok (.iload_n 1, 1) := by decide +kernel
theorem dX5_mind_5 : decode cX5_mind 5 = .ok (.invokevirtual 97, 3) := by decide +kernel
theorem dX5_mind_8 : decode cX5_mind 8 = .ok (.ifCond .eq 22, 3) := by decide +kernel
theorem dX5_mind_11 : decode cX5_mind 11 = .ok (.iload_n 2, 1) := by decide +kernel
theorem dX5_mind_12 : decode cX5_mind 12 = .ok (.iconst 0, 1) := by decide +kernel
theorem dX5_mind_13 : decode cX5_mind 13 = .ok (.iconst 5, 1) := by decide +kernel
theorem dX5_mind_14 : decode cX5_mind 14 = .ok (.invokestatic 54, 3) := by decide +kernel
theorem dX5_mind_17 : decode cX5_mind 17 = .ok (.ifCond .eq 13, 3) := by decide +kernel
theorem dX5_mind_20 : decode cX5_mind 20 = .ok (.iload_n 3, 1) := by decide +kernel
theorem dX5_mind_21 : decode cX5_mind 21 = .ok (.iconst 0, 1) := by decide +kernel
theorem dX5_mind_22 : decode cX5_mind 22 = .ok (.bipush 9, 2) := by decide +kernel
theorem dX5_mind_24 : decode cX5_mind 24 = .ok (.invokestatic 54, 3) := by decide +kernel
theorem dX5_mind_27 : decode cX5_mind 27 = .ok (.ifCond .ne 5, 3) := by decide +kernel
theorem dX5_mind_30 : decode cX5_mind 30 = .ok (.iconst (-1), 1) := by decide +kernel
theorem dX5_mind_31 : decode cX5_mind 31 = .ok (.ireturn, 1) := by decide +kernel
theorem dX5_mind_32 : decode cX5_mind 32 = .ok (.aload_n 0, 1) := by decide +kernel
theorem dX5_mind_33 : decode cX5_mind 33 = .ok (.getfield 10, 3) := by decide +kernel
theorem dX5_mind_36 : decode cX5_mind 36 = .ok (.getfield 101, 3) := by decide +kernel
theorem dX5_mind_39 : decode cX5_mind 39 = .ok (.iload_n 1, 1) := by decide +kernel
theorem dX5_mind_40 : decode cX5_mind 40 = .ok (.iaload, 1) := by decide +kernel
theorem dX5_mind_41 : decode cX5_mind 41 = .ok (.istore 4, 2) := by decide +kernel
theorem dX5_mind_43 : decode cX5_mind 43 = .ok (.aload_n 0, 1) := by decide +kernel
theorem dX5_mind_44 : decode cX5_mind 44 = .ok (.getfield 10, 3) := by decide +kernel
theorem dX5_mind_47 : decode cX5_mind 47 = .ok (.getfield 101, 3) := by decide +kernel
theorem dX5_mind_50 : decode cX5_mind 50 = .ok (.iload_n 1, 1) := by decide +kernel
theorem dX5_mind_51 : decode cX5_mind 51 = .ok (.iload_n 2, 1) := by decide +kernel
theorem dX5_mind_52 : decode cX5_mind 52 = .ok (.iastore, 1) := by decide +kernel
theorem dX5_mind_53 : decode cX5_mind 53 = .ok (.aload_n 0, 1) := by decide +kernel
theorem dX5_mind_54 : decode cX5_mind 54 = .ok (.getfield 10, 3) := by decide +kernel
theorem dX5_mind_57 : decode cX5_mind 57 = .ok (.getfield 110, 3) := by decide +kernel
theorem dX5_mind_60 : decode cX5_mind 60 = .ok (.iload_n 1, 1) := by decide +kernel
theorem dX5_mind_61 : decode cX5_mind 61 = .ok (.iload_n 3, 1) := by decide +kernel
theorem dX5_mind_62 : decode cX5_mind 62 = .ok (.iastore, 1) := by decide +kernel
theorem dX5_mind_63 : decode cX5_mind 63 = .ok (.iload 4, 2) := by decide +kernel
theorem dX5_mind_65 : decode cX5_mind 65 = .ok (.ireturn, 1) := by decide +kernel
theorem dX5_hold_0 : decode cX5_hold 0 = .ok (.aload_n 0, 1) := by decide +kernel
theorem dX5_hold_1 : decode cX5_hold 1 = .ok (.getfield 10, 3) := by decide +kernel
theorem dX5_hold_4 : decode cX5_hold 4 = .ok (.iload_n 1, 1) := by decide +kernel
theorem dX5_hold_5 : decode cX5_hold 5 = .ok (.invokevirtual 97, 3) := by decide +kernel
theorem dX5_hold_8 : decode cX5_hold 8 = .ok (.ifCond .eq 13, 3) := by decide +kernel
theorem dX5_hold_11 : decode cX5_hold 11 = .ok (.iload_n 2, 1) := by decide +kernel
theorem dX5_hold_12 : decode cX5_hold 12 = .ok (.iconst 0, 1) := by decide +kernel
theorem dX5_hold_13 : decode cX5_hold 13 = .ok (.bipush 99, 2) := by decide +kernel
theorem dX5_hold_15 : decode cX5_hold 15 = .ok (.invokestatic 54, 3) := by decide +kernel
theorem dX5_hold_18 : decode cX5_hold 18 = .ok (.ifCond .ne 5, 3) := by decide +kernel
theorem dX5_hold_21 : decode cX5_hold 21 = .ok (.iconst (-1), 1) := by decide +kernel
theorem dX5_hold_22 : decode cX5_hold 22 = .ok (.ireturn, 1) := by decide +kernel
theorem dX5_hold_23 : decode cX5_hold 23 = .ok (.aload_n 0, 1) := by decide +kernel
theorem dX5_hold_24 : decode cX5_hold 24 = .ok (.getfield 10, 3) := by decide +kernel
theorem dX5_hold_27 : decode cX5_hold 27 = .ok (.getfield 107, 3) := by decide +kernel
theorem dX5_hold_30 : decode cX5_hold 30 = .ok (.iload_n 1, 1) := by decide +kernel
theorem dX5_hold_31 : decode cX5_hold 31 = .ok (.iaload, 1) := by decide +kernel
theorem dX5_hold_32 : decode cX5_hold 32 = .ok (.istore_n 3, 1) := by decide +kernel
theorem dX5_hold_33 : decode cX5_hold 33 = .ok (.aload_n 0, 1) := by decide +kernel
theorem dX5_hold_34 : decode cX5_hold 34 = .ok (.getfield 10, 3) := by decide +kernel
theorem dX5_hold_37 : decode cX5_hold 37 = .ok (.getfield 107, 3) := by decide +kernel
theorem dX5_hold_40 : decode cX5_hold 40 = .ok (.iload_n 1, 1) := by decide +kernel
theorem dX5_hold_41 : decode cX5_hold 41 = .ok (.iload_n 2, 1) := by decide +kernel
theorem dX5_hold_42 : decode cX5_hold 42 = .ok (.iastore, 1) := by decide +kernel
theorem dX5_hold_43 : decode cX5_hold 43 = .ok (.iload_n 3, 1) := by decide +kernel
theorem dX5_hold_44 : decode cX5_hold 44 = .ok (.ireturn, 1) := by decide +kernel
theorem dX5_move_0 : decode cX5_move 0 = .ok (.aload_n 0, 1) := by decide +kernel
theorem dX5_move_1 : decode cX5_move 1 = .ok (.getfield 10, 3) := by decide +kernel
theorem dX5_move_4 : decode cX5_move 4 = .ok (.iload_n 1, 1) := by decide +kernel
theorem dX5_move_5 : decode cX5_move 5 = .ok (.invokevirtual 97, 3) := by decide +kernel
theorem dX5_move_8 : decode cX5_move 8 = .ok (.ifCond .eq 12, 3) := by decide +kernel
theorem dX5_move_11 : decode cX5_move 11 = .ok (.iload_n 2, 1) := by decide +kernel
theorem dX5_move_12 : decode cX5_move 12 = .ok (.iconst 0, 1) := by decide +kernel
theorem dX5_move_13 : decode cX5_move 13 = .ok (.iconst 5, 1) := by decide +kernel
theorem dX5_move_14 : decode cX5_move 14 = .ok (.invokestatic 54, 3) := by decide +kernel
theorem dX5_move_17 : decode cX5_move 17 = .ok (.ifCond .ne 5, 3) := by decide +kernel
theorem dX5_move_20 : decode cX5_move 20 = .ok (.iconst (-1), 1) := by decide +kernel
theorem dX5_move_21 : decode cX5_move 21 = .ok (.ireturn, 1) := by decide +kernel
theorem dX5_move_22 : decode cX5_move 22 = .ok (.aload_n 0, 1) := by decide +kernel
theorem dX5_move_23 : decode cX5_move 23 = .ok (.getfield 10, 3) := by decide +kernel
theorem dX5_move_26 : decode cX5_move 26 = .ok (.getfield 104, 3) := by decide +kernel
theorem dX5_move_29 : decode cX5_move 29 = .ok (.iload_n 1, 1) := by decide +kernel
theorem dX5_move_30 : decode cX5_move 30 = .ok (.iaload, 1) := by decide +kernel
theorem dX5_move_31 : decode cX5_move 31 = .ok (.istore_n 3, 1) := by decide +kernel
theorem dX5_move_32 : decode cX5_move 32 = .ok (.aload_n 0, 1) := by decide +kernel
theorem dX5_move_33 : decode cX5_move 33 = .ok (.getfield 10, 3) := by decide +kernel
theorem dX5_move_36 : decode cX5_move 36 = .ok (.getfield 104, 3) := by decide +kernel
theorem dX5_move_39 : decode cX5_move 39 = .ok (.iload_n 1, 1) := by decide +kernel
theorem dX5_move_40 : decode cX5_move 40 = .ok (.iload_n 2, 1) := by decide +kernel
theorem dX5_move_41 : decode cX5_move 41 = .ok (.iastore, 1) := by decide +kernel
theorem dX5_move_42 : decode cX5_move 42 = .ok (.iload_n 3, 1) := by decide +kernel
theorem dX5_move_43 : decode cX5_move 43 = .ok (.ireturn, 1) := by decide +kernel
theorem dX5_pluck_0 : decode cX5_pluck 0 = .ok (.aload_n 0, 1) := by decide +kernel
theorem dX5_pluck_1 : decode cX5_pluck 1 = .ok (.getfield 10, 3) := by decide +kernel
theorem dX5_pluck_4 : decode cX5_pluck 4 = .ok (.iload_n 1, 1) := by decide +kernel
theorem dX5_pluck_5 : decode cX5_pluck 5 = .ok (.invokevirtual 97, 3) := by decide +kernel
theorem dX5_pluck_8 : decode cX5_pluck 8 = .ok (.ifCond .ne 5, 3) := by decide +kernel
theorem dX5_pluck_11 : decode cX5_pluck 11 = .ok (.iconst (-1), 1) := by decide +kernel
theorem dX5_pluck_12 : decode cX5_pluck 12 = .ok (.ireturn, 1) := by decide +kernel
theorem dX5_pluck_13 : decode cX5_pluck 13 = .ok (.aload_n 0, 1) := by decide +kernel
theorem dX5_pluck_14 : decode cX5_pluck 14 = .ok (.getfield 10, 3) := by decide +kernel
theorem dX5_pluck_17 : decode cX5_pluck 17 = .ok (.iload_n 1, 1) := by decide +kernel
theorem dX5_pluck_18 : decode cX5_pluck 18 = .ok (.invokevirtual 113, 3) := by decide +kernel
theorem dX5_pluck_21 : decode cX5_pluck 21 = .ok (.ifCond .ne 6, 3) := by decide +kernel
theorem dX5_pluck_24 : decode cX5_pluck 24 = .ok (.bipush (-3), 2) := by decide +kernel
theorem dX5_pluck_26 : decode cX5_pluck 26 = .ok (.ireturn, 1) := by decide +kernel
theorem dX5_pluck_27 : decode cX5_pluck 27 = .ok (.aload_n 0, 1) := by decide +kernel
theorem dX5_pluck_28 : decode cX5_pluck 28 = .ok (.getfield 10, 3) := by decide +kernel
theorem dX5_pluck_31 : decode cX5_pluck 31 = .ok (.iload_n 1, 1) := by decide +kernel
theorem dX5_pluck_32 : decode cX5_pluck 32 = .ok (.invokevirtual 128, 3) := by decide +kernel
theorem dX5_pluck_35 : decode cX5_pluck 35 = .ok (.aload_n 0, 1) := by decide +kernel
theorem dX5_pluck_36 : decode cX5_pluck 36 = .ok (.getfield 10, 3) := by decide +kernel
theorem dX5_pluck_39 : decode cX5_pluck 39 = .ok (.invokevirtual 132, 3) := by decide +kernel
theorem dX5_pluck_42 : decode cX5_pluck 42 = .ok (.ireturn, 1) := by decide +kernel
theorem dX5_bough_0 : decode cX5_bough 0 = .ok (.iload_n 1, 1) := by decide +kernel
theorem dX5_bough_1 : decode cX5_bough 1 = .ok (.iconst 0, 1) := by decide +kernel
theorem dX5_bough_2 : decode cX5_bough 2 = .ok (.iconst 5, 1) := by decide +kernel
theorem dX5_bough_3 : decode cX5_bough 3 = .ok (.invokestatic 54, 3) := by decide +kernel
theorem dX5_bough_6 : decode cX5_bough 6 = .ok (.ifCond .eq 12, 3) := by decide +kernel
theorem dX5_bough_9 : decode cX5_bough 9 = .ok (.iload_n 2, 1) := by decide +kernel
theorem dX5_bough_10 : decode cX5_bough 10 = .ok (.iconst 0, 1) := by decide +kernel
theorem dX5_bough_11 : decode cX5_bough 11 = .ok (.iconst 1, 1) := by decide +kernel
theorem dX5_bough_12 : decode cX5_bough 12 = .ok (.invokestatic 54, 3) := by decide +kernel
theorem dX5_bough_15 : decode cX5_bough 15 = .ok (.ifCond .ne 5, 3) := by decide +kernel
theorem dX5_bough_18 : decode cX5_bough 18 = .ok (.iconst (-1), 1) := by decide +kernel
theorem dX5_bough_19 : decode cX5_bough 19 = .ok (.ireturn, 1) := by decide +kernel
theorem dX5_bough_20 : decode cX5_bough 20 = .ok (.iload_n 2, 1) := by decide +kernel
theorem dX5_bough_21 : decode cX5_bough 21 = .ok (.ifCond .ne 15, 3) := by decide +kernel
theorem dX5_bough_24 : decode cX5_bough 24 = .ok (.aload_n 0, 1) := by decide +kernel
theorem dX5_bough_25 : decode cX5_bough 25 = .ok (.getfield 10, 3) := by decide +kernel
theorem dX5_bough_28 : decode cX5_bough 28 = .ok (.getfield 136, 3) := by decide +kernel
theorem dX5_bough_31 : decode cX5_bough 31 = .ok (.iload_n 1, 1) := by decide +kernel
theorem dX5_bough_32 : decode cX5_bough 32 = .ok (.iaload, 1) := by decide +kernel
theorem dX5_bough_33 : decode cX5_bough 33 = .ok (.goto 11, 3) := by decide +kernel
theorem dX5_bough_36 : decode cX5_bough 36 = .ok (.aload_n 0, 1) := by decide +kernel
theorem dX5_bough_37 : decode cX5_bough 37 = .ok (.getfield 10, 3) := by decide +kernel
theorem dX5_bough_40 : decode cX5_bough 40 = .ok (.iload_n 1, 1) := by decide +kernel
theorem dX5_bough_41 : decode cX5_bough 41 = .ok (.invokevirtual 139, 3) := by decide +kernel
theorem dX5_bough_44 : decode cX5_bough 44 = .ok (.ireturn, 1) := by decide +kernel
theorem dX5_sway_0 : decode cX5_sway 0 = .ok (.iload_n 1, 1) := by decide +kernel
theorem dX5_sway_1 : decode cX5_sway 1 = .ok (.iconst 0, 1) := by decide +kernel
theorem dX5_sway_2 : decode cX5_sway 2 = .ok (.iconst 5, 1) := by decide +kernel
theorem dX5_sway_3 : decode cX5_sway 3 = .ok (.invokestatic 54, 3) := by decide +kernel
theorem dX5_sway_6 : decode cX5_sway 6 = .ok (.ifCond .eq 13, 3) := by decide +kernel
theorem dX5_sway_9 : decode cX5_sway 9 = .ok (.iload_n 2, 1) := by decide +kernel
theorem dX5_sway_10 : decode cX5_sway 10 = .ok (.iconst 0, 1) := by decide +kernel
theorem dX5_sway_11 : decode cX5_sway 11 = .ok (.bipush 9, 2) := by decide +kernel
theorem dX5_sway_13 : decode cX5_sway 13 = .ok (.invokestatic 54, 3) := by decide +kernel
theorem dX5_sway_16 : decode cX5_sway 16 = .ok (.ifCond .ne 5, 3) := by decide +kernel
theorem dX5_sway_19 : decode cX5_sway 19 = .ok (.iconst (-1), 1) := by decide +kernel
theorem dX5_sway_20 : decode cX5_sway 20 = .ok (.ireturn, 1) := by decide +kernel
theorem dX5_sway_21 : decode cX5_sway 21 = .ok (.aload_n 0, 1) := by decide +kernel
theorem dX5_sway_22 : decode cX5_sway 22 = .ok (.getfield 10, 3) := by decide +kernel
theorem dX5_sway_25 : decode cX5_sway 25 = .ok (.getfield 136, 3) := by decide +kernel
theorem dX5_sway_28 : decode cX5_sway 28 = .ok (.iload_n 1, 1) := by decide +kernel
theorem dX5_sway_29 : decode cX5_sway 29 = .ok (.iaload, 1) := by decide +kernel
theorem dX5_sway_30 : decode cX5_sway 30 = .ok (.istore_n 3, 1) := by decide +kernel
theorem dX5_sway_31 : decode cX5_sway 31 = .ok (.aload_n 0, 1) := by decide +kernel
theorem dX5_sway_32 : decode cX5_sway 32 = .ok (.getfield 10, 3) := by decide +kernel
theorem dX5_sway_35 : decode cX5_sway 35 = .ok (.getfield 136, 3) := by decide +kernel
theorem dX5_sway_38 : decode cX5_sway 38 = .ok (.iload_n 1, 1) := by decide +kernel
theorem dX5_sway_39 : decode cX5_sway 39 = .ok (.iload_n 2, 1) := by decide +kernel
theorem dX5_sway_40 : decode cX5_sway 40 = .ok (.iastore, 1) := by decide +kernel
theorem dX5_sway_41 : decode cX5_sway 41 = .ok (.iload_n 3, 1) := by decide +kernel
theorem dX5_sway_42 : decode cX5_sway 42 = .ok (.ireturn, 1) := by decide +kernel
theorem dX5_days_0 : decode cX5_days 0 = .ok (.iload_n 1, 1) := by decide +kernel
theorem dX5_days_1 : decode cX5_days 1 = .ok (.iconst 1, 1) := by decide +kernel
theorem dX5_days_2 : decode cX5_days 2 = .ok (.bipush 60, 2) := by decide +kernel
theorem dX5_days_4 : decode cX5_days 4 = .ok (.invokestatic 54, 3) := by decide +kernel
theorem dX5_days_7 : decode cX5_days 7 = .ok (.ifCond .ne 5, 3) := by decide +kernel
theorem dX5_days_10 : decode cX5_days 10 = .ok (.iconst (-1), 1) := by decide +kernel
theorem dX5_days_11 : decode cX5_days 11 = .ok (.ireturn, 1) := by decide +kernel
theorem dX5_days_12 : decode cX5_days 12 = .ok (.iconst 0, 1) := by decide +kernel
theorem dX5_days_13 : decode cX5_days 13 = .ok (.istore_n 2, 1) := by decide +kernel
theorem dX5_days_14 : decode cX5_days 14 = .ok (.iload_n 2, 1) := by decide +kernel
theorem dX5_days_15 : decode cX5_days 15 = .ok (.iload_n 1, 1) := by decide +kernel
theorem dX5_days_16 : decode cX5_days 16 = .ok (.if_icmp .ge 17, 3) := by decide +kernel
theorem dX5_days_19 : decode cX5_days 19 = .ok (.aload_n 0, 1) := by decide +kernel
theorem dX5_days_20 : decode cX5_days 20 = .ok (.getfield 10, 3) := by decide +kernel
theorem dX5_days_23 : decode cX5_days 23 = .ok (.invokevirtual 142, 3) := by decide +kernel
theorem dX5_days_26 : decode cX5_days 26 = .ok (.pop, 1) := by decide +kernel
theorem dX5_days_27 : decode cX5_days 27 = .ok (.iinc 2 1, 3) := by decide +kernel
theorem dX5_days_30 : decode cX5_days 30 = .ok (.goto (-16), 3) := by decide +kernel
theorem dX5_days_33 : decode cX5_days 33 = .ok (.aload_n 0, 1) := by decide +kernel
theorem dX5_days_34 : decode cX5_days 34 = .ok (.getfield 10, 3) := by decide +kernel
theorem dX5_days_37 : decode cX5_days 37 = .ok (.invokevirtual 132, 3) := by decide +kernel
theorem dX5_days_40 : decode cX5_days 40 = .ok (.ireturn, 1) := by decide +kernel
theorem dX5_seed_0 : decode cX5_seed 0 = .ok (.aload_n 0, 1) := by decide +kernel
theorem dX5_seed_1 : decode cX5_seed 1 = .ok (.getfield 10, 3) := by decide +kernel
theorem dX5_seed_4 : decode cX5_seed 4 = .ok (.getfield 69, 3) := by decide +kernel
theorem dX5_seed_7 : decode cX5_seed 7 = .ok (.istore_n 2, 1) := by decide +kernel
theorem dX5_seed_8 : decode cX5_seed 8 = .ok (.aload_n 0, 1) := by decide +kernel
theorem dX5_seed_9 : decode cX5_seed 9 = .ok (.getfield 10, 3) := by decide +kernel
theorem dX5_seed_12 : decode cX5_seed 12 = .ok (.iload_n 1, 1) := by decide +kernel
theorem dX5_seed_13 : decode cX5_seed 13 = .ok (.putfield 69, 3) := by decide +kernel
theorem dX5_seed_16 : decode cX5_seed 16 = .ok (.iload_n 2, 1) := by decide +kernel
theorem dX5_seed_17 : decode cX5_seed 17 = .ok (.ireturn, 1) := by decide +kernel
theorem dX5_day_0 : decode cX5_day 0 = .ok (.aload_n 0, 1) := by decide +kernel
theorem dX5_day_1 : decode cX5_day 1 = .ok (.getfield 10, 3) := by decide +kernel
theorem dX5_day_4 : decode cX5_day 4 = .ok (.invokevirtual 145, 3) := by decide +kernel
theorem dX5_day_7 : decode cX5_day 7 = .ok (.pop, 1) := by decide +kernel
theorem dX5_day_8 : decode cX5_day 8 = .ok (.aload_n 0, 1) := by decide +kernel
theorem dX5_day_9 : decode cX5_day 9 = .ok (.getfield 10, 3) := by decide +kernel
theorem dX5_day_12 : decode cX5_day 12 = .ok (.invokevirtual 132, 3) := by decide +kernel
theorem dX5_day_15 : decode cX5_day 15 = .ok (.ireturn, 1) := by decide +kernel
theorem dX5_lost_0 : decode cX5_lost 0 = .ok (.iload_n 1, 1) := by decide +kernel
theorem dX5_lost_1 : decode cX5_lost 1 = .ok (.iconst 1, 1) := by decide +kernel
theorem dX5_lost_2 : decode cX5_lost 2 = .ok (.bipush 30, 2) := by decide +kernel
theorem dX5_lost_4 : decode cX5_lost 4 = .ok (.invokestatic 54, 3) := by decide +kernel
theorem dX5_lost_7 : decode cX5_lost 7 = .ok (.ifCond .ne 5, 3) := by decide +kernel
theorem dX5_lost_10 : decode cX5_lost 10 = .ok (.iconst (-1), 1) := by decide +kernel
theorem dX5_lost_11 : decode cX5_lost 11 = .ok (.ireturn, 1) := by decide +kernel
theorem dX5_lost_12 : decode cX5_lost 12 = .ok (.aload_n 0, 1) := by decide +kernel
theorem dX5_lost_13 : decode cX5_lost 13 = .ok (.getfield 16, 3) := by decide +kernel
theorem dX5_lost_16 : decode cX5_lost 16 = .ok (.aload_n 0, 1) := by decide +kernel
theorem dX5_lost_17 : decode cX5_lost 17 = .ok (.getfield 10, 3) := by decide +kernel
theorem dX5_lost_20 : decode cX5_lost 20 = .ok (.invokevirtual 76, 3) := by decide +kernel
theorem dX5_lost_23 : decode cX5_lost 23 = .ok (.aload_n 0, 1) := by decide +kernel
theorem dX5_lost_24 : decode cX5_lost 24 = .ok (.getfield 16, 3) := by decide +kernel
theorem dX5_lost_27 : decode cX5_lost 27 = .ok (.invokevirtual 142, 3) := by decide +kernel
theorem dX5_lost_30 : decode cX5_lost 30 = .ok (.istore_n 2, 1) := by decide +kernel
theorem dX5_lost_31 : decode cX5_lost 31 = .ok (.aload_n 0, 1) := by decide +kernel
theorem dX5_lost_32 : decode cX5_lost 32 = .ok (.getfield 10, 3) := by decide +kernel
theorem dX5_lost_35 : decode cX5_lost 35 = .ok (.getfield 69, 3) := by decide +kernel
theorem dX5_lost_38 : decode cX5_lost 38 = .ok (.istore_n 3, 1) := by decide +kernel
theorem dX5_lost_39 : decode cX5_lost 39 = .ok (.iconst 0, 1) := by decide +kernel
theorem dX5_lost_40 : decode cX5_lost 40 = .ok (.istore 4, 2) := by decide +kernel
theorem dX5_lost_42 : decode cX5_lost 42 = .ok (.iconst 0, 1) := by decide +kernel
theorem dX5_lost_43 : decode cX5_lost 43 = .ok (.istore 5, 2) := by decide +kernel
theorem dX5_lost_45 : decode cX5_lost 45 = .ok (.iload 5, 2) := by decide +kernel
theorem dX5_lost_47 : decode cX5_lost 47 = .ok (.iload_n 1, 1) := by decide +kernel
theorem dX5_lost_48 : decode cX5_lost 48 = .ok (.if_icmp .ge 50, 3) := by decide +kernel
theorem dX5_lost_51 : decode cX5_lost 51 = .ok (.aload_n 0, 1) := by decide +kernel
theorem dX5_lost_52 : decode cX5_lost 52 = .ok (.getfield 16, 3) := by decide +kernel
theorem dX5_lost_55 : decode cX5_lost 55 = .ok (.aload_n 0, 1) := by decide +kernel
theorem dX5_lost_56 : decode cX5_lost 56 = .ok (.getfield 10, 3) := by decide +kernel
theorem dX5_lost_59 : decode cX5_lost 59 = .ok (.invokevirtual 76, 3) := by decide +kernel
theorem dX5_lost_62 : decode cX5_lost 62 = .ok (.aload_n 0, 1) := by decide +kernel
theorem dX5_lost_63 : decode cX5_lost 63 = .ok (.getfield 16, 3) := by decide +kernel
theorem dX5_lost_66 : decode cX5_lost 66 = .ok (.iload_n 3, 1) := by decide +kernel
theorem dX5_lost_67 : decode cX5_lost 67 = .ok (.putfield 69, 3) := by decide +kernel
theorem dX5_lost_70 : decode cX5_lost 70 = .ok (.aload_n 0, 1) := by decide +kernel
theorem dX5_lost_71 : decode cX5_lost 71 = .ok (.getfield 16, 3) := by decide +kernel
theorem dX5_lost_74 : decode cX5_lost 74 = .ok (.invokevirtual 145, 3) := by decide +kernel
theorem dX5_lost_77 : decode cX5_lost 77 = .ok (.iload_n 2, 1) := by decide +kernel
theorem dX5_lost_78 : decode cX5_lost 78 = .ok (.if_icmp .eq 6, 3) := by decide +kernel
theorem dX5_lost_81 : decode cX5_lost 81 = .ok (.iinc 4 1, 3) := by decide +kernel
theorem dX5_lost_84 : decode cX5_lost 84 = .ok (.aload_n 0, 1) := by decide +kernel
theorem dX5_lost_85 : decode cX5_lost 85 = .ok (.getfield 16, 3) := by decide +kernel
theorem dX5_lost_88 : decode cX5_lost 88 = .ok (.getfield 69, 3) := by decide +kernel
theorem dX5_lost_91 : decode cX5_lost 91 = .ok (.istore_n 3, 1) := by decide +kernel
theorem dX5_lost_92 : decode cX5_lost 92 = .ok (.iinc 5 1, 3) := by decide +kernel
theorem dX5_lost_95 : decode cX5_lost 95 = .ok (.goto (-50), 3) := by decide +kernel
theorem dX5_lost_98 : decode cX5_lost 98 = .ok (.iload 4, 2) := by decide +kernel
theorem dX5_lost_100 : decode cX5_lost 100 = .ok (.ireturn, 1) := by decide +kernel
theorem dX5_written_0 : decode cX5_written 0 = .ok (.iload_n 1, 1) := by decide +kernel
theorem dX5_written_1 : decode cX5_written 1 = .ok (.iconst 0, 1) := by decide +kernel
theorem dX5_written_2 : decode cX5_written 2 = .ok (.aload_n 0, 1) := by decide +kernel
theorem dX5_written_3 : decode cX5_written 3 = .ok (.getfield 10, 3) := by decide +kernel
theorem dX5_written_6 : decode cX5_written 6 = .ok (.getfield 148, 3) := by decide +kernel
theorem dX5_written_9 : decode cX5_written 9 = .ok (.iconst 1, 1) := by decide +kernel
theorem dX5_written_10 : decode cX5_written 10 = .ok (.isub, 1) := by decide +kernel
theorem dX5_written_11 : decode cX5_written 11 = .ok (.invokestatic 54, 3) := by decide +kernel
theorem dX5_written_14 : decode cX5_written 14 = .ok (.ifCond .eq 14, 3) := by decide +kernel
theorem dX5_written_17 : decode cX5_written 17 = .ok (.aload_n 0, 1) := by decide +kernel
theorem dX5_written_18 : decode cX5_written 18 = .ok (.getfield 10, 3) := by decide +kernel
theorem dX5_written_21 : decode cX5_written 21 = .ok (.iload_n 1, 1) := by decide +kernel
theorem dX5_written_22 : decode cX5_written 22 = .ok (.invokevirtual 151, 3) := by decide +kernel
theorem dX5_written_25 : decode cX5_written 25 = .ok (.goto 5, 3) := by decide +kernel
theorem dX5_written_28 : decode cX5_written 28 = .ok (.bipush (-3), 2) := by decide +kernel
theorem dX5_written_30 : decode cX5_written 30 = .ok (.ireturn, 1) := by decide +kernel
theorem dX5_state_0 : decode cX5_state 0 = .ok (.iload_n 1, 1) := by decide +kernel
theorem dX5_state_1 : decode cX5_state 1 = .ok (.tableswitch 87 0 5 #[39, 47, 55, 63, 71, 79], 39) := by decide +kernel
theorem dX5_state_40 : decode cX5_state 40 = .ok (.aload_n 0, 1) := by decide +kernel
theorem dX5_state_41 : decode cX5_state 41 = .ok (.getfield 10, 3) := by decide +kernel
theorem dX5_state_44 : decode cX5_state 44 = .ok (.getfield 154, 3) := by decide +kernel
theorem dX5_state_47 : decode cX5_state 47 = .ok (.ireturn, 1) := by decide +kernel
theorem dX5_state_48 : decode cX5_state 48 = .ok (.aload_n 0, 1) := by decide +kernel
theorem dX5_state_49 : decode cX5_state 49 = .ok (.getfield 10, 3) := by decide +kernel
theorem dX5_state_52 : decode cX5_state 52 = .ok (.invokevirtual 157, 3) := by decide +kernel
theorem dX5_state_55 : decode cX5_state 55 = .ok (.ireturn, 1) := by decide +kernel
theorem dX5_state_56 : decode cX5_state 56 = .ok (.aload_n 0, 1) := by decide +kernel
theorem dX5_state_57 : decode cX5_state 57 = .ok (.getfield 10, 3) := by decide +kernel
theorem dX5_state_60 : decode cX5_state 60 = .ok (.invokevirtual 160, 3) := by decide +kernel
theorem dX5_state_63 : decode cX5_state 63 = .ok (.ireturn, 1) := by decide +kernel
theorem dX5_state_64 : decode cX5_state 64 = .ok (.aload_n 0, 1) := by decide +kernel
theorem dX5_state_65 : decode cX5_state 65 = .ok (.getfield 10, 3) := by decide +kernel
theorem dX5_state_68 : decode cX5_state 68 = .ok (.invokevirtual 163, 3) := by decide +kernel
theorem dX5_state_71 : decode cX5_state 71 = .ok (.ireturn, 1) := by decide +kernel
theorem dX5_state_72 : decode cX5_state 72 = .ok (.aload_n 0, 1) := by decide +kernel
theorem dX5_state_73 : decode cX5_state 73 = .ok (.getfield 10, 3) := by decide +kernel
theorem dX5_state_76 : decode cX5_state 76 = .ok (.invokevirtual 166, 3) := by decide +kernel
theorem dX5_state_79 : decode cX5_state 79 = .ok (.ireturn, 1) := by decide +kernel
theorem dX5_state_80 : decode cX5_state 80 = .ok (.aload_n 0, 1) := by decide +kernel
theorem dX5_state_81 : decode cX5_state 81 = .ok (.getfield 10, 3) := by decide +kernel
theorem dX5_state_84 : decode cX5_state 84 = .ok (.invokevirtual 169, 3) := by decide +kernel
theorem dX5_state_87 : decode cX5_state 87 = .ok (.ireturn, 1) := by decide +kernel
theorem dX5_state_88 : decode cX5_state 88 = .ok (.iconst (-1), 1) := by decide +kernel
theorem dX5_state_89 : decode cX5_state 89 = .ok (.ireturn, 1) := by decide +kernel
theorem dX5_falls_0 : decode cX5_falls 0 = .ok (.aload_n 0, 1) := by decide +kernel
theorem dX5_falls_1 : decode cX5_falls 1 = .ok (.getfield 10, 3) := by decide +kernel
theorem dX5_falls_4 : decode cX5_falls 4 = .ok (.iload_n 1, 1) := by decide +kernel
theorem dX5_falls_5 : decode cX5_falls 5 = .ok (.invokevirtual 97, 3) := by decide +kernel
theorem dX5_falls_8 : decode cX5_falls 8 = .ok (.ifCond .ne 5, 3) := by decide +kernel
theorem dX5_falls_11 : decode cX5_falls 11 = .ok (.iconst (-1), 1) := by decide +kernel
theorem dX5_falls_12 : decode cX5_falls 12 = .ok (.ireturn, 1) := by decide +kernel
theorem dX5_falls_13 : decode cX5_falls 13 = .ok (.aload_n 0, 1) := by decide +kernel
theorem dX5_falls_14 : decode cX5_falls 14 = .ok (.getfield 16, 3) := by decide +kernel
theorem dX5_falls_17 : decode cX5_falls 17 = .ok (.aload_n 0, 1) := by decide +kernel
theorem dX5_falls_18 : decode cX5_falls 18 = .ok (.getfield 10, 3) := by decide +kernel
theorem dX5_falls_21 : decode cX5_falls 21 = .ok (.invokevirtual 76, 3) := by decide +kernel
theorem dX5_falls_24 : decode cX5_falls 24 = .ok (.aload_n 0, 1) := by decide +kernel
theorem dX5_falls_25 : decode cX5_falls 25 = .ok (.iload_n 1, 1) := by decide +kernel
theorem dX5_falls_26 : decode cX5_falls 26 = .ok (.invokevirtual 172, 3) := by decide +kernel
theorem dX5_falls_29 : decode cX5_falls 29 = .ok (.istore_n 2, 1) := by decide +kernel
theorem dX5_falls_30 : decode cX5_falls 30 = .ok (.iload_n 2, 1) := by decide +kernel
theorem dX5_falls_31 : decode cX5_falls 31 = .ok (.bipush 61, 2) := by decide +kernel
theorem dX5_falls_33 : decode cX5_falls 33 = .ok (.if_icmp .ne 8, 3) := by decide +kernel
theorem dX5_falls_36 : decode cX5_falls 36 = .ok (.bipush (-3), 2) := by decide +kernel
theorem dX5_falls_38 : decode cX5_falls 38 = .ok (.goto 4, 3) := by decide +kernel
theorem dX5_falls_41 : decode cX5_falls 41 = .ok (.iload_n 2, 1) := by decide +kernel
theorem dX5_falls_42 : decode cX5_falls 42 = .ok (.ireturn, 1) := by decide +kernel
theorem dX5_bare_0 : decode cX5_bare 0 = .ok (.aload_n 0, 1) := by decide +kernel
theorem dX5_bare_1 : decode cX5_bare 1 = .ok (.getfield 16, 3) := by decide +kernel
theorem dX5_bare_4 : decode cX5_bare 4 = .ok (.aload_n 0, 1) := by decide +kernel
theorem dX5_bare_5 : decode cX5_bare 5 = .ok (.getfield 10, 3) := by decide +kernel
theorem dX5_bare_8 : decode cX5_bare 8 = .ok (.invokevirtual 76, 3) := by decide +kernel
theorem dX5_bare_11 : decode cX5_bare 11 = .ok (.iconst 0, 1) := by decide +kernel
theorem dX5_bare_12 : decode cX5_bare 12 = .ok (.istore_n 1, 1) := by decide +kernel
theorem dX5_bare_13 : decode cX5_bare 13 = .ok (.iload_n 1, 1) := by decide +kernel
theorem dX5_bare_14 : decode cX5_bare 14 = .ok (.bipush 60, 2) := by decide +kernel
theorem dX5_bare_16 : decode cX5_bare 16 = .ok (.if_icmp .gt 29, 3) := by decide +kernel
theorem dX5_bare_19 : decode cX5_bare 19 = .ok (.aload_n 0, 1) := by decide +kernel
theorem dX5_bare_20 : decode cX5_bare 20 = .ok (.getfield 16, 3) := by decide +kernel
theorem dX5_bare_23 : decode cX5_bare 23 = .ok (.invokevirtual 132, 3) := by decide +kernel
theorem dX5_bare_26 : decode cX5_bare 26 = .ok (.ifCond .ne 5, 3) := by decide +kernel
theorem dX5_bare_29 : decode cX5_bare 29 = .ok (.iload_n 1, 1) := by decide +kernel
theorem dX5_bare_30 : decode cX5_bare 30 = .ok (.ireturn, 1) := by decide +kernel
theorem dX5_bare_31 : decode cX5_bare 31 = .ok (.aload_n 0, 1) := by decide +kernel
theorem dX5_bare_32 : decode cX5_bare 32 = .ok (.getfield 16, 3) := by decide +kernel
theorem dX5_bare_35 : decode cX5_bare 35 = .ok (.invokevirtual 142, 3) := by decide +kernel
theorem dX5_bare_38 : decode cX5_bare 38 = .ok (.pop, 1) := by decide +kernel
theorem dX5_bare_39 : decode cX5_bare 39 = .ok (.iinc 1 1, 3) := by decide +kernel
theorem dX5_bare_42 : decode cX5_bare 42 = .ok (.goto (-29), 3) := by decide +kernel
theorem dX5_bare_45 : decode cX5_bare 45 = .ok (.bipush (-3), 2) := by decide +kernel
theorem dX5_bare_47 : decode cX5_bare 47 = .ok (.ireturn, 1) := by decide +kernel
theorem dX5_next_0 : decode cX5_next 0 = .ok (.aload_n 0, 1) := by decide +kernel
theorem dX5_next_1 : decode cX5_next 1 = .ok (.getfield 16, 3) := by decide +kernel
theorem dX5_next_4 : decode cX5_next 4 = .ok (.aload_n 0, 1) := by decide +kernel
theorem dX5_next_5 : decode cX5_next 5 = .ok (.getfield 10, 3) := by decide +kernel
theorem dX5_next_8 : decode cX5_next 8 = .ok (.invokevirtual 76, 3) := by decide +kernel
theorem dX5_next_11 : decode cX5_next 11 = .ok (.iconst 0, 1) := by decide +kernel
theorem dX5_next_12 : decode cX5_next 12 = .ok (.istore_n 1, 1) := by decide +kernel
theorem dX5_next_13 : decode cX5_next 13 = .ok (.iload_n 1, 1) := by decide +kernel
theorem dX5_next_14 : decode cX5_next 14 = .ok (.bipush 60, 2) := by decide +kernel
theorem dX5_next_16 : decode cX5_next 16 = .ok (.if_icmp .ge 23, 3) := by decide +kernel
theorem dX5_next_19 : decode cX5_next 19 = .ok (.aload_n 0, 1) := by decide +kernel
theorem dX5_next_20 : decode cX5_next 20 = .ok (.getfield 16, 3) := by decide +kernel
theorem dX5_next_23 : decode cX5_next 23 = .ok (.invokevirtual 142, 3) := by decide +kernel
theorem dX5_next_26 : decode cX5_next 26 = .ok (.istore_n 2, 1) := by decide +kernel
theorem dX5_next_27 : decode cX5_next 27 = .ok (.iload_n 2, 1) := by decide +kernel
theorem dX5_next_28 : decode cX5_next 28 = .ok (.ifCond .lt 5, 3) := by decide +kernel
theorem dX5_next_31 : decode cX5_next 31 = .ok (.iload_n 2, 1) := by decide +kernel
theorem dX5_next_32 : decode cX5_next 32 = .ok (.ireturn, 1) := by decide +kernel
theorem dX5_next_33 : decode cX5_next 33 = .ok (.iinc 1 1, 3) := by decide +kernel
theorem dX5_next_36 : decode cX5_next 36 = .ok (.goto (-23), 3) := by decide +kernel
theorem dX5_next_39 : decode cX5_next 39 = .ok (.bipush (-3), 2) := by decide +kernel
theorem dX5_next_41 : decode cX5_next 41 = .ok (.ireturn, 1) := by decide +kernel
theorem dX5_latest_0 : decode cX5_latest 0 = .ok (.aload_n 0, 1) := by decide +kernel
theorem dX5_latest_1 : decode cX5_latest 1 = .ok (.getfield 16, 3) := by decide +kernel
theorem dX5_latest_4 : decode cX5_latest 4 = .ok (.aload_n 0, 1) := by decide +kernel
theorem dX5_latest_5 : decode cX5_latest 5 = .ok (.getfield 10, 3) := by decide +kernel
theorem dX5_latest_8 : decode cX5_latest 8 = .ok (.invokevirtual 76, 3) := by decide +kernel
theorem dX5_latest_11 : decode cX5_latest 11 = .ok (.bipush (-3), 2) := by decide +kernel
theorem dX5_latest_13 : decode cX5_latest 13 = .ok (.istore_n 1, 1) := by decide +kernel
theorem dX5_latest_14 : decode cX5_latest 14 = .ok (.iconst 0, 1) := by decide +kernel
theorem dX5_latest_15 : decode cX5_latest 15 = .ok (.istore_n 2, 1) := by decide +kernel
theorem dX5_latest_16 : decode cX5_latest 16 = .ok (.iload_n 2, 1) := by decide +kernel
theorem dX5_latest_17 : decode cX5_latest 17 = .ok (.bipush 60, 2) := by decide +kernel
theorem dX5_latest_19 : decode cX5_latest 19 = .ok (.if_icmp .ge 23, 3) := by decide +kernel
theorem dX5_latest_22 : decode cX5_latest 22 = .ok (.aload_n 0, 1) := by decide +kernel
theorem dX5_latest_23 : decode cX5_latest 23 = .ok (.getfield 16, 3) := by decide +kernel
theorem dX5_latest_26 : decode cX5_latest 26 = .ok (.invokevirtual 142, 3) := by decide +kernel
theorem dX5_latest_29 : decode cX5_latest 29 = .ok (.istore_n 3, 1) := by decide +kernel
theorem dX5_latest_30 : decode cX5_latest 30 = .ok (.iload_n 3, 1) := by decide +kernel
theorem dX5_latest_31 : decode cX5_latest 31 = .ok (.ifCond .lt 5, 3) := by decide +kernel
theorem dX5_latest_34 : decode cX5_latest 34 = .ok (.iload_n 3, 1) := by decide +kernel
theorem dX5_latest_35 : decode cX5_latest 35 = .ok (.istore_n 1, 1) := by decide +kernel
theorem dX5_latest_36 : decode cX5_latest 36 = .ok (.iinc 2 1, 3) := by decide +kernel
theorem dX5_latest_39 : decode cX5_latest 39 = .ok (.goto (-23), 3) := by decide +kernel
theorem dX5_latest_42 : decode cX5_latest 42 = .ok (.iconst 0, 1) := by decide +kernel
theorem dX5_latest_43 : decode cX5_latest 43 = .ok (.istore_n 2, 1) := by decide +kernel
theorem dX5_latest_44 : decode cX5_latest 44 = .ok (.iload_n 2, 1) := by decide +kernel
theorem dX5_latest_45 : decode cX5_latest 45 = .ok (.aload_n 0, 1) := by decide +kernel
theorem dX5_latest_46 : decode cX5_latest 46 = .ok (.getfield 16, 3) := by decide +kernel
theorem dX5_latest_49 : decode cX5_latest 49 = .ok (.getfield 83, 3) := by decide +kernel
theorem dX5_latest_52 : decode cX5_latest 52 = .ok (.if_icmp .ge 22, 3) := by decide +kernel
theorem dX5_latest_55 : decode cX5_latest 55 = .ok (.aload_n 0, 1) := by decide +kernel
theorem dX5_latest_56 : decode cX5_latest 56 = .ok (.getfield 16, 3) := by decide +kernel
theorem dX5_latest_59 : decode cX5_latest 59 = .ok (.iload_n 2, 1) := by decide +kernel
theorem dX5_latest_60 : decode cX5_latest 60 = .ok (.invokevirtual 113, 3) := by decide +kernel
theorem dX5_latest_63 : decode cX5_latest 63 = .ok (.ifCond .eq 5, 3) := by decide +kernel
theorem dX5_latest_66 : decode cX5_latest 66 = .ok (.iload_n 2, 1) := by decide +kernel
theorem dX5_latest_67 : decode cX5_latest 67 = .ok (.ireturn, 1) := by decide +kernel
theorem dX5_latest_68 : decode cX5_latest 68 = .ok (.iinc 2 1, 3) := by decide +kernel
theorem dX5_latest_71 : decode cX5_latest 71 = .ok (.goto (-27), 3) := by decide +kernel
theorem dX5_latest_74 : decode cX5_latest 74 = .ok (.iload_n 1, 1) := by decide +kernel
theorem dX5_latest_75 : decode cX5_latest 75 = .ok (.ireturn, 1) := by decide +kernel
theorem dX5_boughFor_0 : decode cX5_boughFor 0 = .ok (.aload_n 0, 1) := by decide +kernel
theorem dX5_boughFor_1 : decode cX5_boughFor 1 = .ok (.getfield 10, 3) := by decide +kernel
theorem dX5_boughFor_4 : decode cX5_boughFor 4 = .ok (.iload_n 1, 1) := by decide +kernel
theorem dX5_boughFor_5 : decode cX5_boughFor 5 = .ok (.invokevirtual 97, 3) := by decide +kernel
theorem dX5_boughFor_8 : decode cX5_boughFor 8 = .ok (.ifCond .ne 5, 3) := by decide +kernel
theorem dX5_boughFor_11 : decode cX5_boughFor 11 = .ok (.iconst (-1), 1) := by decide +kernel
theorem dX5_boughFor_12 : decode cX5_boughFor 12 = .ok (.ireturn, 1) := by decide +kernel
theorem dX5_boughFor_13 : decode cX5_boughFor 13 = .ok (.aload_n 0, 1) := by decide +kernel
theorem dX5_boughFor_14 : decode cX5_boughFor 14 = .ok (.getfield 10, 3) := by decide +kernel
theorem dX5_boughFor_17 : decode cX5_boughFor 17 = .ok (.iload_n 1, 1) := by decide +kernel
theorem dX5_boughFor_18 : decode cX5_boughFor 18 = .ok (.invokevirtual 113, 3) := by decide +kernel
theorem dX5_boughFor_21 : decode cX5_boughFor 21 = .ok (.ifCond .ne 6, 3) := by decide +kernel
theorem dX5_boughFor_24 : decode cX5_boughFor 24 = .ok (.bipush (-3), 2) := by decide +kernel
theorem dX5_boughFor_26 : decode cX5_boughFor 26 = .ok (.ireturn, 1) := by decide +kernel
theorem dX5_boughFor_27 : decode cX5_boughFor 27 = .ok (.iconst 0, 1) := by decide +kernel
theorem dX5_boughFor_28 : decode cX5_boughFor 28 = .ok (.istore_n 2, 1) := by decide +kernel
theorem dX5_boughFor_29 : decode cX5_boughFor 29 = .ok (.iconst (-1), 1) := by decide +kernel
theorem dX5_boughFor_30 : decode cX5_boughFor 30 = .ok (.istore_n 3, 1) := by decide +kernel
theorem dX5_boughFor_31 : decode cX5_boughFor 31 = .ok (.iconst 0, 1) := by decide +kernel
theorem dX5_boughFor_32 : decode cX5_boughFor 32 = .ok (.istore 4, 2) := by decide +kernel
theorem dX5_boughFor_34 : decode cX5_boughFor 34 = .ok (.iload 4, 2) := by decide +kernel
theorem dX5_boughFor_36 : decode cX5_boughFor 36 = .ok (.bipush 6, 2) := by decide +kernel
theorem dX5_boughFor_38 : decode cX5_boughFor 38 = .ok (.if_icmp .ge 50, 3) := by decide +kernel
theorem dX5_boughFor_41 : decode cX5_boughFor 41 = .ok (.aload_n 0, 1) := by decide +kernel
theorem dX5_boughFor_42 : decode cX5_boughFor 42 = .ok (.getfield 16, 3) := by decide +kernel
theorem dX5_boughFor_45 : decode cX5_boughFor 45 = .ok (.aload_n 0, 1) := by decide +kernel
theorem dX5_boughFor_46 : decode cX5_boughFor 46 = .ok (.getfield 10, 3) := by decide +kernel
theorem dX5_boughFor_49 : decode cX5_boughFor 49 = .ok (.invokevirtual 76, 3) := by decide +kernel
theorem dX5_boughFor_52 : decode cX5_boughFor 52 = .ok (.aload_n 0, 1) := by decide +kernel
theorem dX5_boughFor_53 : decode cX5_boughFor 53 = .ok (.getfield 16, 3) := by decide +kernel
theorem dX5_boughFor_56 : decode cX5_boughFor 56 = .ok (.getfield 104, 3) := by decide +kernel
theorem dX5_boughFor_59 : decode cX5_boughFor 59 = .ok (.iload_n 1, 1) := by decide +kernel
theorem dX5_boughFor_60 : decode cX5_boughFor 60 = .ok (.iload 4, 2) := by decide +kernel
theorem dX5_boughFor_62 : decode cX5_boughFor 62 = .ok (.iastore, 1) := by decide +kernel
theorem dX5_boughFor_63 : decode cX5_boughFor 63 = .ok (.aload_n 0, 1) := by decide +kernel
theorem dX5_boughFor_64 : decode cX5_boughFor 64 = .ok (.iload_n 1, 1) := by decide +kernel
theorem dX5_boughFor_65 : decode cX5_boughFor 65 = .ok (.invokevirtual 172, 3) := by decide +kernel
theorem dX5_boughFor_68 : decode cX5_boughFor 68 = .ok (.istore 5, 2) := by decide +kernel
theorem dX5_boughFor_70 : decode cX5_boughFor 70 = .ok (.iload 5, 2) := by decide +kernel
theorem dX5_boughFor_72 : decode cX5_boughFor 72 = .ok (.iload_n 3, 1) := by decide +kernel
theorem dX5_boughFor_73 : decode cX5_boughFor 73 = .ok (.if_icmp .le 9, 3) := by decide +kernel
theorem dX5_boughFor_76 : decode cX5_boughFor 76 = .ok (.iload 5, 2) := by decide +kernel
theorem dX5_boughFor_78 : decode cX5_boughFor 78 = .ok (.istore_n 3, 1) := by decide +kernel
theorem dX5_boughFor_79 : decode cX5_boughFor 79 = .ok (.iload 4, 2) := by decide +kernel
theorem dX5_boughFor_81 : decode cX5_boughFor 81 = .ok (.istore_n 2, 1) := by decide +kernel
theorem dX5_boughFor_82 : decode cX5_boughFor 82 = .ok (.iinc 4 1, 3) := by decide +kernel
theorem dX5_boughFor_85 : decode cX5_boughFor 85 = .ok (.goto (-51), 3) := by decide +kernel
theorem dX5_boughFor_88 : decode cX5_boughFor 88 = .ok (.iload_n 2, 1) := by decide +kernel
theorem dX5_boughFor_89 : decode cX5_boughFor 89 = .ok (.ireturn, 1) := by decide +kernel
theorem dX5_kindFor_0 : decode cX5_kindFor 0 = .ok (.aload_n 0, 1) := by decide +kernel
theorem dX5_kindFor_1 : decode cX5_kindFor 1 = .ok (.getfield 10, 3) := by decide +kernel
theorem dX5_kindFor_4 : decode cX5_kindFor 4 = .ok (.iload_n 1, 1) := by decide +kernel
theorem dX5_kindFor_5 : decode cX5_kindFor 5 = .ok (.invokevirtual 97, 3) := by decide +kernel
theorem dX5_kindFor_8 : decode cX5_kindFor 8 = .ok (.ifCond .ne 5, 3) := by decide +kernel
theorem dX5_kindFor_11 : decode cX5_kindFor 11 = .ok (.iconst (-1), 1) := by decide +kernel
theorem dX5_kindFor_12 : decode cX5_kindFor 12 = .ok (.ireturn, 1) := by decide +kernel
theorem dX5_kindFor_13 : decode cX5_kindFor 13 = .ok (.aload_n 0, 1) := by decide +kernel
theorem dX5_kindFor_14 : decode cX5_kindFor 14 = .ok (.getfield 10, 3) := by decide +kernel
theorem dX5_kindFor_17 : decode cX5_kindFor 17 = .ok (.iload_n 1, 1) := by decide +kernel
theorem dX5_kindFor_18 : decode cX5_kindFor 18 = .ok (.invokevirtual 113, 3) := by decide +kernel
theorem dX5_kindFor_21 : decode cX5_kindFor 21 = .ok (.ifCond .ne 6, 3) := by decide +kernel
theorem dX5_kindFor_24 : decode cX5_kindFor 24 = .ok (.bipush (-3), 2) := by decide +kernel
theorem dX5_kindFor_26 : decode cX5_kindFor 26 = .ok (.ireturn, 1) := by decide +kernel
theorem dX5_kindFor_27 : decode cX5_kindFor 27 = .ok (.iconst 0, 1) := by decide +kernel
theorem dX5_kindFor_28 : decode cX5_kindFor 28 = .ok (.istore_n 2, 1) := by decide +kernel
theorem dX5_kindFor_29 : decode cX5_kindFor 29 = .ok (.iconst (-1), 1) := by decide +kernel
theorem dX5_kindFor_30 : decode cX5_kindFor 30 = .ok (.istore_n 3, 1) := by decide +kernel
theorem dX5_kindFor_31 : decode cX5_kindFor 31 = .ok (.iconst 0, 1) := by decide +kernel
theorem dX5_kindFor_32 : decode cX5_kindFor 32 = .ok (.istore 4, 2) := by decide +kernel
theorem dX5_kindFor_34 : decode cX5_kindFor 34 = .ok (.iload 4, 2) := by decide +kernel
theorem dX5_kindFor_36 : decode cX5_kindFor 36 = .ok (.bipush 6, 2) := by decide +kernel
theorem dX5_kindFor_38 : decode cX5_kindFor 38 = .ok (.if_icmp .ge 50, 3) := by decide +kernel
theorem dX5_kindFor_41 : decode cX5_kindFor 41 = .ok (.aload_n 0, 1) := by decide +kernel
theorem dX5_kindFor_42 : decode cX5_kindFor 42 = .ok (.getfield 16, 3) := by decide +kernel
theorem dX5_kindFor_45 : decode cX5_kindFor 45 = .ok (.aload_n 0, 1) := by decide +kernel
theorem dX5_kindFor_46 : decode cX5_kindFor 46 = .ok (.getfield 10, 3) := by decide +kernel
theorem dX5_kindFor_49 : decode cX5_kindFor 49 = .ok (.invokevirtual 76, 3) := by decide +kernel
theorem dX5_kindFor_52 : decode cX5_kindFor 52 = .ok (.aload_n 0, 1) := by decide +kernel
theorem dX5_kindFor_53 : decode cX5_kindFor 53 = .ok (.getfield 16, 3) := by decide +kernel
theorem dX5_kindFor_56 : decode cX5_kindFor 56 = .ok (.getfield 101, 3) := by decide +kernel
theorem dX5_kindFor_59 : decode cX5_kindFor 59 = .ok (.iload_n 1, 1) := by decide +kernel
theorem dX5_kindFor_60 : decode cX5_kindFor 60 = .ok (.iload 4, 2) := by decide +kernel
theorem dX5_kindFor_62 : decode cX5_kindFor 62 = .ok (.iastore, 1) := by decide +kernel
theorem dX5_kindFor_63 : decode cX5_kindFor 63 = .ok (.aload_n 0, 1) := by decide +kernel
theorem dX5_kindFor_64 : decode cX5_kindFor 64 = .ok (.iload_n 1, 1) := by decide +kernel
theorem dX5_kindFor_65 : decode cX5_kindFor 65 = .ok (.invokevirtual 172, 3) := by decide +kernel
theorem dX5_kindFor_68 : decode cX5_kindFor 68 = .ok (.istore 5, 2) := by decide +kernel
theorem dX5_kindFor_70 : decode cX5_kindFor 70 = .ok (.iload 5, 2) := by decide +kernel
theorem dX5_kindFor_72 : decode cX5_kindFor 72 = .ok (.iload_n 3, 1) := by decide +kernel
theorem dX5_kindFor_73 : decode cX5_kindFor 73 = .ok (.if_icmp .le 9, 3) := by decide +kernel
theorem dX5_kindFor_76 : decode cX5_kindFor 76 = .ok (.iload 5, 2) := by decide +kernel
theorem dX5_kindFor_78 : decode cX5_kindFor 78 = .ok (.istore_n 3, 1) := by decide +kernel
theorem dX5_kindFor_79 : decode cX5_kindFor 79 = .ok (.iload 4, 2) := by decide +kernel
theorem dX5_kindFor_81 : decode cX5_kindFor 81 = .ok (.istore_n 2, 1) := by decide +kernel
theorem dX5_kindFor_82 : decode cX5_kindFor 82 = .ok (.iinc 4 1, 3) := by decide +kernel
theorem dX5_kindFor_85 : decode cX5_kindFor 85 = .ok (.goto (-51), 3) := by decide +kernel
theorem dX5_kindFor_88 : decode cX5_kindFor 88 = .ok (.iload_n 2, 1) := by decide +kernel
theorem dX5_kindFor_89 : decode cX5_kindFor 89 = .ok (.ireturn, 1) := by decide +kernel
theorem dX5_holdFor_0 : decode cX5_holdFor 0 = .ok (.aload_n 0, 1) := by decide +kernel
theorem dX5_holdFor_1 : decode cX5_holdFor 1 = .ok (.getfield 10, 3) := by decide +kernel
theorem dX5_holdFor_4 : decode cX5_holdFor 4 = .ok (.iload_n 1, 1) := by decide +kernel
theorem dX5_holdFor_5 : decode cX5_holdFor 5 = .ok (.invokevirtual 97, 3) := by decide +kernel
theorem dX5_holdFor_8 : decode cX5_holdFor 8 = .ok (.ifCond .eq 13, 3) := by decide +kernel
theorem dX5_holdFor_11 : decode cX5_holdFor 11 = .ok (.iload_n 2, 1) := by decide +kernel
theorem dX5_holdFor_12 : decode cX5_holdFor 12 = .ok (.iconst 1, 1) := by decide +kernel
theorem dX5_holdFor_13 : decode cX5_holdFor 13 = .ok (.bipush 20, 2) := by decide +kernel
theorem dX5_holdFor_15 : decode cX5_holdFor 15 = .ok (.invokestatic 54, 3) := by decide +kernel
theorem dX5_holdFor_18 : decode cX5_holdFor 18 = .ok (.ifCond .ne 5, 3) := by decide +kernel
theorem dX5_holdFor_21 : decode cX5_holdFor 21 = .ok (.iconst (-1), 1) := by decide +kernel
theorem dX5_holdFor_22 : decode cX5_holdFor 22 = .ok (.ireturn, 1) := by decide +kernel
theorem dX5_holdFor_23 : decode cX5_holdFor 23 = .ok (.aload_n 0, 1) := by decide +kernel
theorem dX5_holdFor_24 : decode cX5_holdFor 24 = .ok (.getfield 10, 3) := by decide +kernel
theorem dX5_holdFor_27 : decode cX5_holdFor 27 = .ok (.iload_n 1, 1) := by decide +kernel
theorem dX5_holdFor_28 : decode cX5_holdFor 28 = .ok (.invokevirtual 113, 3) := by decide +kernel
theorem dX5_holdFor_31 : decode cX5_holdFor 31 = .ok (.ifCond .ne 6, 3) := by decide +kernel
theorem dX5_holdFor_34 : decode cX5_holdFor 34 = .ok (.bipush (-3), 2) := by decide +kernel
theorem dX5_holdFor_36 : decode cX5_holdFor 36 = .ok (.ireturn, 1) := by decide +kernel
theorem dX5_holdFor_37 : decode cX5_holdFor 37 = .ok (.iconst 0, 1) := by decide +kernel
theorem dX5_holdFor_38 : decode cX5_holdFor 38 = .ok (.istore_n 3, 1) := by decide +kernel
theorem dX5_holdFor_39 : decode cX5_holdFor 39 = .ok (.iload_n 3, 1) := by decide +kernel
theorem dX5_holdFor_40 : decode cX5_holdFor 40 = .ok (.bipush 99, 2) := by decide +kernel
theorem dX5_holdFor_42 : decode cX5_holdFor 42 = .ok (.if_icmp .gt 41, 3) := by decide +kernel
theorem dX5_holdFor_45 : decode cX5_holdFor 45 = .ok (.aload_n 0, 1) := by decide +kernel
theorem dX5_holdFor_46 : decode cX5_holdFor 46 = .ok (.getfield 16, 3) := by decide +kernel
theorem dX5_holdFor_49 : decode cX5_holdFor 49 = .ok (.aload_n 0, 1) := by decide +kernel
theorem dX5_holdFor_50 : decode cX5_holdFor 50 = .ok (.getfield 10, 3) := by decide +kernel
theorem dX5_holdFor_53 : decode cX5_holdFor 53 = .ok (.invokevirtual 76, 3) := by decide +kernel
theorem dX5_holdFor_56 : decode cX5_holdFor 56 = .ok (.aload_n 0, 1) := by decide +kernel
theorem dX5_holdFor_57 : decode cX5_holdFor 57 = .ok (.getfield 16, 3) := by decide +kernel
theorem dX5_holdFor_60 : decode cX5_holdFor 60 = .ok (.getfield 107, 3) := by decide +kernel
theorem dX5_holdFor_63 : decode cX5_holdFor 63 = .ok (.iload_n 1, 1) := by decide +kernel
theorem dX5_holdFor_64 : decode cX5_holdFor 64 = .ok (.iload_n 3, 1) := by decide +kernel
theorem dX5_holdFor_65 : decode cX5_holdFor 65 = .ok (.iastore, 1) := by decide +kernel
theorem dX5_holdFor_66 : decode cX5_holdFor 66 = .ok (.aload_n 0, 1) := by decide +kernel
theorem dX5_holdFor_67 : decode cX5_holdFor 67 = .ok (.iload_n 1, 1) := by decide +kernel
theorem dX5_holdFor_68 : decode cX5_holdFor 68 = .ok (.iload_n 2, 1) := by decide +kernel
theorem dX5_holdFor_69 : decode cX5_holdFor 69 = .ok (.invokevirtual 175, 3) := by decide +kernel
theorem dX5_holdFor_72 : decode cX5_holdFor 72 = .ok (.ifCond .eq 5, 3) := by decide +kernel
theorem dX5_holdFor_75 : decode cX5_holdFor 75 = .ok (.iload_n 3, 1) := by decide +kernel
theorem dX5_holdFor_76 : decode cX5_holdFor 76 = .ok (.ireturn, 1) := by decide +kernel
theorem dX5_holdFor_77 : decode cX5_holdFor 77 = .ok (.iinc 3 1, 3) := by decide +kernel
theorem dX5_holdFor_80 : decode cX5_holdFor 80 = .ok (.goto (-41), 3) := by decide +kernel
theorem dX5_holdFor_83 : decode cX5_holdFor 83 = .ok (.bipush (-3), 2) := by decide +kernel
theorem dX5_holdFor_85 : decode cX5_holdFor 85 = .ok (.ireturn, 1) := by decide +kernel
theorem dX5_tiedFor_0 : decode cX5_tiedFor 0 = .ok (.aload_n 0, 1) := by decide +kernel
theorem dX5_tiedFor_1 : decode cX5_tiedFor 1 = .ok (.getfield 10, 3) := by decide +kernel
theorem dX5_tiedFor_4 : decode cX5_tiedFor 4 = .ok (.iload_n 1, 1) := by decide +kernel
theorem dX5_tiedFor_5 : decode cX5_tiedFor 5 = .ok (.invokevirtual 97, 3) := by decide +kernel
theorem dX5_tiedFor_8 : decode cX5_tiedFor 8 = .ok (.ifCond .eq 13, 3) := by decide +kernel
theorem dX5_tiedFor_11 : decode cX5_tiedFor 11 = .ok (.iload_n 2, 1) := by decide +kernel
theorem dX5_tiedFor_12 : decode cX5_tiedFor 12 = .ok (.iconst 1, 1) := by decide +kernel
theorem dX5_tiedFor_13 : decode cX5_tiedFor 13 = .ok (.bipush 20, 2) := by decide +kernel
theorem dX5_tiedFor_15 : decode cX5_tiedFor 15 = .ok (.invokestatic 54, 3) := by decide +kernel
theorem dX5_tiedFor_18 : decode cX5_tiedFor 18 = .ok (.ifCond .ne 5, 3) := by decide +kernel
theorem dX5_tiedFor_21 : decode cX5_tiedFor 21 = .ok (.iconst (-1), 1) := by decide +kernel
theorem dX5_tiedFor_22 : decode cX5_tiedFor 22 = .ok (.ireturn, 1) := by decide +kernel
theorem dX5_tiedFor_23 : decode cX5_tiedFor 23 = .ok (.aload_n 0, 1) := by decide +kernel
theorem dX5_tiedFor_24 : decode cX5_tiedFor 24 = .ok (.getfield 10, 3) := by decide +kernel
theorem dX5_tiedFor_27 : decode cX5_tiedFor 27 = .ok (.iload_n 1, 1) := by decide +kernel
theorem dX5_tiedFor_28 : decode cX5_tiedFor 28 = .ok (.invokevirtual 113, 3) := by decide +kernel
theorem dX5_tiedFor_31 : decode cX5_tiedFor 31 = .ok (.ifCond .ne 6, 3) := by decide +kernel
theorem dX5_tiedFor_34 : decode cX5_tiedFor 34 = .ok (.bipush (-3), 2) := by decide +kernel
theorem dX5_tiedFor_36 : decode cX5_tiedFor 36 = .ok (.ireturn, 1) := by decide +kernel
theorem dX5_tiedFor_37 : decode cX5_tiedFor 37 = .ok (.aload_n 0, 1) := by decide +kernel
theorem dX5_tiedFor_38 : decode cX5_tiedFor 38 = .ok (.getfield 10, 3) := by decide +kernel
theorem dX5_tiedFor_41 : decode cX5_tiedFor 41 = .ok (.invokevirtual 157, 3) := by decide +kernel
theorem dX5_tiedFor_44 : decode cX5_tiedFor 44 = .ok (.iconst 1, 1) := by decide +kernel
theorem dX5_tiedFor_45 : decode cX5_tiedFor 45 = .ok (.iload_n 1, 1) := by decide +kernel
theorem dX5_tiedFor_46 : decode cX5_tiedFor 46 = .ok (.ishl, 1) := by decide +kernel
theorem dX5_tiedFor_47 : decode cX5_tiedFor 47 = .ok (.iconst (-1), 1) := by decide +kernel
theorem dX5_tiedFor_48 : decode cX5_tiedFor 48 = .ok (.ixor, 1) := by decide +kernel
theorem dX5_tiedFor_49 : decode cX5_tiedFor 49 = .ok (.iand, 1) := by decide +kernel
theorem dX5_tiedFor_50 : decode cX5_tiedFor 50 = .ok (.istore_n 3, 1) := by decide +kernel
theorem dX5_tiedFor_51 : decode cX5_tiedFor 51 = .ok (.bipush (-3), 2) := by decide +kernel
theorem dX5_tiedFor_53 : decode cX5_tiedFor 53 = .ok (.istore 4, 2) := by decide +kernel
theorem dX5_tiedFor_55 : decode cX5_tiedFor 55 = .ok (.bipush 9, 2) := by decide +kernel
theorem dX5_tiedFor_57 : decode cX5_tiedFor 57 = .ok (.istore 5, 2) := by decide +kernel
theorem dX5_tiedFor_59 : decode cX5_tiedFor 59 = .ok (.iconst 0, 1) := by decide +kernel
theorem dX5_tiedFor_60 : decode cX5_tiedFor 60 = .ok (.istore 6, 2) := by decide +kernel
theorem dX5_tiedFor_62 : decode cX5_tiedFor 62 = .ok (.iload 6, 2) := by decide +kernel
theorem dX5_tiedFor_64 : decode cX5_tiedFor 64 = .ok (.sipush 256, 3) := by decide +kernel
theorem dX5_tiedFor_67 : decode cX5_tiedFor 67 = .ok (.if_icmp .ge 68, 3) := by decide +kernel
theorem dX5_tiedFor_70 : decode cX5_tiedFor 70 = .ok (.iload 6, 2) := by decide +kernel
theorem dX5_tiedFor_72 : decode cX5_tiedFor 72 = .ok (.iload_n 3, 1) := by decide +kernel
theorem dX5_tiedFor_73 : decode cX5_tiedFor 73 = .ok (.iconst (-1), 1) := by decide +kernel
theorem dX5_tiedFor_74 : decode cX5_tiedFor 74 = .ok (.ixor, 1) := by decide +kernel
theorem dX5_tiedFor_75 : decode cX5_tiedFor 75 = .ok (.iand, 1) := by decide +kernel
theorem dX5_tiedFor_76 : decode cX5_tiedFor 76 = .ok (.ifCond .ne 53, 3) := by decide +kernel
theorem dX5_tiedFor_79 : decode cX5_tiedFor 79 = .ok (.iload 6, 2) := by decide +kernel
theorem dX5_tiedFor_81 : decode cX5_tiedFor 81 = .ok (.invokestatic 179, 3) := by decide +kernel
theorem dX5_tiedFor_84 : decode cX5_tiedFor 84 = .ok (.iload 5, 2) := by decide +kernel
theorem dX5_tiedFor_86 : decode cX5_tiedFor 86 = .ok (.if_icmp .ge 43, 3) := by decide +kernel
theorem dX5_tiedFor_89 : decode cX5_tiedFor 89 = .ok (.aload_n 0, 1) := by decide +kernel
theorem dX5_tiedFor_90 : decode cX5_tiedFor 90 = .ok (.getfield 16, 3) := by decide +kernel
theorem dX5_tiedFor_93 : decode cX5_tiedFor 93 = .ok (.aload_n 0, 1) := by decide +kernel
theorem dX5_tiedFor_94 : decode cX5_tiedFor 94 = .ok (.getfield 10, 3) := by decide +kernel
theorem dX5_tiedFor_97 : decode cX5_tiedFor 97 = .ok (.invokevirtual 76, 3) := by decide +kernel
theorem dX5_tiedFor_100 : decode cX5_tiedFor 100 = .ok (.aload_n 0, 1) := by decide +kernel
theorem dX5_tiedFor_101 : decode cX5_tiedFor 101 = .ok (.getfield 16, 3) := by decide +kernel
theorem dX5_tiedFor_104 : decode cX5_tiedFor 104 = .ok (.iload 6, 2) := by decide +kernel
theorem dX5_tiedFor_106 : decode cX5_tiedFor 106 = .ok (.putfield 184, 3) := by decide +kernel
theorem dX5_tiedFor_109 : decode cX5_tiedFor 109 = .ok (.aload_n 0, 1) := by decide +kernel
theorem dX5_tiedFor_110 : decode cX5_tiedFor 110 = .ok (.iload_n 1, 1) := by decide +kernel
theorem dX5_tiedFor_111 : decode cX5_tiedFor 111 = .ok (.iload_n 2, 1) := by decide +kernel
theorem dX5_tiedFor_112 : decode cX5_tiedFor 112 = .ok (.invokevirtual 175, 3) := by decide +kernel
theorem dX5_tiedFor_115 : decode cX5_tiedFor 115 = .ok (.ifCond .eq 14, 3) := by decide +kernel
theorem dX5_tiedFor_118 : decode cX5_tiedFor 118 = .ok (.iload 6, 2) := by decide +kernel
theorem dX5_tiedFor_120 : decode cX5_tiedFor 120 = .ok (.istore 4, 2) := by decide +kernel
theorem dX5_tiedFor_122 : decode cX5_tiedFor 122 = .ok (.iload 6, 2) := by decide +kernel
theorem dX5_tiedFor_124 : decode cX5_tiedFor 124 = .ok (.invokestatic 179, 3) := by decide +kernel
theorem dX5_tiedFor_127 : decode cX5_tiedFor 127 = .ok (.istore 5, 2) := by decide +kernel
theorem dX5_tiedFor_129 : decode cX5_tiedFor 129 = .ok (.iinc 6 1, 3) := by decide +kernel
theorem dX5_tiedFor_132 : decode cX5_tiedFor 132 = .ok (.goto (-70), 3) := by decide +kernel
theorem dX5_tiedFor_135 : decode cX5_tiedFor 135 = .ok (.iload 4, 2) := by decide +kernel
theorem dX5_tiedFor_137 : decode cX5_tiedFor 137 = .ok (.ireturn, 1) := by decide +kernel
theorem dX5_fits_0 : decode cX5_fits 0 = .ok (.iload_n 1, 1) := by decide +kernel
theorem dX5_fits_1 : decode cX5_fits 1 = .ok (.iconst 0, 1) := by decide +kernel
theorem dX5_fits_2 : decode cX5_fits 2 = .ok (.iconst 3, 1) := by decide +kernel
theorem dX5_fits_3 : decode cX5_fits 3 = .ok (.invokestatic 54, 3) := by decide +kernel
theorem dX5_fits_6 : decode cX5_fits 6 = .ok (.ifCond .eq 23, 3) := by decide +kernel
theorem dX5_fits_9 : decode cX5_fits 9 = .ok (.aload_n 0, 1) := by decide +kernel
theorem dX5_fits_10 : decode cX5_fits 10 = .ok (.getfield 10, 3) := by decide +kernel
theorem dX5_fits_13 : decode cX5_fits 13 = .ok (.iload_n 2, 1) := by decide +kernel
theorem dX5_fits_14 : decode cX5_fits 14 = .ok (.invokevirtual 97, 3) := by decide +kernel
theorem dX5_fits_17 : decode cX5_fits 17 = .ok (.ifCond .eq 12, 3) := by decide +kernel
theorem dX5_fits_20 : decode cX5_fits 20 = .ok (.iload_n 3, 1) := by decide +kernel
theorem dX5_fits_21 : decode cX5_fits 21 = .ok (.iconst 0, 1) := by decide +kernel
theorem dX5_fits_22 : decode cX5_fits 22 = .ok (.iconst 1, 1) := by decide +kernel
theorem dX5_fits_23 : decode cX5_fits 23 = .ok (.invokestatic 54, 3) := by decide +kernel
theorem dX5_fits_26 : decode cX5_fits 26 = .ok (.ifCond .ne 5, 3) := by decide +kernel
theorem dX5_fits_29 : decode cX5_fits 29 = .ok (.iconst (-1), 1) := by decide +kernel
theorem dX5_fits_30 : decode cX5_fits 30 = .ok (.ireturn, 1) := by decide +kernel
theorem dX5_fits_31 : decode cX5_fits 31 = .ok (.aload_n 0, 1) := by decide +kernel
theorem dX5_fits_32 : decode cX5_fits 32 = .ok (.getfield 35, 3) := by decide +kernel
theorem dX5_fits_35 : decode cX5_fits 35 = .ok (.iload_n 1, 1) := by decide +kernel
theorem dX5_fits_36 : decode cX5_fits 36 = .ok (.aaload, 1) := by decide +kernel
theorem dX5_fits_37 : decode cX5_fits 37 = .ok (.astore 4, 2) := by decide +kernel
theorem dX5_fits_39 : decode cX5_fits 39 = .ok (.aload 4, 2) := by decide +kernel
theorem dX5_fits_41 : decode cX5_fits 41 = .ok (.invokevirtual 187, 3) := by decide +kernel
theorem dX5_fits_44 : decode cX5_fits 44 = .ok (.ifCond .eq 6, 3) := by decide +kernel
theorem dX5_fits_47 : decode cX5_fits 47 = .ok (.bipush (-11), 2) := by decide +kernel
theorem dX5_fits_49 : decode cX5_fits 49 = .ok (.ireturn, 1) := by decide +kernel
theorem dX5_fits_50 : decode cX5_fits 50 = .ok (.iconst 0, 1) := by decide +kernel
theorem dX5_fits_51 : decode cX5_fits 51 = .ok (.istore 5, 2) := by decide +kernel
theorem dX5_fits_53 : decode cX5_fits 53 = .ok (.iconst 0, 1) := by decide +kernel
theorem dX5_fits_54 : decode cX5_fits 54 = .ok (.istore 6, 2) := by decide +kernel
theorem dX5_fits_56 : decode cX5_fits 56 = .ok (.iload 6, 2) := by decide +kernel
theorem dX5_fits_58 : decode cX5_fits 58 = .ok (.bipush 99, 2) := by decide +kernel
theorem dX5_fits_60 : decode cX5_fits 60 = .ok (.if_icmp .gt 32, 3) := by decide +kernel
theorem dX5_fits_63 : decode cX5_fits 63 = .ok (.aload_n 0, 1) := by decide +kernel
theorem dX5_fits_64 : decode cX5_fits 64 = .ok (.aload 4, 2) := by decide +kernel
theorem dX5_fits_66 : decode cX5_fits 66 = .ok (.iload_n 2, 1) := by decide +kernel
theorem dX5_fits_67 : decode cX5_fits 67 = .ok (.iload 6, 2) := by decide +kernel
theorem dX5_fits_69 : decode cX5_fits 69 = .ok (.invokevirtual 191, 3) := by decide +kernel
theorem dX5_fits_72 : decode cX5_fits 72 = .ok (.ifCond .eq 14, 3) := by decide +kernel
theorem dX5_fits_75 : decode cX5_fits 75 = .ok (.iload_n 3, 1) := by decide +kernel
theorem dX5_fits_76 : decode cX5_fits 76 = .ok (.iconst 1, 1) := by decide +kernel
theorem dX5_fits_77 : decode cX5_fits 77 = .ok (.if_icmp .ne 6, 3) := by decide +kernel
theorem dX5_fits_80 : decode cX5_fits 80 = .ok (.iload 6, 2) := by decide +kernel
theorem dX5_fits_82 : decode cX5_fits 82 = .ok (.ireturn, 1) := by decide +kernel
theorem dX5_fits_83 : decode cX5_fits 83 = .ok (.iinc 5 1, 3) := by decide +kernel
theorem dX5_fits_86 : decode cX5_fits 86 = .ok (.iinc 6 1, 3) := by decide +kernel
theorem dX5_fits_89 : decode cX5_fits 89 = .ok (.goto (-33), 3) := by decide +kernel
theorem dX5_fits_92 : decode cX5_fits 92 = .ok (.iload_n 3, 1) := by decide +kernel
theorem dX5_fits_93 : decode cX5_fits 93 = .ok (.iconst 1, 1) := by decide +kernel
theorem dX5_fits_94 : decode cX5_fits 94 = .ok (.if_icmp .ne 8, 3) := by decide +kernel
theorem dX5_fits_97 : decode cX5_fits 97 = .ok (.bipush (-3), 2) := by decide +kernel
theorem dX5_fits_99 : decode cX5_fits 99 = .ok (.goto 5, 3) := by decide +kernel
theorem dX5_fits_102 : decode cX5_fits 102 = .ok (.iload 5, 2) := by decide +kernel
theorem dX5_fits_104 : decode cX5_fits 104 = .ok (.ireturn, 1) := by decide +kernel
theorem dX5_odds_0 : decode cX5_odds 0 = .ok (.iload_n 1, 1) := by decide +kernel
theorem dX5_odds_1 : decode cX5_odds 1 = .ok (.iconst 0, 1) := by decide +kernel
theorem dX5_odds_2 : decode cX5_odds 2 = .ok (.bipush 8, 2) := by decide +kernel
theorem dX5_odds_4 : decode cX5_odds 4 = .ok (.invokestatic 54, 3) := by decide +kernel
theorem dX5_odds_7 : decode cX5_odds 7 = .ok (.ifCond .eq 21, 3) := by decide +kernel
theorem dX5_odds_10 : decode cX5_odds 10 = .ok (.iload_n 2, 1) := by decide +kernel
theorem dX5_odds_11 : decode cX5_odds 11 = .ok (.iconst 0, 1) := by decide +kernel
theorem dX5_odds_12 : decode cX5_odds 12 = .ok (.iload_n 1, 1) := by decide +kernel
theorem dX5_odds_13 : decode cX5_odds 13 = .ok (.invokestatic 54, 3) := by decide +kernel
theorem dX5_odds_16 : decode cX5_odds 16 = .ok (.ifCond .eq 12, 3) := by decide +kernel
theorem dX5_odds_19 : decode cX5_odds 19 = .ok (.iload_n 3, 1) := by decide +kernel
theorem dX5_odds_20 : decode cX5_odds 20 = .ok (.iconst 0, 1) := by decide +kernel
theorem dX5_odds_21 : decode cX5_odds 21 = .ok (.iconst 1, 1) := by decide +kernel
theorem dX5_odds_22 : decode cX5_odds 22 = .ok (.invokestatic 54, 3) := by decide +kernel
theorem dX5_odds_25 : decode cX5_odds 25 = .ok (.ifCond .ne 7, 3) := by decide +kernel
theorem dX5_odds_28 : decode cX5_odds 28 = .ok (.ldc2_w 195, 3) := by decide +kernel
theorem dX5_odds_31 : decode cX5_odds 31 = .ok (.lreturn, 1) := by decide +kernel
theorem dX5_odds_32 : decode cX5_odds 32 = .ok (.aload_n 0, 1) := by decide +kernel
theorem dX5_odds_33 : decode cX5_odds 33 = .ok (.getfield 10, 3) := by decide +kernel
theorem dX5_odds_36 : decode cX5_odds 36 = .ok (.getfield 90, 3) := by decide +kernel
theorem dX5_odds_39 : decode cX5_odds 39 = .ok (.iconst 3, 1) := by decide +kernel
theorem dX5_odds_40 : decode cX5_odds 40 = .ok (.iaload, 1) := by decide +kernel
theorem dX5_odds_41 : decode cX5_odds 41 = .ok (.i2l, 1) := by decide +kernel
theorem dX5_odds_42 : decode cX5_odds 42 = .ok (.lstore 4, 2) := by decide +kernel
theorem dX5_odds_44 : decode cX5_odds 44 = .ok (.iload_n 1, 1) := by decide +kernel
theorem dX5_odds_45 : decode cX5_odds 45 = .ok (.iload_n 2, 1) := by decide +kernel
theorem dX5_odds_46 : decode cX5_odds 46 = .ok (.invokestatic 197, 3) := by decide +kernel
theorem dX5_odds_49 : decode cX5_odds 49 = .ok (.lstore 6, 2) := by decide +kernel
theorem dX5_odds_51 : decode cX5_odds 51 = .ok (.lconst 1, 1) := by decide +kernel
theorem dX5_odds_52 : decode cX5_odds 52 = .ok (.lstore 8, 2) := by decide +kernel
theorem dX5_odds_54 : decode cX5_odds 54 = .ok (.iconst 0, 1) := by decide +kernel
theorem dX5_odds_55 : decode cX5_odds 55 = .ok (.istore 10, 2) := by decide +kernel
theorem dX5_odds_57 : decode cX5_odds 57 = .ok (.iload 10, 2) := by decide +kernel
theorem dX5_odds_59 : decode cX5_odds 59 = .ok (.iload_n 1, 1) := by decide +kernel
theorem dX5_odds_60 : decode cX5_odds 60 = .ok (.if_icmp .ge 39, 3) := by decide +kernel
theorem dX5_odds_63 : decode cX5_odds 63 = .ok (.lload 6, 2) := by decide +kernel
theorem dX5_odds_65 : decode cX5_odds 65 = .ok (.iload 10, 2) := by decide +kernel
theorem dX5_odds_67 : decode cX5_odds 67 = .ok (.iload_n 2, 1) := by decide +kernel
theorem dX5_odds_68 : decode cX5_odds 68 = .ok (.if_icmp .ge 8, 3) := by decide +kernel
theorem dX5_odds_71 : decode cX5_odds 71 = .ok (.lload 4, 2) := by decide +kernel
theorem dX5_odds_73 : decode cX5_odds 73 = .ok (.goto 9, 3) := by decide +kernel
theorem dX5_odds_76 : decode cX5_odds 76 = .ok (.ldc2_w 201, 3) := by decide +kernel
theorem dX5_odds_79 : decode cX5_odds 79 = .ok (.lload 4, 2) := by decide +kernel
theorem dX5_odds_81 : decode cX5_odds 81 = .ok (.lsub, 1) := by decide +kernel
theorem dX5_odds_82 : decode cX5_odds 82 = .ok (.lmul, 1) := by decide +kernel
theorem dX5_odds_83 : decode cX5_odds 83 = .ok (.lstore 6, 2) := by decide +kernel
theorem dX5_odds_85 : decode cX5_odds 85 = .ok (.lload 8, 2) := by decide +kernel
theorem dX5_odds_87 : decode cX5_odds 87 = .ok (.ldc2_w 201, 3) := by decide +kernel
theorem dX5_odds_90 : decode cX5_odds 90 = .ok (.lmul, 1) := by decide +kernel
theorem dX5_odds_91 : decode cX5_odds 91 = .ok (.lstore 8, 2) := by decide +kernel
theorem dX5_odds_93 : decode cX5_odds 93 = .ok (.iinc 10 1, 3) := by decide +kernel
theorem dX5_odds_96 : decode cX5_odds 96 = .ok (.goto (-39), 3) := by decide +kernel
theorem dX5_odds_99 : decode cX5_odds 99 = .ok (.lload 6, 2) := by decide +kernel
theorem dX5_odds_101 : decode cX5_odds 101 = .ok (.lload 8, 2) := by decide +kernel
theorem dX5_odds_103 : decode cX5_odds 103 = .ok (.iload_n 3, 1) := by decide +kernel
theorem dX5_odds_104 : decode cX5_odds 104 = .ok (.invokestatic 203, 3) := by decide +kernel
theorem dX5_odds_107 : decode cX5_odds 107 = .ok (.lreturn, 1) := by decide +kernel
theorem dX5_hope_0 : decode cX5_hope 0 = .ok (.iload_n 1, 1) := by decide +kernel
theorem dX5_hope_1 : decode cX5_hope 1 = .ok (.iconst 0, 1) := by decide +kernel
theorem dX5_hope_2 : decode cX5_hope 2 = .ok (.bipush 99, 2) := by decide +kernel
theorem dX5_hope_4 : decode cX5_hope 4 = .ok (.invokestatic 54, 3) := by decide +kernel
theorem dX5_hope_7 : decode cX5_hope 7 = .ok (.ifCond .eq 12, 3) := by decide +kernel
theorem dX5_hope_10 : decode cX5_hope 10 = .ok (.iload_n 2, 1) := by decide +kernel
theorem dX5_hope_11 : decode cX5_hope 11 = .ok (.iconst 0, 1) := by decide +kernel
theorem dX5_hope_12 : decode cX5_hope 12 = .ok (.iconst 1, 1) := by decide +kernel
theorem dX5_hope_13 : decode cX5_hope 13 = .ok (.invokestatic 54, 3) := by decide +kernel
theorem dX5_hope_16 : decode cX5_hope 16 = .ok (.ifCond .ne 7, 3) := by decide +kernel
theorem dX5_hope_19 : decode cX5_hope 19 = .ok (.ldc2_w 195, 3) := by decide +kernel
theorem dX5_hope_22 : decode cX5_hope 22 = .ok (.lreturn, 1) := by decide +kernel
theorem dX5_hope_23 : decode cX5_hope 23 = .ok (.iload_n 1, 1) := by decide +kernel
theorem dX5_hope_24 : decode cX5_hope 24 = .ok (.i2l, 1) := by decide +kernel
theorem dX5_hope_25 : decode cX5_hope 25 = .ok (.aload_n 0, 1) := by decide +kernel
theorem dX5_hope_26 : decode cX5_hope 26 = .ok (.getfield 10, 3) := by decide +kernel
theorem dX5_hope_29 : decode cX5_hope 29 = .ok (.getfield 90, 3) := by decide +kernel
theorem dX5_hope_32 : decode cX5_hope 32 = .ok (.iconst 3, 1) := by decide +kernel
theorem dX5_hope_33 : decode cX5_hope 33 = .ok (.iaload, 1) := by decide +kernel
theorem dX5_hope_34 : decode cX5_hope 34 = .ok (.i2l, 1) := by decide +kernel
theorem dX5_hope_35 : decode cX5_hope 35 = .ok (.lmul, 1) := by decide +kernel
theorem dX5_hope_36 : decode cX5_hope 36 = .ok (.ldc2_w 201, 3) := by decide +kernel
theorem dX5_hope_39 : decode cX5_hope 39 = .ok (.iload_n 2, 1) := by decide +kernel
theorem dX5_hope_40 : decode cX5_hope 40 = .ok (.invokestatic 203, 3) := by decide +kernel
theorem dX5_hope_43 : decode cX5_hope 43 = .ok (.lreturn, 1) := by decide +kernel
theorem dX5_prove_0 : decode cX5_prove 0 = .ok (.aload_n 0, 1) := by decide +kernel
theorem dX5_prove_1 : decode cX5_prove 1 = .ok (.getfield 10, 3) := by decide +kernel
theorem dX5_prove_4 : decode cX5_prove 4 = .ok (.iload_n 1, 1) := by decide +kernel
theorem dX5_prove_5 : decode cX5_prove 5 = .ok (.invokevirtual 97, 3) := by decide +kernel
theorem dX5_prove_8 : decode cX5_prove 8 = .ok (.ifCond .eq 13, 3) := by decide +kernel
theorem dX5_prove_11 : decode cX5_prove 11 = .ok (.iload_n 2, 1) := by decide +kernel
theorem dX5_prove_12 : decode cX5_prove 12 = .ok (.iconst 1, 1) := by decide +kernel
theorem dX5_prove_13 : decode cX5_prove 13 = .ok (.bipush 10, 2) := by decide +kernel
theorem dX5_prove_15 : decode cX5_prove 15 = .ok (.invokestatic 54, 3) := by decide +kernel
theorem dX5_prove_18 : decode cX5_prove 18 = .ok (.ifCond .ne 5, 3) := by decide +kernel
theorem dX5_prove_21 : decode cX5_prove 21 = .ok (.iconst (-1), 1) := by decide +kernel
theorem dX5_prove_22 : decode cX5_prove 22 = .ok (.ireturn, 1) := by decide +kernel
theorem dX5_prove_23 : decode cX5_prove 23 = .ok (.aload_n 0, 1) := by decide +kernel
theorem dX5_prove_24 : decode cX5_prove 24 = .ok (.getfield 16, 3) := by decide +kernel
theorem dX5_prove_27 : decode cX5_prove 27 = .ok (.aload_n 0, 1) := by decide +kernel
theorem dX5_prove_28 : decode cX5_prove 28 = .ok (.getfield 10, 3) := by decide +kernel
theorem dX5_prove_31 : decode cX5_prove 31 = .ok (.invokevirtual 76, 3) := by decide +kernel
theorem dX5_prove_34 : decode cX5_prove 34 = .ok (.iconst 0, 1) := by decide +kernel
theorem dX5_prove_35 : decode cX5_prove 35 = .ok (.istore_n 3, 1) := by decide +kernel
theorem dX5_prove_36 : decode cX5_prove 36 = .ok (.iload_n 3, 1) := by decide +kernel
theorem dX5_prove_37 : decode cX5_prove 37 = .ok (.iload_n 2, 1) := by decide +kernel
theorem dX5_prove_38 : decode cX5_prove 38 = .ok (.if_icmp .ge 50, 3) := by decide +kernel
theorem dX5_prove_41 : decode cX5_prove 41 = .ok (.aload_n 0, 1) := by decide +kernel
theorem dX5_prove_42 : decode cX5_prove 42 = .ok (.getfield 16, 3) := by decide +kernel
theorem dX5_prove_45 : decode cX5_prove 45 = .ok (.invokevirtual 142, 3) := by decide +kernel
theorem dX5_prove_48 : decode cX5_prove 48 = .ok (.pop, 1) := by decide +kernel
theorem dX5_prove_49 : decode cX5_prove 49 = .ok (.iconst 0, 1) := by decide +kernel
theorem dX5_prove_50 : decode cX5_prove 50 = .ok (.istore 4, 2) := by decide +kernel
theorem dX5_prove_52 : decode cX5_prove 52 = .ok (.iload 4, 2) := by decide +kernel
theorem dX5_prove_54 : decode cX5_prove 54 = .ok (.iconst 3, 1) := by decide +kernel
theorem dX5_prove_55 : decode cX5_prove 55 = .ok (.if_icmp .ge 27, 3) := by decide +kernel
theorem dX5_prove_58 : decode cX5_prove 58 = .ok (.aload_n 0, 1) := by decide +kernel
theorem dX5_prove_59 : decode cX5_prove 59 = .ok (.getfield 29, 3) := by decide +kernel
theorem dX5_prove_62 : decode cX5_prove 62 = .ok (.iload_n 3, 1) := by decide +kernel
theorem dX5_prove_63 : decode cX5_prove 63 = .ok (.iconst 3, 1) := by decide +kernel
theorem dX5_prove_64 : decode cX5_prove 64 = .ok (.imul, 1) := by decide +kernel
theorem dX5_prove_65 : decode cX5_prove 65 = .ok (.iload 4, 2) := by decide +kernel
theorem dX5_prove_67 : decode cX5_prove 67 = .ok (.iadd, 1) := by decide +kernel
theorem dX5_prove_68 : decode cX5_prove 68 = .ok (.aload_n 0, 1) := by decide +kernel
theorem dX5_prove_69 : decode cX5_prove 69 = .ok (.iload_n 1, 1) := by decide +kernel
theorem dX5_prove_70 : decode cX5_prove 70 = .ok (.iload 4, 2) := by decide +kernel
theorem dX5_prove_72 : decode cX5_prove 72 = .ok (.invokevirtual 207, 3) := by decide +kernel
theorem dX5_prove_75 : decode cX5_prove 75 = .ok (.iastore, 1) := by decide +kernel
theorem dX5_prove_76 : decode cX5_prove 76 = .ok (.iinc 4 1, 3) := by decide +kernel
theorem dX5_prove_79 : decode cX5_prove 79 = .ok (.goto (-27), 3) := by decide +kernel
theorem dX5_prove_82 : decode cX5_prove 82 = .ok (.iinc 3 1, 3) := by decide +kernel
theorem dX5_prove_85 : decode cX5_prove 85 = .ok (.goto (-49), 3) := by decide +kernel
theorem dX5_prove_88 : decode cX5_prove 88 = .ok (.aload_n 0, 1) := by decide +kernel
theorem dX5_prove_89 : decode cX5_prove 89 = .ok (.iload_n 2, 1) := by decide +kernel
theorem dX5_prove_90 : decode cX5_prove 90 = .ok (.putfield 80, 3) := by decide +kernel
theorem dX5_prove_93 : decode cX5_prove 93 = .ok (.iload_n 2, 1) := by decide +kernel
theorem dX5_prove_94 : decode cX5_prove 94 = .ok (.ireturn, 1) := by decide +kernel
theorem dX5_row_0 : decode cX5_row 0 = .ok (.aload_n 0, 1) := by decide +kernel
theorem dX5_row_1 : decode cX5_row 1 = .ok (.iload_n 1, 1) := by decide +kernel
theorem dX5_row_2 : decode cX5_row 2 = .ok (.iload_n 2, 1) := by decide +kernel
theorem dX5_row_3 : decode cX5_row 3 = .ok (.invokevirtual 211, 3) := by decide +kernel
theorem dX5_row_6 : decode cX5_row 6 = .ok (.ifCond .eq 16, 3) := by decide +kernel
theorem dX5_row_9 : decode cX5_row 9 = .ok (.aload_n 0, 1) := by decide +kernel
theorem dX5_row_10 : decode cX5_row 10 = .ok (.getfield 29, 3) := by decide +kernel
theorem dX5_row_13 : decode cX5_row 13 = .ok (.iload_n 1, 1) := by decide +kernel
theorem dX5_row_14 : decode cX5_row 14 = .ok (.iconst 3, 1) := by decide +kernel
theorem dX5_row_15 : decode cX5_row 15 = .ok (.imul, 1) := by decide +kernel
theorem dX5_row_16 : decode cX5_row 16 = .ok (.iload_n 2, 1) := by decide +kernel
theorem dX5_row_17 : decode cX5_row 17 = .ok (.iadd, 1) := by decide +kernel
theorem dX5_row_18 : decode cX5_row 18 = .ok (.iaload, 1) := by decide +kernel
theorem dX5_row_19 : decode cX5_row 19 = .ok (.goto 5, 3) := by decide +kernel
theorem dX5_row_22 : decode cX5_row 22 = .ok (.bipush (-9), 2) := by decide +kernel
theorem dX5_row_24 : decode cX5_row 24 = .ok (.ireturn, 1) := by decide +kernel
theorem dX5_alterRow_0 : decode cX5_alterRow 0 = .ok (.aload_n 0, 1) := by decide +kernel
theorem dX5_alterRow_1 : decode cX5_alterRow 1 = .ok (.iload_n 1, 1) := by decide +kernel
theorem dX5_alterRow_2 : decode cX5_alterRow 2 = .ok (.iload_n 2, 1) := by decide +kernel
theorem dX5_alterRow_3 : decode cX5_alterRow 3 = .ok (.invokevirtual 211, 3) := by decide +kernel
theorem dX5_alterRow_6 : decode cX5_alterRow 6 = .ok (.ifCond .ne 6, 3) := by decide +kernel
theorem dX5_alterRow_9 : decode cX5_alterRow 9 = .ok (.bipush (-9), 2) := by decide +kernel
theorem dX5_alterRow_11 : decode cX5_alterRow 11 = .ok (.ireturn, 1) := by decide +kernel
theorem dX5_alterRow_12 : decode cX5_alterRow 12 = .ok (.aload_n 0, 1) := by decide +kernel
theorem dX5_alterRow_13 : decode cX5_alterRow 13 = .ok (.getfield 29, 3) := by decide +kernel
theorem dX5_alterRow_16 : decode cX5_alterRow 16 = .ok (.iload_n 1, 1) := by decide +kernel
theorem dX5_alterRow_17 : decode cX5_alterRow 17 = .ok (.iconst 3, 1) := by decide +kernel
theorem dX5_alterRow_18 : decode cX5_alterRow 18 = .ok (.imul, 1) := by decide +kernel
theorem dX5_alterRow_19 : decode cX5_alterRow 19 = .ok (.iload_n 2, 1) := by decide +kernel
theorem dX5_alterRow_20 : decode cX5_alterRow 20 = .ok (.iadd, 1) := by decide +kernel
theorem dX5_alterRow_21 : decode cX5_alterRow 21 = .ok (.iaload, 1) := by decide +kernel
theorem dX5_alterRow_22 : decode cX5_alterRow 22 = .ok (.istore 4, 2) := by decide +kernel
theorem dX5_alterRow_24 : decode cX5_alterRow 24 = .ok (.aload_n 0, 1) := by decide +kernel
theorem dX5_alterRow_25 : decode cX5_alterRow 25 = .ok (.getfield 29, 3) := by decide +kernel
theorem dX5_alterRow_28 : decode cX5_alterRow 28 = .ok (.iload_n 1, 1) := by decide +kernel
theorem dX5_alterRow_29 : decode cX5_alterRow 29 = .ok (.iconst 3, 1) := by decide +kernel
theorem dX5_alterRow_30 : decode cX5_alterRow 30 = .ok (.imul, 1) := by decide +kernel
theorem dX5_alterRow_31 : decode cX5_alterRow 31 = .ok (.iload_n 2, 1) := by decide +kernel
theorem dX5_alterRow_32 : decode cX5_alterRow 32 = .ok (.iadd, 1) := by decide +kernel
theorem dX5_alterRow_33 : decode cX5_alterRow 33 = .ok (.iload_n 3, 1) := by decide +kernel
theorem dX5_alterRow_34 : decode cX5_alterRow 34 = .ok (.iastore, 1) := by decide +kernel
theorem dX5_alterRow_35 : decode cX5_alterRow 35 = .ok (.iload 4, 2) := by decide +kernel
theorem dX5_alterRow_37 : decode cX5_alterRow 37 = .ok (.ireturn, 1) := by decide +kernel
theorem dX5_judge_0 : decode cX5_judge 0 = .ok (.aload_n 0, 1) := by decide +kernel
theorem dX5_judge_1 : decode cX5_judge 1 = .ok (.getfield 10, 3) := by decide +kernel
theorem dX5_judge_4 : decode cX5_judge 4 = .ok (.iload_n 1, 1) := by decide +kernel
theorem dX5_judge_5 : decode cX5_judge 5 = .ok (.invokevirtual 97, 3) := by decide +kernel
theorem dX5_judge_8 : decode cX5_judge 8 = .ok (.ifCond .ne 5, 3) := by decide +kernel
theorem dX5_judge_11 : decode cX5_judge 11 = .ok (.iconst (-1), 1) := by decide +kernel
theorem dX5_judge_12 : decode cX5_judge 12 = .ok (.ireturn, 1) := by decide +kernel
theorem dX5_judge_13 : decode cX5_judge 13 = .ok (.aload_n 0, 1) := by decide +kernel
theorem dX5_judge_14 : decode cX5_judge 14 = .ok (.getfield 16, 3) := by decide +kernel
theorem dX5_judge_17 : decode cX5_judge 17 = .ok (.aload_n 0, 1) := by decide +kernel
theorem dX5_judge_18 : decode cX5_judge 18 = .ok (.getfield 10, 3) := by decide +kernel
theorem dX5_judge_21 : decode cX5_judge 21 = .ok (.invokevirtual 76, 3) := by decide +kernel
theorem dX5_judge_24 : decode cX5_judge 24 = .ok (.iconst 0, 1) := by decide +kernel
theorem dX5_judge_25 : decode cX5_judge 25 = .ok (.istore_n 2, 1) := by decide +kernel
theorem dX5_judge_26 : decode cX5_judge 26 = .ok (.iload_n 2, 1) := by decide +kernel
theorem dX5_judge_27 : decode cX5_judge 27 = .ok (.aload_n 0, 1) := by decide +kernel
theorem dX5_judge_28 : decode cX5_judge 28 = .ok (.getfield 80, 3) := by decide +kernel
theorem dX5_judge_31 : decode cX5_judge 31 = .ok (.if_icmp .ge 53, 3) := by decide +kernel
theorem dX5_judge_34 : decode cX5_judge 34 = .ok (.aload_n 0, 1) := by decide +kernel
theorem dX5_judge_35 : decode cX5_judge 35 = .ok (.getfield 16, 3) := by decide +kernel
theorem dX5_judge_38 : decode cX5_judge 38 = .ok (.invokevirtual 142, 3) := by decide +kernel
theorem dX5_judge_41 : decode cX5_judge 41 = .ok (.pop, 1) := by decide +kernel
theorem dX5_judge_42 : decode cX5_judge 42 = .ok (.iconst 0, 1) := by decide +kernel
theorem dX5_judge_43 : decode cX5_judge 43 = .ok (.istore_n 3, 1) := by decide +kernel
theorem dX5_judge_44 : decode cX5_judge 44 = .ok (.iload_n 3, 1) := by decide +kernel
theorem dX5_judge_45 : decode cX5_judge 45 = .ok (.iconst 3, 1) := by decide +kernel
theorem dX5_judge_46 : decode cX5_judge 46 = .ok (.if_icmp .ge 32, 3) := by decide +kernel
theorem dX5_judge_49 : decode cX5_judge 49 = .ok (.aload_n 0, 1) := by decide +kernel
theorem dX5_judge_50 : decode cX5_judge 50 = .ok (.getfield 29, 3) := by decide +kernel
theorem dX5_judge_53 : decode cX5_judge 53 = .ok (.iload_n 2, 1) := by decide +kernel
theorem dX5_judge_54 : decode cX5_judge 54 = .ok (.iconst 3, 1) := by decide +kernel
theorem dX5_judge_55 : decode cX5_judge 55 = .ok (.imul, 1) := by decide +kernel
theorem dX5_judge_56 : decode cX5_judge 56 = .ok (.iload_n 3, 1) := by decide +kernel
theorem dX5_judge_57 : decode cX5_judge 57 = .ok (.iadd, 1) := by decide +kernel
theorem dX5_judge_58 : decode cX5_judge 58 = .ok (.iaload, 1) := by decide +kernel
theorem dX5_judge_59 : decode cX5_judge 59 = .ok (.aload_n 0, 1) := by decide +kernel
theorem dX5_judge_60 : decode cX5_judge 60 = .ok (.iload_n 1, 1) := by decide +kernel
theorem dX5_judge_61 : decode cX5_judge 61 = .ok (.iload_n 3, 1) := by decide +kernel
theorem dX5_judge_62 : decode cX5_judge 62 = .ok (.invokevirtual 207, 3) := by decide +kernel
theorem dX5_judge_65 : decode cX5_judge 65 = .ok (.if_icmp .eq 7, 3) := by decide +kernel
theorem dX5_judge_68 : decode cX5_judge 68 = .ok (.iload_n 2, 1) := by decide +kernel
theorem dX5_judge_69 : decode cX5_judge 69 = .ok (.iconst 1, 1) := by decide +kernel
theorem dX5_judge_70 : decode cX5_judge 70 = .ok (.iadd, 1) := by decide +kernel
theorem dX5_judge_71 : decode cX5_judge 71 = .ok (.ireturn, 1) := by decide +kernel
theorem dX5_judge_72 : decode cX5_judge 72 = .ok (.iinc 3 1, 3) := by decide +kernel
theorem dX5_judge_75 : decode cX5_judge 75 = .ok (.goto (-31), 3) := by decide +kernel
theorem dX5_judge_78 : decode cX5_judge 78 = .ok (.iinc 2 1, 3) := by decide +kernel
theorem dX5_judge_81 : decode cX5_judge 81 = .ok (.goto (-55), 3) := by decide +kernel
theorem dX5_judge_84 : decode cX5_judge 84 = .ok (.iconst 0, 1) := by decide +kernel
theorem dX5_judge_85 : decode cX5_judge 85 = .ok (.ireturn, 1) := by decide +kernel
theorem dX5_minds_0 : decode cX5_minds 0 = .ok (.iload_n 1, 1) := by decide +kernel
theorem dX5_minds_1 : decode cX5_minds 1 = .ok (.iconst 0, 1) := by decide +kernel
theorem dX5_minds_2 : decode cX5_minds 2 = .ok (.iconst 3, 1) := by decide +kernel
theorem dX5_minds_3 : decode cX5_minds 3 = .ok (.invokestatic 54, 3) := by decide +kernel
theorem dX5_minds_6 : decode cX5_minds 6 = .ok (.ifCond .eq 39, 3) := by decide +kernel
theorem dX5_minds_9 : decode cX5_minds 9 = .ok (.aload_n 0, 1) := by decide +kernel
theorem dX5_minds_10 : decode cX5_minds 10 = .ok (.getfield 10, 3) := by decide +kernel
theorem dX5_minds_13 : decode cX5_minds 13 = .ok (.iload_n 3, 1) := by decide +kernel
theorem dX5_minds_14 : decode cX5_minds 14 = .ok (.invokevirtual 97, 3) := by decide +kernel
theorem dX5_minds_17 : decode cX5_minds 17 = .ok (.ifCond .eq 28, 3) := by decide +kernel
theorem dX5_minds_20 : decode cX5_minds 20 = .ok (.iload 4, 2) := by decide +kernel
theorem dX5_minds_22 : decode cX5_minds 22 = .ok (.iconst 0, 1) := by decide +kernel
theorem dX5_minds_23 : decode cX5_minds 23 = .ok (.bipush 8, 2) := by decide +kernel
theorem dX5_minds_25 : decode cX5_minds 25 = .ok (.invokestatic 54, 3) := by decide +kernel
theorem dX5_minds_28 : decode cX5_minds 28 = .ok (.ifCond .eq 17, 3) := by decide +kernel
theorem dX5_minds_31 : decode cX5_minds 31 = .ok (.iload_n 3, 1) := by decide +kernel
theorem dX5_minds_32 : decode cX5_minds 32 = .ok (.iload 4, 2) := by decide +kernel
theorem dX5_minds_34 : decode cX5_minds 34 = .ok (.iadd, 1) := by decide +kernel
theorem dX5_minds_35 : decode cX5_minds 35 = .ok (.aload_n 0, 1) := by decide +kernel
theorem dX5_minds_36 : decode cX5_minds 36 = .ok (.getfield 10, 3) := by decide +kernel
theorem dX5_minds_39 : decode cX5_minds 39 = .ok (.getfield 83, 3) := by decide +kernel
theorem dX5_minds_42 : decode cX5_minds 42 = .ok (.if_icmp .le 5, 3) := by decide +kernel
theorem dX5_minds_45 : decode cX5_minds 45 = .ok (.iconst (-1), 1) := by decide +kernel
theorem dX5_minds_46 : decode cX5_minds 46 = .ok (.ireturn, 1) := by decide +kernel
theorem dX5_minds_47 : decode cX5_minds 47 = .ok (.aload_n 0, 1) := by decide +kernel
theorem dX5_minds_48 : decode cX5_minds 48 = .ok (.getfield 35, 3) := by decide +kernel
theorem dX5_minds_51 : decode cX5_minds 51 = .ok (.iload_n 1, 1) := by decide +kernel
theorem dX5_minds_52 : decode cX5_minds 52 = .ok (.aaload, 1) := by decide +kernel
theorem dX5_minds_53 : decode cX5_minds 53 = .ok (.astore 5, 2) := by decide +kernel
theorem dX5_minds_55 : decode cX5_minds 55 = .ok (.aload 5, 2) := by decide +kernel
theorem dX5_minds_57 : decode cX5_minds 57 = .ok (.invokevirtual 187, 3) := by decide +kernel
theorem dX5_minds_60 : decode cX5_minds 60 = .ok (.ifCond .eq 6, 3) := by decide +kernel
theorem dX5_minds_63 : decode cX5_minds 63 = .ok (.bipush (-11), 2) := by decide +kernel
theorem dX5_minds_65 : decode cX5_minds 65 = .ok (.ireturn, 1) := by decide +kernel
theorem dX5_minds_66 : decode cX5_minds 66 = .ok (.aload 5, 2) := by decide +kernel
theorem dX5_minds_68 : decode cX5_minds 68 = .ok (.getfield 214, 3) := by decide +kernel
theorem dX5_minds_71 : decode cX5_minds 71 = .ok (.ifCond .eq 6, 3) := by decide +kernel
theorem dX5_minds_74 : decode cX5_minds 74 = .ok (.bipush (-13), 2) := by decide +kernel
theorem dX5_minds_76 : decode cX5_minds 76 = .ok (.ireturn, 1) := by decide +kernel
theorem dX5_minds_77 : decode cX5_minds 77 = .ok (.iload_n 2, 1) := by decide +kernel
theorem dX5_minds_78 : decode cX5_minds 78 = .ok (.iconst 0, 1) := by decide +kernel
theorem dX5_minds_79 : decode cX5_minds 79 = .ok (.aload 5, 2) := by decide +kernel
theorem dX5_minds_81 : decode cX5_minds 81 = .ok (.getfield 217, 3) := by decide +kernel
theorem dX5_minds_84 : decode cX5_minds 84 = .ok (.invokestatic 54, 3) := by decide +kernel
theorem dX5_minds_87 : decode cX5_minds 87 = .ok (.ifCond .eq 15, 3) := by decide +kernel
theorem dX5_minds_90 : decode cX5_minds 90 = .ok (.iload 4, 2) := by decide +kernel
theorem dX5_minds_92 : decode cX5_minds 92 = .ok (.aload 5, 2) := by decide +kernel
theorem dX5_minds_94 : decode cX5_minds 94 = .ok (.getfield 217, 3) := by decide +kernel
theorem dX5_minds_97 : decode cX5_minds 97 = .ok (.iload_n 2, 1) := by decide +kernel
theorem dX5_minds_98 : decode cX5_minds 98 = .ok (.isub, 1) := by decide +kernel
theorem dX5_minds_99 : decode cX5_minds 99 = .ok (.if_icmp .le 6, 3) := by decide +kernel
theorem dX5_minds_102 : decode cX5_minds 102 = .ok (.bipush (-12), 2) := by decide +kernel
theorem dX5_minds_104 : decode cX5_minds 104 = .ok (.ireturn, 1) := by decide +kernel
theorem dX5_minds_105 : decode cX5_minds 105 = .ok (.iconst 0, 1) := by decide +kernel
theorem dX5_minds_106 : decode cX5_minds 106 = .ok (.istore 6, 2) := by decide +kernel
theorem dX5_minds_108 : decode cX5_minds 108 = .ok (.iload 6, 2) := by decide +kernel
theorem dX5_minds_110 : decode cX5_minds 110 = .ok (.iload 4, 2) := by decide +kernel
theorem dX5_minds_112 : decode cX5_minds 112 = .ok (.if_icmp .ge 35, 3) := by decide +kernel
theorem dX5_minds_115 : decode cX5_minds 115 = .ok (.aload_n 0, 1) := by decide +kernel
theorem dX5_minds_116 : decode cX5_minds 116 = .ok (.getfield 10, 3) := by decide +kernel
theorem dX5_minds_119 : decode cX5_minds 119 = .ok (.getfield 107, 3) := by decide +kernel
theorem dX5_minds_122 : decode cX5_minds 122 = .ok (.iload_n 3, 1) := by decide +kernel
theorem dX5_minds_123 : decode cX5_minds 123 = .ok (.iload 6, 2) := by decide +kernel
theorem dX5_minds_125 : decode cX5_minds 125 = .ok (.iadd, 1) := by decide +kernel
theorem dX5_minds_126 : decode cX5_minds 126 = .ok (.aload 5, 2) := by decide +kernel
theorem dX5_minds_128 : decode cX5_minds 128 = .ok (.getfield 218, 3) := by decide +kernel
theorem dX5_minds_131 : decode cX5_minds 131 = .ok (.iload_n 2, 1) := by decide +kernel
theorem dX5_minds_132 : decode cX5_minds 132 = .ok (.iload 6, 2) := by decide +kernel
theorem dX5_minds_134 : decode cX5_minds 134 = .ok (.iadd, 1) := by decide +kernel
theorem dX5_minds_135 : decode cX5_minds 135 = .ok (.laload, 1) := by decide +kernel
theorem dX5_minds_136 : decode cX5_minds 136 = .ok (.l2i, 1) := by decide +kernel
theorem dX5_minds_137 : decode cX5_minds 137 = .ok (.invokestatic 222, 3) := by decide +kernel
theorem dX5_minds_140 : decode cX5_minds 140 = .ok (.iastore, 1) := by decide +kernel
theorem dX5_minds_141 : decode cX5_minds 141 = .ok (.iinc 6 1, 3) := by decide +kernel
theorem dX5_minds_144 : decode cX5_minds 144 = .ok (.goto (-36), 3) := by decide +kernel
theorem dX5_minds_147 : decode cX5_minds 147 = .ok (.iload 4, 2) := by decide +kernel
theorem dX5_minds_149 : decode cX5_minds 149 = .ok (.ireturn, 1) := by decide +kernel
theorem dX5_sheet_0 : decode cX5_sheet 0 = .ok (.iload_n 1, 1) := by decide +kernel
theorem dX5_sheet_1 : decode cX5_sheet 1 = .ok (.iconst 0, 1) := by decide +kernel
theorem dX5_sheet_2 : decode cX5_sheet 2 = .ok (.iconst 3, 1) := by decide +kernel
theorem dX5_sheet_3 : decode cX5_sheet 3 = .ok (.invokestatic 54, 3) := by decide +kernel
theorem dX5_sheet_6 : decode cX5_sheet 6 = .ok (.ifCond .eq 12, 3) := by decide +kernel
theorem dX5_sheet_9 : decode cX5_sheet 9 = .ok (.iload_n 2, 1) := by decide +kernel
theorem dX5_sheet_10 : decode cX5_sheet 10 = .ok (.iconst (-1), 1) := by decide +kernel
theorem dX5_sheet_11 : decode cX5_sheet 11 = .ok (.iconst 3, 1) := by decide +kernel
theorem dX5_sheet_12 : decode cX5_sheet 12 = .ok (.invokestatic 54, 3) := by decide +kernel
theorem dX5_sheet_15 : decode cX5_sheet 15 = .ok (.ifCond .ne 5, 3) := by decide +kernel
theorem dX5_sheet_18 : decode cX5_sheet 18 = .ok (.iconst (-1), 1) := by decide +kernel
theorem dX5_sheet_19 : decode cX5_sheet 19 = .ok (.ireturn, 1) := by decide +kernel
theorem dX5_sheet_20 : decode cX5_sheet 20 = .ok (.iload_n 2, 1) := by decide +kernel
theorem dX5_sheet_21 : decode cX5_sheet 21 = .ok (.iconst (-1), 1) := by decide +kernel
theorem dX5_sheet_22 : decode cX5_sheet 22 = .ok (.if_icmp .ne 15, 3) := by decide +kernel
theorem dX5_sheet_25 : decode cX5_sheet 25 = .ok (.aload_n 0, 1) := by decide +kernel
theorem dX5_sheet_26 : decode cX5_sheet 26 = .ok (.getfield 35, 3) := by decide +kernel
theorem dX5_sheet_29 : decode cX5_sheet 29 = .ok (.iload_n 1, 1) := by decide +kernel
theorem dX5_sheet_30 : decode cX5_sheet 30 = .ok (.aaload, 1) := by decide +kernel
theorem dX5_sheet_31 : decode cX5_sheet 31 = .ok (.iconst (-1), 1) := by decide +kernel
theorem dX5_sheet_32 : decode cX5_sheet 32 = .ok (.putfield 214, 3) := by decide +kernel
theorem dX5_sheet_35 : decode cX5_sheet 35 = .ok (.iconst 1, 1) := by decide +kernel
theorem dX5_sheet_36 : decode cX5_sheet 36 = .ok (.ireturn, 1) := by decide +kernel
theorem dX5_sheet_37 : decode cX5_sheet 37 = .ok (.iload_n 3, 1) := by decide +kernel
theorem dX5_sheet_38 : decode cX5_sheet 38 = .ok (.bipush 40, 2) := by decide +kernel
theorem dX5_sheet_40 : decode cX5_sheet 40 = .ok (.if_icmp .le 5, 3) := by decide +kernel
theorem dX5_sheet_43 : decode cX5_sheet 43 = .ok (.iconst (-1), 1) := by decide +kernel
theorem dX5_sheet_44 : decode cX5_sheet 44 = .ok (.ireturn, 1) := by decide +kernel
theorem dX5_sheet_45 : decode cX5_sheet 45 = .ok (.iload_n 3, 1) := by decide +kernel
theorem dX5_sheet_46 : decode cX5_sheet 46 = .ok (.ifCond .ge 6, 3) := by decide +kernel
theorem dX5_sheet_49 : decode cX5_sheet 49 = .ok (.bipush (-14), 2) := by decide +kernel
theorem dX5_sheet_51 : decode cX5_sheet 51 = .ok (.ireturn, 1) := by decide +kernel
theorem dX5_sheet_52 : decode cX5_sheet 52 = .ok (.aload_n 0, 1) := by decide +kernel
theorem dX5_sheet_53 : decode cX5_sheet 53 = .ok (.getfield 35, 3) := by decide +kernel
theorem dX5_sheet_56 : decode cX5_sheet 56 = .ok (.iload_n 1, 1) := by decide +kernel
theorem dX5_sheet_57 : decode cX5_sheet 57 = .ok (.aaload, 1) := by decide +kernel
theorem dX5_sheet_58 : decode cX5_sheet 58 = .ok (.iload_n 2, 1) := by decide +kernel
theorem dX5_sheet_59 : decode cX5_sheet 59 = .ok (.iload_n 3, 1) := by decide +kernel
theorem dX5_sheet_60 : decode cX5_sheet 60 = .ok (.invokevirtual 225, 3) := by decide +kernel
theorem dX5_sheet_63 : decode cX5_sheet 63 = .ok (.iconst 1, 1) := by decide +kernel
theorem dX5_sheet_64 : decode cX5_sheet 64 = .ok (.ireturn, 1) := by decide +kernel
theorem dX5_put_0 : decode cX5_put 0 = .ok (.iload_n 1, 1) := by decide +kernel
theorem dX5_put_1 : decode cX5_put 1 = .ok (.iconst 0, 1) := by decide +kernel
theorem dX5_put_2 : decode cX5_put 2 = .ok (.iconst 3, 1) := by decide +kernel
theorem dX5_put_3 : decode cX5_put 3 = .ok (.invokestatic 54, 3) := by decide +kernel
theorem dX5_put_6 : decode cX5_put 6 = .ok (.ifCond .ne 5, 3) := by decide +kernel
theorem dX5_put_9 : decode cX5_put 9 = .ok (.iconst (-1), 1) := by decide +kernel
theorem dX5_put_10 : decode cX5_put 10 = .ok (.ireturn, 1) := by decide +kernel
theorem dX5_put_11 : decode cX5_put 11 = .ok (.aload_n 0, 1) := by decide +kernel
theorem dX5_put_12 : decode cX5_put 12 = .ok (.getfield 35, 3) := by decide +kernel
theorem dX5_put_15 : decode cX5_put 15 = .ok (.iload_n 1, 1) := by decide +kernel
theorem dX5_put_16 : decode cX5_put 16 = .ok (.aaload, 1) := by decide +kernel
theorem dX5_put_17 : decode cX5_put 17 = .ok (.astore 4, 2) := by decide +kernel
theorem dX5_put_19 : decode cX5_put 19 = .ok (.aload 4, 2) := by decide +kernel
theorem dX5_put_21 : decode cX5_put 21 = .ok (.invokevirtual 187, 3) := by decide +kernel
theorem dX5_put_24 : decode cX5_put 24 = .ok (.ifCond .eq 6, 3) := by decide +kernel
theorem dX5_put_27 : decode cX5_put 27 = .ok (.bipush (-11), 2) := by decide +kernel
theorem dX5_put_29 : decode cX5_put 29 = .ok (.ireturn, 1) := by decide +kernel
theorem dX5_put_30 : decode cX5_put 30 = .ok (.iload_n 2, 1) := by decide +kernel
theorem dX5_put_31 : decode cX5_put 31 = .ok (.iconst 0, 1) := by decide +kernel
theorem dX5_put_32 : decode cX5_put 32 = .ok (.aload 4, 2) := by decide +kernel
theorem dX5_put_34 : decode cX5_put 34 = .ok (.getfield 217, 3) := by decide +kernel
theorem dX5_put_37 : decode cX5_put 37 = .ok (.iconst 1, 1) := by decide +kernel
theorem dX5_put_38 : decode cX5_put 38 = .ok (.isub, 1) := by decide +kernel
theorem dX5_put_39 : decode cX5_put 39 = .ok (.invokestatic 54, 3) := by decide +kernel
theorem dX5_put_42 : decode cX5_put 42 = .ok (.ifCond .ne 6, 3) := by decide +kernel
theorem dX5_put_45 : decode cX5_put 45 = .ok (.bipush (-12), 2) := by decide +kernel
theorem dX5_put_47 : decode cX5_put 47 = .ok (.ireturn, 1) := by decide +kernel
theorem dX5_put_48 : decode cX5_put 48 = .ok (.aload 4, 2) := by decide +kernel
theorem dX5_put_50 : decode cX5_put 50 = .ok (.getfield 218, 3) := by decide +kernel
theorem dX5_put_53 : decode cX5_put 53 = .ok (.iload_n 2, 1) := by decide +kernel
theorem dX5_put_54 : decode cX5_put 54 = .ok (.aload 4, 2) := by decide +kernel
theorem dX5_put_56 : decode cX5_put 56 = .ok (.iload_n 3, 1) := by decide +kernel
theorem dX5_put_57 : decode cX5_put 57 = .ok (.invokevirtual 229, 3) := by decide +kernel
theorem dX5_put_60 : decode cX5_put 60 = .ok (.lastore, 1) := by decide +kernel
theorem dX5_put_61 : decode cX5_put 61 = .ok (.iconst 1, 1) := by decide +kernel
theorem dX5_put_62 : decode cX5_put 62 = .ok (.ireturn, 1) := by decide +kernel
theorem dX5_item_0 : decode cX5_item 0 = .ok (.iload_n 1, 1) := by decide +kernel
theorem dX5_item_1 : decode cX5_item 1 = .ok (.iconst 0, 1) := by decide +kernel
theorem dX5_item_2 : decode cX5_item 2 = .ok (.iconst 3, 1) := by decide +kernel
theorem dX5_item_3 : decode cX5_item 3 = .ok (.invokestatic 54, 3) := by decide +kernel
theorem dX5_item_6 : decode cX5_item 6 = .ok (.ifCond .eq 12, 3) := by decide +kernel
theorem dX5_item_9 : decode cX5_item 9 = .ok (.iload_n 2, 1) := by decide +kernel
theorem dX5_item_10 : decode cX5_item 10 = .ok (.iconst 0, 1) := by decide +kernel
theorem dX5_item_11 : decode cX5_item 11 = .ok (.iconst 3, 1) := by decide +kernel
theorem dX5_item_12 : decode cX5_item 12 = .ok (.invokestatic 54, 3) := by decide +kernel
theorem dX5_item_15 : decode cX5_item 15 = .ok (.ifCond .ne 5, 3) := by decide +kernel
theorem dX5_item_18 : decode cX5_item 18 = .ok (.iconst (-1), 1) := by decide +kernel
theorem dX5_item_19 : decode cX5_item 19 = .ok (.ireturn, 1) := by decide +kernel
theorem dX5_item_20 : decode cX5_item 20 = .ok (.aload_n 0, 1) := by decide +kernel
theorem dX5_item_21 : decode cX5_item 21 = .ok (.getfield 35, 3) := by decide +kernel
theorem dX5_item_24 : decode cX5_item 24 = .ok (.iload_n 1, 1) := by decide +kernel
theorem dX5_item_25 : decode cX5_item 25 = .ok (.aaload, 1) := by decide +kernel
theorem dX5_item_26 : decode cX5_item 26 = .ok (.astore 4, 2) := by decide +kernel
theorem dX5_item_28 : decode cX5_item 28 = .ok (.aload 4, 2) := by decide +kernel
theorem dX5_item_30 : decode cX5_item 30 = .ok (.invokevirtual 187, 3) := by decide +kernel
theorem dX5_item_33 : decode cX5_item 33 = .ok (.ifCond .eq 6, 3) := by decide +kernel
theorem dX5_item_36 : decode cX5_item 36 = .ok (.bipush (-11), 2) := by decide +kernel
theorem dX5_item_38 : decode cX5_item 38 = .ok (.ireturn, 1) := by decide +kernel
theorem dX5_item_39 : decode cX5_item 39 = .ok (.aload 4, 2) := by decide +kernel
theorem dX5_item_41 : decode cX5_item 41 = .ok (.getfield 214, 3) := by decide +kernel
theorem dX5_item_44 : decode cX5_item 44 = .ok (.iload_n 2, 1) := by decide +kernel
theorem dX5_item_45 : decode cX5_item 45 = .ok (.if_icmp .eq 6, 3) := by decide +kernel
theorem dX5_item_48 : decode cX5_item 48 = .ok (.bipush (-13), 2) := by decide +kernel
theorem dX5_item_50 : decode cX5_item 50 = .ok (.ireturn, 1) := by decide +kernel
theorem dX5_item_51 : decode cX5_item 51 = .ok (.iload_n 3, 1) := by decide +kernel
theorem dX5_item_52 : decode cX5_item 52 = .ok (.iconst 0, 1) := by decide +kernel
theorem dX5_item_53 : decode cX5_item 53 = .ok (.aload 4, 2) := by decide +kernel
theorem dX5_item_55 : decode cX5_item 55 = .ok (.getfield 217, 3) := by decide +kernel
theorem dX5_item_58 : decode cX5_item 58 = .ok (.iconst 1, 1) := by decide +kernel
theorem dX5_item_59 : decode cX5_item 59 = .ok (.isub, 1) := by decide +kernel
theorem dX5_item_60 : decode cX5_item 60 = .ok (.invokestatic 54, 3) := by decide +kernel
theorem dX5_item_63 : decode cX5_item 63 = .ok (.ifCond .ne 6, 3) := by decide +kernel
theorem dX5_item_66 : decode cX5_item 66 = .ok (.bipush (-12), 2) := by decide +kernel
theorem dX5_item_68 : decode cX5_item 68 = .ok (.ireturn, 1) := by decide +kernel
theorem dX5_item_69 : decode cX5_item 69 = .ok (.aload 4, 2) := by decide +kernel
theorem dX5_item_71 : decode cX5_item 71 = .ok (.getfield 218, 3) := by decide +kernel
theorem dX5_item_74 : decode cX5_item 74 = .ok (.iload_n 3, 1) := by decide +kernel
theorem dX5_item_75 : decode cX5_item 75 = .ok (.laload, 1) := by decide +kernel
theorem dX5_item_76 : decode cX5_item 76 = .ok (.l2i, 1) := by decide +kernel
theorem dX5_item_77 : decode cX5_item 77 = .ok (.ireturn, 1) := by decide +kernel
theorem dX5_shelf_0 : decode cX5_shelf 0 = .ok (.iload_n 1, 1) := by decide +kernel
theorem dX5_shelf_1 : decode cX5_shelf 1 = .ok (.iconst 0, 1) := by decide +kernel
theorem dX5_shelf_2 : decode cX5_shelf 2 = .ok (.iconst 3, 1) := by decide +kernel
theorem dX5_shelf_3 : decode cX5_shelf 3 = .ok (.invokestatic 54, 3) := by decide +kernel
theorem dX5_shelf_6 : decode cX5_shelf 6 = .ok (.ifCond .ne 5, 3) := by decide +kernel
theorem dX5_shelf_9 : decode cX5_shelf 9 = .ok (.iconst (-1), 1) := by decide +kernel
theorem dX5_shelf_10 : decode cX5_shelf 10 = .ok (.ireturn, 1) := by decide +kernel
theorem dX5_shelf_11 : decode cX5_shelf 11 = .ok (.aload_n 0, 1) := by decide +kernel
theorem dX5_shelf_12 : decode cX5_shelf 12 = .ok (.getfield 41, 3) := by decide +kernel
theorem dX5_shelf_15 : decode cX5_shelf 15 = .ok (.iload_n 1, 1) := by decide +kernel
theorem dX5_shelf_16 : decode cX5_shelf 16 = .ok (.aaload, 1) := by decide +kernel
theorem dX5_shelf_17 : decode cX5_shelf 17 = .ok (.astore 4, 2) := by decide +kernel
theorem dX5_shelf_19 : decode cX5_shelf 19 = .ok (.iload_n 2, 1) := by decide +kernel
theorem dX5_shelf_20 : decode cX5_shelf 20 = .ok (.ifCond .ne 23, 3) := by decide +kernel
theorem dX5_shelf_23 : decode cX5_shelf 23 = .ok (.aload_n 0, 1) := by decide +kernel
theorem dX5_shelf_24 : decode cX5_shelf 24 = .ok (.getfield 10, 3) := by decide +kernel
theorem dX5_shelf_27 : decode cX5_shelf 27 = .ok (.iload_n 3, 1) := by decide +kernel
theorem dX5_shelf_28 : decode cX5_shelf 28 = .ok (.invokevirtual 97, 3) := by decide +kernel
theorem dX5_shelf_31 : decode cX5_shelf 31 = .ok (.ifCond .eq 12, 3) := by decide +kernel
theorem dX5_shelf_34 : decode cX5_shelf 34 = .ok (.aload 4, 2) := by decide +kernel
theorem dX5_shelf_36 : decode cX5_shelf 36 = .ok (.iload_n 3, 1) := by decide +kernel
theorem dX5_shelf_37 : decode cX5_shelf 37 = .ok (.invokevirtual 233, 3) := by decide +kernel
theorem dX5_shelf_40 : decode cX5_shelf 40 = .ok (.goto 47, 3) := by decide +kernel
theorem dX5_shelf_43 : decode cX5_shelf 43 = .ok (.iload_n 2, 1) := by decide +kernel
theorem dX5_shelf_44 : decode cX5_shelf 44 = .ok (.iconst 1, 1) := by decide +kernel
theorem dX5_shelf_45 : decode cX5_shelf 45 = .ok (.if_icmp .ne 26, 3) := by decide +kernel
theorem dX5_shelf_48 : decode cX5_shelf 48 = .ok (.iload_n 3, 1) := by decide +kernel
theorem dX5_shelf_49 : decode cX5_shelf 49 = .ok (.iconst 0, 1) := by decide +kernel
theorem dX5_shelf_50 : decode cX5_shelf 50 = .ok (.iconst 3, 1) := by decide +kernel
theorem dX5_shelf_51 : decode cX5_shelf 51 = .ok (.invokestatic 54, 3) := by decide +kernel
theorem dX5_shelf_54 : decode cX5_shelf 54 = .ok (.ifCond .eq 17, 3) := by decide +kernel
theorem dX5_shelf_57 : decode cX5_shelf 57 = .ok (.aload 4, 2) := by decide +kernel
theorem dX5_shelf_59 : decode cX5_shelf 59 = .ok (.aload_n 0, 1) := by decide +kernel
theorem dX5_shelf_60 : decode cX5_shelf 60 = .ok (.getfield 35, 3) := by decide +kernel
theorem dX5_shelf_63 : decode cX5_shelf 63 = .ok (.iload_n 3, 1) := by decide +kernel
theorem dX5_shelf_64 : decode cX5_shelf 64 = .ok (.aaload, 1) := by decide +kernel
theorem dX5_shelf_65 : decode cX5_shelf 65 = .ok (.invokevirtual 236, 3) := by decide +kernel
theorem dX5_shelf_68 : decode cX5_shelf 68 = .ok (.goto 19, 3) := by decide +kernel
theorem dX5_shelf_71 : decode cX5_shelf 71 = .ok (.iload_n 2, 1) := by decide +kernel
theorem dX5_shelf_72 : decode cX5_shelf 72 = .ok (.iconst 2, 1) := by decide +kernel
theorem dX5_shelf_73 : decode cX5_shelf 73 = .ok (.if_icmp .ne 12, 3) := by decide +kernel
theorem dX5_shelf_76 : decode cX5_shelf 76 = .ok (.aload 4, 2) := by decide +kernel
theorem dX5_shelf_78 : decode cX5_shelf 78 = .ok (.iconst 2, 1) := by decide +kernel
theorem dX5_shelf_79 : decode cX5_shelf 79 = .ok (.putfield 240, 3) := by decide +kernel
theorem dX5_shelf_82 : decode cX5_shelf 82 = .ok (.goto 5, 3) := by decide +kernel
theorem dX5_shelf_85 : decode cX5_shelf 85 = .ok (.iconst (-1), 1) := by decide +kernel
theorem dX5_shelf_86 : decode cX5_shelf 86 = .ok (.ireturn, 1) := by decide +kernel
theorem dX5_shelf_87 : decode cX5_shelf 87 = .ok (.iconst 1, 1) := by decide +kernel
theorem dX5_shelf_88 : decode cX5_shelf 88 = .ok (.ireturn, 1) := by decide +kernel
theorem dX5_taken_0 : decode cX5_taken 0 = .ok (.iload_n 2, 1) := by decide +kernel
theorem dX5_taken_1 : decode cX5_taken 1 = .ok (.bipush 10, 2) := by decide +kernel
theorem dX5_taken_3 : decode cX5_taken 3 = .ok (.bipush 13, 2) := by decide +kernel
theorem dX5_taken_5 : decode cX5_taken 5 = .ok (.invokestatic 54, 3) := by decide +kernel
theorem dX5_taken_8 : decode cX5_taken 8 = .ok (.istore_n 3, 1) := by decide +kernel
theorem dX5_taken_9 : decode cX5_taken 9 = .ok (.iload_n 1, 1) := by decide +kernel
theorem dX5_taken_10 : decode cX5_taken 10 = .ok (.iconst 0, 1) := by decide +kernel
theorem dX5_taken_11 : decode cX5_taken 11 = .ok (.iconst 3, 1) := by decide +kernel
theorem dX5_taken_12 : decode cX5_taken 12 = .ok (.invokestatic 54, 3) := by decide +kernel
theorem dX5_taken_15 : decode cX5_taken 15 = .ok (.ifCond .eq 16, 3) := by decide +kernel
theorem dX5_taken_18 : decode cX5_taken 18 = .ok (.iload_n 3, 1) := by decide +kernel
theorem dX5_taken_19 : decode cX5_taken 19 = .ok (.ifCond .ne 14, 3) := by decide +kernel
theorem dX5_taken_22 : decode cX5_taken 22 = .ok (.iload_n 2, 1) := by decide +kernel
theorem dX5_taken_23 : decode cX5_taken 23 = .ok (.iconst 0, 1) := by decide +kernel
theorem dX5_taken_24 : decode cX5_taken 24 = .ok (.iconst 5, 1) := by decide +kernel
theorem dX5_taken_25 : decode cX5_taken 25 = .ok (.invokestatic 54, 3) := by decide +kernel
theorem dX5_taken_28 : decode cX5_taken 28 = .ok (.ifCond .ne 5, 3) := by decide +kernel
theorem dX5_taken_31 : decode cX5_taken 31 = .ok (.iconst (-1), 1) := by decide +kernel
theorem dX5_taken_32 : decode cX5_taken 32 = .ok (.ireturn, 1) := by decide +kernel
theorem dX5_taken_33 : decode cX5_taken 33 = .ok (.aload_n 0, 1) := by decide +kernel
theorem dX5_taken_34 : decode cX5_taken 34 = .ok (.getfield 41, 3) := by decide +kernel
theorem dX5_taken_37 : decode cX5_taken 37 = .ok (.iload_n 1, 1) := by decide +kernel
theorem dX5_taken_38 : decode cX5_taken 38 = .ok (.aaload, 1) := by decide +kernel
theorem dX5_taken_39 : decode cX5_taken 39 = .ok (.astore 4, 2) := by decide +kernel
theorem dX5_taken_41 : decode cX5_taken 41 = .ok (.aload_n 0, 1) := by decide +kernel
theorem dX5_taken_42 : decode cX5_taken 42 = .ok (.aload 4, 2) := by decide +kernel
theorem dX5_taken_44 : decode cX5_taken 44 = .ok (.invokevirtual 243, 3) := by decide +kernel
theorem dX5_taken_47 : decode cX5_taken 47 = .ok (.ifCond .eq 6, 3) := by decide +kernel
theorem dX5_taken_50 : decode cX5_taken 50 = .ok (.bipush (-11), 2) := by decide +kernel
theorem dX5_taken_52 : decode cX5_taken 52 = .ok (.ireturn, 1) := by decide +kernel
theorem dX5_taken_53 : decode cX5_taken 53 = .ok (.aload 4, 2) := by decide +kernel
theorem dX5_taken_55 : decode cX5_taken 55 = .ok (.getfield 240, 3) := by decide +kernel
theorem dX5_taken_58 : decode cX5_taken 58 = .ok (.iconst 1, 1) := by decide +kernel
theorem dX5_taken_59 : decode cX5_taken 59 = .ok (.if_icmp .ne 26, 3) := by decide +kernel
theorem dX5_taken_62 : decode cX5_taken 62 = .ok (.aload 4, 2) := by decide +kernel
theorem dX5_taken_64 : decode cX5_taken 64 = .ok (.getfield 247, 3) := by decide +kernel
theorem dX5_taken_67 : decode cX5_taken 67 = .ok (.iload_n 2, 1) := by decide +kernel
theorem dX5_taken_68 : decode cX5_taken 68 = .ok (.bipush 10, 2) := by decide +kernel
theorem dX5_taken_70 : decode cX5_taken 70 = .ok (.isub, 1) := by decide +kernel
theorem dX5_taken_71 : decode cX5_taken 71 = .ok (.if_icmp .ne 11, 3) := by decide +kernel
theorem dX5_taken_74 : decode cX5_taken 74 = .ok (.aload 4, 2) := by decide +kernel
theorem dX5_taken_76 : decode cX5_taken 76 = .ok (.getfield 248, 3) := by decide +kernel
theorem dX5_taken_79 : decode cX5_taken 79 = .ok (.goto 5, 3) := by decide +kernel
theorem dX5_taken_82 : decode cX5_taken 82 = .ok (.bipush (-13), 2) := by decide +kernel
theorem dX5_taken_84 : decode cX5_taken 84 = .ok (.ireturn, 1) := by decide +kernel
theorem dX5_taken_85 : decode cX5_taken 85 = .ok (.aload_n 0, 1) := by decide +kernel
theorem dX5_taken_86 : decode cX5_taken 86 = .ok (.getfield 10, 3) := by decide +kernel
theorem dX5_taken_89 : decode cX5_taken 89 = .ok (.getfield 101, 3) := by decide +kernel
theorem dX5_taken_92 : decode cX5_taken 92 = .ok (.aload 4, 2) := by decide +kernel
theorem dX5_taken_94 : decode cX5_taken 94 = .ok (.getfield 248, 3) := by decide +kernel
theorem dX5_taken_97 : decode cX5_taken 97 = .ok (.iaload, 1) := by decide +kernel
theorem dX5_taken_98 : decode cX5_taken 98 = .ok (.iload_n 2, 1) := by decide +kernel
theorem dX5_taken_99 : decode cX5_taken 99 = .ok (.invokestatic 251, 3) := by decide +kernel
theorem dX5_taken_102 : decode cX5_taken 102 = .ok (.ifCond .eq 11, 3) := by decide +kernel
theorem dX5_taken_105 : decode cX5_taken 105 = .ok (.aload 4, 2) := by decide +kernel
theorem dX5_taken_107 : decode cX5_taken 107 = .ok (.getfield 248, 3) := by decide +kernel
theorem dX5_taken_110 : decode cX5_taken 110 = .ok (.goto 5, 3) := by decide +kernel
theorem dX5_taken_113 : decode cX5_taken 113 = .ok (.bipush (-13), 2) := by decide +kernel
theorem dX5_taken_115 : decode cX5_taken 115 = .ok (.ireturn, 1) := by decide +kernel
theorem dX5_act_0 : decode cX5_act 0 = .ok (.aload_n 0, 1) := by decide +kernel
theorem dX5_act_1 : decode cX5_act 1 = .ok (.getfield 48, 3) := by decide +kernel
theorem dX5_act_4 : decode cX5_act 4 = .ok (.iconst 0, 1) := by decide +kernel
theorem dX5_act_5 : decode cX5_act 5 = .ok (.putfield 254, 3) := by decide +kernel
theorem dX5_act_8 : decode cX5_act 8 = .ok (.iload_n 1, 1) := by decide +kernel
theorem dX5_act_9 : decode cX5_act 9 = .ok (.iconst 0, 1) := by decide +kernel
theorem dX5_act_10 : decode cX5_act 10 = .ok (.iconst 3, 1) := by decide +kernel
theorem dX5_act_11 : decode cX5_act 11 = .ok (.invokestatic 54, 3) := by decide +kernel
theorem dX5_act_14 : decode cX5_act 14 = .ok (.ifCond .eq 12, 3) := by decide +kernel
theorem dX5_act_17 : decode cX5_act 17 = .ok (.iload_n 2, 1) := by decide +kernel
theorem dX5_act_18 : decode cX5_act 18 = .ok (.iconst 0, 1) := by decide +kernel
theorem dX5_act_19 : decode cX5_act 19 = .ok (.iconst 3, 1) := by decide +kernel
theorem dX5_act_20 : decode cX5_act 20 = .ok (.invokestatic 54, 3) := by decide +kernel
theorem dX5_act_23 : decode cX5_act 23 = .ok (.ifCond .ne 5, 3) := by decide +kernel
theorem dX5_act_26 : decode cX5_act 26 = .ok (.iconst 0, 1) := by decide +kernel
theorem dX5_act_27 : decode cX5_act 27 = .ok (.ireturn, 1) := by decide +kernel
theorem dX5_act_28 : decode cX5_act 28 = .ok (.aload_n 0, 1) := by decide +kernel
theorem dX5_act_29 : decode cX5_act 29 = .ok (.getfield 41, 3) := by decide +kernel
theorem dX5_act_32 : decode cX5_act 32 = .ok (.iload_n 1, 1) := by decide +kernel
theorem dX5_act_33 : decode cX5_act 33 = .ok (.aaload, 1) := by decide +kernel
theorem dX5_act_34 : decode cX5_act 34 = .ok (.astore 4, 2) := by decide +kernel
theorem dX5_act_36 : decode cX5_act 36 = .ok (.aload_n 0, 1) := by decide +kernel
theorem dX5_act_37 : decode cX5_act 37 = .ok (.aload 4, 2) := by decide +kernel
theorem dX5_act_39 : decode cX5_act 39 = .ok (.invokevirtual 243, 3) := by decide +kernel
theorem dX5_act_42 : decode cX5_act 42 = .ok (.ifCond .ne 11, 3) := by decide +kernel
theorem dX5_act_45 : decode cX5_act 45 = .ok (.aload 4, 2) := by decide +kernel
theorem dX5_act_47 : decode cX5_act 47 = .ok (.getfield 240, 3) := by decide +kernel
theorem dX5_act_50 : decode cX5_act 50 = .ok (.ifCond .eq 5, 3) := by decide +kernel
theorem dX5_act_53 : decode cX5_act 53 = .ok (.iconst 0, 1) := by decide +kernel
theorem dX5_act_54 : decode cX5_act 54 = .ok (.ireturn, 1) := by decide +kernel
theorem dX5_act_55 : decode cX5_act 55 = .ok (.aload_n 0, 1) := by decide +kernel
theorem dX5_act_56 : decode cX5_act 56 = .ok (.getfield 48, 3) := by decide +kernel
theorem dX5_act_59 : decode cX5_act 59 = .ok (.aload_n 0, 1) := by decide +kernel
theorem dX5_act_60 : decode cX5_act 60 = .ok (.getfield 10, 3) := by decide +kernel
theorem dX5_act_63 : decode cX5_act 63 = .ok (.getfield 101, 3) := by decide +kernel
theorem dX5_act_66 : decode cX5_act 66 = .ok (.aload 4, 2) := by decide +kernel
theorem dX5_act_68 : decode cX5_act 68 = .ok (.getfield 248, 3) := by decide +kernel
theorem dX5_act_71 : decode cX5_act 71 = .ok (.iaload, 1) := by decide +kernel
theorem dX5_act_72 : decode cX5_act 72 = .ok (.putfield 257, 3) := by decide +kernel
theorem dX5_act_75 : decode cX5_act 75 = .ok (.aload_n 0, 1) := by decide +kernel
theorem dX5_act_76 : decode cX5_act 76 = .ok (.getfield 48, 3) := by decide +kernel
theorem dX5_act_79 : decode cX5_act 79 = .ok (.aload 4, 2) := by decide +kernel
theorem dX5_act_81 : decode cX5_act 81 = .ok (.getfield 248, 3) := by decide +kernel
theorem dX5_act_84 : decode cX5_act 84 = .ok (.putfield 260, 3) := by decide +kernel
theorem dX5_act_87 : decode cX5_act 87 = .ok (.aload_n 0, 1) := by decide +kernel
theorem dX5_act_88 : decode cX5_act 88 = .ok (.getfield 48, 3) := by decide +kernel
theorem dX5_act_91 : decode cX5_act 91 = .ok (.aload_n 0, 1) := by decide +kernel
theorem dX5_act_92 : decode cX5_act 92 = .ok (.getfield 10, 3) := by decide +kernel
theorem dX5_act_95 : decode cX5_act 95 = .ok (.getfield 110, 3) := by decide +kernel
theorem dX5_act_98 : decode cX5_act 98 = .ok (.aload 4, 2) := by decide +kernel
theorem dX5_act_100 : decode cX5_act 100 = .ok (.getfield 248, 3) := by decide +kernel
theorem dX5_act_103 : decode cX5_act 103 = .ok (.iaload, 1) := by decide +kernel
theorem dX5_act_104 : decode cX5_act 104 = .ok (.putfield 263, 3) := by decide +kernel
theorem dX5_act_107 : decode cX5_act 107 = .ok (.aload_n 0, 1) := by decide +kernel
theorem dX5_act_108 : decode cX5_act 108 = .ok (.getfield 48, 3) := by decide +kernel
theorem dX5_act_111 : decode cX5_act 111 = .ok (.iload_n 2, 1) := by decide +kernel
theorem dX5_act_112 : decode cX5_act 112 = .ok (.iload_n 3, 1) := by decide +kernel
theorem dX5_act_113 : decode cX5_act 113 = .ok (.invokevirtual 266, 3) := by decide +kernel
theorem dX5_act_116 : decode cX5_act 116 = .ok (.ireturn, 1) := by decide +kernel
theorem dX5_trace_0 : decode cX5_trace 0 = .ok (.iload_n 1, 1) := by decide +kernel
theorem dX5_trace_1 : decode cX5_trace 1 = .ok (.iconst 0, 1) := by decide +kernel
theorem dX5_trace_2 : decode cX5_trace 2 = .ok (.aload_n 0, 1) := by decide +kernel
theorem dX5_trace_3 : decode cX5_trace 3 = .ok (.getfield 48, 3) := by decide +kernel
theorem dX5_trace_6 : decode cX5_trace 6 = .ok (.getfield 254, 3) := by decide +kernel
theorem dX5_trace_9 : decode cX5_trace 9 = .ok (.iconst 1, 1) := by decide +kernel
theorem dX5_trace_10 : decode cX5_trace 10 = .ok (.isub, 1) := by decide +kernel
theorem dX5_trace_11 : decode cX5_trace 11 = .ok (.invokestatic 54, 3) := by decide +kernel
theorem dX5_trace_14 : decode cX5_trace 14 = .ok (.ifCond .eq 15, 3) := by decide +kernel
theorem dX5_trace_17 : decode cX5_trace 17 = .ok (.aload_n 0, 1) := by decide +kernel
theorem dX5_trace_18 : decode cX5_trace 18 = .ok (.getfield 48, 3) := by decide +kernel
theorem dX5_trace_21 : decode cX5_trace 21 = .ok (.getfield 269, 3) := by decide +kernel
theorem dX5_trace_24 : decode cX5_trace 24 = .ok (.iload_n 1, 1) := by decide +kernel
theorem dX5_trace_25 : decode cX5_trace 25 = .ok (.iaload, 1) := by decide +kernel
theorem dX5_trace_26 : decode cX5_trace 26 = .ok (.goto 5, 3) := by decide +kernel
theorem dX5_trace_29 : decode cX5_trace 29 = .ok (.bipush (-3), 2) := by decide +kernel
theorem dX5_trace_31 : decode cX5_trace 31 = .ok (.ireturn, 1) := by decide +kernel
theorem dX5_many_0 : decode cX5_many 0 = .ok (.iload_n 1, 1) := by decide +kernel
theorem dX5_many_1 : decode cX5_many 1 = .ok (.tableswitch 96 0 6 #[43, 51, 59, 67, 75, 80, 88], 43) := by decide +kernel
theorem dX5_many_44 : decode cX5_many 44 = .ok (.aload_n 0, 1) := by decide +kernel
theorem dX5_many_45 : decode cX5_many 45 = .ok (.getfield 10, 3) := by decide +kernel
theorem dX5_many_48 : decode cX5_many 48 = .ok (.getfield 83, 3) := by decide +kernel
theorem dX5_many_51 : decode cX5_many 51 = .ok (.ireturn, 1) := by decide +kernel
theorem dX5_many_52 : decode cX5_many 52 = .ok (.aload_n 0, 1) := by decide +kernel
theorem dX5_many_53 : decode cX5_many 53 = .ok (.getfield 10, 3) := by decide +kernel
theorem dX5_many_56 : decode cX5_many 56 = .ok (.invokevirtual 132, 3) := by decide +kernel
theorem dX5_many_59 : decode cX5_many 59 = .ok (.ireturn, 1) := by decide +kernel
theorem dX5_many_60 : decode cX5_many 60 = .ok (.aload_n 0, 1) := by decide +kernel
theorem dX5_many_61 : decode cX5_many 61 = .ok (.getfield 10, 3) := by decide +kernel
theorem dX5_many_64 : decode cX5_many 64 = .ok (.getfield 148, 3) := by decide +kernel
theorem dX5_many_67 : decode cX5_many 67 = .ok (.ireturn, 1) := by decide +kernel
theorem dX5_many_68 : decode cX5_many 68 = .ok (.aload_n 0, 1) := by decide +kernel
theorem dX5_many_69 : decode cX5_many 69 = .ok (.getfield 10, 3) := by decide +kernel
theorem dX5_many_72 : decode cX5_many 72 = .ok (.invokevirtual 272, 3) := by decide +kernel
theorem dX5_many_75 : decode cX5_many 75 = .ok (.ireturn, 1) := by decide +kernel
theorem dX5_many_76 : decode cX5_many 76 = .ok (.aload_n 0, 1) := by decide +kernel
theorem dX5_many_77 : decode cX5_many 77 = .ok (.getfield 80, 3) := by decide +kernel
theorem dX5_many_80 : decode cX5_many 80 = .ok (.ireturn, 1) := by decide +kernel
theorem dX5_many_81 : decode cX5_many 81 = .ok (.aload_n 0, 1) := by decide +kernel
theorem dX5_many_82 : decode cX5_many 82 = .ok (.getfield 25, 3) := by decide +kernel
theorem dX5_many_85 : decode cX5_many 85 = .ok (.getfield 58, 3) := by decide +kernel
theorem dX5_many_88 : decode cX5_many 88 = .ok (.ireturn, 1) := by decide +kernel
theorem dX5_many_89 : decode cX5_many 89 = .ok (.aload_n 0, 1) := by decide +kernel
theorem dX5_many_90 : decode cX5_many 90 = .ok (.getfield 48, 3) := by decide +kernel
theorem dX5_many_93 : decode cX5_many 93 = .ok (.getfield 254, 3) := by decide +kernel
theorem dX5_many_96 : decode cX5_many 96 = .ok (.ireturn, 1) := by decide +kernel
theorem dX5_many_97 : decode cX5_many 97 = .ok (.iconst (-1), 1) := by decide +kernel
theorem dX5_many_98 : decode cX5_many 98 = .ok (.ireturn, 1) := by decide +kernel
theorem dX5_keep_0 : decode cX5_keep 0 = .ok (.aload_n 0, 1) := by decide +kernel
theorem dX5_keep_1 : decode cX5_keep 1 = .ok (.getfield 19, 3) := by decide +kernel
theorem dX5_keep_4 : decode cX5_keep 4 = .ok (.aload_n 0, 1) := by decide +kernel
theorem dX5_keep_5 : decode cX5_keep 5 = .ok (.getfield 10, 3) := by decide +kernel
theorem dX5_keep_8 : decode cX5_keep 8 = .ok (.invokevirtual 76, 3) := by decide +kernel
theorem dX5_keep_11 : decode cX5_keep 11 = .ok (.aload_n 0, 1) := by decide +kernel
theorem dX5_keep_12 : decode cX5_keep 12 = .ok (.iconst 1, 1) := by decide +kernel
theorem dX5_keep_13 : decode cX5_keep 13 = .ok (.putfield 275, 3) := by decide +kernel
theorem dX5_keep_16 : decode cX5_keep 16 = .ok (.iconst 1, 1) := by decide +kernel
theorem dX5_keep_17 : decode cX5_keep 17 = .ok (.ireturn, 1) := by decide +kernel
theorem dX5_again_0 : decode cX5_again 0 = .ok (.aload_n 0, 1) := by decide +kernel
theorem dX5_again_1 : decode cX5_again 1 = .ok (.getfield 275, 3) := by decide +kernel
theorem dX5_again_4 : decode cX5_again 4 = .ok (.ifCond .ne 6, 3) := by decide +kernel
theorem dX5_again_7 : decode cX5_again 7 = .ok (.bipush (-3), 2) := by decide +kernel
theorem dX5_again_9 : decode cX5_again 9 = .ok (.ireturn, 1) := by decide +kernel
theorem dX5_again_10 : decode cX5_again 10 = .ok (.aload_n 0, 1) := by decide +kernel
theorem dX5_again_11 : decode cX5_again 11 = .ok (.getfield 10, 3) := by decide +kernel
theorem dX5_again_14 : decode cX5_again 14 = .ok (.aload_n 0, 1) := by decide +kernel
theorem dX5_again_15 : decode cX5_again 15 = .ok (.getfield 19, 3) := by decide +kernel
theorem dX5_again_18 : decode cX5_again 18 = .ok (.invokevirtual 76, 3) := by decide +kernel
theorem dX5_again_21 : decode cX5_again 21 = .ok (.aload_n 0, 1) := by decide +kernel
theorem dX5_again_22 : decode cX5_again 22 = .ok (.getfield 10, 3) := by decide +kernel
theorem dX5_again_25 : decode cX5_again 25 = .ok (.getfield 83, 3) := by decide +kernel
theorem dX5_again_28 : decode cX5_again 28 = .ok (.ireturn, 1) := by decide +kernel
theorem dX5_isWithin_0 : decode cX5_isWithin 0 = .ok (.iload_n 0, 1) := by decide +kernel
theorem dX5_isWithin_1 : decode cX5_isWithin 1 = .ok (.iload_n 1, 1) := by decide +kernel
theorem dX5_isWithin_2 : decode cX5_isWithin 2 = .ok (.if_icmp .lt 12, 3) := by decide +kernel
theorem dX5_isWithin_5 : decode cX5_isWithin 5 = .ok (.iload_n 0, 1) := by decide +kernel
theorem dX5_isWithin_6 : decode cX5_isWithin 6 = .ok (.iload_n 2, 1) := by decide +kernel
theorem dX5_isWithin_7 : decode cX5_isWithin 7 = .ok (.if_icmp .gt 7, 3) := by decide +kernel
theorem dX5_isWithin_10 : decode cX5_isWithin 10 = .ok (.iconst 1, 1) := by decide +kernel
theorem dX5_isWithin_11 : decode cX5_isWithin 11 = .ok (.goto 4, 3) := by decide +kernel
theorem dX5_isWithin_14 : decode cX5_isWithin 14 = .ok (.iconst 0, 1) := by decide +kernel
theorem dX5_isWithin_15 : decode cX5_isWithin 15 = .ok (.ireturn, 1) := by decide +kernel
theorem dX5_held_0 : decode cX5_held 0 = .ok (.iconst 0, 1) := by decide +kernel
theorem dX5_held_1 : decode cX5_held 1 = .ok (.bipush 99, 2) := by decide +kernel
theorem dX5_held_3 : decode cX5_held 3 = .ok (.iload_n 0, 1) := by decide +kernel
theorem dX5_held_4 : decode cX5_held 4 = .ok (.invokestatic 279, 3) := by decide +kernel
theorem dX5_held_7 : decode cX5_held 7 = .ok (.invokestatic 284, 3) := by decide +kernel
theorem dX5_held_10 : decode cX5_held 10 = .ok (.ireturn, 1) := by decide +kernel
theorem dX5_mostOfLaw_0 : decode cX5_mostOfLaw 0 = .ok (.iload_n 0, 1) := by decide +kernel
theorem dX5_mostOfLaw_1 : decode cX5_mostOfLaw 1 = .ok (.iconst 3, 1) := by decide +kernel
theorem dX5_mostOfLaw_2 : decode cX5_mostOfLaw 2 = .ok (.if_icmp .ne 8, 3) := by decide +kernel
theorem dX5_mostOfLaw_5 : decode cX5_mostOfLaw 5 = .ok (.bipush 99, 2) := by decide +kernel
theorem dX5_mostOfLaw_7 : decode cX5_mostOfLaw 7 = .ok (.goto 5, 3) := by decide +kernel
theorem dX5_mostOfLaw_10 : decode cX5_mostOfLaw 10 = .ok (.bipush 9, 2) := by decide +kernel
theorem dX5_mostOfLaw_12 : decode cX5_mostOfLaw 12 = .ok (.ireturn, 1) := by decide +kernel
theorem dX5_isUnder_0 : decode cX5_isUnder 0 = .ok (.iload_n 0, 1) := by decide +kernel
theorem dX5_isUnder_1 : decode cX5_isUnder 1 = .ok (.iload_n 1, 1) := by decide +kernel
theorem dX5_isUnder_2 : decode cX5_isUnder 2 = .ok (.if_icmp .eq 27, 3) := by decide +kernel
theorem dX5_isUnder_5 : decode cX5_isUnder 5 = .ok (.iload_n 1, 1) := by decide +kernel
theorem dX5_isUnder_6 : decode cX5_isUnder 6 = .ok (.ifCond .eq 23, 3) := by decide +kernel
theorem dX5_isUnder_9 : decode cX5_isUnder 9 = .ok (.iload_n 0, 1) := by decide +kernel
theorem dX5_isUnder_10 : decode cX5_isUnder 10 = .ok (.iconst 3, 1) := by decide +kernel
theorem dX5_isUnder_11 : decode cX5_isUnder 11 = .ok (.if_icmp .ne 8, 3) := by decide +kernel
theorem dX5_isUnder_14 : decode cX5_isUnder 14 = .ok (.iload_n 1, 1) := by decide +kernel
theorem dX5_isUnder_15 : decode cX5_isUnder 15 = .ok (.iconst 1, 1) := by decide +kernel
theorem dX5_isUnder_16 : decode cX5_isUnder 16 = .ok (.if_icmp .eq 13, 3) := by decide +kernel
theorem dX5_isUnder_19 : decode cX5_isUnder 19 = .ok (.iload_n 0, 1) := by decide +kernel
theorem dX5_isUnder_20 : decode cX5_isUnder 20 = .ok (.iconst 4, 1) := by decide +kernel
theorem dX5_isUnder_21 : decode cX5_isUnder 21 = .ok (.if_icmp .ne 12, 3) := by decide +kernel
theorem dX5_isUnder_24 : decode cX5_isUnder 24 = .ok (.iload_n 1, 1) := by decide +kernel
theorem dX5_isUnder_25 : decode cX5_isUnder 25 = .ok (.iconst 2, 1) := by decide +kernel
theorem dX5_isUnder_26 : decode cX5_isUnder 26 = .ok (.if_icmp .ne 7, 3) := by decide +kernel
theorem dX5_isUnder_29 : decode cX5_isUnder 29 = .ok (.iconst 1, 1) := by decide +kernel
theorem dX5_isUnder_30 : decode cX5_isUnder 30 = .ok (.goto 4, 3) := by decide +kernel
theorem dX5_isUnder_33 : decode cX5_isUnder 33 = .ok (.iconst 0, 1) := by decide +kernel
theorem dX5_isUnder_34 : decode cX5_isUnder 34 = .ok (.ireturn, 1) := by decide +kernel
theorem dX5_daysToFall_0 : decode cX5_daysToFall 0 = .ok (.iconst 0, 1) := by decide +kernel
theorem dX5_daysToFall_1 : decode cX5_daysToFall 1 = .ok (.istore_n 2, 1) := by decide +kernel
theorem dX5_daysToFall_2 : decode cX5_daysToFall 2 = .ok (.iload_n 2, 1) := by decide +kernel
theorem dX5_daysToFall_3 : decode cX5_daysToFall 3 = .ok (.bipush 60, 2) := by decide +kernel
theorem dX5_daysToFall_5 : decode cX5_daysToFall 5 = .ok (.if_icmp .gt 30, 3) := by decide +kernel
theorem dX5_daysToFall_8 : decode cX5_daysToFall 8 = .ok (.aload_n 0, 1) := by decide +kernel
theorem dX5_daysToFall_9 : decode cX5_daysToFall 9 = .ok (.getfield 16, 3) := by decide +kernel
theorem dX5_daysToFall_12 : decode cX5_daysToFall 12 = .ok (.iload_n 1, 1) := by decide +kernel
theorem dX5_daysToFall_13 : decode cX5_daysToFall 13 = .ok (.invokevirtual 113, 3) := by decide +kernel
theorem dX5_daysToFall_16 : decode cX5_daysToFall 16 = .ok (.ifCond .ne 5, 3) := by decide +kernel
theorem dX5_daysToFall_19 : decode cX5_daysToFall 19 = .ok (.iload_n 2, 1) := by decide +kernel
theorem dX5_daysToFall_20 : decode cX5_daysToFall 20 = .ok (.ireturn, 1) := by decide +kernel
theorem dX5_daysToFall_21 : decode cX5_daysToFall 21 = .ok (.aload_n 0, 1) := by decide +kernel
theorem dX5_daysToFall_22 : decode cX5_daysToFall 22 = .ok (.getfield 16, 3) := by decide +kernel
theorem dX5_daysToFall_25 : decode cX5_daysToFall 25 = .ok (.invokevirtual 142, 3) := by decide +kernel
theorem dX5_daysToFall_28 : decode cX5_daysToFall 28 = .ok (.pop, 1) := by decide +kernel
theorem dX5_daysToFall_29 : decode cX5_daysToFall 29 = .ok (.iinc 2 1, 3) := by decide +kernel
theorem dX5_daysToFall_32 : decode cX5_daysToFall 32 = .ok (.goto (-30), 3) := by decide +kernel
theorem dX5_daysToFall_35 : decode cX5_daysToFall 35 = .ok (.bipush 61, 2) := by decide +kernel
theorem dX5_daysToFall_37 : decode cX5_daysToFall 37 = .ok (.ireturn, 1) := by decide +kernel
theorem dX5_hangsBehind_0 : decode cX5_hangsBehind 0 = .ok (.iconst 0, 1) := by decide +kernel
theorem dX5_hangsBehind_1 : decode cX5_hangsBehind 1 = .ok (.istore_n 3, 1) := by decide +kernel
theorem dX5_hangsBehind_2 : decode cX5_hangsBehind 2 = .ok (.iload_n 3, 1) := by decide +kernel
theorem dX5_hangsBehind_3 : decode cX5_hangsBehind 3 = .ok (.iload_n 2, 1) := by decide +kernel
theorem dX5_hangsBehind_4 : decode cX5_hangsBehind 4 = .ok (.if_icmp .ge 28, 3) := by decide +kernel
theorem dX5_hangsBehind_7 : decode cX5_hangsBehind 7 = .ok (.aload_n 0, 1) := by decide +kernel
theorem dX5_hangsBehind_8 : decode cX5_hangsBehind 8 = .ok (.getfield 16, 3) := by decide +kernel
theorem dX5_hangsBehind_11 : decode cX5_hangsBehind 11 = .ok (.iload_n 1, 1) := by decide +kernel
theorem dX5_hangsBehind_12 : decode cX5_hangsBehind 12 = .ok (.invokevirtual 113, 3) := by decide +kernel
theorem dX5_hangsBehind_15 : decode cX5_hangsBehind 15 = .ok (.ifCond .eq 17, 3) := by decide +kernel
theorem dX5_hangsBehind_18 : decode cX5_hangsBehind 18 = .ok (.aload_n 0, 1) := by decide +kernel
theorem dX5_hangsBehind_19 : decode cX5_hangsBehind 19 = .ok (.getfield 16, 3) := by decide +kernel
theorem dX5_hangsBehind_22 : decode cX5_hangsBehind 22 = .ok (.invokevirtual 142, 3) := by decide +kernel
theorem dX5_hangsBehind_25 : decode cX5_hangsBehind 25 = .ok (.pop, 1) := by decide +kernel
theorem dX5_hangsBehind_26 : decode cX5_hangsBehind 26 = .ok (.iinc 3 1, 3) := by decide +kernel
theorem dX5_hangsBehind_29 : decode cX5_hangsBehind 29 = .ok (.goto (-27), 3) := by decide +kernel
theorem dX5_hangsBehind_32 : decode cX5_hangsBehind 32 = .ok (.aload_n 0, 1) := by decide +kernel
theorem dX5_hangsBehind_33 : decode cX5_hangsBehind 33 = .ok (.getfield 16, 3) := by decide +kernel
theorem dX5_hangsBehind_36 : decode cX5_hangsBehind 36 = .ok (.iload_n 1, 1) := by decide +kernel
theorem dX5_hangsBehind_37 : decode cX5_hangsBehind 37 = .ok (.invokevirtual 113, 3) := by decide +kernel
theorem dX5_hangsBehind_40 : decode cX5_hangsBehind 40 = .ok (.ireturn, 1) := by decide +kernel
theorem dX5_fitsWithHold_0 : decode cX5_fitsWithHold 0 = .ok (.aload_n 0, 1) := by decide +kernel
theorem dX5_fitsWithHold_1 : decode cX5_fitsWithHold 1 = .ok (.getfield 16, 3) := by decide +kernel
theorem dX5_fitsWithHold_4 : decode cX5_fitsWithHold 4 = .ok (.aload_n 0, 1) := by decide +kernel
theorem dX5_fitsWithHold_5 : decode cX5_fitsWithHold 5 = .ok (.getfield 10, 3) := by decide +kernel
theorem dX5_fitsWithHold_8 : decode cX5_fitsWithHold 8 = .ok (.invokevirtual 76, 3) := by decide +kernel
theorem dX5_fitsWithHold_11 : decode cX5_fitsWithHold 11 = .ok (.aload_n 0, 1) := by decide +kernel
theorem dX5_fitsWithHold_12 : decode cX5_fitsWithHold 12 = .ok (.getfield 16, 3) := by decide +kernel
theorem dX5_fitsWithHold_15 : decode cX5_fitsWithHold 15 = .ok (.getfield 107, 3) := by decide +kernel
theorem dX5_fitsWithHold_18 : decode cX5_fitsWithHold 18 = .ok (.iload_n 2, 1) := by decide +kernel
theorem dX5_fitsWithHold_19 : decode cX5_fitsWithHold 19 = .ok (.iload_n 3, 1) := by decide +kernel
theorem dX5_fitsWithHold_20 : decode cX5_fitsWithHold 20 = .ok (.iastore, 1) := by decide +kernel
theorem dX5_fitsWithHold_21 : decode cX5_fitsWithHold 21 = .ok (.iconst 0, 1) := by decide +kernel
theorem dX5_fitsWithHold_22 : decode cX5_fitsWithHold 22 = .ok (.istore 4, 2) := by decide +kernel
theorem dX5_fitsWithHold_24 : decode cX5_fitsWithHold 24 = .ok (.iload 4, 2) := by decide +kernel
theorem dX5_fitsWithHold_26 : decode cX5_fitsWithHold 26 = .ok (.aload_n 1, 1) := by decide +kernel
theorem dX5_fitsWithHold_27 : decode cX5_fitsWithHold 27 = .ok (.getfield 217, 3) := by decide +kernel
theorem dX5_fitsWithHold_30 : decode cX5_fitsWithHold 30 = .ok (.if_icmp .ge 70, 3) := by decide +kernel
theorem dX5_fitsWithHold_33 : decode cX5_fitsWithHold 33 = .ok (.aload_n 0, 1) := by decide +kernel
theorem dX5_fitsWithHold_34 : decode cX5_fitsWithHold 34 = .ok (.getfield 16, 3) := by decide +kernel
theorem dX5_fitsWithHold_37 : decode cX5_fitsWithHold 37 = .ok (.invokevirtual 142, 3) := by decide +kernel
theorem dX5_fitsWithHold_40 : decode cX5_fitsWithHold 40 = .ok (.istore 5, 2) := by decide +kernel
theorem dX5_fitsWithHold_42 : decode cX5_fitsWithHold 42 = .ok (.iload 5, 2) := by decide +kernel
theorem dX5_fitsWithHold_44 : decode cX5_fitsWithHold 44 = .ok (.ifCond .ge 8, 3) := by decide +kernel
theorem dX5_fitsWithHold_47 : decode cX5_fitsWithHold 47 = .ok (.bipush 10, 2) := by decide +kernel
theorem dX5_fitsWithHold_49 : decode cX5_fitsWithHold 49 = .ok (.goto 13, 3) := by decide +kernel
theorem dX5_fitsWithHold_52 : decode cX5_fitsWithHold 52 = .ok (.aload_n 0, 1) := by decide +kernel
theorem dX5_fitsWithHold_53 : decode cX5_fitsWithHold 53 = .ok (.getfield 16, 3) := by decide +kernel
theorem dX5_fitsWithHold_56 : decode cX5_fitsWithHold 56 = .ok (.getfield 110, 3) := by decide +kernel
theorem dX5_fitsWithHold_59 : decode cX5_fitsWithHold 59 = .ok (.iload 5, 2) := by decide +kernel
theorem dX5_fitsWithHold_61 : decode cX5_fitsWithHold 61 = .ok (.iaload, 1) := by decide +kernel
theorem dX5_fitsWithHold_62 : decode cX5_fitsWithHold 62 = .ok (.istore 6, 2) := by decide +kernel
theorem dX5_fitsWithHold_64 : decode cX5_fitsWithHold 64 = .ok (.aload_n 1, 1) := by decide +kernel
theorem dX5_fitsWithHold_65 : decode cX5_fitsWithHold 65 = .ok (.getfield 218, 3) := by decide +kernel
theorem dX5_fitsWithHold_68 : decode cX5_fitsWithHold 68 = .ok (.iload 4, 2) := by decide +kernel
theorem dX5_fitsWithHold_70 : decode cX5_fitsWithHold 70 = .ok (.laload, 1) := by decide +kernel
theorem dX5_fitsWithHold_71 : decode cX5_fitsWithHold 71 = .ok (.ldc2_w 195, 3) := by decide +kernel
theorem dX5_fitsWithHold_74 : decode cX5_fitsWithHold 74 = .ok (.lcmp, 1) := by decide +kernel
theorem dX5_fitsWithHold_75 : decode cX5_fitsWithHold 75 = .ok (.ifCond .eq 19, 3) := by decide +kernel
theorem dX5_fitsWithHold_78 : decode cX5_fitsWithHold 78 = .ok (.aload_n 1, 1) := by decide +kernel
theorem dX5_fitsWithHold_79 : decode cX5_fitsWithHold 79 = .ok (.getfield 218, 3) := by decide +kernel
theorem dX5_fitsWithHold_82 : decode cX5_fitsWithHold 82 = .ok (.iload 4, 2) := by decide +kernel
theorem dX5_fitsWithHold_84 : decode cX5_fitsWithHold 84 = .ok (.laload, 1) := by decide +kernel
theorem dX5_fitsWithHold_85 : decode cX5_fitsWithHold 85 = .ok (.iload 6, 2) := by decide +kernel
theorem dX5_fitsWithHold_87 : decode cX5_fitsWithHold 87 = .ok (.i2l, 1) := by decide +kernel
theorem dX5_fitsWithHold_88 : decode cX5_fitsWithHold 88 = .ok (.lcmp, 1) := by decide +kernel
theorem dX5_fitsWithHold_89 : decode cX5_fitsWithHold 89 = .ok (.ifCond .eq 5, 3) := by decide +kernel
theorem dX5_fitsWithHold_92 : decode cX5_fitsWithHold 92 = .ok (.iconst 0, 1) := by decide +kernel
theorem dX5_fitsWithHold_93 : decode cX5_fitsWithHold 93 = .ok (.ireturn, 1) := by decide +kernel
theorem dX5_fitsWithHold_94 : decode cX5_fitsWithHold 94 = .ok (.iinc 4 1, 3) := by decide +kernel
theorem dX5_fitsWithHold_97 : decode cX5_fitsWithHold 97 = .ok (.goto (-73), 3) := by decide +kernel
theorem dX5_fitsWithHold_100 : decode cX5_fitsWithHold 100 = .ok (.iconst 1, 1) := by decide +kernel
theorem dX5_fitsWithHold_101 : decode cX5_fitsWithHold 101 = .ok (.ireturn, 1) := by decide +kernel
theorem dX5_rowPartTried_0 : decode cX5_rowPartTried 0 = .ok (.iload_n 2, 1) := by decide +kernel
theorem dX5_rowPartTried_1 : decode cX5_rowPartTried 1 = .ok (.lookupswitch 54 #[(0, 27), (1, 37)], 27) := by decide +kernel
theorem dX5_rowPartTried_28 : decode cX5_rowPartTried 28 = .ok (.aload_n 0, 1) := by decide +kernel
theorem dX5_rowPartTried_29 : decode cX5_rowPartTried 29 = .ok (.getfield 16, 3) := by decide +kernel
theorem dX5_rowPartTried_32 : decode cX5_rowPartTried 32 = .ok (.getfield 107, 3) := by decide +kernel
theorem dX5_rowPartTried_35 : decode cX5_rowPartTried 35 = .ok (.iload_n 1, 1) := by decide +kernel
theorem dX5_rowPartTried_36 : decode cX5_rowPartTried 36 = .ok (.iaload, 1) := by decide +kernel
theorem dX5_rowPartTried_37 : decode cX5_rowPartTried 37 = .ok (.ireturn, 1) := by decide +kernel
theorem dX5_rowPartTried_38 : decode cX5_rowPartTried 38 = .ok (.aload_n 0, 1) := by decide +kernel
theorem dX5_rowPartTried_39 : decode cX5_rowPartTried 39 = .ok (.getfield 16, 3) := by decide +kernel
theorem dX5_rowPartTried_42 : decode cX5_rowPartTried 42 = .ok (.iload_n 1, 1) := by decide +kernel
theorem dX5_rowPartTried_43 : decode cX5_rowPartTried 43 = .ok (.invokevirtual 113, 3) := by decide +kernel
theorem dX5_rowPartTried_46 : decode cX5_rowPartTried 46 = .ok (.ifCond .eq 7, 3) := by decide +kernel
theorem dX5_rowPartTried_49 : decode cX5_rowPartTried 49 = .ok (.iconst 1, 1) := by decide +kernel
theorem dX5_rowPartTried_50 : decode cX5_rowPartTried 50 = .ok (.goto 4, 3) := by decide +kernel
theorem dX5_rowPartTried_53 : decode cX5_rowPartTried 53 = .ok (.iconst 0, 1) := by decide +kernel
theorem dX5_rowPartTried_54 : decode cX5_rowPartTried 54 = .ok (.ireturn, 1) := by decide +kernel
theorem dX5_rowPartTried_55 : decode cX5_rowPartTried 55 = .ok (.aload_n 0, 1) := by decide +kernel
theorem dX5_rowPartTried_56 : decode cX5_rowPartTried 56 = .ok (.getfield 16, 3) := by decide +kernel
theorem dX5_rowPartTried_59 : decode cX5_rowPartTried 59 = .ok (.getfield 148, 3) := by decide +kernel
theorem dX5_rowPartTried_62 : decode cX5_rowPartTried 62 = .ok (.ireturn, 1) := by decide +kernel
theorem dX5_isRowPart_0 : decode cX5_isRowPart 0 = .ok (.iload_n 1, 1) := by decide +kernel
theorem dX5_isRowPart_1 : decode cX5_isRowPart 1 = .ok (.iconst 0, 1) := by decide +kernel
theorem dX5_isRowPart_2 : decode cX5_isRowPart 2 = .ok (.aload_n 0, 1) := by decide +kernel
theorem dX5_isRowPart_3 : decode cX5_isRowPart 3 = .ok (.getfield 80, 3) := by decide +kernel
theorem dX5_isRowPart_6 : decode cX5_isRowPart 6 = .ok (.iconst 1, 1) := by decide +kernel
theorem dX5_isRowPart_7 : decode cX5_isRowPart 7 = .ok (.isub, 1) := by decide +kernel
theorem dX5_isRowPart_8 : decode cX5_isRowPart 8 = .ok (.invokestatic 54, 3) := by decide +kernel
theorem dX5_isRowPart_11 : decode cX5_isRowPart 11 = .ok (.ifCond .eq 16, 3) := by decide +kernel
theorem dX5_isRowPart_14 : decode cX5_isRowPart 14 = .ok (.iload_n 2, 1) := by decide +kernel
theorem dX5_isRowPart_15 : decode cX5_isRowPart 15 = .ok (.iconst 0, 1) := by decide +kernel
theorem dX5_isRowPart_16 : decode cX5_isRowPart 16 = .ok (.iconst 2, 1) := by decide +kernel
theorem dX5_isRowPart_17 : decode cX5_isRowPart 17 = .ok (.invokestatic 54, 3) := by decide +kernel
theorem dX5_isRowPart_20 : decode cX5_isRowPart 20 = .ok (.ifCond .eq 7, 3) := by decide +kernel
theorem dX5_isRowPart_23 : decode cX5_isRowPart 23 = .ok (.iconst 1, 1) := by decide +kernel
theorem dX5_isRowPart_24 : decode cX5_isRowPart 24 = .ok (.goto 4, 3) := by decide +kernel
theorem dX5_isRowPart_27 : decode cX5_isRowPart 27 = .ok (.iconst 0, 1) := by decide +kernel
theorem dX5_isRowPart_28 : decode cX5_isRowPart 28 = .ok (.ireturn, 1) := by decide +kernel
theorem dX5_isNothing_0 : decode cX5_isNothing 0 = .ok (.aload_n 1, 1) := by decide +kernel
theorem dX5_isNothing_1 : decode cX5_isNothing 1 = .ok (.getfield 240, 3) := by decide +kernel
theorem dX5_isNothing_4 : decode cX5_isNothing 4 = .ok (.iconst 2, 1) := by decide +kernel
theorem dX5_isNothing_5 : decode cX5_isNothing 5 = .ok (.if_icmp .eq 24, 3) := by decide +kernel
theorem dX5_isNothing_8 : decode cX5_isNothing 8 = .ok (.aload_n 1, 1) := by decide +kernel
theorem dX5_isNothing_9 : decode cX5_isNothing 9 = .ok (.getfield 240, 3) := by decide +kernel
theorem dX5_isNothing_12 : decode cX5_isNothing 12 = .ok (.ifCond .ne 21, 3) := by decide +kernel
theorem dX5_isNothing_15 : decode cX5_isNothing 15 = .ok (.aload_n 0, 1) := by decide +kernel
theorem dX5_isNothing_16 : decode cX5_isNothing 16 = .ok (.getfield 10, 3) := by decide +kernel
theorem dX5_isNothing_19 : decode cX5_isNothing 19 = .ok (.aload_n 1, 1) := by decide +kernel
theorem dX5_isNothing_20 : decode cX5_isNothing 20 = .ok (.getfield 248, 3) := by decide +kernel
theorem dX5_isNothing_23 : decode cX5_isNothing 23 = .ok (.invokevirtual 97, 3) := by decide +kernel
theorem dX5_isNothing_26 : decode cX5_isNothing 26 = .ok (.ifCond .ne 7, 3) := by decide +kernel
theorem dX5_isNothing_29 : decode cX5_isNothing 29 = .ok (.iconst 1, 1) := by decide +kernel
theorem dX5_isNothing_30 : decode cX5_isNothing 30 = .ok (.goto 4, 3) := by decide +kernel
theorem dX5_isNothing_33 : decode cX5_isNothing 33 = .ok (.iconst 0, 1) := by decide +kernel
theorem dX5_isNothing_34 : decode cX5_isNothing 34 = .ok (.ireturn, 1) := by decide +kernel
theorem dX5_ways_0 : decode cX5_ways 0 = .ok (.lconst 1, 1) := by decide +kernel
theorem dX5_ways_1 : decode cX5_ways 1 = .ok (.lstore_n 2, 1) := by decide +kernel
theorem dX5_ways_2 : decode cX5_ways 2 = .ok (.iconst 1, 1) := by decide +kernel
theorem dX5_ways_3 : decode cX5_ways 3 = .ok (.istore 4, 2) := by decide +kernel
theorem dX5_ways_5 : decode cX5_ways 5 = .ok (.iload 4, 2) := by decide +kernel
theorem dX5_ways_7 : decode cX5_ways 7 = .ok (.iload_n 1, 1) := by decide +kernel
theorem dX5_ways_8 : decode cX5_ways 8 = .ok (.if_icmp .gt 23, 3) := by decide +kernel
theorem dX5_ways_11 : decode cX5_ways 11 = .ok (.lload_n 2, 1) := by decide +kernel
theorem dX5_ways_12 : decode cX5_ways 12 = .ok (.iload_n 0, 1) := by decide +kernel
theorem dX5_ways_13 : decode cX5_ways 13 = .ok (.iload_n 1, 1) := by decide +kernel
theorem dX5_ways_14 : decode cX5_ways 14 = .ok (.isub, 1) := by decide +kernel
theorem dX5_ways_15 : decode cX5_ways 15 = .ok (.iload 4, 2) := by decide +kernel
theorem dX5_ways_17 : decode cX5_ways 17 = .ok (.iadd, 1) := by decide +kernel
theorem dX5_ways_18 : decode cX5_ways 18 = .ok (.i2l, 1) := by decide +kernel
theorem dX5_ways_19 : decode cX5_ways 19 = .ok (.lmul, 1) := by decide +kernel
theorem dX5_ways_20 : decode cX5_ways 20 = .ok (.iload 4, 2) := by decide +kernel
theorem dX5_ways_22 : decode cX5_ways 22 = .ok (.i2l, 1) := by decide +kernel
theorem dX5_ways_23 : decode cX5_ways 23 = .ok (.ldiv, 1) := by decide +kernel
theorem dX5_ways_24 : decode cX5_ways 24 = .ok (.lstore_n 2, 1) := by decide +kernel
theorem dX5_ways_25 : decode cX5_ways 25 = .ok (.iinc 4 1, 3) := by decide +kernel
theorem dX5_ways_28 : decode cX5_ways 28 = .ok (.goto (-23), 3) := by decide +kernel
theorem dX5_ways_31 : decode cX5_ways 31 = .ok (.lload_n 2, 1) := by decide +kernel
theorem dX5_ways_32 : decode cX5_ways 32 = .ok (.lreturn, 1) := by decide +kernel
theorem dX5_partOf_0 : decode cX5_partOf 0 = .ok (.lload_n 2, 1) := by decide +kernel
theorem dX5_partOf_1 : decode cX5_partOf 1 = .ok (.lstore 5, 2) := by decide +kernel
theorem dX5_partOf_3 : decode cX5_partOf 3 = .ok (.lload_n 0, 1) := by decide +kernel
theorem dX5_partOf_4 : decode cX5_partOf 4 = .ok (.lstore 7, 2) := by decide +kernel
theorem dX5_partOf_6 : decode cX5_partOf 6 = .ok (.iconst 0, 1) := by decide +kernel
theorem dX5_partOf_7 : decode cX5_partOf 7 = .ok (.istore 9, 2) := by decide +kernel
theorem dX5_partOf_9 : decode cX5_partOf 9 = .ok (.iload 9, 2) := by decide +kernel
theorem dX5_partOf_11 : decode cX5_partOf 11 = .ok (.bipush 100, 2) := by decide +kernel
theorem dX5_partOf_13 : decode cX5_partOf 13 = .ok (.if_icmp .ge 31, 3) := by decide +kernel
theorem dX5_partOf_16 : decode cX5_partOf 16 = .ok (.lload 7, 2) := by decide +kernel
theorem dX5_partOf_18 : decode cX5_partOf 18 = .ok (.lconst 0, 1) := by decide +kernel
theorem dX5_partOf_19 : decode cX5_partOf 19 = .ok (.lcmp, 1) := by decide +kernel
theorem dX5_partOf_20 : decode cX5_partOf 20 = .ok (.ifCond .eq 24, 3) := by decide +kernel
theorem dX5_partOf_23 : decode cX5_partOf 23 = .ok (.lload 5, 2) := by decide +kernel
theorem dX5_partOf_25 : decode cX5_partOf 25 = .ok (.lload 7, 2) := by decide +kernel
theorem dX5_partOf_27 : decode cX5_partOf 27 = .ok (.lrem, 1) := by decide +kernel
theorem dX5_partOf_28 : decode cX5_partOf 28 = .ok (.lstore 10, 2) := by decide +kernel
theorem dX5_partOf_30 : decode cX5_partOf 30 = .ok (.lload 7, 2) := by decide +kernel
theorem dX5_partOf_32 : decode cX5_partOf 32 = .ok (.lstore 5, 2) := by decide +kernel
theorem dX5_partOf_34 : decode cX5_partOf 34 = .ok (.lload 10, 2) := by decide +kernel
theorem dX5_partOf_36 : decode cX5_partOf 36 = .ok (.lstore 7, 2) := by decide +kernel
theorem dX5_partOf_38 : decode cX5_partOf 38 = .ok (.iinc 9 1, 3) := by decide +kernel
theorem dX5_partOf_41 : decode cX5_partOf 41 = .ok (.goto (-32), 3) := by decide +kernel
theorem dX5_partOf_44 : decode cX5_partOf 44 = .ok (.lload 5, 2) := by decide +kernel
theorem dX5_partOf_46 : decode cX5_partOf 46 = .ok (.lconst 0, 1) := by decide +kernel
theorem dX5_partOf_47 : decode cX5_partOf 47 = .ok (.lcmp, 1) := by decide +kernel
theorem dX5_partOf_48 : decode cX5_partOf 48 = .ok (.ifCond .gt 7, 3) := by decide +kernel
theorem dX5_partOf_51 : decode cX5_partOf 51 = .ok (.ldc2_w 195, 3) := by decide +kernel
theorem dX5_partOf_54 : decode cX5_partOf 54 = .ok (.lreturn, 1) := by decide +kernel
theorem dX5_partOf_55 : decode cX5_partOf 55 = .ok (.iload 4, 2) := by decide +kernel
theorem dX5_partOf_57 : decode cX5_partOf 57 = .ok (.ifCond .ne 10, 3) := by decide +kernel
theorem dX5_partOf_60 : decode cX5_partOf 60 = .ok (.lload_n 0, 1) := by decide +kernel
theorem dX5_partOf_61 : decode cX5_partOf 61 = .ok (.lload 5, 2) := by decide +kernel
theorem dX5_partOf_63 : decode cX5_partOf 63 = .ok (.ldiv, 1) := by decide +kernel
theorem dX5_partOf_64 : decode cX5_partOf 64 = .ok (.goto 7, 3) := by decide +kernel
theorem dX5_partOf_67 : decode cX5_partOf 67 = .ok (.lload_n 2, 1) := by decide +kernel
theorem dX5_partOf_68 : decode cX5_partOf 68 = .ok (.lload 5, 2) := by decide +kernel
theorem dX5_partOf_70 : decode cX5_partOf 70 = .ok (.ldiv, 1) := by decide +kernel
theorem dX5_partOf_71 : decode cX5_partOf 71 = .ok (.lreturn, 1) := by decide +kernel
