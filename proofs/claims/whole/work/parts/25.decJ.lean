theorem dJ6_bitCount_0f7a4_0 : decode cJ6_bitCount_0f7a4 0 = .ok (.iload_n 0, 1) := by decide +kernel
theorem dJ6_bitCount_0f7a4_1 : decode cJ6_bitCount_0f7a4 1 = .ok (.iload_n 0, 1) := by decide +kernel
theorem dJ6_bitCount_0f7a4_2 : decode cJ6_bitCount_0f7a4 2 = .ok (.iconst 1, 1) := by decide +kernel
theorem dJ6_bitCount_0f7a4_3 : decode cJ6_bitCount_0f7a4 3 = .ok (.iushr, 1) := by decide +kernel
theorem dJ6_bitCount_0f7a4_4 : decode cJ6_bitCount_0f7a4 4 = .ok (.ldc_w 265, 3) := by decide +kernel
theorem dJ6_bitCount_0f7a4_7 : decode cJ6_bitCount_0f7a4 7 = .ok (.iand, 1) := by decide +kernel
theorem dJ6_bitCount_0f7a4_8 : decode cJ6_bitCount_0f7a4 8 = .ok (.isub, 1) := by decide +kernel
theorem dJ6_bitCount_0f7a4_9 : decode cJ6_bitCount_0f7a4 9 = .ok (.istore_n 0, 1) := by decide +kernel
theorem dJ6_bitCount_0f7a4_10 : decode cJ6_bitCount_0f7a4 10 = .ok (.iload_n 0, 1) := by decide +kernel
theorem dJ6_bitCount_0f7a4_11 : decode cJ6_bitCount_0f7a4 11 = .ok (.ldc_w 266, 3) := by decide +kernel
theorem dJ6_bitCount_0f7a4_14 : decode cJ6_bitCount_0f7a4 14 = .ok (.iand, 1) := by decide +kernel
theorem dJ6_bitCount_0f7a4_15 : decode cJ6_bitCount_0f7a4 15 = .ok (.iload_n 0, 1) := by decide +kernel
theorem dJ6_bitCount_0f7a4_16 : decode cJ6_bitCount_0f7a4 16 = .ok (.iconst 2, 1) := by decide +kernel
theorem dJ6_bitCount_0f7a4_17 : decode cJ6_bitCount_0f7a4 17 = .ok (.iushr, 1) := by decide +kernel
theorem dJ6_bitCount_0f7a4_18 : decode cJ6_bitCount_0f7a4 18 = .ok (.ldc_w 266, 3) := by decide +kernel
theorem dJ6_bitCount_0f7a4_21 : decode cJ6_bitCount_0f7a4 21 = .ok (.iand, 1) := by decide +kernel
theorem dJ6_bitCount_0f7a4_22 : decode cJ6_bitCount_0f7a4 22 = .ok (.iadd, 1) := by decide +kernel
theorem dJ6_bitCount_0f7a4_23 : decode cJ6_bitCount_0f7a4 23 = .ok (.istore_n 0, 1) := by decide +kernel
theorem dJ6_bitCount_0f7a4_24 : decode cJ6_bitCount_0f7a4 24 = .ok (.iload_n 0, 1) := by decide +kernel
theorem dJ6_bitCount_0f7a4_25 : decode cJ6_bitCount_0f7a4 25 = .ok (.iload_n 0, 1) := by decide +kernel
theorem dJ6_bitCount_0f7a4_26 : decode cJ6_bitCount_0f7a4 26 = .ok (.iconst 4, 1) := by decide +kernel
theorem dJ6_bitCount_0f7a4_27 : decode cJ6_bitCount_0f7a4 27 = .ok (.iushr, 1) := by decide +kernel
theorem dJ6_bitCount_0f7a4_28 : decode cJ6_bitCount_0f7a4 28 = .ok (.iadd, 1) := by decide +kernel
theorem dJ6_bitCount_0f7a4_29 : decode cJ6_bitCount_0f7a4 29 = .ok (.ldc_w 267, 3) := by decide +kernel
theorem dJ6_bitCount_0f7a4_32 : decode cJ6_bitCount_0f7a4 32 = .ok (.iand, 1) := by decide +kernel
theorem dJ6_bitCount_0f7a4_33 : decode cJ6_bitCount_0f7a4 33 = .ok (.istore_n 0, 1) := by decide +kernel
theorem dJ6_bitCount_0f7a4_34 : decode cJ6_bitCount_0f7a4 34 = .ok (.iload_n 0, 1) := by decide +kernel
theorem dJ6_bitCount_0f7a4_35 : decode cJ6_bitCount_0f7a4 35 = .ok (.iload_n 0, 1) := by decide +kernel
theorem dJ6_bitCount_0f7a4_36 : decode cJ6_bitCount_0f7a4 36 = .ok (.bipush 8, 2) := by decide +kernel
theorem dJ6_bitCount_0f7a4_38 : decode cJ6_bitCount_0f7a4 38 = .ok (.iushr, 1) := by decide +kernel
theorem dJ6_bitCount_0f7a4_39 : decode cJ6_bitCount_0f7a4 39 = .ok (.iadd, 1) := by decide +kernel
theorem dJ6_bitCount_0f7a4_40 : decode cJ6_bitCount_0f7a4 40 = .ok (.istore_n 0, 1) := by decide +kernel
theorem dJ6_bitCount_0f7a4_41 : decode cJ6_bitCount_0f7a4 41 = .ok (.iload_n 0, 1) := by decide +kernel
theorem dJ6_bitCount_0f7a4_42 : decode cJ6_bitCount_0f7a4 42 = .ok (.iload_n 0, 1) := by decide +kernel
theorem dJ6_bitCount_0f7a4_43 : decode cJ6_bitCount_0f7a4 43 = .ok (.bipush 16, 2) := by decide +kernel
theorem dJ6_bitCount_0f7a4_45 : decode cJ6_bitCount_0f7a4 45 = .ok (.iushr, 1) := by decide +kernel
theorem dJ6_bitCount_0f7a4_46 : decode cJ6_bitCount_0f7a4 46 = .ok (.iadd, 1) := by decide +kernel
theorem dJ6_bitCount_0f7a4_47 : decode cJ6_bitCount_0f7a4 47 = .ok (.istore_n 0, 1) := by decide +kernel
theorem dJ6_bitCount_0f7a4_48 : decode cJ6_bitCount_0f7a4 48 = .ok (.iload_n 0, 1) := by decide +kernel
theorem dJ6_bitCount_0f7a4_49 : decode cJ6_bitCount_0f7a4 49 = .ok (.bipush 63, 2) := by decide +kernel
theorem dJ6_bitCount_0f7a4_51 : decode cJ6_bitCount_0f7a4 51 = .ok (.iand, 1) := by decide +kernel
theorem dJ6_bitCount_0f7a4_52 : decode cJ6_bitCount_0f7a4 52 = .ok (.ireturn, 1) := by decide +kernel
theorem dJ9_max_7cf53_0 : decode cJ9_max_7cf53 0 = .ok (.iload_n 0, 1) := by decide +kernel
theorem dJ9_max_7cf53_1 : decode cJ9_max_7cf53 1 = .ok (.iload_n 1, 1) := by decide +kernel
theorem dJ9_max_7cf53_2 : decode cJ9_max_7cf53 2 = .ok (.if_icmp .lt 7, 3) := by decide +kernel
theorem dJ9_max_7cf53_5 : decode cJ9_max_7cf53 5 = .ok (.iload_n 0, 1) := by decide +kernel
theorem dJ9_max_7cf53_6 : decode cJ9_max_7cf53 6 = .ok (.goto 4, 3) := by decide +kernel
theorem dJ9_max_7cf53_9 : decode cJ9_max_7cf53 9 = .ok (.iload_n 1, 1) := by decide +kernel
theorem dJ9_max_7cf53_10 : decode cJ9_max_7cf53 10 = .ok (.ireturn, 1) := by decide +kernel
theorem dJ9_min_7cf53_0 : decode cJ9_min_7cf53 0 = .ok (.iload_n 0, 1) := by decide +kernel
theorem dJ9_min_7cf53_1 : decode cJ9_min_7cf53 1 = .ok (.iload_n 1, 1) := by decide +kernel
theorem dJ9_min_7cf53_2 : decode cJ9_min_7cf53 2 = .ok (.if_icmp .gt 7, 3) := by decide +kernel
theorem dJ9_min_7cf53_5 : decode cJ9_min_7cf53 5 = .ok (.iload_n 0, 1) := by decide +kernel
theorem dJ9_min_7cf53_6 : decode cJ9_min_7cf53 6 = .ok (.goto 4, 3) := by decide +kernel
theorem dJ9_min_7cf53_9 : decode cJ9_min_7cf53 9 = .ok (.iload_n 1, 1) := by decide +kernel
theorem dJ9_min_7cf53_10 : decode cJ9_min_7cf53 10 = .ok (.ireturn, 1) := by decide +kernel
theorem dJ0_length_8abf5_0 : decode cJ0_length_8abf5 0 = .ok (.aload_n 0, 1) := by decide +kernel
theorem dJ0_length_8abf5_1 : decode cJ0_length_8abf5 1 = .ok (.getfield 9, 3) := by decide +kernel
theorem dJ0_length_8abf5_4 : decode cJ0_length_8abf5 4 = .ok (.arraylength, 1) := by decide +kernel
theorem dJ0_length_8abf5_5 : decode cJ0_length_8abf5 5 = .ok (.aload_n 0, 1) := by decide +kernel
theorem dJ0_length_8abf5_6 : decode cJ0_length_8abf5 6 = .ok (.invokevirtual 335, 3) := by decide +kernel
theorem dJ0_length_8abf5_9 : decode cJ0_length_8abf5 9 = .ok (.ishr, 1) := by decide +kernel
theorem dJ0_length_8abf5_10 : decode cJ0_length_8abf5 10 = .ok (.ireturn, 1) := by decide +kernel
theorem dJ0_charAt_5068e_0 : decode cJ0_charAt_5068e 0 = .ok (.aload_n 0, 1) := by decide +kernel
theorem dJ0_charAt_5068e_1 : decode cJ0_charAt_5068e 1 = .ok (.invokevirtual 492, 3) := by decide +kernel
theorem dJ0_charAt_5068e_4 : decode cJ0_charAt_5068e 4 = .ok (.ifCond .eq 12, 3) := by decide +kernel
theorem dJ0_charAt_5068e_7 : decode cJ0_charAt_5068e 7 = .ok (.aload_n 0, 1) := by decide +kernel
theorem dJ0_charAt_5068e_8 : decode cJ0_charAt_5068e 8 = .ok (.getfield 9, 3) := by decide +kernel
theorem dJ0_charAt_5068e_11 : decode cJ0_charAt_5068e 11 = .ok (.iload_n 1, 1) := by decide +kernel
theorem dJ0_charAt_5068e_12 : decode cJ0_charAt_5068e 12 = .ok (.invokestatic 495, 3) := by decide +kernel
theorem dJ0_charAt_5068e_15 : decode cJ0_charAt_5068e 15 = .ok (.ireturn, 1) := by decide +kernel
theorem dJ0_charAt_5068e_16 : decode cJ0_charAt_5068e 16 = .ok (.aload_n 0, 1) := by decide +kernel
theorem dJ0_charAt_5068e_17 : decode cJ0_charAt_5068e 17 = .ok (.getfield 9, 3) := by decide +kernel
theorem dJ0_charAt_5068e_20 : decode cJ0_charAt_5068e 20 = .ok (.iload_n 1, 1) := by decide +kernel
theorem dJ0_charAt_5068e_21 : decode cJ0_charAt_5068e 21 = .ok (.invokestatic 498, 3) := by decide +kernel
theorem dJ0_charAt_5068e_24 : decode cJ0_charAt_5068e 24 = .ok (.ireturn, 1) := by decide +kernel
theorem dJ0_coder_7d493_0 : decode cJ0_coder_7d493 0 = .ok (.getstatic 38, 3) := by decide +kernel
theorem dJ0_coder_7d493_3 : decode cJ0_coder_7d493 3 = .ok (.ifCond .eq 10, 3) := by decide +kernel
theorem dJ0_coder_7d493_6 : decode cJ0_coder_7d493 6 = .ok (.aload_n 0, 1) := by decide +kernel
theorem dJ0_coder_7d493_7 : decode cJ0_coder_7d493 7 = .ok (.getfield 15, 3) := by decide +kernel
theorem dJ0_coder_7d493_10 : decode cJ0_coder_7d493 10 = .ok (.goto 4, 3) := by decide +kernel
theorem dJ0_coder_7d493_13 : decode cJ0_coder_7d493 13 = .ok (.iconst 1, 1) := by decide +kernel
theorem dJ0_coder_7d493_14 : decode cJ0_coder_7d493 14 = .ok (.ireturn, 1) := by decide +kernel
theorem dJ0_isLatin1_aae02_0 : decode cJ0_isLatin1_aae02 0 = .ok (.getstatic 38, 3) := by decide +kernel
theorem dJ0_isLatin1_aae02_3 : decode cJ0_isLatin1_aae02 3 = .ok (.ifCond .eq 14, 3) := by decide +kernel
theorem dJ0_isLatin1_aae02_6 : decode cJ0_isLatin1_aae02 6 = .ok (.aload_n 0, 1) := by decide +kernel
theorem dJ0_isLatin1_aae02_7 : decode cJ0_isLatin1_aae02 7 = .ok (.getfield 15, 3) := by decide +kernel
theorem dJ0_isLatin1_aae02_10 : decode cJ0_isLatin1_aae02 10 = .ok (.ifCond .ne 7, 3) := by decide +kernel
theorem dJ0_isLatin1_aae02_13 : decode cJ0_isLatin1_aae02 13 = .ok (.iconst 1, 1) := by decide +kernel
theorem dJ0_isLatin1_aae02_14 : decode cJ0_isLatin1_aae02 14 = .ok (.goto 4, 3) := by decide +kernel
theorem dJ0_isLatin1_aae02_17 : decode cJ0_isLatin1_aae02 17 = .ok (.iconst 0, 1) := by decide +kernel
theorem dJ0_isLatin1_aae02_18 : decode cJ0_isLatin1_aae02 18 = .ok (.ireturn, 1) := by decide +kernel
theorem dJ0_checkIndex_df160_0 : decode cJ0_checkIndex_df160 0 = .ok (.iload_n 0, 1) := by decide +kernel
theorem dJ0_checkIndex_df160_1 : decode cJ0_checkIndex_df160 1 = .ok (.iload_n 1, 1) := by decide +kernel
theorem dJ0_checkIndex_df160_2 : decode cJ0_checkIndex_df160 2 = .ok (.getstatic 1053, 3) := by decide +kernel
theorem dJ0_checkIndex_df160_5 : decode cJ0_checkIndex_df160 5 = .ok (.invokestatic 1059, 3) := by decide +kernel
theorem dJ0_checkIndex_df160_8 : decode cJ0_checkIndex_df160 8 = .ok (.pop, 1) := by decide +kernel
theorem dJ0_checkIndex_df160_9 : decode cJ0_checkIndex_df160 9 = .ok (.return_, 1) := by decide +kernel
theorem dJ1_charAt_3b067_0 : decode cJ1_charAt_3b067 0 = .ok (.iload_n 1, 1) := by decide +kernel
theorem dJ1_charAt_3b067_1 : decode cJ1_charAt_3b067 1 = .ok (.aload_n 0, 1) := by decide +kernel
theorem dJ1_charAt_3b067_2 : decode cJ1_charAt_3b067 2 = .ok (.arraylength, 1) := by decide +kernel
theorem dJ1_charAt_3b067_3 : decode cJ1_charAt_3b067 3 = .ok (.invokestatic 9, 3) := by decide +kernel
theorem dJ1_charAt_3b067_6 : decode cJ1_charAt_3b067 6 = .ok (.aload_n 0, 1) := by decide +kernel
theorem dJ1_charAt_3b067_7 : decode cJ1_charAt_3b067 7 = .ok (.iload_n 1, 1) := by decide +kernel
theorem dJ1_charAt_3b067_8 : decode cJ1_charAt_3b067 8 = .ok (.baload, 1) := by decide +kernel
theorem dJ1_charAt_3b067_9 : decode cJ1_charAt_3b067 9 = .ok (.sipush 255, 3) := by decide +kernel
theorem dJ1_charAt_3b067_12 : decode cJ1_charAt_3b067 12 = .ok (.iand, 1) := by decide +kernel
theorem dJ1_charAt_3b067_13 : decode cJ1_charAt_3b067 13 = .ok (.i2c, 1) := by decide +kernel
theorem dJ1_charAt_3b067_14 : decode cJ1_charAt_3b067 14 = .ok (.ireturn, 1) := by decide +kernel
theorem dJ2_getChar_3b067_0 : decode cJ2_getChar_3b067 0 = .ok (.getstatic 44, 3) := by decide +kernel
theorem dJ2_getChar_3b067_3 : decode cJ2_getChar_3b067 3 = .ok (.ifCond .ne 25, 3) := by decide +kernel
theorem dJ2_getChar_3b067_6 : decode cJ2_getChar_3b067 6 = .ok (.iload_n 1, 1) := by decide +kernel
theorem dJ2_getChar_3b067_7 : decode cJ2_getChar_3b067 7 = .ok (.ifCond .lt 11, 3) := by decide +kernel
theorem dJ2_getChar_3b067_10 : decode cJ2_getChar_3b067 10 = .ok (.iload_n 1, 1) := by decide +kernel
theorem dJ2_getChar_3b067_11 : decode cJ2_getChar_3b067 11 = .ok (.aload_n 0, 1) := by decide +kernel
theorem dJ2_getChar_3b067_12 : decode cJ2_getChar_3b067 12 = .ok (.invokestatic 48, 3) := by decide +kernel
theorem dJ2_getChar_3b067_15 : decode cJ2_getChar_3b067 15 = .ok (.if_icmp .lt 13, 3) := by decide +kernel
theorem dJ2_getChar_3b067_18 : decode cJ2_getChar_3b067 18 = .ok (.new 52, 3) := by decide +kernel
theorem dJ2_getChar_3b067_21 : decode cJ2_getChar_3b067 21 = .ok (.dup, 1) := by decide +kernel
theorem dJ2_getChar_3b067_22 : decode cJ2_getChar_3b067 22 = .ok (.ldc 54, 2) := by decide +kernel
theorem dJ2_getChar_3b067_24 : decode cJ2_getChar_3b067 24 = .ok (.invokespecial 56, 3) := by decide +kernel
theorem dJ2_getChar_3b067_27 : decode cJ2_getChar_3b067 27 = .ok (.athrow, 1) := by decide +kernel
theorem dJ2_getChar_3b067_28 : decode cJ2_getChar_3b067 28 = .ok (.iload_n 1, 1) := by decide +kernel
theorem dJ2_getChar_3b067_29 : decode cJ2_getChar_3b067 29 = .ok (.iconst 1, 1) := by decide +kernel
theorem dJ2_getChar_3b067_30 : decode cJ2_getChar_3b067 30 = .ok (.ishl, 1) := by decide +kernel
theorem dJ2_getChar_3b067_31 : decode cJ2_getChar_3b067 31 = .ok (.istore_n 1, 1) := by decide +kernel
theorem dJ2_getChar_3b067_32 : decode cJ2_getChar_3b067 32 = .ok (.aload_n 0, 1) := by decide +kernel
theorem dJ2_getChar_3b067_33 : decode cJ2_getChar_3b067 33 = .ok (.iload_n 1, 1) := by decide +kernel
theorem dJ2_getChar_3b067_34 : decode cJ2_getChar_3b067 34 = .ok (.iinc 1 1, 3) := by decide +kernel
theorem dJ2_getChar_3b067_37 : decode cJ2_getChar_3b067 37 = .ok (.baload, 1) := by decide +kernel
theorem dJ2_getChar_3b067_38 : decode cJ2_getChar_3b067 38 = .ok (.sipush 255, 3) := by decide +kernel
theorem dJ2_getChar_3b067_41 : decode cJ2_getChar_3b067 41 = .ok (.iand, 1) := by decide +kernel
theorem dJ2_getChar_3b067_42 : decode cJ2_getChar_3b067 42 = .ok (.getstatic 59, 3) := by decide +kernel
theorem dJ2_getChar_3b067_45 : decode cJ2_getChar_3b067 45 = .ok (.ishl, 1) := by decide +kernel
theorem dJ2_getChar_3b067_46 : decode cJ2_getChar_3b067 46 = .ok (.aload_n 0, 1) := by decide +kernel
theorem dJ2_getChar_3b067_47 : decode cJ2_getChar_3b067 47 = .ok (.iload_n 1, 1) := by decide +kernel
theorem dJ2_getChar_3b067_48 : decode cJ2_getChar_3b067 48 = .ok (.baload, 1) := by decide +kernel
theorem dJ2_getChar_3b067_49 : decode cJ2_getChar_3b067 49 = .ok (.sipush 255, 3) := by decide +kernel
theorem dJ2_getChar_3b067_52 : decode cJ2_getChar_3b067 52 = .ok (.iand, 1) := by decide +kernel
theorem dJ2_getChar_3b067_53 : decode cJ2_getChar_3b067 53 = .ok (.getstatic 63, 3) := by decide +kernel
theorem dJ2_getChar_3b067_56 : decode cJ2_getChar_3b067 56 = .ok (.ishl, 1) := by decide +kernel
theorem dJ2_getChar_3b067_57 : decode cJ2_getChar_3b067 57 = .ok (.ior, 1) := by decide +kernel
theorem dJ2_getChar_3b067_58 : decode cJ2_getChar_3b067 58 = .ok (.i2c, 1) := by decide +kernel
theorem dJ2_getChar_3b067_59 : decode cJ2_getChar_3b067 59 = .ok (.ireturn, 1) := by decide +kernel
theorem dJ2_length_9d52b_0 : decode cJ2_length_9d52b 0 = .ok (.aload_n 0, 1) := by decide +kernel
theorem dJ2_length_9d52b_1 : decode cJ2_length_9d52b 1 = .ok (.arraylength, 1) := by decide +kernel
theorem dJ2_length_9d52b_2 : decode cJ2_length_9d52b 2 = .ok (.iconst 1, 1) := by decide +kernel
theorem dJ2_length_9d52b_3 : decode cJ2_length_9d52b 3 = .ok (.ishr, 1) := by decide +kernel
theorem dJ2_length_9d52b_4 : decode cJ2_length_9d52b 4 = .ok (.ireturn, 1) := by decide +kernel
theorem dJ2_charAt_3b067_0 : decode cJ2_charAt_3b067 0 = .ok (.iload_n 1, 1) := by decide +kernel
theorem dJ2_charAt_3b067_1 : decode cJ2_charAt_3b067 1 = .ok (.aload_n 0, 1) := by decide +kernel
theorem dJ2_charAt_3b067_2 : decode cJ2_charAt_3b067 2 = .ok (.invokestatic 67, 3) := by decide +kernel
theorem dJ2_charAt_3b067_5 : decode cJ2_charAt_3b067 5 = .ok (.aload_n 0, 1) := by decide +kernel
theorem dJ2_charAt_3b067_6 : decode cJ2_charAt_3b067 6 = .ok (.iload_n 1, 1) := by decide +kernel
theorem dJ2_charAt_3b067_7 : decode cJ2_charAt_3b067 7 = .ok (.invokestatic 71, 3) := by decide +kernel
theorem dJ2_charAt_3b067_10 : decode cJ2_charAt_3b067 10 = .ok (.ireturn, 1) := by decide +kernel
theorem dJ2_checkIndex_2214a_0 : decode cJ2_checkIndex_2214a 0 = .ok (.iload_n 0, 1) := by decide +kernel
theorem dJ2_checkIndex_2214a_1 : decode cJ2_checkIndex_2214a 1 = .ok (.aload_n 1, 1) := by decide +kernel
theorem dJ2_checkIndex_2214a_2 : decode cJ2_checkIndex_2214a 2 = .ok (.invokestatic 48, 3) := by decide +kernel
theorem dJ2_checkIndex_2214a_5 : decode cJ2_checkIndex_2214a 5 = .ok (.invokestatic 414, 3) := by decide +kernel
theorem dJ2_checkIndex_2214a_8 : decode cJ2_checkIndex_2214a 8 = .ok (.return_, 1) := by decide +kernel
theorem dJ3_checkIndex_8e157_0 : decode cJ3_checkIndex_8e157 0 = .ok (.iload_n 0, 1) := by decide +kernel
theorem dJ3_checkIndex_8e157_1 : decode cJ3_checkIndex_8e157 1 = .ok (.ifCond .lt 8, 3) := by decide +kernel
theorem dJ3_checkIndex_8e157_4 : decode cJ3_checkIndex_8e157 4 = .ok (.iload_n 0, 1) := by decide +kernel
theorem dJ3_checkIndex_8e157_5 : decode cJ3_checkIndex_8e157 5 = .ok (.iload_n 1, 1) := by decide +kernel
theorem dJ3_checkIndex_8e157_6 : decode cJ3_checkIndex_8e157 6 = .ok (.if_icmp .lt 10, 3) := by decide +kernel
theorem dJ3_checkIndex_8e157_9 : decode cJ3_checkIndex_8e157 9 = .ok (.aload_n 2, 1) := by decide +kernel
theorem dJ3_checkIndex_8e157_10 : decode cJ3_checkIndex_8e157 10 = .ok (.iload_n 0, 1) := by decide +kernel
theorem dJ3_checkIndex_8e157_11 : decode cJ3_checkIndex_8e157 11 = .ok (.iload_n 1, 1) := by decide +kernel
theorem dJ3_checkIndex_8e157_12 : decode cJ3_checkIndex_8e157 12 = .ok (.invokestatic 95, 3) := by decide +kernel
theorem dJ3_checkIndex_8e157_15 : decode cJ3_checkIndex_8e157 15 = .ok (.athrow, 1) := by decide +kernel
theorem dJ3_checkIndex_8e157_16 : decode cJ3_checkIndex_8e157 16 = .ok (.iload_n 0, 1) := by decide +kernel
theorem dJ3_checkIndex_8e157_17 : decode cJ3_checkIndex_8e157 17 = .ok (.ireturn, 1) := by decide +kernel
theorem dX0_init_0 : decode cX0_init 0 = .ok (.aload_n 0, 1) := by decide +kernel
theorem dX0_init_1 : decode cX0_init 1 = .ok (.invokespecial 3, 3) := by decide +kernel
theorem dX0_init_4 : decode cX0_init 4 = .ok (.aload_n 0, 1) := by decide +kernel
theorem dX0_init_5 : decode cX0_init 5 = .ok (.bipush 30, 2) := by decide +kernel
theorem dX0_init_7 : decode cX0_init 7 = .ok (.newarray .int, 2) := by decide +kernel
theorem dX0_init_9 : decode cX0_init 9 = .ok (.putfield 9, 3) := by decide +kernel
theorem dX0_init_12 : decode cX0_init 12 = .ok (.return_, 1) := by decide +kernel
theorem dX0_perform_0 : decode cX0_perform 0 = .ok (.aload_n 0, 1) := by decide +kernel
theorem dX0_perform_1 : decode cX0_perform 1 = .ok (.iconst 0, 1) := by decide +kernel
theorem dX0_perform_2 : decode cX0_perform 2 = .ok (.putfield 15, 3) := by decide +kernel
theorem dX0_perform_5 : decode cX0_perform 5 = .ok (.iload_n 1, 1) := by decide +kernel
theorem dX0_perform_6 : decode cX0_perform 6 = .ok (.tableswitch 66 0 3 #[30, 39, 48, 57], 30) := by decide +kernel
theorem dX0_perform_36 : decode cX0_perform 36 = .ok (.aload_n 0, 1) := by decide +kernel
theorem dX0_perform_37 : decode cX0_perform 37 = .ok (.iload_n 2, 1) := by decide +kernel
theorem dX0_perform_38 : decode cX0_perform 38 = .ok (.invokevirtual 19, 3) := by decide +kernel
theorem dX0_perform_41 : decode cX0_perform 41 = .ok (.istore_n 3, 1) := by decide +kernel
theorem dX0_perform_42 : decode cX0_perform 42 = .ok (.goto 32, 3) := by decide +kernel
theorem dX0_perform_45 : decode cX0_perform 45 = .ok (.aload_n 0, 1) := by decide +kernel
theorem dX0_perform_46 : decode cX0_perform 46 = .ok (.iload_n 2, 1) := by decide +kernel
theorem dX0_perform_47 : decode cX0_perform 47 = .ok (.invokevirtual 23, 3) := by decide +kernel
theorem dX0_perform_50 : decode cX0_perform 50 = .ok (.istore_n 3, 1) := by decide +kernel
theorem dX0_perform_51 : decode cX0_perform 51 = .ok (.goto 23, 3) := by decide +kernel
theorem dX0_perform_54 : decode cX0_perform 54 = .ok (.aload_n 0, 1) := by decide +kernel
theorem dX0_perform_55 : decode cX0_perform 55 = .ok (.iload_n 2, 1) := by decide +kernel
theorem dX0_perform_56 : decode cX0_perform 56 = .ok (.invokevirtual 26, 3) := by decide +kernel
theorem dX0_perform_59 : decode cX0_perform 59 = .ok (.istore_n 3, 1) := by decide +kernel
theorem dX0_perform_60 : decode cX0_perform 60 = .ok (.goto 14, 3) := by decide +kernel
theorem dX0_perform_63 : decode cX0_perform 63 = .ok (.aload_n 0, 1) := by decide +kernel
theorem dX0_perform_64 : decode cX0_perform 64 = .ok (.iload_n 2, 1) := by decide +kernel
theorem dX0_perform_65 : decode cX0_perform 65 = .ok (.invokevirtual 29, 3) := by decide +kernel
theorem dX0_perform_68 : decode cX0_perform 68 = .ok (.istore_n 3, 1) := by decide +kernel
theorem dX0_perform_69 : decode cX0_perform 69 = .ok (.goto 5, 3) := by decide +kernel
theorem dX0_perform_72 : decode cX0_perform 72 = .ok (.iconst 0, 1) := by decide +kernel
theorem dX0_perform_73 : decode cX0_perform 73 = .ok (.istore_n 3, 1) := by decide +kernel
theorem dX0_perform_74 : decode cX0_perform 74 = .ok (.aload_n 0, 1) := by decide +kernel
theorem dX0_perform_75 : decode cX0_perform 75 = .ok (.getfield 15, 3) := by decide +kernel
theorem dX0_perform_78 : decode cX0_perform 78 = .ok (.ifCond .eq 8, 3) := by decide +kernel
theorem dX0_perform_81 : decode cX0_perform 81 = .ok (.bipush (-15), 2) := by decide +kernel
theorem dX0_perform_83 : decode cX0_perform 83 = .ok (.goto 4, 3) := by decide +kernel
theorem dX0_perform_86 : decode cX0_perform 86 = .ok (.iload_n 3, 1) := by decide +kernel
theorem dX0_perform_87 : decode cX0_perform 87 = .ok (.ireturn, 1) := by decide +kernel
theorem dX0_turns_0 : decode cX0_turns 0 = .ok (.aload_n 0, 1) := by decide +kernel
theorem dX0_turns_1 : decode cX0_turns 1 = .ok (.bipush 40, 2) := by decide +kernel
theorem dX0_turns_3 : decode cX0_turns 3 = .ok (.aload_n 0, 1) := by decide +kernel
theorem dX0_turns_4 : decode cX0_turns 4 = .ok (.getfield 32, 3) := by decide +kernel
theorem dX0_turns_7 : decode cX0_turns 7 = .ok (.iconst 4, 1) := by decide +kernel
theorem dX0_turns_8 : decode cX0_turns 8 = .ok (.if_icmp .ne 7, 3) := by decide +kernel
theorem dX0_turns_11 : decode cX0_turns 11 = .ok (.iconst 1, 1) := by decide +kernel
theorem dX0_turns_12 : decode cX0_turns 12 = .ok (.goto 4, 3) := by decide +kernel
theorem dX0_turns_15 : decode cX0_turns 15 = .ok (.iconst 0, 1) := by decide +kernel
theorem dX0_turns_16 : decode cX0_turns 16 = .ok (.invokevirtual 36, 3) := by decide +kernel
theorem dX0_turns_19 : decode cX0_turns 19 = .ok (.aload_n 0, 1) := by decide +kernel
theorem dX0_turns_20 : decode cX0_turns 20 = .ok (.bipush 30, 2) := by decide +kernel
theorem dX0_turns_22 : decode cX0_turns 22 = .ok (.aload_n 0, 1) := by decide +kernel
theorem dX0_turns_23 : decode cX0_turns 23 = .ok (.getfield 32, 3) := by decide +kernel
theorem dX0_turns_26 : decode cX0_turns 26 = .ok (.iconst 2, 1) := by decide +kernel
theorem dX0_turns_27 : decode cX0_turns 27 = .ok (.invokestatic 40, 3) := by decide +kernel
theorem dX0_turns_30 : decode cX0_turns 30 = .ok (.invokevirtual 36, 3) := by decide +kernel
theorem dX0_turns_33 : decode cX0_turns 33 = .ok (.aload_n 0, 1) := by decide +kernel
theorem dX0_turns_34 : decode cX0_turns 34 = .ok (.bipush 51, 2) := by decide +kernel
theorem dX0_turns_36 : decode cX0_turns 36 = .ok (.aload_n 0, 1) := by decide +kernel
theorem dX0_turns_37 : decode cX0_turns 37 = .ok (.getfield 32, 3) := by decide +kernel
theorem dX0_turns_40 : decode cX0_turns 40 = .ok (.iconst 3, 1) := by decide +kernel
theorem dX0_turns_41 : decode cX0_turns 41 = .ok (.if_icmp .ne 7, 3) := by decide +kernel
theorem dX0_turns_44 : decode cX0_turns 44 = .ok (.iconst 1, 1) := by decide +kernel
theorem dX0_turns_45 : decode cX0_turns 45 = .ok (.goto 4, 3) := by decide +kernel
theorem dX0_turns_48 : decode cX0_turns 48 = .ok (.iconst 0, 1) := by decide +kernel
theorem dX0_turns_49 : decode cX0_turns 49 = .ok (.invokevirtual 36, 3) := by decide +kernel
theorem dX0_turns_52 : decode cX0_turns 52 = .ok (.aload_n 0, 1) := by decide +kernel
theorem dX0_turns_53 : decode cX0_turns 53 = .ok (.bipush 10, 2) := by decide +kernel
theorem dX0_turns_55 : decode cX0_turns 55 = .ok (.iconst 1, 1) := by decide +kernel
theorem dX0_turns_56 : decode cX0_turns 56 = .ok (.invokevirtual 36, 3) := by decide +kernel
theorem dX0_turns_59 : decode cX0_turns 59 = .ok (.iload_n 1, 1) := by decide +kernel
theorem dX0_turns_60 : decode cX0_turns 60 = .ok (.iconst 2, 1) := by decide +kernel
theorem dX0_turns_61 : decode cX0_turns 61 = .ok (.imul, 1) := by decide +kernel
theorem dX0_turns_62 : decode cX0_turns 62 = .ok (.aload_n 0, 1) := by decide +kernel
theorem dX0_turns_63 : decode cX0_turns 63 = .ok (.getfield 44, 3) := by decide +kernel
theorem dX0_turns_66 : decode cX0_turns 66 = .ok (.iconst 5, 1) := by decide +kernel
theorem dX0_turns_67 : decode cX0_turns 67 = .ok (.imul, 1) := by decide +kernel
theorem dX0_turns_68 : decode cX0_turns 68 = .ok (.iadd, 1) := by decide +kernel
theorem dX0_turns_69 : decode cX0_turns 69 = .ok (.istore_n 2, 1) := by decide +kernel
theorem dX0_turns_70 : decode cX0_turns 70 = .ok (.aload_n 0, 1) := by decide +kernel
theorem dX0_turns_71 : decode cX0_turns 71 = .ok (.getfield 32, 3) := by decide +kernel
theorem dX0_turns_74 : decode cX0_turns 74 = .ok (.iconst 2, 1) := by decide +kernel
theorem dX0_turns_75 : decode cX0_turns 75 = .ok (.invokestatic 40, 3) := by decide +kernel
theorem dX0_turns_78 : decode cX0_turns 78 = .ok (.ifCond .eq 7, 3) := by decide +kernel
theorem dX0_turns_81 : decode cX0_turns 81 = .ok (.iload_n 2, 1) := by decide +kernel
theorem dX0_turns_82 : decode cX0_turns 82 = .ok (.iconst 1, 1) := by decide +kernel
theorem dX0_turns_83 : decode cX0_turns 83 = .ok (.ixor, 1) := by decide +kernel
theorem dX0_turns_84 : decode cX0_turns 84 = .ok (.istore_n 2, 1) := by decide +kernel
theorem dX0_turns_85 : decode cX0_turns 85 = .ok (.aload_n 0, 1) := by decide +kernel
theorem dX0_turns_86 : decode cX0_turns 86 = .ok (.getfield 32, 3) := by decide +kernel
theorem dX0_turns_89 : decode cX0_turns 89 = .ok (.iconst 4, 1) := by decide +kernel
theorem dX0_turns_90 : decode cX0_turns 90 = .ok (.if_icmp .ne 7, 3) := by decide +kernel
theorem dX0_turns_93 : decode cX0_turns 93 = .ok (.iload_n 2, 1) := by decide +kernel
theorem dX0_turns_94 : decode cX0_turns 94 = .ok (.iconst 2, 1) := by decide +kernel
theorem dX0_turns_95 : decode cX0_turns 95 = .ok (.imul, 1) := by decide +kernel
theorem dX0_turns_96 : decode cX0_turns 96 = .ok (.istore_n 2, 1) := by decide +kernel
theorem dX0_turns_97 : decode cX0_turns 97 = .ok (.aload_n 0, 1) := by decide +kernel
theorem dX0_turns_98 : decode cX0_turns 98 = .ok (.getfield 32, 3) := by decide +kernel
theorem dX0_turns_101 : decode cX0_turns 101 = .ok (.iconst 3, 1) := by decide +kernel
theorem dX0_turns_102 : decode cX0_turns 102 = .ok (.if_icmp .ne 12, 3) := by decide +kernel
theorem dX0_turns_105 : decode cX0_turns 105 = .ok (.iload_n 2, 1) := by decide +kernel
theorem dX0_turns_106 : decode cX0_turns 106 = .ok (.aload_n 0, 1) := by decide +kernel
theorem dX0_turns_107 : decode cX0_turns 107 = .ok (.getfield 47, 3) := by decide +kernel
theorem dX0_turns_110 : decode cX0_turns 110 = .ok (.iadd, 1) := by decide +kernel
theorem dX0_turns_111 : decode cX0_turns 111 = .ok (.goto 4, 3) := by decide +kernel
theorem dX0_turns_114 : decode cX0_turns 114 = .ok (.iload_n 2, 1) := by decide +kernel
theorem dX0_turns_115 : decode cX0_turns 115 = .ok (.ireturn, 1) := by decide +kernel
theorem dX0_names_0 : decode cX0_names 0 = .ok (.aload_n 0, 1) := by decide +kernel
theorem dX0_names_1 : decode cX0_names 1 = .ok (.bipush 41, 2) := by decide +kernel
theorem dX0_names_3 : decode cX0_names 3 = .ok (.aload_n 0, 1) := by decide +kernel
theorem dX0_names_4 : decode cX0_names 4 = .ok (.getfield 32, 3) := by decide +kernel
theorem dX0_names_7 : decode cX0_names 7 = .ok (.iconst 4, 1) := by decide +kernel
theorem dX0_names_8 : decode cX0_names 8 = .ok (.if_icmp .ne 7, 3) := by decide +kernel
theorem dX0_names_11 : decode cX0_names 11 = .ok (.iconst 1, 1) := by decide +kernel
theorem dX0_names_12 : decode cX0_names 12 = .ok (.goto 4, 3) := by decide +kernel
theorem dX0_names_15 : decode cX0_names 15 = .ok (.iconst 0, 1) := by decide +kernel
theorem dX0_names_16 : decode cX0_names 16 = .ok (.invokevirtual 36, 3) := by decide +kernel
theorem dX0_names_19 : decode cX0_names 19 = .ok (.aload_n 0, 1) := by decide +kernel
theorem dX0_names_20 : decode cX0_names 20 = .ok (.bipush 20, 2) := by decide +kernel
theorem dX0_names_22 : decode cX0_names 22 = .ok (.aload_n 0, 1) := by decide +kernel
theorem dX0_names_23 : decode cX0_names 23 = .ok (.getfield 32, 3) := by decide +kernel
theorem dX0_names_26 : decode cX0_names 26 = .ok (.iconst 1, 1) := by decide +kernel
theorem dX0_names_27 : decode cX0_names 27 = .ok (.invokestatic 40, 3) := by decide +kernel
theorem dX0_names_30 : decode cX0_names 30 = .ok (.invokevirtual 36, 3) := by decide +kernel
theorem dX0_names_33 : decode cX0_names 33 = .ok (.aload_n 0, 1) := by decide +kernel
theorem dX0_names_34 : decode cX0_names 34 = .ok (.bipush 11, 2) := by decide +kernel
theorem dX0_names_36 : decode cX0_names 36 = .ok (.iconst 1, 1) := by decide +kernel
theorem dX0_names_37 : decode cX0_names 37 = .ok (.invokevirtual 36, 3) := by decide +kernel
theorem dX0_names_40 : decode cX0_names 40 = .ok (.aload_n 0, 1) := by decide +kernel
theorem dX0_names_41 : decode cX0_names 41 = .ok (.iload_n 1, 1) := by decide +kernel
theorem dX0_names_42 : decode cX0_names 42 = .ok (.invokevirtual 19, 3) := by decide +kernel
theorem dX0_names_45 : decode cX0_names 45 = .ok (.aload_n 0, 1) := by decide +kernel
theorem dX0_names_46 : decode cX0_names 46 = .ok (.getfield 47, 3) := by decide +kernel
theorem dX0_names_49 : decode cX0_names 49 = .ok (.isub, 1) := by decide +kernel
theorem dX0_names_50 : decode cX0_names 50 = .ok (.istore_n 2, 1) := by decide +kernel
theorem dX0_names_51 : decode cX0_names 51 = .ok (.aload_n 0, 1) := by decide +kernel
theorem dX0_names_52 : decode cX0_names 52 = .ok (.getfield 32, 3) := by decide +kernel
theorem dX0_names_55 : decode cX0_names 55 = .ok (.iconst 1, 1) := by decide +kernel
theorem dX0_names_56 : decode cX0_names 56 = .ok (.invokestatic 40, 3) := by decide +kernel
theorem dX0_names_59 : decode cX0_names 59 = .ok (.ifCond .eq 6, 3) := by decide +kernel
theorem dX0_names_62 : decode cX0_names 62 = .ok (.iinc 2 7, 3) := by decide +kernel
theorem dX0_names_65 : decode cX0_names 65 = .ok (.aload_n 0, 1) := by decide +kernel
theorem dX0_names_66 : decode cX0_names 66 = .ok (.getfield 32, 3) := by decide +kernel
theorem dX0_names_69 : decode cX0_names 69 = .ok (.iconst 4, 1) := by decide +kernel
theorem dX0_names_70 : decode cX0_names 70 = .ok (.if_icmp .ne 16, 3) := by decide +kernel
theorem dX0_names_73 : decode cX0_names 73 = .ok (.iload_n 2, 1) := by decide +kernel
theorem dX0_names_74 : decode cX0_names 74 = .ok (.aload_n 0, 1) := by decide +kernel
theorem dX0_names_75 : decode cX0_names 75 = .ok (.aload_n 0, 1) := by decide +kernel
theorem dX0_names_76 : decode cX0_names 76 = .ok (.getfield 47, 3) := by decide +kernel
theorem dX0_names_79 : decode cX0_names 79 = .ok (.invokevirtual 19, 3) := by decide +kernel
theorem dX0_names_82 : decode cX0_names 82 = .ok (.isub, 1) := by decide +kernel
theorem dX0_names_83 : decode cX0_names 83 = .ok (.goto 4, 3) := by decide +kernel
theorem dX0_names_86 : decode cX0_names 86 = .ok (.iload_n 2, 1) := by decide +kernel
theorem dX0_names_87 : decode cX0_names 87 = .ok (.ireturn, 1) := by decide +kernel
theorem dX0_parts_0 : decode cX0_parts 0 = .ok (.aload_n 0, 1) := by decide +kernel
theorem dX0_parts_1 : decode cX0_parts 1 = .ok (.bipush 50, 2) := by decide +kernel
theorem dX0_parts_3 : decode cX0_parts 3 = .ok (.aload_n 0, 1) := by decide +kernel
theorem dX0_parts_4 : decode cX0_parts 4 = .ok (.getfield 32, 3) := by decide +kernel
theorem dX0_parts_7 : decode cX0_parts 7 = .ok (.iconst 3, 1) := by decide +kernel
theorem dX0_parts_8 : decode cX0_parts 8 = .ok (.if_icmp .ne 7, 3) := by decide +kernel
theorem dX0_parts_11 : decode cX0_parts 11 = .ok (.iconst 1, 1) := by decide +kernel
theorem dX0_parts_12 : decode cX0_parts 12 = .ok (.goto 4, 3) := by decide +kernel
theorem dX0_parts_15 : decode cX0_parts 15 = .ok (.iconst 0, 1) := by decide +kernel
theorem dX0_parts_16 : decode cX0_parts 16 = .ok (.invokevirtual 36, 3) := by decide +kernel
theorem dX0_parts_19 : decode cX0_parts 19 = .ok (.aload_n 0, 1) := by decide +kernel
theorem dX0_parts_20 : decode cX0_parts 20 = .ok (.bipush 61, 2) := by decide +kernel
theorem dX0_parts_22 : decode cX0_parts 22 = .ok (.aload_n 0, 1) := by decide +kernel
theorem dX0_parts_23 : decode cX0_parts 23 = .ok (.getfield 32, 3) := by decide +kernel
theorem dX0_parts_26 : decode cX0_parts 26 = .ok (.iconst 5, 1) := by decide +kernel
theorem dX0_parts_27 : decode cX0_parts 27 = .ok (.if_icmp .ne 7, 3) := by decide +kernel
theorem dX0_parts_30 : decode cX0_parts 30 = .ok (.iconst 1, 1) := by decide +kernel
theorem dX0_parts_31 : decode cX0_parts 31 = .ok (.goto 4, 3) := by decide +kernel
theorem dX0_parts_34 : decode cX0_parts 34 = .ok (.iconst 0, 1) := by decide +kernel
theorem dX0_parts_35 : decode cX0_parts 35 = .ok (.invokevirtual 36, 3) := by decide +kernel
theorem dX0_parts_38 : decode cX0_parts 38 = .ok (.aload_n 0, 1) := by decide +kernel
theorem dX0_parts_39 : decode cX0_parts 39 = .ok (.bipush 12, 2) := by decide +kernel
theorem dX0_parts_41 : decode cX0_parts 41 = .ok (.iconst 1, 1) := by decide +kernel
theorem dX0_parts_42 : decode cX0_parts 42 = .ok (.invokevirtual 36, 3) := by decide +kernel
theorem dX0_parts_45 : decode cX0_parts 45 = .ok (.aload_n 0, 1) := by decide +kernel
theorem dX0_parts_46 : decode cX0_parts 46 = .ok (.getfield 47, 3) := by decide +kernel
theorem dX0_parts_49 : decode cX0_parts 49 = .ok (.aload_n 0, 1) := by decide +kernel
theorem dX0_parts_50 : decode cX0_parts 50 = .ok (.getfield 44, 3) := by decide +kernel
theorem dX0_parts_53 : decode cX0_parts 53 = .ok (.isub, 1) := by decide +kernel
theorem dX0_parts_54 : decode cX0_parts 54 = .ok (.istore_n 2, 1) := by decide +kernel
theorem dX0_parts_55 : decode cX0_parts 55 = .ok (.iload_n 2, 1) := by decide +kernel
theorem dX0_parts_56 : decode cX0_parts 56 = .ok (.ifCond .ne 10, 3) := by decide +kernel
theorem dX0_parts_59 : decode cX0_parts 59 = .ok (.aload_n 0, 1) := by decide +kernel
theorem dX0_parts_60 : decode cX0_parts 60 = .ok (.iconst 1, 1) := by decide +kernel
theorem dX0_parts_61 : decode cX0_parts 61 = .ok (.putfield 15, 3) := by decide +kernel
theorem dX0_parts_64 : decode cX0_parts 64 = .ok (.iconst 0, 1) := by decide +kernel
theorem dX0_parts_65 : decode cX0_parts 65 = .ok (.ireturn, 1) := by decide +kernel
theorem dX0_parts_66 : decode cX0_parts 66 = .ok (.aload_n 0, 1) := by decide +kernel
theorem dX0_parts_67 : decode cX0_parts 67 = .ok (.getfield 32, 3) := by decide +kernel
theorem dX0_parts_70 : decode cX0_parts 70 = .ok (.iconst 3, 1) := by decide +kernel
theorem dX0_parts_71 : decode cX0_parts 71 = .ok (.if_icmp .ne 9, 3) := by decide +kernel
theorem dX0_parts_74 : decode cX0_parts 74 = .ok (.iload_n 1, 1) := by decide +kernel
theorem dX0_parts_75 : decode cX0_parts 75 = .ok (.iconst 3, 1) := by decide +kernel
theorem dX0_parts_76 : decode cX0_parts 76 = .ok (.iadd, 1) := by decide +kernel
theorem dX0_parts_77 : decode cX0_parts 77 = .ok (.goto 4, 3) := by decide +kernel
theorem dX0_parts_80 : decode cX0_parts 80 = .ok (.iload_n 1, 1) := by decide +kernel
theorem dX0_parts_81 : decode cX0_parts 81 = .ok (.iload_n 2, 1) := by decide +kernel
theorem dX0_parts_82 : decode cX0_parts 82 = .ok (.idiv, 1) := by decide +kernel
theorem dX0_parts_83 : decode cX0_parts 83 = .ok (.istore_n 3, 1) := by decide +kernel
theorem dX0_parts_84 : decode cX0_parts 84 = .ok (.aload_n 0, 1) := by decide +kernel
theorem dX0_parts_85 : decode cX0_parts 85 = .ok (.getfield 32, 3) := by decide +kernel
theorem dX0_parts_88 : decode cX0_parts 88 = .ok (.iconst 5, 1) := by decide +kernel
theorem dX0_parts_89 : decode cX0_parts 89 = .ok (.if_icmp .ne 14, 3) := by decide +kernel
theorem dX0_parts_92 : decode cX0_parts 92 = .ok (.iload_n 3, 1) := by decide +kernel
theorem dX0_parts_93 : decode cX0_parts 93 = .ok (.aload_n 0, 1) := by decide +kernel
theorem dX0_parts_94 : decode cX0_parts 94 = .ok (.aload_n 0, 1) := by decide +kernel
theorem dX0_parts_95 : decode cX0_parts 95 = .ok (.getfield 44, 3) := by decide +kernel
theorem dX0_parts_98 : decode cX0_parts 98 = .ok (.invokevirtual 19, 3) := by decide +kernel
theorem dX0_parts_101 : decode cX0_parts 101 = .ok (.iadd, 1) := by decide +kernel
theorem dX0_parts_102 : decode cX0_parts 102 = .ok (.ireturn, 1) := by decide +kernel
theorem dX0_parts_103 : decode cX0_parts 103 = .ok (.aload_n 0, 1) := by decide +kernel
theorem dX0_parts_104 : decode cX0_parts 104 = .ok (.getfield 32, 3) := by decide +kernel
theorem dX0_parts_107 : decode cX0_parts 107 = .ok (.iconst 3, 1) := by decide +kernel
theorem dX0_parts_108 : decode cX0_parts 108 = .ok (.if_icmp .ne 9, 3) := by decide +kernel
theorem dX0_parts_111 : decode cX0_parts 111 = .ok (.iconst 0, 1) := by decide +kernel
theorem dX0_parts_112 : decode cX0_parts 112 = .ok (.iload_n 3, 1) := by decide +kernel
theorem dX0_parts_113 : decode cX0_parts 113 = .ok (.isub, 1) := by decide +kernel
theorem dX0_parts_114 : decode cX0_parts 114 = .ok (.goto 4, 3) := by decide +kernel
theorem dX0_parts_117 : decode cX0_parts 117 = .ok (.iload_n 3, 1) := by decide +kernel
theorem dX0_parts_118 : decode cX0_parts 118 = .ok (.ireturn, 1) := by decide +kernel
theorem dX0_lands_0 : decode cX0_lands 0 = .ok (.aload_n 0, 1) := by decide +kernel
theorem dX0_lands_1 : decode cX0_lands 1 = .ok (.bipush 31, 2) := by decide +kernel
theorem dX0_lands_3 : decode cX0_lands 3 = .ok (.aload_n 0, 1) := by decide +kernel
theorem dX0_lands_4 : decode cX0_lands 4 = .ok (.getfield 32, 3) := by decide +kernel
theorem dX0_lands_7 : decode cX0_lands 7 = .ok (.iconst 2, 1) := by decide +kernel
theorem dX0_lands_8 : decode cX0_lands 8 = .ok (.invokestatic 40, 3) := by decide +kernel
theorem dX0_lands_11 : decode cX0_lands 11 = .ok (.invokevirtual 36, 3) := by decide +kernel
theorem dX0_lands_14 : decode cX0_lands 14 = .ok (.aload_n 0, 1) := by decide +kernel
theorem dX0_lands_15 : decode cX0_lands 15 = .ok (.bipush 60, 2) := by decide +kernel
theorem dX0_lands_17 : decode cX0_lands 17 = .ok (.aload_n 0, 1) := by decide +kernel
theorem dX0_lands_18 : decode cX0_lands 18 = .ok (.getfield 32, 3) := by decide +kernel
theorem dX0_lands_21 : decode cX0_lands 21 = .ok (.iconst 5, 1) := by decide +kernel
theorem dX0_lands_22 : decode cX0_lands 22 = .ok (.if_icmp .ne 7, 3) := by decide +kernel
theorem dX0_lands_25 : decode cX0_lands 25 = .ok (.iconst 1, 1) := by decide +kernel
theorem dX0_lands_26 : decode cX0_lands 26 = .ok (.goto 4, 3) := by decide +kernel
theorem dX0_lands_29 : decode cX0_lands 29 = .ok (.iconst 0, 1) := by decide +kernel
theorem dX0_lands_30 : decode cX0_lands 30 = .ok (.invokevirtual 36, 3) := by decide +kernel
theorem dX0_lands_33 : decode cX0_lands 33 = .ok (.aload_n 0, 1) := by decide +kernel
theorem dX0_lands_34 : decode cX0_lands 34 = .ok (.bipush 13, 2) := by decide +kernel
theorem dX0_lands_36 : decode cX0_lands 36 = .ok (.iconst 1, 1) := by decide +kernel
theorem dX0_lands_37 : decode cX0_lands 37 = .ok (.invokevirtual 36, 3) := by decide +kernel
theorem dX0_lands_40 : decode cX0_lands 40 = .ok (.aload_n 0, 1) := by decide +kernel
theorem dX0_lands_41 : decode cX0_lands 41 = .ok (.iload_n 1, 1) := by decide +kernel
theorem dX0_lands_42 : decode cX0_lands 42 = .ok (.invokevirtual 23, 3) := by decide +kernel
theorem dX0_lands_45 : decode cX0_lands 45 = .ok (.bipush 20, 2) := by decide +kernel
theorem dX0_lands_47 : decode cX0_lands 47 = .ok (.ixor, 1) := by decide +kernel
theorem dX0_lands_48 : decode cX0_lands 48 = .ok (.istore_n 2, 1) := by decide +kernel
theorem dX0_lands_49 : decode cX0_lands 49 = .ok (.aload_n 0, 1) := by decide +kernel
theorem dX0_lands_50 : decode cX0_lands 50 = .ok (.getfield 32, 3) := by decide +kernel
theorem dX0_lands_53 : decode cX0_lands 53 = .ok (.iconst 2, 1) := by decide +kernel
theorem dX0_lands_54 : decode cX0_lands 54 = .ok (.invokestatic 40, 3) := by decide +kernel
theorem dX0_lands_57 : decode cX0_lands 57 = .ok (.ifCond .eq 14, 3) := by decide +kernel
theorem dX0_lands_60 : decode cX0_lands 60 = .ok (.iload_n 2, 1) := by decide +kernel
theorem dX0_lands_61 : decode cX0_lands 61 = .ok (.aload_n 0, 1) := by decide +kernel
theorem dX0_lands_62 : decode cX0_lands 62 = .ok (.aload_n 0, 1) := by decide +kernel
theorem dX0_lands_63 : decode cX0_lands 63 = .ok (.getfield 44, 3) := by decide +kernel
theorem dX0_lands_66 : decode cX0_lands 66 = .ok (.invokevirtual 26, 3) := by decide +kernel
theorem dX0_lands_69 : decode cX0_lands 69 = .ok (.isub, 1) := by decide +kernel
theorem dX0_lands_70 : decode cX0_lands 70 = .ok (.ireturn, 1) := by decide +kernel
theorem dX0_lands_71 : decode cX0_lands 71 = .ok (.aload_n 0, 1) := by decide +kernel
theorem dX0_lands_72 : decode cX0_lands 72 = .ok (.getfield 32, 3) := by decide +kernel
theorem dX0_lands_75 : decode cX0_lands 75 = .ok (.iconst 5, 1) := by decide +kernel
theorem dX0_lands_76 : decode cX0_lands 76 = .ok (.if_icmp .ne 9, 3) := by decide +kernel
theorem dX0_lands_79 : decode cX0_lands 79 = .ok (.iload_n 2, 1) := by decide +kernel
theorem dX0_lands_80 : decode cX0_lands 80 = .ok (.iload_n 1, 1) := by decide +kernel
theorem dX0_lands_81 : decode cX0_lands 81 = .ok (.ixor, 1) := by decide +kernel
theorem dX0_lands_82 : decode cX0_lands 82 = .ok (.goto 4, 3) := by decide +kernel
theorem dX0_lands_85 : decode cX0_lands 85 = .ok (.iload_n 2, 1) := by decide +kernel
theorem dX0_lands_86 : decode cX0_lands 86 = .ok (.ireturn, 1) := by decide +kernel
theorem dX0_began_0 : decode cX0_began 0 = .ok (.iload_n 2, 1) := by decide +kernel
theorem dX0_began_1 : decode cX0_began 1 = .ok (.ifCond .eq 32, 3) := by decide +kernel
theorem dX0_began_4 : decode cX0_began 4 = .ok (.aload_n 0, 1) := by decide +kernel
theorem dX0_began_5 : decode cX0_began 5 = .ok (.getfield 50, 3) := by decide +kernel
theorem dX0_began_8 : decode cX0_began 8 = .ok (.bipush 30, 2) := by decide +kernel
theorem dX0_began_10 : decode cX0_began 10 = .ok (.if_icmp .ge 23, 3) := by decide +kernel
theorem dX0_began_13 : decode cX0_began 13 = .ok (.aload_n 0, 1) := by decide +kernel
theorem dX0_began_14 : decode cX0_began 14 = .ok (.getfield 9, 3) := by decide +kernel
theorem dX0_began_17 : decode cX0_began 17 = .ok (.aload_n 0, 1) := by decide +kernel
theorem dX0_began_18 : decode cX0_began 18 = .ok (.getfield 50, 3) := by decide +kernel
theorem dX0_began_21 : decode cX0_began 21 = .ok (.iload_n 1, 1) := by decide +kernel
theorem dX0_began_22 : decode cX0_began 22 = .ok (.iastore, 1) := by decide +kernel
theorem dX0_began_23 : decode cX0_began 23 = .ok (.aload_n 0, 1) := by decide +kernel
theorem dX0_began_24 : decode cX0_began 24 = .ok (.dup, 1) := by decide +kernel
theorem dX0_began_25 : decode cX0_began 25 = .ok (.getfield 50, 3) := by decide +kernel
theorem dX0_began_28 : decode cX0_began 28 = .ok (.iconst 1, 1) := by decide +kernel
theorem dX0_began_29 : decode cX0_began 29 = .ok (.iadd, 1) := by decide +kernel
theorem dX0_began_30 : decode cX0_began 30 = .ok (.putfield 50, 3) := by decide +kernel
theorem dX0_began_33 : decode cX0_began 33 = .ok (.return_, 1) := by decide +kernel
theorem dX1_init_0 : decode cX1_init 0 = .ok (.aload_n 0, 1) := by decide +kernel
theorem dX1_init_1 : decode cX1_init 1 = .ok (.invokespecial 3, 3) := by decide +kernel
theorem dX1_init_4 : decode cX1_init 4 = .ok (.aload_n 0, 1) := by decide +kernel
theorem dX1_init_5 : decode cX1_init 5 = .ok (.bipush 40, 2) := by decide +kernel
theorem dX1_init_7 : decode cX1_init 7 = .ok (.newarray .long, 2) := by decide +kernel
theorem dX1_init_9 : decode cX1_init 9 = .ok (.putfield 9, 3) := by decide +kernel
theorem dX1_init_12 : decode cX1_init 12 = .ok (.aload_n 0, 1) := by decide +kernel
theorem dX1_init_13 : decode cX1_init 13 = .ok (.iconst (-1), 1) := by decide +kernel
theorem dX1_init_14 : decode cX1_init 14 = .ok (.putfield 15, 3) := by decide +kernel
theorem dX1_init_17 : decode cX1_init 17 = .ok (.return_, 1) := by decide +kernel
theorem dX1_isMissing_0 : decode cX1_isMissing 0 = .ok (.aload_n 0, 1) := by decide +kernel
theorem dX1_isMissing_1 : decode cX1_isMissing 1 = .ok (.getfield 15, 3) := by decide +kernel
theorem dX1_isMissing_4 : decode cX1_isMissing 4 = .ok (.iconst (-1), 1) := by decide +kernel
theorem dX1_isMissing_5 : decode cX1_isMissing 5 = .ok (.if_icmp .ne 7, 3) := by decide +kernel
theorem dX1_isMissing_8 : decode cX1_isMissing 8 = .ok (.iconst 1, 1) := by decide +kernel
theorem dX1_isMissing_9 : decode cX1_isMissing 9 = .ok (.goto 4, 3) := by decide +kernel
theorem dX1_isMissing_12 : decode cX1_isMissing 12 = .ok (.iconst 0, 1) := by decide +kernel
theorem dX1_isMissing_13 : decode cX1_isMissing 13 = .ok (.ireturn, 1) := by decide +kernel
theorem dX1_begin_0 : decode cX1_begin 0 = .ok (.aload_n 0, 1) := by decide +kernel
theorem dX1_begin_1 : decode cX1_begin 1 = .ok (.iload_n 1, 1) := by decide +kernel
theorem dX1_begin_2 : decode cX1_begin 2 = .ok (.putfield 15, 3) := by decide +kernel
theorem dX1_begin_5 : decode cX1_begin 5 = .ok (.aload_n 0, 1) := by decide +kernel
theorem dX1_begin_6 : decode cX1_begin 6 = .ok (.iload_n 2, 1) := by decide +kernel
theorem dX1_begin_7 : decode cX1_begin 7 = .ok (.putfield 19, 3) := by decide +kernel
theorem dX1_begin_10 : decode cX1_begin 10 = .ok (.iconst 0, 1) := by decide +kernel
theorem dX1_begin_11 : decode cX1_begin 11 = .ok (.istore_n 3, 1) := by decide +kernel
theorem dX1_begin_12 : decode cX1_begin 12 = .ok (.iload_n 3, 1) := by decide +kernel
theorem dX1_begin_13 : decode cX1_begin 13 = .ok (.bipush 40, 2) := by decide +kernel
theorem dX1_begin_15 : decode cX1_begin 15 = .ok (.if_icmp .ge 16, 3) := by decide +kernel
theorem dX1_begin_18 : decode cX1_begin 18 = .ok (.aload_n 0, 1) := by decide +kernel
theorem dX1_begin_19 : decode cX1_begin 19 = .ok (.getfield 9, 3) := by decide +kernel
theorem dX1_begin_22 : decode cX1_begin 22 = .ok (.iload_n 3, 1) := by decide +kernel
theorem dX1_begin_23 : decode cX1_begin 23 = .ok (.lconst 0, 1) := by decide +kernel
theorem dX1_begin_24 : decode cX1_begin 24 = .ok (.lastore, 1) := by decide +kernel
theorem dX1_begin_25 : decode cX1_begin 25 = .ok (.iinc 3 1, 3) := by decide +kernel
theorem dX1_begin_28 : decode cX1_begin 28 = .ok (.goto (-16), 3) := by decide +kernel
theorem dX1_begin_31 : decode cX1_begin 31 = .ok (.return_, 1) := by decide +kernel
theorem dX1_narrowed_0 : decode cX1_narrowed 0 = .ok (.aload_n 0, 1) := by decide +kernel
theorem dX1_narrowed_1 : decode cX1_narrowed 1 = .ok (.getfield 15, 3) := by decide +kernel
theorem dX1_narrowed_4 : decode cX1_narrowed 4 = .ok (.ifCond .ne 9, 3) := by decide +kernel
theorem dX1_narrowed_7 : decode cX1_narrowed 7 = .ok (.iload_n 1, 1) := by decide +kernel
theorem dX1_narrowed_8 : decode cX1_narrowed 8 = .ok (.i2b, 1) := by decide +kernel
theorem dX1_narrowed_9 : decode cX1_narrowed 9 = .ok (.i2l, 1) := by decide +kernel
theorem dX1_narrowed_10 : decode cX1_narrowed 10 = .ok (.goto 19, 3) := by decide +kernel
theorem dX1_narrowed_13 : decode cX1_narrowed 13 = .ok (.aload_n 0, 1) := by decide +kernel
theorem dX1_narrowed_14 : decode cX1_narrowed 14 = .ok (.getfield 15, 3) := by decide +kernel
theorem dX1_narrowed_17 : decode cX1_narrowed 17 = .ok (.iconst 1, 1) := by decide +kernel
theorem dX1_narrowed_18 : decode cX1_narrowed 18 = .ok (.if_icmp .ne 9, 3) := by decide +kernel
theorem dX1_narrowed_21 : decode cX1_narrowed 21 = .ok (.iload_n 1, 1) := by decide +kernel
theorem dX1_narrowed_22 : decode cX1_narrowed 22 = .ok (.i2s, 1) := by decide +kernel
theorem dX1_narrowed_23 : decode cX1_narrowed 23 = .ok (.i2l, 1) := by decide +kernel
theorem dX1_narrowed_24 : decode cX1_narrowed 24 = .ok (.goto 5, 3) := by decide +kernel
theorem dX1_narrowed_27 : decode cX1_narrowed 27 = .ok (.iload_n 1, 1) := by decide +kernel
theorem dX1_narrowed_28 : decode cX1_narrowed 28 = .ok (.i2l, 1) := by decide +kernel
theorem dX1_narrowed_29 : decode cX1_narrowed 29 = .ok (.lreturn, 1) := by decide +kernel
theorem dX2_init_0 : decode cX2_init 0 = .ok (.aload_n 0, 1) := by decide +kernel
theorem dX2_init_1 : decode cX2_init 1 = .ok (.invokespecial 3, 3) := by decide +kernel
theorem dX2_init_4 : decode cX2_init 4 = .ok (.aload_n 0, 1) := by decide +kernel
theorem dX2_init_5 : decode cX2_init 5 = .ok (.iconst 2, 1) := by decide +kernel
theorem dX2_init_6 : decode cX2_init 6 = .ok (.putfield 9, 3) := by decide +kernel
theorem dX2_init_9 : decode cX2_init 9 = .ok (.return_, 1) := by decide +kernel
theorem dX2_takeLeaf_0 : decode cX2_takeLeaf 0 = .ok (.aload_n 0, 1) := by decide +kernel
theorem dX2_takeLeaf_1 : decode cX2_takeLeaf 1 = .ok (.iconst 0, 1) := by decide +kernel
theorem dX2_takeLeaf_2 : decode cX2_takeLeaf 2 = .ok (.putfield 9, 3) := by decide +kernel
theorem dX2_takeLeaf_5 : decode cX2_takeLeaf 5 = .ok (.aload_n 0, 1) := by decide +kernel
theorem dX2_takeLeaf_6 : decode cX2_takeLeaf 6 = .ok (.iload_n 1, 1) := by decide +kernel
theorem dX2_takeLeaf_7 : decode cX2_takeLeaf 7 = .ok (.putfield 15, 3) := by decide +kernel
theorem dX2_takeLeaf_10 : decode cX2_takeLeaf 10 = .ok (.return_, 1) := by decide +kernel
theorem dX2_takeRow_0 : decode cX2_takeRow 0 = .ok (.aload_n 0, 1) := by decide +kernel
theorem dX2_takeRow_1 : decode cX2_takeRow 1 = .ok (.aload_n 1, 1) := by decide +kernel
theorem dX2_takeRow_2 : decode cX2_takeRow 2 = .ok (.invokevirtual 18, 3) := by decide +kernel
theorem dX2_takeRow_5 : decode cX2_takeRow 5 = .ok (.ifCond .eq 7, 3) := by decide +kernel
theorem dX2_takeRow_8 : decode cX2_takeRow 8 = .ok (.iconst 2, 1) := by decide +kernel
theorem dX2_takeRow_9 : decode cX2_takeRow 9 = .ok (.goto 4, 3) := by decide +kernel
theorem dX2_takeRow_12 : decode cX2_takeRow 12 = .ok (.iconst 1, 1) := by decide +kernel
theorem dX2_takeRow_13 : decode cX2_takeRow 13 = .ok (.putfield 9, 3) := by decide +kernel
theorem dX2_takeRow_16 : decode cX2_takeRow 16 = .ok (.aload_n 0, 1) := by decide +kernel
theorem dX2_takeRow_17 : decode cX2_takeRow 17 = .ok (.aload_n 1, 1) := by decide +kernel
theorem dX2_takeRow_18 : decode cX2_takeRow 18 = .ok (.getfield 24, 3) := by decide +kernel
theorem dX2_takeRow_21 : decode cX2_takeRow 21 = .ok (.putfield 15, 3) := by decide +kernel
theorem dX2_takeRow_24 : decode cX2_takeRow 24 = .ok (.aload_n 0, 1) := by decide +kernel
theorem dX2_takeRow_25 : decode cX2_takeRow 25 = .ok (.aload_n 1, 1) := by decide +kernel
theorem dX2_takeRow_26 : decode cX2_takeRow 26 = .ok (.getfield 27, 3) := by decide +kernel
theorem dX2_takeRow_29 : decode cX2_takeRow 29 = .ok (.putfield 30, 3) := by decide +kernel
theorem dX2_takeRow_32 : decode cX2_takeRow 32 = .ok (.return_, 1) := by decide +kernel
theorem dX3_init_0 : decode cX3_init 0 = .ok (.aload_n 0, 1) := by decide +kernel
theorem dX3_init_1 : decode cX3_init 1 = .ok (.invokespecial 3, 3) := by decide +kernel
theorem dX3_init_4 : decode cX3_init 4 = .ok (.aload_n 0, 1) := by decide +kernel
theorem dX3_init_5 : decode cX3_init 5 = .ok (.sipush 200, 3) := by decide +kernel
theorem dX3_init_8 : decode cX3_init 8 = .ok (.newarray .byte, 2) := by decide +kernel
theorem dX3_init_10 : decode cX3_init 10 = .ok (.putfield 9, 3) := by decide +kernel
theorem dX3_init_13 : decode cX3_init 13 = .ok (.return_, 1) := by decide +kernel
theorem dX3_readInto_0 : decode cX3_readInto 0 = .ok (.aload_n 0, 1) := by decide +kernel
theorem dX3_readInto_1 : decode cX3_readInto 1 = .ok (.iconst 0, 1) := by decide +kernel
theorem dX3_readInto_2 : decode cX3_readInto 2 = .ok (.putfield 15, 3) := by decide +kernel
theorem dX3_readInto_5 : decode cX3_readInto 5 = .ok (.aload_n 0, 1) := by decide +kernel
theorem dX3_readInto_6 : decode cX3_readInto 6 = .ok (.iconst (-1), 1) := by decide +kernel
theorem dX3_readInto_7 : decode cX3_readInto 7 = .ok (.putfield 19, 3) := by decide +kernel
theorem dX3_readInto_10 : decode cX3_readInto 10 = .ok (.aload_n 0, 1) := by decide +kernel
theorem dX3_readInto_11 : decode cX3_readInto 11 = .ok (.invokevirtual 22, 3) := by decide +kernel
theorem dX3_readInto_14 : decode cX3_readInto 14 = .ok (.iconst 0, 1) := by decide +kernel
theorem dX3_readInto_15 : decode cX3_readInto 15 = .ok (.istore_n 2, 1) := by decide +kernel
theorem dX3_readInto_16 : decode cX3_readInto 16 = .ok (.iload_n 2, 1) := by decide +kernel
theorem dX3_readInto_17 : decode cX3_readInto 17 = .ok (.sipush 200, 3) := by decide +kernel
theorem dX3_readInto_20 : decode cX3_readInto 20 = .ok (.if_icmp .ge 96, 3) := by decide +kernel
theorem dX3_readInto_23 : decode cX3_readInto 23 = .ok (.aload_n 0, 1) := by decide +kernel
theorem dX3_readInto_24 : decode cX3_readInto 24 = .ok (.getfield 25, 3) := by decide +kernel
theorem dX3_readInto_27 : decode cX3_readInto 27 = .ok (.ifCond .eq 89, 3) := by decide +kernel
theorem dX3_readInto_30 : decode cX3_readInto 30 = .ok (.aload_n 0, 1) := by decide +kernel
theorem dX3_readInto_31 : decode cX3_readInto 31 = .ok (.getfield 19, 3) := by decide +kernel
theorem dX3_readInto_34 : decode cX3_readInto 34 = .ok (.ifCond .ge 82, 3) := by decide +kernel
theorem dX3_readInto_37 : decode cX3_readInto 37 = .ok (.aload_n 0, 1) := by decide +kernel
theorem dX3_readInto_38 : decode cX3_readInto 38 = .ok (.invokevirtual 28, 3) := by decide +kernel
theorem dX3_readInto_41 : decode cX3_readInto 41 = .ok (.istore_n 3, 1) := by decide +kernel
theorem dX3_readInto_42 : decode cX3_readInto 42 = .ok (.aload_n 0, 1) := by decide +kernel
theorem dX3_readInto_43 : decode cX3_readInto 43 = .ok (.invokevirtual 32, 3) := by decide +kernel
theorem dX3_readInto_46 : decode cX3_readInto 46 = .ok (.istore 4, 2) := by decide +kernel
theorem dX3_readInto_48 : decode cX3_readInto 48 = .ok (.iload_n 3, 1) := by decide +kernel
theorem dX3_readInto_49 : decode cX3_readInto 49 = .ok (.ifCond .lt 12, 3) := by decide +kernel
theorem dX3_readInto_52 : decode cX3_readInto 52 = .ok (.aload_n 0, 1) := by decide +kernel
theorem dX3_readInto_53 : decode cX3_readInto 53 = .ok (.aload_n 1, 1) := by decide +kernel
theorem dX3_readInto_54 : decode cX3_readInto 54 = .ok (.iload_n 3, 1) := by decide +kernel
theorem dX3_readInto_55 : decode cX3_readInto 55 = .ok (.invokevirtual 35, 3) := by decide +kernel
theorem dX3_readInto_58 : decode cX3_readInto 58 = .ok (.goto 52, 3) := by decide +kernel
theorem dX3_readInto_61 : decode cX3_readInto 61 = .ok (.aload_n 0, 1) := by decide +kernel
theorem dX3_readInto_62 : decode cX3_readInto 62 = .ok (.ldc 39, 2) := by decide +kernel
theorem dX3_readInto_64 : decode cX3_readInto 64 = .ok (.invokevirtual 41, 3) := by decide +kernel
theorem dX3_readInto_67 : decode cX3_readInto 67 = .ok (.ifCond .eq 11, 3) := by decide +kernel
theorem dX3_readInto_70 : decode cX3_readInto 70 = .ok (.aload_n 0, 1) := by decide +kernel
theorem dX3_readInto_71 : decode cX3_readInto 71 = .ok (.aload_n 1, 1) := by decide +kernel
theorem dX3_readInto_72 : decode cX3_readInto 72 = .ok (.invokevirtual 45, 3) := by decide +kernel
theorem dX3_readInto_75 : decode cX3_readInto 75 = .ok (.goto 35, 3) := by decide +kernel
theorem dX3_readInto_78 : decode cX3_readInto 78 = .ok (.iload 4, 2) := by decide +kernel
theorem dX3_readInto_80 : decode cX3_readInto 80 = .ok (.ifCond .lt 22, 3) := by decide +kernel
theorem dX3_readInto_83 : decode cX3_readInto 83 = .ok (.aload_n 1, 1) := by decide +kernel
theorem dX3_readInto_84 : decode cX3_readInto 84 = .ok (.getfield 49, 3) := by decide +kernel
theorem dX3_readInto_87 : decode cX3_readInto 87 = .ok (.bipush 8, 2) := by decide +kernel
theorem dX3_readInto_89 : decode cX3_readInto 89 = .ok (.if_icmp .ge 13, 3) := by decide +kernel
theorem dX3_readInto_92 : decode cX3_readInto 92 = .ok (.aload_n 0, 1) := by decide +kernel
theorem dX3_readInto_93 : decode cX3_readInto 93 = .ok (.aload_n 1, 1) := by decide +kernel
theorem dX3_readInto_94 : decode cX3_readInto 94 = .ok (.iload 4, 2) := by decide +kernel
theorem dX3_readInto_96 : decode cX3_readInto 96 = .ok (.invokevirtual 54, 3) := by decide +kernel
theorem dX3_readInto_99 : decode cX3_readInto 99 = .ok (.goto 11, 3) := by decide +kernel
theorem dX3_readInto_102 : decode cX3_readInto 102 = .ok (.aload_n 0, 1) := by decide +kernel
theorem dX3_readInto_103 : decode cX3_readInto 103 = .ok (.aload_n 0, 1) := by decide +kernel
theorem dX3_readInto_104 : decode cX3_readInto 104 = .ok (.getfield 57, 3) := by decide +kernel
theorem dX3_readInto_107 : decode cX3_readInto 107 = .ok (.putfield 19, 3) := by decide +kernel
theorem dX3_readInto_110 : decode cX3_readInto 110 = .ok (.iinc 2 1, 3) := by decide +kernel
theorem dX3_readInto_113 : decode cX3_readInto 113 = .ok (.goto (-97), 3) := by decide +kernel
theorem dX3_readInto_116 : decode cX3_readInto 116 = .ok (.aload_n 0, 1) := by decide +kernel
theorem dX3_readInto_117 : decode cX3_readInto 117 = .ok (.getfield 19, 3) := by decide +kernel
theorem dX3_readInto_120 : decode cX3_readInto 120 = .ok (.ireturn, 1) := by decide +kernel
theorem dX3_readLaw_0 : decode cX3_readLaw 0 = .ok (.aload_n 0, 1) := by decide +kernel
theorem dX3_readLaw_1 : decode cX3_readLaw 1 = .ok (.invokevirtual 22, 3) := by decide +kernel
theorem dX3_readLaw_4 : decode cX3_readLaw 4 = .ok (.aload_n 0, 1) := by decide +kernel
theorem dX3_readLaw_5 : decode cX3_readLaw 5 = .ok (.iload_n 2, 1) := by decide +kernel
theorem dX3_readLaw_6 : decode cX3_readLaw 6 = .ok (.invokestatic 60, 3) := by decide +kernel
theorem dX3_readLaw_9 : decode cX3_readLaw 9 = .ok (.invokevirtual 64, 3) := by decide +kernel
theorem dX3_readLaw_12 : decode cX3_readLaw 12 = .ok (.istore_n 3, 1) := by decide +kernel
theorem dX3_readLaw_13 : decode cX3_readLaw 13 = .ok (.iload_n 3, 1) := by decide +kernel
theorem dX3_readLaw_14 : decode cX3_readLaw 14 = .ok (.ifCond .lt 17, 3) := by decide +kernel
theorem dX3_readLaw_17 : decode cX3_readLaw 17 = .ok (.aload_n 0, 1) := by decide +kernel
theorem dX3_readLaw_18 : decode cX3_readLaw 18 = .ok (.invokevirtual 67, 3) := by decide +kernel
theorem dX3_readLaw_21 : decode cX3_readLaw 21 = .ok (.ifCond .eq 10, 3) := by decide +kernel
theorem dX3_readLaw_24 : decode cX3_readLaw 24 = .ok (.aload_n 1, 1) := by decide +kernel
theorem dX3_readLaw_25 : decode cX3_readLaw 25 = .ok (.getfield 71, 3) := by decide +kernel
theorem dX3_readLaw_28 : decode cX3_readLaw 28 = .ok (.iload_n 2, 1) := by decide +kernel
theorem dX3_readLaw_29 : decode cX3_readLaw 29 = .ok (.iload_n 3, 1) := by decide +kernel
theorem dX3_readLaw_30 : decode cX3_readLaw 30 = .ok (.iastore, 1) := by decide +kernel
theorem dX3_readLaw_31 : decode cX3_readLaw 31 = .ok (.return_, 1) := by decide +kernel
theorem dX3_readSway_0 : decode cX3_readSway 0 = .ok (.aload_n 0, 1) := by decide +kernel
theorem dX3_readSway_1 : decode cX3_readSway 1 = .ok (.invokevirtual 22, 3) := by decide +kernel
theorem dX3_readSway_4 : decode cX3_readSway 4 = .ok (.aload_n 0, 1) := by decide +kernel
theorem dX3_readSway_5 : decode cX3_readSway 5 = .ok (.iconst 5, 1) := by decide +kernel
theorem dX3_readSway_6 : decode cX3_readSway 6 = .ok (.invokevirtual 64, 3) := by decide +kernel
theorem dX3_readSway_9 : decode cX3_readSway 9 = .ok (.istore_n 2, 1) := by decide +kernel
theorem dX3_readSway_10 : decode cX3_readSway 10 = .ok (.iload_n 2, 1) := by decide +kernel
theorem dX3_readSway_11 : decode cX3_readSway 11 = .ok (.ifCond .lt 12, 3) := by decide +kernel
theorem dX3_readSway_14 : decode cX3_readSway 14 = .ok (.aload_n 0, 1) := by decide +kernel
theorem dX3_readSway_15 : decode cX3_readSway 15 = .ok (.ldc 75, 2) := by decide +kernel
theorem dX3_readSway_17 : decode cX3_readSway 17 = .ok (.invokevirtual 77, 3) := by decide +kernel
theorem dX3_readSway_20 : decode cX3_readSway 20 = .ok (.ifCond .ne 4, 3) := by decide +kernel
theorem dX3_readSway_23 : decode cX3_readSway 23 = .ok (.return_, 1) := by decide +kernel
theorem dX3_readSway_24 : decode cX3_readSway 24 = .ok (.aload_n 0, 1) := by decide +kernel
theorem dX3_readSway_25 : decode cX3_readSway 25 = .ok (.bipush 9, 2) := by decide +kernel
theorem dX3_readSway_27 : decode cX3_readSway 27 = .ok (.invokevirtual 64, 3) := by decide +kernel
theorem dX3_readSway_30 : decode cX3_readSway 30 = .ok (.istore_n 3, 1) := by decide +kernel
theorem dX3_readSway_31 : decode cX3_readSway 31 = .ok (.iload_n 3, 1) := by decide +kernel
theorem dX3_readSway_32 : decode cX3_readSway 32 = .ok (.ifCond .lt 17, 3) := by decide +kernel
theorem dX3_readSway_35 : decode cX3_readSway 35 = .ok (.aload_n 0, 1) := by decide +kernel
theorem dX3_readSway_36 : decode cX3_readSway 36 = .ok (.invokevirtual 67, 3) := by decide +kernel
theorem dX3_readSway_39 : decode cX3_readSway 39 = .ok (.ifCond .eq 10, 3) := by decide +kernel
theorem dX3_readSway_42 : decode cX3_readSway 42 = .ok (.aload_n 1, 1) := by decide +kernel
theorem dX3_readSway_43 : decode cX3_readSway 43 = .ok (.getfield 80, 3) := by decide +kernel
theorem dX3_readSway_46 : decode cX3_readSway 46 = .ok (.iload_n 2, 1) := by decide +kernel
theorem dX3_readSway_47 : decode cX3_readSway 47 = .ok (.iload_n 3, 1) := by decide +kernel
theorem dX3_readSway_48 : decode cX3_readSway 48 = .ok (.iastore, 1) := by decide +kernel
theorem dX3_readSway_49 : decode cX3_readSway 49 = .ok (.return_, 1) := by decide +kernel
theorem dX3_readLeaf_0 : decode cX3_readLeaf 0 = .ok (.aload_n 0, 1) := by decide +kernel
theorem dX3_readLeaf_1 : decode cX3_readLeaf 1 = .ok (.invokevirtual 22, 3) := by decide +kernel
theorem dX3_readLeaf_4 : decode cX3_readLeaf 4 = .ok (.aload_n 0, 1) := by decide +kernel
theorem dX3_readLeaf_5 : decode cX3_readLeaf 5 = .ok (.ldc 83, 2) := by decide +kernel
theorem dX3_readLeaf_7 : decode cX3_readLeaf 7 = .ok (.invokevirtual 77, 3) := by decide +kernel
theorem dX3_readLeaf_10 : decode cX3_readLeaf 10 = .ok (.ifCond .ne 4, 3) := by decide +kernel
theorem dX3_readLeaf_13 : decode cX3_readLeaf 13 = .ok (.return_, 1) := by decide +kernel
theorem dX3_readLeaf_14 : decode cX3_readLeaf 14 = .ok (.aload_n 0, 1) := by decide +kernel
theorem dX3_readLeaf_15 : decode cX3_readLeaf 15 = .ok (.iconst 5, 1) := by decide +kernel
theorem dX3_readLeaf_16 : decode cX3_readLeaf 16 = .ok (.invokevirtual 64, 3) := by decide +kernel
theorem dX3_readLeaf_19 : decode cX3_readLeaf 19 = .ok (.istore_n 3, 1) := by decide +kernel
theorem dX3_readLeaf_20 : decode cX3_readLeaf 20 = .ok (.iload_n 3, 1) := by decide +kernel
theorem dX3_readLeaf_21 : decode cX3_readLeaf 21 = .ok (.ifCond .ge 4, 3) := by decide +kernel
theorem dX3_readLeaf_24 : decode cX3_readLeaf 24 = .ok (.return_, 1) := by decide +kernel
theorem dX3_readLeaf_25 : decode cX3_readLeaf 25 = .ok (.aload_n 0, 1) := by decide +kernel
theorem dX3_readLeaf_26 : decode cX3_readLeaf 26 = .ok (.ldc 85, 2) := by decide +kernel
theorem dX3_readLeaf_28 : decode cX3_readLeaf 28 = .ok (.bipush 99, 2) := by decide +kernel
theorem dX3_readLeaf_30 : decode cX3_readLeaf 30 = .ok (.bipush 10, 2) := by decide +kernel
theorem dX3_readLeaf_32 : decode cX3_readLeaf 32 = .ok (.invokevirtual 87, 3) := by decide +kernel
theorem dX3_readLeaf_35 : decode cX3_readLeaf 35 = .ok (.istore 4, 2) := by decide +kernel
theorem dX3_readLeaf_37 : decode cX3_readLeaf 37 = .ok (.iload 4, 2) := by decide +kernel
theorem dX3_readLeaf_39 : decode cX3_readLeaf 39 = .ok (.ifCond .ge 4, 3) := by decide +kernel
theorem dX3_readLeaf_42 : decode cX3_readLeaf 42 = .ok (.return_, 1) := by decide +kernel
theorem dX3_readLeaf_43 : decode cX3_readLeaf 43 = .ok (.aload_n 0, 1) := by decide +kernel
theorem dX3_readLeaf_44 : decode cX3_readLeaf 44 = .ok (.ldc 91, 2) := by decide +kernel
theorem dX3_readLeaf_46 : decode cX3_readLeaf 46 = .ok (.bipush 9, 2) := by decide +kernel
theorem dX3_readLeaf_48 : decode cX3_readLeaf 48 = .ok (.iconst 0, 1) := by decide +kernel
theorem dX3_readLeaf_49 : decode cX3_readLeaf 49 = .ok (.invokevirtual 87, 3) := by decide +kernel
theorem dX3_readLeaf_52 : decode cX3_readLeaf 52 = .ok (.istore 5, 2) := by decide +kernel
theorem dX3_readLeaf_54 : decode cX3_readLeaf 54 = .ok (.iload 5, 2) := by decide +kernel
theorem dX3_readLeaf_56 : decode cX3_readLeaf 56 = .ok (.ifCond .lt 20, 3) := by decide +kernel
theorem dX3_readLeaf_59 : decode cX3_readLeaf 59 = .ok (.aload_n 0, 1) := by decide +kernel
theorem dX3_readLeaf_60 : decode cX3_readLeaf 60 = .ok (.invokevirtual 67, 3) := by decide +kernel
theorem dX3_readLeaf_63 : decode cX3_readLeaf 63 = .ok (.ifCond .eq 13, 3) := by decide +kernel
theorem dX3_readLeaf_66 : decode cX3_readLeaf 66 = .ok (.aload_n 1, 1) := by decide +kernel
theorem dX3_readLeaf_67 : decode cX3_readLeaf 67 = .ok (.iload_n 2, 1) := by decide +kernel
theorem dX3_readLeaf_68 : decode cX3_readLeaf 68 = .ok (.iload_n 3, 1) := by decide +kernel
theorem dX3_readLeaf_69 : decode cX3_readLeaf 69 = .ok (.iload 4, 2) := by decide +kernel
theorem dX3_readLeaf_71 : decode cX3_readLeaf 71 = .ok (.iload 5, 2) := by decide +kernel
theorem dX3_readLeaf_73 : decode cX3_readLeaf 73 = .ok (.invokevirtual 93, 3) := by decide +kernel
theorem dX3_readLeaf_76 : decode cX3_readLeaf 76 = .ok (.return_, 1) := by decide +kernel
theorem dX3_numberNamed_0 : decode cX3_numberNamed 0 = .ok (.aload_n 0, 1) := by decide +kernel
theorem dX3_numberNamed_1 : decode cX3_numberNamed 1 = .ok (.aload_n 1, 1) := by decide +kernel
theorem dX3_numberNamed_2 : decode cX3_numberNamed 2 = .ok (.invokevirtual 41, 3) := by decide +kernel
theorem dX3_numberNamed_5 : decode cX3_numberNamed 5 = .ok (.ifCond .ne 5, 3) := by decide +kernel
theorem dX3_numberNamed_8 : decode cX3_numberNamed 8 = .ok (.iload_n 3, 1) := by decide +kernel
theorem dX3_numberNamed_9 : decode cX3_numberNamed 9 = .ok (.ireturn, 1) := by decide +kernel
theorem dX3_numberNamed_10 : decode cX3_numberNamed 10 = .ok (.aload_n 0, 1) := by decide +kernel
theorem dX3_numberNamed_11 : decode cX3_numberNamed 11 = .ok (.invokevirtual 22, 3) := by decide +kernel
theorem dX3_numberNamed_14 : decode cX3_numberNamed 14 = .ok (.aload_n 0, 1) := by decide +kernel
theorem dX3_numberNamed_15 : decode cX3_numberNamed 15 = .ok (.iload_n 2, 1) := by decide +kernel
theorem dX3_numberNamed_16 : decode cX3_numberNamed 16 = .ok (.invokevirtual 64, 3) := by decide +kernel
theorem dX3_numberNamed_19 : decode cX3_numberNamed 19 = .ok (.ireturn, 1) := by decide +kernel
theorem dX3_number_0 : decode cX3_number 0 = .ok (.aload_n 0, 1) := by decide +kernel
theorem dX3_number_1 : decode cX3_number 1 = .ok (.getfield 25, 3) := by decide +kernel
theorem dX3_number_4 : decode cX3_number 4 = .ok (.iconst 2, 1) := by decide +kernel
theorem dX3_number_5 : decode cX3_number 5 = .ok (.if_icmp .ne 23, 3) := by decide +kernel
theorem dX3_number_8 : decode cX3_number 8 = .ok (.aload_n 0, 1) := by decide +kernel
theorem dX3_number_9 : decode cX3_number 9 = .ok (.getfield 15, 3) := by decide +kernel
theorem dX3_number_12 : decode cX3_number 12 = .ok (.aload_n 0, 1) := by decide +kernel
theorem dX3_number_13 : decode cX3_number 13 = .ok (.getfield 57, 3) := by decide +kernel
theorem dX3_number_16 : decode cX3_number 16 = .ok (.isub, 1) := by decide +kernel
theorem dX3_number_17 : decode cX3_number 17 = .ok (.iconst 3, 1) := by decide +kernel
theorem dX3_number_18 : decode cX3_number 18 = .ok (.if_icmp .gt 10, 3) := by decide +kernel
theorem dX3_number_21 : decode cX3_number 21 = .ok (.aload_n 0, 1) := by decide +kernel
theorem dX3_number_22 : decode cX3_number 22 = .ok (.invokevirtual 97, 3) := by decide +kernel
theorem dX3_number_25 : decode cX3_number 25 = .ok (.goto 6, 3) := by decide +kernel
theorem dX3_number_28 : decode cX3_number 28 = .ok (.iload_n 1, 1) := by decide +kernel
theorem dX3_number_29 : decode cX3_number 29 = .ok (.iconst 1, 1) := by decide +kernel
theorem dX3_number_30 : decode cX3_number 30 = .ok (.iadd, 1) := by decide +kernel
theorem dX3_number_31 : decode cX3_number 31 = .ok (.istore_n 2, 1) := by decide +kernel
theorem dX3_number_32 : decode cX3_number 32 = .ok (.iload_n 2, 1) := by decide +kernel
theorem dX3_number_33 : decode cX3_number 33 = .ok (.iload_n 1, 1) := by decide +kernel
theorem dX3_number_34 : decode cX3_number 34 = .ok (.if_icmp .le 13, 3) := by decide +kernel
theorem dX3_number_37 : decode cX3_number 37 = .ok (.aload_n 0, 1) := by decide +kernel
theorem dX3_number_38 : decode cX3_number 38 = .ok (.aload_n 0, 1) := by decide +kernel
theorem dX3_number_39 : decode cX3_number 39 = .ok (.getfield 57, 3) := by decide +kernel
theorem dX3_number_42 : decode cX3_number 42 = .ok (.putfield 19, 3) := by decide +kernel
theorem dX3_number_45 : decode cX3_number 45 = .ok (.iconst (-1), 1) := by decide +kernel
theorem dX3_number_46 : decode cX3_number 46 = .ok (.ireturn, 1) := by decide +kernel
theorem dX3_number_47 : decode cX3_number 47 = .ok (.aload_n 0, 1) := by decide +kernel
theorem dX3_number_48 : decode cX3_number 48 = .ok (.invokevirtual 22, 3) := by decide +kernel
theorem dX3_number_51 : decode cX3_number 51 = .ok (.iload_n 2, 1) := by decide +kernel
theorem dX3_number_52 : decode cX3_number 52 = .ok (.ireturn, 1) := by decide +kernel
theorem dX3_value_0 : decode cX3_value 0 = .ok (.iconst 0, 1) := by decide +kernel
theorem dX3_value_1 : decode cX3_value 1 = .ok (.istore_n 1, 1) := by decide +kernel
theorem dX3_value_2 : decode cX3_value 2 = .ok (.aload_n 0, 1) := by decide +kernel
theorem dX3_value_3 : decode cX3_value 3 = .ok (.getfield 57, 3) := by decide +kernel
theorem dX3_value_6 : decode cX3_value 6 = .ok (.istore_n 2, 1) := by decide +kernel
theorem dX3_value_7 : decode cX3_value 7 = .ok (.iload_n 2, 1) := by decide +kernel
theorem dX3_value_8 : decode cX3_value 8 = .ok (.aload_n 0, 1) := by decide +kernel
theorem dX3_value_9 : decode cX3_value 9 = .ok (.getfield 15, 3) := by decide +kernel
theorem dX3_value_12 : decode cX3_value 12 = .ok (.if_icmp .ge 31, 3) := by decide +kernel
theorem dX3_value_15 : decode cX3_value 15 = .ok (.iload_n 2, 1) := by decide +kernel
theorem dX3_value_16 : decode cX3_value 16 = .ok (.sipush 200, 3) := by decide +kernel
theorem dX3_value_19 : decode cX3_value 19 = .ok (.if_icmp .ge 24, 3) := by decide +kernel
theorem dX3_value_22 : decode cX3_value 22 = .ok (.iload_n 1, 1) := by decide +kernel
theorem dX3_value_23 : decode cX3_value 23 = .ok (.bipush 10, 2) := by decide +kernel
theorem dX3_value_25 : decode cX3_value 25 = .ok (.imul, 1) := by decide +kernel
theorem dX3_value_26 : decode cX3_value 26 = .ok (.aload_n 0, 1) := by decide +kernel
theorem dX3_value_27 : decode cX3_value 27 = .ok (.getfield 9, 3) := by decide +kernel
theorem dX3_value_30 : decode cX3_value 30 = .ok (.iload_n 2, 1) := by decide +kernel
theorem dX3_value_31 : decode cX3_value 31 = .ok (.baload, 1) := by decide +kernel
theorem dX3_value_32 : decode cX3_value 32 = .ok (.iadd, 1) := by decide +kernel
theorem dX3_value_33 : decode cX3_value 33 = .ok (.bipush 48, 2) := by decide +kernel
theorem dX3_value_35 : decode cX3_value 35 = .ok (.isub, 1) := by decide +kernel
theorem dX3_value_36 : decode cX3_value 36 = .ok (.istore_n 1, 1) := by decide +kernel
theorem dX3_value_37 : decode cX3_value 37 = .ok (.iinc 2 1, 3) := by decide +kernel
theorem dX3_value_40 : decode cX3_value 40 = .ok (.goto (-33), 3) := by decide +kernel
theorem dX3_value_43 : decode cX3_value 43 = .ok (.iload_n 1, 1) := by decide +kernel
theorem dX3_value_44 : decode cX3_value 44 = .ok (.ireturn, 1) := by decide +kernel
theorem dX3_passName_0 : decode cX3_passName 0 = .ok (.aload_n 0, 1) := by decide +kernel
theorem dX3_passName_1 : decode cX3_passName 1 = .ok (.aload_n 1, 1) := by decide +kernel
theorem dX3_passName_2 : decode cX3_passName 2 = .ok (.invokevirtual 41, 3) := by decide +kernel
theorem dX3_passName_5 : decode cX3_passName 5 = .ok (.istore_n 2, 1) := by decide +kernel
theorem dX3_passName_6 : decode cX3_passName 6 = .ok (.iload_n 2, 1) := by decide +kernel
theorem dX3_passName_7 : decode cX3_passName 7 = .ok (.ifCond .eq 10, 3) := by decide +kernel
theorem dX3_passName_10 : decode cX3_passName 10 = .ok (.aload_n 0, 1) := by decide +kernel
theorem dX3_passName_11 : decode cX3_passName 11 = .ok (.invokevirtual 22, 3) := by decide +kernel
theorem dX3_passName_14 : decode cX3_passName 14 = .ok (.goto 11, 3) := by decide +kernel
theorem dX3_passName_17 : decode cX3_passName 17 = .ok (.aload_n 0, 1) := by decide +kernel
theorem dX3_passName_18 : decode cX3_passName 18 = .ok (.aload_n 0, 1) := by decide +kernel
theorem dX3_passName_19 : decode cX3_passName 19 = .ok (.getfield 57, 3) := by decide +kernel
theorem dX3_passName_22 : decode cX3_passName 22 = .ok (.putfield 19, 3) := by decide +kernel
theorem dX3_passName_25 : decode cX3_passName 25 = .ok (.iload_n 2, 1) := by decide +kernel
theorem dX3_passName_26 : decode cX3_passName 26 = .ok (.ireturn, 1) := by decide +kernel
theorem dX3_passSemicolon_0 : decode cX3_passSemicolon 0 = .ok (.aload_n 0, 1) := by decide +kernel
theorem dX3_passSemicolon_1 : decode cX3_passSemicolon 1 = .ok (.getfield 25, 3) := by decide +kernel
theorem dX3_passSemicolon_4 : decode cX3_passSemicolon 4 = .ok (.iconst 3, 1) := by decide +kernel
theorem dX3_passSemicolon_5 : decode cX3_passSemicolon 5 = .ok (.if_icmp .ne 31, 3) := by decide +kernel
theorem dX3_passSemicolon_8 : decode cX3_passSemicolon 8 = .ok (.aload_n 0, 1) := by decide +kernel
theorem dX3_passSemicolon_9 : decode cX3_passSemicolon 9 = .ok (.getfield 57, 3) := by decide +kernel
theorem dX3_passSemicolon_12 : decode cX3_passSemicolon 12 = .ok (.sipush 200, 3) := by decide +kernel
theorem dX3_passSemicolon_15 : decode cX3_passSemicolon 15 = .ok (.if_icmp .ge 21, 3) := by decide +kernel
theorem dX3_passSemicolon_18 : decode cX3_passSemicolon 18 = .ok (.aload_n 0, 1) := by decide +kernel
theorem dX3_passSemicolon_19 : decode cX3_passSemicolon 19 = .ok (.getfield 9, 3) := by decide +kernel
theorem dX3_passSemicolon_22 : decode cX3_passSemicolon 22 = .ok (.aload_n 0, 1) := by decide +kernel
theorem dX3_passSemicolon_23 : decode cX3_passSemicolon 23 = .ok (.getfield 57, 3) := by decide +kernel
theorem dX3_passSemicolon_26 : decode cX3_passSemicolon 26 = .ok (.baload, 1) := by decide +kernel
theorem dX3_passSemicolon_27 : decode cX3_passSemicolon 27 = .ok (.bipush 59, 2) := by decide +kernel
theorem dX3_passSemicolon_29 : decode cX3_passSemicolon 29 = .ok (.if_icmp .ne 7, 3) := by decide +kernel
theorem dX3_passSemicolon_32 : decode cX3_passSemicolon 32 = .ok (.iconst 1, 1) := by decide +kernel
theorem dX3_passSemicolon_33 : decode cX3_passSemicolon 33 = .ok (.goto 4, 3) := by decide +kernel
theorem dX3_passSemicolon_36 : decode cX3_passSemicolon 36 = .ok (.iconst 0, 1) := by decide +kernel
theorem dX3_passSemicolon_37 : decode cX3_passSemicolon 37 = .ok (.istore_n 1, 1) := by decide +kernel
theorem dX3_passSemicolon_38 : decode cX3_passSemicolon 38 = .ok (.iload_n 1, 1) := by decide +kernel
theorem dX3_passSemicolon_39 : decode cX3_passSemicolon 39 = .ok (.ifCond .eq 10, 3) := by decide +kernel
theorem dX3_passSemicolon_42 : decode cX3_passSemicolon 42 = .ok (.aload_n 0, 1) := by decide +kernel
theorem dX3_passSemicolon_43 : decode cX3_passSemicolon 43 = .ok (.invokevirtual 22, 3) := by decide +kernel
theorem dX3_passSemicolon_46 : decode cX3_passSemicolon 46 = .ok (.goto 11, 3) := by decide +kernel
theorem dX3_passSemicolon_49 : decode cX3_passSemicolon 49 = .ok (.aload_n 0, 1) := by decide +kernel
theorem dX3_passSemicolon_50 : decode cX3_passSemicolon 50 = .ok (.aload_n 0, 1) := by decide +kernel
theorem dX3_passSemicolon_51 : decode cX3_passSemicolon 51 = .ok (.getfield 57, 3) := by decide +kernel
theorem dX3_passSemicolon_54 : decode cX3_passSemicolon 54 = .ok (.putfield 19, 3) := by decide +kernel
theorem dX3_passSemicolon_57 : decode cX3_passSemicolon 57 = .ok (.iload_n 1, 1) := by decide +kernel
theorem dX3_passSemicolon_58 : decode cX3_passSemicolon 58 = .ok (.ireturn, 1) := by decide +kernel
theorem dX3_isName_0 : decode cX3_isName 0 = .ok (.aload_n 0, 1) := by decide +kernel
theorem dX3_isName_1 : decode cX3_isName 1 = .ok (.getfield 25, 3) := by decide +kernel
theorem dX3_isName_4 : decode cX3_isName 4 = .ok (.iconst 1, 1) := by decide +kernel
theorem dX3_isName_5 : decode cX3_isName 5 = .ok (.if_icmp .ne 29, 3) := by decide +kernel
theorem dX3_isName_8 : decode cX3_isName 8 = .ok (.aload_n 0, 1) := by decide +kernel
theorem dX3_isName_9 : decode cX3_isName 9 = .ok (.getfield 15, 3) := by decide +kernel
theorem dX3_isName_12 : decode cX3_isName 12 = .ok (.aload_n 0, 1) := by decide +kernel
theorem dX3_isName_13 : decode cX3_isName 13 = .ok (.getfield 57, 3) := by decide +kernel
theorem dX3_isName_16 : decode cX3_isName 16 = .ok (.isub, 1) := by decide +kernel
theorem dX3_isName_17 : decode cX3_isName 17 = .ok (.aload_n 1, 1) := by decide +kernel
theorem dX3_isName_18 : decode cX3_isName 18 = .ok (.invokevirtual 100, 3) := by decide +kernel
theorem dX3_isName_21 : decode cX3_isName 21 = .ok (.if_icmp .ne 13, 3) := by decide +kernel
theorem dX3_isName_24 : decode cX3_isName 24 = .ok (.aload_n 0, 1) := by decide +kernel
theorem dX3_isName_25 : decode cX3_isName 25 = .ok (.getfield 15, 3) := by decide +kernel
theorem dX3_isName_28 : decode cX3_isName 28 = .ok (.sipush 200, 3) := by decide +kernel
theorem dX3_isName_31 : decode cX3_isName 31 = .ok (.if_icmp .le 5, 3) := by decide +kernel
theorem dX3_isName_34 : decode cX3_isName 34 = .ok (.iconst 0, 1) := by decide +kernel
theorem dX3_isName_35 : decode cX3_isName 35 = .ok (.ireturn, 1) := by decide +kernel
theorem dX3_isName_36 : decode cX3_isName 36 = .ok (.iconst 0, 1) := by decide +kernel
theorem dX3_isName_37 : decode cX3_isName 37 = .ok (.istore_n 2, 1) := by decide +kernel
theorem dX3_isName_38 : decode cX3_isName 38 = .ok (.iload_n 2, 1) := by decide +kernel
theorem dX3_isName_39 : decode cX3_isName 39 = .ok (.aload_n 1, 1) := by decide +kernel
theorem dX3_isName_40 : decode cX3_isName 40 = .ok (.invokevirtual 100, 3) := by decide +kernel
theorem dX3_isName_43 : decode cX3_isName 43 = .ok (.if_icmp .ge 30, 3) := by decide +kernel
theorem dX3_isName_46 : decode cX3_isName 46 = .ok (.aload_n 0, 1) := by decide +kernel
theorem dX3_isName_47 : decode cX3_isName 47 = .ok (.getfield 9, 3) := by decide +kernel
theorem dX3_isName_50 : decode cX3_isName 50 = .ok (.aload_n 0, 1) := by decide +kernel
theorem dX3_isName_51 : decode cX3_isName 51 = .ok (.getfield 57, 3) := by decide +kernel
theorem dX3_isName_54 : decode cX3_isName 54 = .ok (.iload_n 2, 1) := by decide +kernel
theorem dX3_isName_55 : decode cX3_isName 55 = .ok (.iadd, 1) := by decide +kernel
theorem dX3_isName_56 : decode cX3_isName 56 = .ok (.baload, 1) := by decide +kernel
theorem dX3_isName_57 : decode cX3_isName 57 = .ok (.aload_n 1, 1) := by decide +kernel
theorem dX3_isName_58 : decode cX3_isName 58 = .ok (.iload_n 2, 1) := by decide +kernel
theorem dX3_isName_59 : decode cX3_isName 59 = .ok (.invokevirtual 105, 3) := by decide +kernel
theorem dX3_isName_62 : decode cX3_isName 62 = .ok (.if_icmp .eq 5, 3) := by decide +kernel
theorem dX3_isName_65 : decode cX3_isName 65 = .ok (.iconst 0, 1) := by decide +kernel
theorem dX3_isName_66 : decode cX3_isName 66 = .ok (.ireturn, 1) := by decide +kernel
theorem dX3_isName_67 : decode cX3_isName 67 = .ok (.iinc 2 1, 3) := by decide +kernel
theorem dX3_isName_70 : decode cX3_isName 70 = .ok (.goto (-32), 3) := by decide +kernel
theorem dX3_isName_73 : decode cX3_isName 73 = .ok (.iconst 1, 1) := by decide +kernel
theorem dX3_isName_74 : decode cX3_isName 74 = .ok (.ireturn, 1) := by decide +kernel
theorem dX3_lawNamed_0 : decode cX3_lawNamed 0 = .ok (.aload_n 0, 1) := by decide +kernel
theorem dX3_lawNamed_1 : decode cX3_lawNamed 1 = .ok (.ldc 109, 2) := by decide +kernel
theorem dX3_lawNamed_3 : decode cX3_lawNamed 3 = .ok (.invokevirtual 41, 3) := by decide +kernel
theorem dX3_lawNamed_6 : decode cX3_lawNamed 6 = .ok (.ifCond .eq 7, 3) := by decide +kernel
theorem dX3_lawNamed_9 : decode cX3_lawNamed 9 = .ok (.iconst 0, 1) := by decide +kernel
theorem dX3_lawNamed_10 : decode cX3_lawNamed 10 = .ok (.goto 43, 3) := by decide +kernel
theorem dX3_lawNamed_13 : decode cX3_lawNamed 13 = .ok (.aload_n 0, 1) := by decide +kernel
theorem dX3_lawNamed_14 : decode cX3_lawNamed 14 = .ok (.ldc 111, 2) := by decide +kernel
theorem dX3_lawNamed_16 : decode cX3_lawNamed 16 = .ok (.invokevirtual 41, 3) := by decide +kernel
theorem dX3_lawNamed_19 : decode cX3_lawNamed 19 = .ok (.ifCond .eq 7, 3) := by decide +kernel
theorem dX3_lawNamed_22 : decode cX3_lawNamed 22 = .ok (.iconst 1, 1) := by decide +kernel
theorem dX3_lawNamed_23 : decode cX3_lawNamed 23 = .ok (.goto 30, 3) := by decide +kernel
theorem dX3_lawNamed_26 : decode cX3_lawNamed 26 = .ok (.aload_n 0, 1) := by decide +kernel
theorem dX3_lawNamed_27 : decode cX3_lawNamed 27 = .ok (.ldc 113, 2) := by decide +kernel
theorem dX3_lawNamed_29 : decode cX3_lawNamed 29 = .ok (.invokevirtual 41, 3) := by decide +kernel
theorem dX3_lawNamed_32 : decode cX3_lawNamed 32 = .ok (.ifCond .eq 7, 3) := by decide +kernel
theorem dX3_lawNamed_35 : decode cX3_lawNamed 35 = .ok (.iconst 2, 1) := by decide +kernel
theorem dX3_lawNamed_36 : decode cX3_lawNamed 36 = .ok (.goto 17, 3) := by decide +kernel
theorem dX3_lawNamed_39 : decode cX3_lawNamed 39 = .ok (.aload_n 0, 1) := by decide +kernel
theorem dX3_lawNamed_40 : decode cX3_lawNamed 40 = .ok (.ldc 115, 2) := by decide +kernel
theorem dX3_lawNamed_42 : decode cX3_lawNamed 42 = .ok (.invokevirtual 41, 3) := by decide +kernel
theorem dX3_lawNamed_45 : decode cX3_lawNamed 45 = .ok (.ifCond .eq 7, 3) := by decide +kernel
theorem dX3_lawNamed_48 : decode cX3_lawNamed 48 = .ok (.iconst 3, 1) := by decide +kernel
theorem dX3_lawNamed_49 : decode cX3_lawNamed 49 = .ok (.goto 4, 3) := by decide +kernel
theorem dX3_lawNamed_52 : decode cX3_lawNamed 52 = .ok (.iconst (-1), 1) := by decide +kernel
theorem dX3_lawNamed_53 : decode cX3_lawNamed 53 = .ok (.ireturn, 1) := by decide +kernel
theorem dX3_kindNamed_0 : decode cX3_kindNamed 0 = .ok (.iconst 0, 1) := by decide +kernel
theorem dX3_kindNamed_1 : decode cX3_kindNamed 1 = .ok (.istore_n 1, 1) := by decide +kernel
theorem dX3_kindNamed_2 : decode cX3_kindNamed 2 = .ok (.iload_n 1, 1) := by decide +kernel
theorem dX3_kindNamed_3 : decode cX3_kindNamed 3 = .ok (.bipush 6, 2) := by decide +kernel
theorem dX3_kindNamed_5 : decode cX3_kindNamed 5 = .ok (.if_icmp .ge 22, 3) := by decide +kernel
theorem dX3_kindNamed_8 : decode cX3_kindNamed 8 = .ok (.aload_n 0, 1) := by decide +kernel
theorem dX3_kindNamed_9 : decode cX3_kindNamed 9 = .ok (.iload_n 1, 1) := by decide +kernel
theorem dX3_kindNamed_10 : decode cX3_kindNamed 10 = .ok (.invokestatic 117, 3) := by decide +kernel
theorem dX3_kindNamed_13 : decode cX3_kindNamed 13 = .ok (.invokevirtual 41, 3) := by decide +kernel
theorem dX3_kindNamed_16 : decode cX3_kindNamed 16 = .ok (.ifCond .eq 5, 3) := by decide +kernel
theorem dX3_kindNamed_19 : decode cX3_kindNamed 19 = .ok (.iload_n 1, 1) := by decide +kernel
theorem dX3_kindNamed_20 : decode cX3_kindNamed 20 = .ok (.ireturn, 1) := by decide +kernel
theorem dX3_kindNamed_21 : decode cX3_kindNamed 21 = .ok (.iinc 1 1, 3) := by decide +kernel
theorem dX3_kindNamed_24 : decode cX3_kindNamed 24 = .ok (.goto (-22), 3) := by decide +kernel
theorem dX3_kindNamed_27 : decode cX3_kindNamed 27 = .ok (.iconst (-1), 1) := by decide +kernel
theorem dX3_kindNamed_28 : decode cX3_kindNamed 28 = .ok (.ireturn, 1) := by decide +kernel
theorem dX3_kindName_0 : decode cX3_kindName 0 = .ok (.iload_n 0, 1) := by decide +kernel
theorem dX3_kindName_1 : decode cX3_kindName 1 = .ok (.tableswitch 50 1 5 #[35, 38, 41, 44, 47], 35) := by decide +kernel
theorem dX3_kindName_36 : decode cX3_kindName 36 = .ok (.ldc 121, 2) := by decide +kernel
theorem dX3_kindName_38 : decode cX3_kindName 38 = .ok (.areturn, 1) := by decide +kernel
theorem dX3_kindName_39 : decode cX3_kindName 39 = .ok (.ldc 123, 2) := by decide +kernel
theorem dX3_kindName_41 : decode cX3_kindName 41 = .ok (.areturn, 1) := by decide +kernel
theorem dX3_kindName_42 : decode cX3_kindName 42 = .ok (.ldc 125, 2) := by decide +kernel
theorem dX3_kindName_44 : decode cX3_kindName 44 = .ok (.areturn, 1) := by decide +kernel
theorem dX3_kindName_45 : decode cX3_kindName 45 = .ok (.ldc 127, 2) := by decide +kernel
theorem dX3_kindName_47 : decode cX3_kindName 47 = .ok (.areturn, 1) := by decide +kernel
theorem dX3_kindName_48 : decode cX3_kindName 48 = .ok (.ldc 129, 2) := by decide +kernel
theorem dX3_kindName_50 : decode cX3_kindName 50 = .ok (.areturn, 1) := by decide +kernel
theorem dX3_kindName_51 : decode cX3_kindName 51 = .ok (.ldc 131, 2) := by decide +kernel
theorem dX3_kindName_53 : decode cX3_kindName 53 = .ok (.areturn, 1) := by decide +kernel
theorem dX3_step_0 : decode cX3_step 0 = .ok (.aload_n 0, 1) := by decide +kernel
theorem dX3_step_1 : decode cX3_step 1 = .ok (.aload_n 0, 1) := by decide +kernel
theorem dX3_step_2 : decode cX3_step 2 = .ok (.getfield 15, 3) := by decide +kernel
theorem dX3_step_5 : decode cX3_step 5 = .ok (.putfield 57, 3) := by decide +kernel
theorem dX3_step_8 : decode cX3_step 8 = .ok (.aload_n 0, 1) := by decide +kernel
theorem dX3_step_9 : decode cX3_step 9 = .ok (.getfield 57, 3) := by decide +kernel
theorem dX3_step_12 : decode cX3_step 12 = .ok (.aload_n 0, 1) := by decide +kernel
theorem dX3_step_13 : decode cX3_step 13 = .ok (.getfield 133, 3) := by decide +kernel
theorem dX3_step_16 : decode cX3_step 16 = .ok (.if_icmp .ge 30, 3) := by decide +kernel
theorem dX3_step_19 : decode cX3_step 19 = .ok (.aload_n 0, 1) := by decide +kernel
theorem dX3_step_20 : decode cX3_step 20 = .ok (.getfield 9, 3) := by decide +kernel
theorem dX3_step_23 : decode cX3_step 23 = .ok (.aload_n 0, 1) := by decide +kernel
theorem dX3_step_24 : decode cX3_step 24 = .ok (.getfield 57, 3) := by decide +kernel
theorem dX3_step_27 : decode cX3_step 27 = .ok (.baload, 1) := by decide +kernel
theorem dX3_step_28 : decode cX3_step 28 = .ok (.bipush 32, 2) := by decide +kernel
theorem dX3_step_30 : decode cX3_step 30 = .ok (.if_icmp .ne 16, 3) := by decide +kernel
theorem dX3_step_33 : decode cX3_step 33 = .ok (.aload_n 0, 1) := by decide +kernel
theorem dX3_step_34 : decode cX3_step 34 = .ok (.dup, 1) := by decide +kernel
theorem dX3_step_35 : decode cX3_step 35 = .ok (.getfield 57, 3) := by decide +kernel
theorem dX3_step_38 : decode cX3_step 38 = .ok (.iconst 1, 1) := by decide +kernel
theorem dX3_step_39 : decode cX3_step 39 = .ok (.iadd, 1) := by decide +kernel
theorem dX3_step_40 : decode cX3_step 40 = .ok (.putfield 57, 3) := by decide +kernel
theorem dX3_step_43 : decode cX3_step 43 = .ok (.goto (-35), 3) := by decide +kernel
theorem dX3_step_46 : decode cX3_step 46 = .ok (.aload_n 0, 1) := by decide +kernel
theorem dX3_step_47 : decode cX3_step 47 = .ok (.aload_n 0, 1) := by decide +kernel
theorem dX3_step_48 : decode cX3_step 48 = .ok (.getfield 57, 3) := by decide +kernel
theorem dX3_step_51 : decode cX3_step 51 = .ok (.putfield 15, 3) := by decide +kernel
theorem dX3_step_54 : decode cX3_step 54 = .ok (.aload_n 0, 1) := by decide +kernel
theorem dX3_step_55 : decode cX3_step 55 = .ok (.aload_n 0, 1) := by decide +kernel
theorem dX3_step_56 : decode cX3_step 56 = .ok (.aload_n 0, 1) := by decide +kernel
theorem dX3_step_57 : decode cX3_step 57 = .ok (.getfield 57, 3) := by decide +kernel
theorem dX3_step_60 : decode cX3_step 60 = .ok (.invokevirtual 135, 3) := by decide +kernel
theorem dX3_step_63 : decode cX3_step 63 = .ok (.putfield 25, 3) := by decide +kernel
theorem dX3_step_66 : decode cX3_step 66 = .ok (.aload_n 0, 1) := by decide +kernel
theorem dX3_step_67 : decode cX3_step 67 = .ok (.getfield 25, 3) := by decide +kernel
theorem dX3_step_70 : decode cX3_step 70 = .ok (.ifCond .ne 4, 3) := by decide +kernel
theorem dX3_step_73 : decode cX3_step 73 = .ok (.return_, 1) := by decide +kernel
theorem dX3_step_74 : decode cX3_step 74 = .ok (.aload_n 0, 1) := by decide +kernel
theorem dX3_step_75 : decode cX3_step 75 = .ok (.dup, 1) := by decide +kernel
theorem dX3_step_76 : decode cX3_step 76 = .ok (.getfield 15, 3) := by decide +kernel
theorem dX3_step_79 : decode cX3_step 79 = .ok (.iconst 1, 1) := by decide +kernel
theorem dX3_step_80 : decode cX3_step 80 = .ok (.iadd, 1) := by decide +kernel
theorem dX3_step_81 : decode cX3_step 81 = .ok (.putfield 15, 3) := by decide +kernel
theorem dX3_step_84 : decode cX3_step 84 = .ok (.aload_n 0, 1) := by decide +kernel
theorem dX3_step_85 : decode cX3_step 85 = .ok (.getfield 25, 3) := by decide +kernel
theorem dX3_step_88 : decode cX3_step 88 = .ok (.iconst 3, 1) := by decide +kernel
theorem dX3_step_89 : decode cX3_step 89 = .ok (.if_icmp .eq 42, 3) := by decide +kernel
theorem dX3_step_92 : decode cX3_step 92 = .ok (.aload_n 0, 1) := by decide +kernel
theorem dX3_step_93 : decode cX3_step 93 = .ok (.getfield 15, 3) := by decide +kernel
theorem dX3_step_96 : decode cX3_step 96 = .ok (.aload_n 0, 1) := by decide +kernel
theorem dX3_step_97 : decode cX3_step 97 = .ok (.getfield 133, 3) := by decide +kernel
theorem dX3_step_100 : decode cX3_step 100 = .ok (.if_icmp .ge 31, 3) := by decide +kernel
theorem dX3_step_103 : decode cX3_step 103 = .ok (.aload_n 0, 1) := by decide +kernel
theorem dX3_step_104 : decode cX3_step 104 = .ok (.aload_n 0, 1) := by decide +kernel
theorem dX3_step_105 : decode cX3_step 105 = .ok (.getfield 15, 3) := by decide +kernel
theorem dX3_step_108 : decode cX3_step 108 = .ok (.invokevirtual 135, 3) := by decide +kernel
theorem dX3_step_111 : decode cX3_step 111 = .ok (.aload_n 0, 1) := by decide +kernel
theorem dX3_step_112 : decode cX3_step 112 = .ok (.getfield 25, 3) := by decide +kernel
theorem dX3_step_115 : decode cX3_step 115 = .ok (.if_icmp .ne 16, 3) := by decide +kernel
theorem dX3_step_118 : decode cX3_step 118 = .ok (.aload_n 0, 1) := by decide +kernel
theorem dX3_step_119 : decode cX3_step 119 = .ok (.dup, 1) := by decide +kernel
theorem dX3_step_120 : decode cX3_step 120 = .ok (.getfield 15, 3) := by decide +kernel
theorem dX3_step_123 : decode cX3_step 123 = .ok (.iconst 1, 1) := by decide +kernel
theorem dX3_step_124 : decode cX3_step 124 = .ok (.iadd, 1) := by decide +kernel
theorem dX3_step_125 : decode cX3_step 125 = .ok (.putfield 15, 3) := by decide +kernel
theorem dX3_step_128 : decode cX3_step 128 = .ok (.goto (-44), 3) := by decide +kernel
theorem dX3_step_131 : decode cX3_step 131 = .ok (.return_, 1) := by decide +kernel
theorem dX3_sortAt_0 : decode cX3_sortAt 0 = .ok (.iload_n 1, 1) := by decide +kernel
theorem dX3_sortAt_1 : decode cX3_sortAt 1 = .ok (.ifCond .lt 18, 3) := by decide +kernel
theorem dX3_sortAt_4 : decode cX3_sortAt 4 = .ok (.iload_n 1, 1) := by decide +kernel
theorem dX3_sortAt_5 : decode cX3_sortAt 5 = .ok (.aload_n 0, 1) := by decide +kernel
theorem dX3_sortAt_6 : decode cX3_sortAt 6 = .ok (.getfield 133, 3) := by decide +kernel
theorem dX3_sortAt_9 : decode cX3_sortAt 9 = .ok (.if_icmp .ge 10, 3) := by decide +kernel
theorem dX3_sortAt_12 : decode cX3_sortAt 12 = .ok (.iload_n 1, 1) := by decide +kernel
theorem dX3_sortAt_13 : decode cX3_sortAt 13 = .ok (.sipush 200, 3) := by decide +kernel
theorem dX3_sortAt_16 : decode cX3_sortAt 16 = .ok (.if_icmp .lt 5, 3) := by decide +kernel
theorem dX3_sortAt_19 : decode cX3_sortAt 19 = .ok (.iconst 0, 1) := by decide +kernel
theorem dX3_sortAt_20 : decode cX3_sortAt 20 = .ok (.ireturn, 1) := by decide +kernel
theorem dX3_sortAt_21 : decode cX3_sortAt 21 = .ok (.aload_n 0, 1) := by decide +kernel
theorem dX3_sortAt_22 : decode cX3_sortAt 22 = .ok (.getfield 9, 3) := by decide +kernel
theorem dX3_sortAt_25 : decode cX3_sortAt 25 = .ok (.iload_n 1, 1) := by decide +kernel
theorem dX3_sortAt_26 : decode cX3_sortAt 26 = .ok (.baload, 1) := by decide +kernel
theorem dX3_sortAt_27 : decode cX3_sortAt 27 = .ok (.istore_n 2, 1) := by decide +kernel
theorem dX3_sortAt_28 : decode cX3_sortAt 28 = .ok (.iload_n 2, 1) := by decide +kernel
theorem dX3_sortAt_29 : decode cX3_sortAt 29 = .ok (.bipush 97, 2) := by decide +kernel
theorem dX3_sortAt_31 : decode cX3_sortAt 31 = .ok (.if_icmp .lt 13, 3) := by decide +kernel
theorem dX3_sortAt_34 : decode cX3_sortAt 34 = .ok (.iload_n 2, 1) := by decide +kernel
theorem dX3_sortAt_35 : decode cX3_sortAt 35 = .ok (.bipush 122, 2) := by decide +kernel
theorem dX3_sortAt_37 : decode cX3_sortAt 37 = .ok (.if_icmp .gt 7, 3) := by decide +kernel
theorem dX3_sortAt_40 : decode cX3_sortAt 40 = .ok (.iconst 1, 1) := by decide +kernel
theorem dX3_sortAt_41 : decode cX3_sortAt 41 = .ok (.goto 20, 3) := by decide +kernel
theorem dX3_sortAt_44 : decode cX3_sortAt 44 = .ok (.iload_n 2, 1) := by decide +kernel
theorem dX3_sortAt_45 : decode cX3_sortAt 45 = .ok (.bipush 48, 2) := by decide +kernel
theorem dX3_sortAt_47 : decode cX3_sortAt 47 = .ok (.if_icmp .lt 13, 3) := by decide +kernel
theorem dX3_sortAt_50 : decode cX3_sortAt 50 = .ok (.iload_n 2, 1) := by decide +kernel
theorem dX3_sortAt_51 : decode cX3_sortAt 51 = .ok (.bipush 57, 2) := by decide +kernel
theorem dX3_sortAt_53 : decode cX3_sortAt 53 = .ok (.if_icmp .gt 7, 3) := by decide +kernel
theorem dX3_sortAt_56 : decode cX3_sortAt 56 = .ok (.iconst 2, 1) := by decide +kernel
theorem dX3_sortAt_57 : decode cX3_sortAt 57 = .ok (.goto 4, 3) := by decide +kernel
theorem dX3_sortAt_60 : decode cX3_sortAt 60 = .ok (.iconst 3, 1) := by decide +kernel
theorem dX3_sortAt_61 : decode cX3_sortAt 61 = .ok (.ireturn, 1) := by decide +kernel
theorem dX4_init_0 : decode cX4_init 0 = .ok (.aload_n 0, 1) := by decide +kernel
theorem dX4_init_1 : decode cX4_init 1 = .ok (.invokespecial 3, 3) := by decide +kernel
theorem dX4_init_4 : decode cX4_init 4 = .ok (.aload_n 0, 1) := by decide +kernel
theorem dX4_init_5 : decode cX4_init 5 = .ok (.iconst 4, 1) := by decide +kernel
theorem dX4_init_6 : decode cX4_init 6 = .ok (.newarray .int, 2) := by decide +kernel
theorem dX4_init_8 : decode cX4_init 8 = .ok (.putfield 9, 3) := by decide +kernel
theorem dX4_init_11 : decode cX4_init 11 = .ok (.aload_n 0, 1) := by decide +kernel
theorem dX4_init_12 : decode cX4_init 12 = .ok (.bipush 6, 2) := by decide +kernel
theorem dX4_init_14 : decode cX4_init 14 = .ok (.newarray .int, 2) := by decide +kernel
theorem dX4_init_16 : decode cX4_init 16 = .ok (.putfield 15, 3) := by decide +kernel
theorem dX4_init_19 : decode cX4_init 19 = .ok (.aload_n 0, 1) := by decide +kernel
theorem dX4_init_20 : decode cX4_init 20 = .ok (.bipush 8, 2) := by decide +kernel
theorem dX4_init_22 : decode cX4_init 22 = .ok (.newarray .int, 2) := by decide +kernel
theorem dX4_init_24 : decode cX4_init 24 = .ok (.putfield 18, 3) := by decide +kernel
theorem dX4_init_27 : decode cX4_init 27 = .ok (.aload_n 0, 1) := by decide +kernel
theorem dX4_init_28 : decode cX4_init 28 = .ok (.bipush 8, 2) := by decide +kernel
theorem dX4_init_30 : decode cX4_init 30 = .ok (.newarray .int, 2) := by decide +kernel
theorem dX4_init_32 : decode cX4_init 32 = .ok (.putfield 21, 3) := by decide +kernel
theorem dX4_init_35 : decode cX4_init 35 = .ok (.aload_n 0, 1) := by decide +kernel
theorem dX4_init_36 : decode cX4_init 36 = .ok (.bipush 8, 2) := by decide +kernel
theorem dX4_init_38 : decode cX4_init 38 = .ok (.newarray .int, 2) := by decide +kernel
theorem dX4_init_40 : decode cX4_init 40 = .ok (.putfield 24, 3) := by decide +kernel
theorem dX4_init_43 : decode cX4_init 43 = .ok (.aload_n 0, 1) := by decide +kernel
theorem dX4_init_44 : decode cX4_init 44 = .ok (.bipush 8, 2) := by decide +kernel
theorem dX4_init_46 : decode cX4_init 46 = .ok (.newarray .int, 2) := by decide +kernel
theorem dX4_init_48 : decode cX4_init 48 = .ok (.putfield 27, 3) := by decide +kernel
theorem dX4_init_51 : decode cX4_init 51 = .ok (.aload_n 0, 1) := by decide +kernel
theorem dX4_init_52 : decode cX4_init 52 = .ok (.bipush 8, 2) := by decide +kernel
theorem dX4_init_54 : decode cX4_init 54 = .ok (.newarray .int, 2) := by decide +kernel
theorem dX4_init_56 : decode cX4_init 56 = .ok (.putfield 30, 3) := by decide +kernel
theorem dX4_init_59 : decode cX4_init 59 = .ok (.aload_n 0, 1) := by decide +kernel
theorem dX4_init_60 : decode cX4_init 60 = .ok (.iconst 1, 1) := by decide +kernel
theorem dX4_init_61 : decode cX4_init 61 = .ok (.putfield 33, 3) := by decide +kernel
theorem dX4_init_64 : decode cX4_init 64 = .ok (.aload_n 0, 1) := by decide +kernel
theorem dX4_init_65 : decode cX4_init 65 = .ok (.invokevirtual 37, 3) := by decide +kernel
theorem dX4_init_68 : decode cX4_init 68 = .ok (.return_, 1) := by decide +kernel
theorem dX4_clear_0 : decode cX4_clear 0 = .ok (.aload_n 0, 1) := by decide +kernel
theorem dX4_clear_1 : decode cX4_clear 1 = .ok (.getfield 9, 3) := by decide +kernel
theorem dX4_clear_4 : decode cX4_clear 4 = .ok (.iconst 0, 1) := by decide +kernel
theorem dX4_clear_5 : decode cX4_clear 5 = .ok (.iconst 2, 1) := by decide +kernel
theorem dX4_clear_6 : decode cX4_clear 6 = .ok (.iastore, 1) := by decide +kernel
theorem dX4_clear_7 : decode cX4_clear 7 = .ok (.aload_n 0, 1) := by decide +kernel
theorem dX4_clear_8 : decode cX4_clear 8 = .ok (.getfield 9, 3) := by decide +kernel
theorem dX4_clear_11 : decode cX4_clear 11 = .ok (.iconst 1, 1) := by decide +kernel
theorem dX4_clear_12 : decode cX4_clear 12 = .ok (.iconst 1, 1) := by decide +kernel
theorem dX4_clear_13 : decode cX4_clear 13 = .ok (.iastore, 1) := by decide +kernel
theorem dX4_clear_14 : decode cX4_clear 14 = .ok (.aload_n 0, 1) := by decide +kernel
theorem dX4_clear_15 : decode cX4_clear 15 = .ok (.getfield 9, 3) := by decide +kernel
theorem dX4_clear_18 : decode cX4_clear 18 = .ok (.iconst 2, 1) := by decide +kernel
theorem dX4_clear_19 : decode cX4_clear 19 = .ok (.iconst 1, 1) := by decide +kernel
theorem dX4_clear_20 : decode cX4_clear 20 = .ok (.iastore, 1) := by decide +kernel
theorem dX4_clear_21 : decode cX4_clear 21 = .ok (.aload_n 0, 1) := by decide +kernel
theorem dX4_clear_22 : decode cX4_clear 22 = .ok (.getfield 9, 3) := by decide +kernel
theorem dX4_clear_25 : decode cX4_clear 25 = .ok (.iconst 3, 1) := by decide +kernel
theorem dX4_clear_26 : decode cX4_clear 26 = .ok (.bipush 20, 2) := by decide +kernel
theorem dX4_clear_28 : decode cX4_clear 28 = .ok (.iastore, 1) := by decide +kernel
theorem dX4_clear_29 : decode cX4_clear 29 = .ok (.iconst 0, 1) := by decide +kernel
theorem dX4_clear_30 : decode cX4_clear 30 = .ok (.istore_n 1, 1) := by decide +kernel
theorem dX4_clear_31 : decode cX4_clear 31 = .ok (.iload_n 1, 1) := by decide +kernel
theorem dX4_clear_32 : decode cX4_clear 32 = .ok (.bipush 6, 2) := by decide +kernel
theorem dX4_clear_34 : decode cX4_clear 34 = .ok (.if_icmp .ge 16, 3) := by decide +kernel
theorem dX4_clear_37 : decode cX4_clear 37 = .ok (.aload_n 0, 1) := by decide +kernel
theorem dX4_clear_38 : decode cX4_clear 38 = .ok (.getfield 15, 3) := by decide +kernel
theorem dX4_clear_41 : decode cX4_clear 41 = .ok (.iload_n 1, 1) := by decide +kernel
theorem dX4_clear_42 : decode cX4_clear 42 = .ok (.iconst 1, 1) := by decide +kernel
theorem dX4_clear_43 : decode cX4_clear 43 = .ok (.iastore, 1) := by decide +kernel
theorem dX4_clear_44 : decode cX4_clear 44 = .ok (.iinc 1 1, 3) := by decide +kernel
theorem dX4_clear_47 : decode cX4_clear 47 = .ok (.goto (-16), 3) := by decide +kernel
theorem dX4_clear_50 : decode cX4_clear 50 = .ok (.aload_n 0, 1) := by decide +kernel
theorem dX4_clear_51 : decode cX4_clear 51 = .ok (.iconst 0, 1) := by decide +kernel
theorem dX4_clear_52 : decode cX4_clear 52 = .ok (.putfield 40, 3) := by decide +kernel
theorem dX4_clear_55 : decode cX4_clear 55 = .ok (.aload_n 0, 1) := by decide +kernel
theorem dX4_clear_56 : decode cX4_clear 56 = .ok (.iconst 0, 1) := by decide +kernel
theorem dX4_clear_57 : decode cX4_clear 57 = .ok (.putfield 43, 3) := by decide +kernel
theorem dX4_clear_60 : decode cX4_clear 60 = .ok (.aload_n 0, 1) := by decide +kernel
theorem dX4_clear_61 : decode cX4_clear 61 = .ok (.iconst 0, 1) := by decide +kernel
theorem dX4_clear_62 : decode cX4_clear 62 = .ok (.putfield 46, 3) := by decide +kernel
theorem dX4_clear_65 : decode cX4_clear 65 = .ok (.aload_n 0, 1) := by decide +kernel
theorem dX4_clear_66 : decode cX4_clear 66 = .ok (.iconst 0, 1) := by decide +kernel
theorem dX4_clear_67 : decode cX4_clear 67 = .ok (.putfield 49, 3) := by decide +kernel
theorem dX4_clear_70 : decode cX4_clear 70 = .ok (.return_, 1) := by decide +kernel
theorem dX4_become_0 : decode cX4_become 0 = .ok (.aload_n 1, 1) := by decide +kernel
theorem dX4_become_1 : decode cX4_become 1 = .ok (.getfield 9, 3) := by decide +kernel
theorem dX4_become_4 : decode cX4_become 4 = .ok (.iconst 0, 1) := by decide +kernel
theorem dX4_become_5 : decode cX4_become 5 = .ok (.aload_n 0, 1) := by decide +kernel
theorem dX4_become_6 : decode cX4_become 6 = .ok (.getfield 9, 3) := by decide +kernel
theorem dX4_become_9 : decode cX4_become 9 = .ok (.iconst 0, 1) := by decide +kernel
theorem dX4_become_10 : decode cX4_become 10 = .ok (.iconst 4, 1) := by decide +kernel
theorem dX4_become_11 : decode cX4_become 11 = .ok (.invokestatic 52, 3) := by decide +kernel
theorem dX4_become_14 : decode cX4_become 14 = .ok (.aload_n 1, 1) := by decide +kernel
theorem dX4_become_15 : decode cX4_become 15 = .ok (.getfield 15, 3) := by decide +kernel
theorem dX4_become_18 : decode cX4_become 18 = .ok (.iconst 0, 1) := by decide +kernel
theorem dX4_become_19 : decode cX4_become 19 = .ok (.aload_n 0, 1) := by decide +kernel
theorem dX4_become_20 : decode cX4_become 20 = .ok (.getfield 15, 3) := by decide +kernel
theorem dX4_become_23 : decode cX4_become 23 = .ok (.iconst 0, 1) := by decide +kernel
theorem dX4_become_24 : decode cX4_become 24 = .ok (.bipush 6, 2) := by decide +kernel
theorem dX4_become_26 : decode cX4_become 26 = .ok (.invokestatic 52, 3) := by decide +kernel
theorem dX4_become_29 : decode cX4_become 29 = .ok (.aload_n 1, 1) := by decide +kernel
theorem dX4_become_30 : decode cX4_become 30 = .ok (.getfield 18, 3) := by decide +kernel
theorem dX4_become_33 : decode cX4_become 33 = .ok (.iconst 0, 1) := by decide +kernel
theorem dX4_become_34 : decode cX4_become 34 = .ok (.aload_n 0, 1) := by decide +kernel
theorem dX4_become_35 : decode cX4_become 35 = .ok (.getfield 18, 3) := by decide +kernel
theorem dX4_become_38 : decode cX4_become 38 = .ok (.iconst 0, 1) := by decide +kernel
theorem dX4_become_39 : decode cX4_become 39 = .ok (.bipush 8, 2) := by decide +kernel
theorem dX4_become_41 : decode cX4_become 41 = .ok (.invokestatic 52, 3) := by decide +kernel
theorem dX4_become_44 : decode cX4_become 44 = .ok (.aload_n 1, 1) := by decide +kernel
theorem dX4_become_45 : decode cX4_become 45 = .ok (.getfield 21, 3) := by decide +kernel
theorem dX4_become_48 : decode cX4_become 48 = .ok (.iconst 0, 1) := by decide +kernel
theorem dX4_become_49 : decode cX4_become 49 = .ok (.aload_n 0, 1) := by decide +kernel
theorem dX4_become_50 : decode cX4_become 50 = .ok (.getfield 21, 3) := by decide +kernel
theorem dX4_become_53 : decode cX4_become 53 = .ok (.iconst 0, 1) := by decide +kernel
theorem dX4_become_54 : decode cX4_become 54 = .ok (.bipush 8, 2) := by decide +kernel
theorem dX4_become_56 : decode cX4_become 56 = .ok (.invokestatic 52, 3) := by decide +kernel
theorem dX4_become_59 : decode cX4_become 59 = .ok (.aload_n 1, 1) := by decide +kernel
theorem dX4_become_60 : decode cX4_become 60 = .ok (.getfield 24, 3) := by decide +kernel
theorem dX4_become_63 : decode cX4_become 63 = .ok (.iconst 0, 1) := by decide +kernel
theorem dX4_become_64 : decode cX4_become 64 = .ok (.aload_n 0, 1) := by decide +kernel
theorem dX4_become_65 : decode cX4_become 65 = .ok (.getfield 24, 3) := by decide +kernel
theorem dX4_become_68 : decode cX4_become 68 = .ok (.iconst 0, 1) := by decide +kernel
theorem dX4_become_69 : decode cX4_become 69 = .ok (.bipush 8, 2) := by decide +kernel
theorem dX4_become_71 : decode cX4_become 71 = .ok (.invokestatic 52, 3) := by decide +kernel
theorem dX4_become_74 : decode cX4_become 74 = .ok (.aload_n 1, 1) := by decide +kernel
theorem dX4_become_75 : decode cX4_become 75 = .ok (.getfield 27, 3) := by decide +kernel
theorem dX4_become_78 : decode cX4_become 78 = .ok (.iconst 0, 1) := by decide +kernel
theorem dX4_become_79 : decode cX4_become 79 = .ok (.aload_n 0, 1) := by decide +kernel
theorem dX4_become_80 : decode cX4_become 80 = .ok (.getfield 27, 3) := by decide +kernel
theorem dX4_become_83 : decode cX4_become 83 = .ok (.iconst 0, 1) := by decide +kernel
theorem dX4_become_84 : decode cX4_become 84 = .ok (.bipush 8, 2) := by decide +kernel
theorem dX4_become_86 : decode cX4_become 86 = .ok (.invokestatic 52, 3) := by decide +kernel
theorem dX4_become_89 : decode cX4_become 89 = .ok (.aload_n 1, 1) := by decide +kernel
theorem dX4_become_90 : decode cX4_become 90 = .ok (.getfield 30, 3) := by decide +kernel
theorem dX4_become_93 : decode cX4_become 93 = .ok (.iconst 0, 1) := by decide +kernel
theorem dX4_become_94 : decode cX4_become 94 = .ok (.aload_n 0, 1) := by decide +kernel
theorem dX4_become_95 : decode cX4_become 95 = .ok (.getfield 30, 3) := by decide +kernel
theorem dX4_become_98 : decode cX4_become 98 = .ok (.iconst 0, 1) := by decide +kernel
theorem dX4_become_99 : decode cX4_become 99 = .ok (.bipush 8, 2) := by decide +kernel
theorem dX4_become_101 : decode cX4_become 101 = .ok (.invokestatic 52, 3) := by decide +kernel
theorem dX4_become_104 : decode cX4_become 104 = .ok (.aload_n 0, 1) := by decide +kernel
theorem dX4_become_105 : decode cX4_become 105 = .ok (.aload_n 1, 1) := by decide +kernel
theorem dX4_become_106 : decode cX4_become 106 = .ok (.getfield 40, 3) := by decide +kernel
theorem dX4_become_109 : decode cX4_become 109 = .ok (.putfield 40, 3) := by decide +kernel
theorem dX4_become_112 : decode cX4_become 112 = .ok (.aload_n 0, 1) := by decide +kernel
theorem dX4_become_113 : decode cX4_become 113 = .ok (.aload_n 1, 1) := by decide +kernel
theorem dX4_become_114 : decode cX4_become 114 = .ok (.getfield 43, 3) := by decide +kernel
theorem dX4_become_117 : decode cX4_become 117 = .ok (.putfield 43, 3) := by decide +kernel
theorem dX4_become_120 : decode cX4_become 120 = .ok (.aload_n 0, 1) := by decide +kernel
theorem dX4_become_121 : decode cX4_become 121 = .ok (.aload_n 1, 1) := by decide +kernel
theorem dX4_become_122 : decode cX4_become 122 = .ok (.getfield 46, 3) := by decide +kernel
theorem dX4_become_125 : decode cX4_become 125 = .ok (.putfield 46, 3) := by decide +kernel
theorem dX4_become_128 : decode cX4_become 128 = .ok (.aload_n 0, 1) := by decide +kernel
theorem dX4_become_129 : decode cX4_become 129 = .ok (.aload_n 1, 1) := by decide +kernel
theorem dX4_become_130 : decode cX4_become 130 = .ok (.getfield 33, 3) := by decide +kernel
theorem dX4_become_133 : decode cX4_become 133 = .ok (.putfield 33, 3) := by decide +kernel
theorem dX4_become_136 : decode cX4_become 136 = .ok (.aload_n 0, 1) := by decide +kernel
theorem dX4_become_137 : decode cX4_become 137 = .ok (.iconst 0, 1) := by decide +kernel
theorem dX4_become_138 : decode cX4_become 138 = .ok (.putfield 49, 3) := by decide +kernel
theorem dX4_become_141 : decode cX4_become 141 = .ok (.return_, 1) := by decide +kernel
theorem dX4_grow_0 : decode cX4_grow 0 = .ok (.aload_n 0, 1) := by decide +kernel
theorem dX4_grow_1 : decode cX4_grow 1 = .ok (.getfield 40, 3) := by decide +kernel
theorem dX4_grow_4 : decode cX4_grow 4 = .ok (.bipush 8, 2) := by decide +kernel
theorem dX4_grow_6 : decode cX4_grow 6 = .ok (.if_icmp .lt 4, 3) := by decide +kernel
theorem dX4_grow_9 : decode cX4_grow 9 = .ok (.return_, 1) := by decide +kernel
theorem dX4_grow_10 : decode cX4_grow 10 = .ok (.aload_n 0, 1) := by decide +kernel
theorem dX4_grow_11 : decode cX4_grow 11 = .ok (.getfield 18, 3) := by decide +kernel
theorem dX4_grow_14 : decode cX4_grow 14 = .ok (.aload_n 0, 1) := by decide +kernel
theorem dX4_grow_15 : decode cX4_grow 15 = .ok (.getfield 40, 3) := by decide +kernel
theorem dX4_grow_18 : decode cX4_grow 18 = .ok (.iload_n 1, 1) := by decide +kernel
theorem dX4_grow_19 : decode cX4_grow 19 = .ok (.iastore, 1) := by decide +kernel
theorem dX4_grow_20 : decode cX4_grow 20 = .ok (.aload_n 0, 1) := by decide +kernel
theorem dX4_grow_21 : decode cX4_grow 21 = .ok (.getfield 21, 3) := by decide +kernel
theorem dX4_grow_24 : decode cX4_grow 24 = .ok (.aload_n 0, 1) := by decide +kernel
theorem dX4_grow_25 : decode cX4_grow 25 = .ok (.getfield 40, 3) := by decide +kernel
theorem dX4_grow_28 : decode cX4_grow 28 = .ok (.iload_n 2, 1) := by decide +kernel
theorem dX4_grow_29 : decode cX4_grow 29 = .ok (.iastore, 1) := by decide +kernel
theorem dX4_grow_30 : decode cX4_grow 30 = .ok (.aload_n 0, 1) := by decide +kernel
theorem dX4_grow_31 : decode cX4_grow 31 = .ok (.getfield 24, 3) := by decide +kernel
theorem dX4_grow_34 : decode cX4_grow 34 = .ok (.aload_n 0, 1) := by decide +kernel
theorem dX4_grow_35 : decode cX4_grow 35 = .ok (.getfield 40, 3) := by decide +kernel
theorem dX4_grow_38 : decode cX4_grow 38 = .ok (.iload_n 3, 1) := by decide +kernel
theorem dX4_grow_39 : decode cX4_grow 39 = .ok (.iastore, 1) := by decide +kernel
theorem dX4_grow_40 : decode cX4_grow 40 = .ok (.aload_n 0, 1) := by decide +kernel
theorem dX4_grow_41 : decode cX4_grow 41 = .ok (.getfield 27, 3) := by decide +kernel
theorem dX4_grow_44 : decode cX4_grow 44 = .ok (.aload_n 0, 1) := by decide +kernel
theorem dX4_grow_45 : decode cX4_grow 45 = .ok (.getfield 40, 3) := by decide +kernel
theorem dX4_grow_48 : decode cX4_grow 48 = .ok (.iload 4, 2) := by decide +kernel
theorem dX4_grow_50 : decode cX4_grow 50 = .ok (.iastore, 1) := by decide +kernel
theorem dX4_grow_51 : decode cX4_grow 51 = .ok (.aload_n 0, 1) := by decide +kernel
theorem dX4_grow_52 : decode cX4_grow 52 = .ok (.getfield 30, 3) := by decide +kernel
theorem dX4_grow_55 : decode cX4_grow 55 = .ok (.aload_n 0, 1) := by decide +kernel
theorem dX4_grow_56 : decode cX4_grow 56 = .ok (.getfield 40, 3) := by decide +kernel
theorem dX4_grow_59 : decode cX4_grow 59 = .ok (.iconst 0, 1) := by decide +kernel
theorem dX4_grow_60 : decode cX4_grow 60 = .ok (.iastore, 1) := by decide +kernel
theorem dX4_grow_61 : decode cX4_grow 61 = .ok (.aload_n 0, 1) := by decide +kernel
theorem dX4_grow_62 : decode cX4_grow 62 = .ok (.dup, 1) := by decide +kernel
theorem dX4_grow_63 : decode cX4_grow 63 = .ok (.getfield 40, 3) := by decide +kernel
theorem dX4_grow_66 : decode cX4_grow 66 = .ok (.iconst 1, 1) := by decide +kernel
theorem dX4_grow_67 : decode cX4_grow 67 = .ok (.iadd, 1) := by decide +kernel
theorem dX4_grow_68 : decode cX4_grow 68 = .ok (.putfield 40, 3) := by decide +kernel
theorem dX4_grow_71 : decode cX4_grow 71 = .ok (.return_, 1) := by decide +kernel
theorem dX4_has_0 : decode cX4_has 0 = .ok (.iload_n 1, 1) := by decide +kernel
theorem dX4_has_1 : decode cX4_has 1 = .ok (.ifCond .lt 15, 3) := by decide +kernel
theorem dX4_has_4 : decode cX4_has 4 = .ok (.iload_n 1, 1) := by decide +kernel
theorem dX4_has_5 : decode cX4_has 5 = .ok (.aload_n 0, 1) := by decide +kernel
theorem dX4_has_6 : decode cX4_has 6 = .ok (.getfield 40, 3) := by decide +kernel
theorem dX4_has_9 : decode cX4_has 9 = .ok (.if_icmp .ge 7, 3) := by decide +kernel
theorem dX4_has_12 : decode cX4_has 12 = .ok (.iconst 1, 1) := by decide +kernel
theorem dX4_has_13 : decode cX4_has 13 = .ok (.goto 4, 3) := by decide +kernel
theorem dX4_has_16 : decode cX4_has 16 = .ok (.iconst 0, 1) := by decide +kernel
theorem dX4_has_17 : decode cX4_has 17 = .ok (.ireturn, 1) := by decide +kernel
theorem dX4_hangs_0 : decode cX4_hangs 0 = .ok (.aload_n 0, 1) := by decide +kernel
theorem dX4_hangs_1 : decode cX4_hangs 1 = .ok (.getfield 30, 3) := by decide +kernel
theorem dX4_hangs_4 : decode cX4_hangs 4 = .ok (.iload_n 1, 1) := by decide +kernel
theorem dX4_hangs_5 : decode cX4_hangs 5 = .ok (.iaload, 1) := by decide +kernel
theorem dX4_hangs_6 : decode cX4_hangs 6 = .ok (.ifCond .ne 7, 3) := by decide +kernel
theorem dX4_hangs_9 : decode cX4_hangs 9 = .ok (.iconst 1, 1) := by decide +kernel
theorem dX4_hangs_10 : decode cX4_hangs 10 = .ok (.goto 4, 3) := by decide +kernel
theorem dX4_hangs_13 : decode cX4_hangs 13 = .ok (.iconst 0, 1) := by decide +kernel
theorem dX4_hangs_14 : decode cX4_hangs 14 = .ok (.ireturn, 1) := by decide +kernel
theorem dX4_hanging_0 : decode cX4_hanging 0 = .ok (.aload_n 0, 1) := by decide +kernel
theorem dX4_hanging_1 : decode cX4_hanging 1 = .ok (.getfield 40, 3) := by decide +kernel
theorem dX4_hanging_4 : decode cX4_hanging 4 = .ok (.aload_n 0, 1) := by decide +kernel
theorem dX4_hanging_5 : decode cX4_hanging 5 = .ok (.getfield 43, 3) := by decide +kernel
theorem dX4_hanging_8 : decode cX4_hanging 8 = .ok (.isub, 1) := by decide +kernel
theorem dX4_hanging_9 : decode cX4_hanging 9 = .ok (.ireturn, 1) := by decide +kernel
theorem dX4_hangingSet_0 : decode cX4_hangingSet 0 = .ok (.iconst 0, 1) := by decide +kernel
theorem dX4_hangingSet_1 : decode cX4_hangingSet 1 = .ok (.istore_n 1, 1) := by decide +kernel
theorem dX4_hangingSet_2 : decode cX4_hangingSet 2 = .ok (.iconst 0, 1) := by decide +kernel
theorem dX4_hangingSet_3 : decode cX4_hangingSet 3 = .ok (.istore_n 2, 1) := by decide +kernel
theorem dX4_hangingSet_4 : decode cX4_hangingSet 4 = .ok (.iload_n 2, 1) := by decide +kernel
theorem dX4_hangingSet_5 : decode cX4_hangingSet 5 = .ok (.aload_n 0, 1) := by decide +kernel
theorem dX4_hangingSet_6 : decode cX4_hangingSet 6 = .ok (.getfield 40, 3) := by decide +kernel
theorem dX4_hangingSet_9 : decode cX4_hangingSet 9 = .ok (.if_icmp .ge 23, 3) := by decide +kernel
theorem dX4_hangingSet_12 : decode cX4_hangingSet 12 = .ok (.aload_n 0, 1) := by decide +kernel
theorem dX4_hangingSet_13 : decode cX4_hangingSet 13 = .ok (.iload_n 2, 1) := by decide +kernel
theorem dX4_hangingSet_14 : decode cX4_hangingSet 14 = .ok (.invokevirtual 58, 3) := by decide +kernel
theorem dX4_hangingSet_17 : decode cX4_hangingSet 17 = .ok (.ifCond .eq 9, 3) := by decide +kernel
theorem dX4_hangingSet_20 : decode cX4_hangingSet 20 = .ok (.iload_n 1, 1) := by decide +kernel
theorem dX4_hangingSet_21 : decode cX4_hangingSet 21 = .ok (.iconst 1, 1) := by decide +kernel
theorem dX4_hangingSet_22 : decode cX4_hangingSet 22 = .ok (.iload_n 2, 1) := by decide +kernel
theorem dX4_hangingSet_23 : decode cX4_hangingSet 23 = .ok (.ishl, 1) := by decide +kernel
theorem dX4_hangingSet_24 : decode cX4_hangingSet 24 = .ok (.ior, 1) := by decide +kernel
theorem dX4_hangingSet_25 : decode cX4_hangingSet 25 = .ok (.istore_n 1, 1) := by decide +kernel
theorem dX4_hangingSet_26 : decode cX4_hangingSet 26 = .ok (.iinc 2 1, 3) := by decide +kernel
theorem dX4_hangingSet_29 : decode cX4_hangingSet 29 = .ok (.goto (-25), 3) := by decide +kernel
theorem dX4_hangingSet_32 : decode cX4_hangingSet 32 = .ok (.iload_n 1, 1) := by decide +kernel
theorem dX4_hangingSet_33 : decode cX4_hangingSet 33 = .ok (.ireturn, 1) := by decide +kernel
theorem dX4_hangingOn_0 : decode cX4_hangingOn 0 = .ok (.iconst 0, 1) := by decide +kernel
theorem dX4_hangingOn_1 : decode cX4_hangingOn 1 = .ok (.istore_n 2, 1) := by decide +kernel
theorem dX4_hangingOn_2 : decode cX4_hangingOn 2 = .ok (.iconst 0, 1) := by decide +kernel
theorem dX4_hangingOn_3 : decode cX4_hangingOn 3 = .ok (.istore_n 3, 1) := by decide +kernel
theorem dX4_hangingOn_4 : decode cX4_hangingOn 4 = .ok (.iload_n 3, 1) := by decide +kernel
theorem dX4_hangingOn_5 : decode cX4_hangingOn 5 = .ok (.aload_n 0, 1) := by decide +kernel
theorem dX4_hangingOn_6 : decode cX4_hangingOn 6 = .ok (.getfield 40, 3) := by decide +kernel
theorem dX4_hangingOn_9 : decode cX4_hangingOn 9 = .ok (.if_icmp .ge 33, 3) := by decide +kernel
theorem dX4_hangingOn_12 : decode cX4_hangingOn 12 = .ok (.aload_n 0, 1) := by decide +kernel
theorem dX4_hangingOn_13 : decode cX4_hangingOn 13 = .ok (.iload_n 3, 1) := by decide +kernel
theorem dX4_hangingOn_14 : decode cX4_hangingOn 14 = .ok (.invokevirtual 58, 3) := by decide +kernel
theorem dX4_hangingOn_17 : decode cX4_hangingOn 17 = .ok (.ifCond .eq 19, 3) := by decide +kernel
theorem dX4_hangingOn_20 : decode cX4_hangingOn 20 = .ok (.aload_n 0, 1) := by decide +kernel
theorem dX4_hangingOn_21 : decode cX4_hangingOn 21 = .ok (.getfield 21, 3) := by decide +kernel
theorem dX4_hangingOn_24 : decode cX4_hangingOn 24 = .ok (.iload_n 3, 1) := by decide +kernel
theorem dX4_hangingOn_25 : decode cX4_hangingOn 25 = .ok (.iaload, 1) := by decide +kernel
theorem dX4_hangingOn_26 : decode cX4_hangingOn 26 = .ok (.iload_n 1, 1) := by decide +kernel
theorem dX4_hangingOn_27 : decode cX4_hangingOn 27 = .ok (.if_icmp .ne 9, 3) := by decide +kernel
theorem dX4_hangingOn_30 : decode cX4_hangingOn 30 = .ok (.iload_n 2, 1) := by decide +kernel
theorem dX4_hangingOn_31 : decode cX4_hangingOn 31 = .ok (.iconst 1, 1) := by decide +kernel
theorem dX4_hangingOn_32 : decode cX4_hangingOn 32 = .ok (.iload_n 3, 1) := by decide +kernel
theorem dX4_hangingOn_33 : decode cX4_hangingOn 33 = .ok (.ishl, 1) := by decide +kernel
theorem dX4_hangingOn_34 : decode cX4_hangingOn 34 = .ok (.ior, 1) := by decide +kernel
theorem dX4_hangingOn_35 : decode cX4_hangingOn 35 = .ok (.istore_n 2, 1) := by decide +kernel
theorem dX4_hangingOn_36 : decode cX4_hangingOn 36 = .ok (.iinc 3 1, 3) := by decide +kernel
theorem dX4_hangingOn_39 : decode cX4_hangingOn 39 = .ok (.goto (-35), 3) := by decide +kernel
theorem dX4_hangingOn_42 : decode cX4_hangingOn 42 = .ok (.iload_n 2, 1) := by decide +kernel
theorem dX4_hangingOn_43 : decode cX4_hangingOn 43 = .ok (.ireturn, 1) := by decide +kernel
theorem dX4_boughsHungOn_0 : decode cX4_boughsHungOn 0 = .ok (.iconst 0, 1) := by decide +kernel
theorem dX4_boughsHungOn_1 : decode cX4_boughsHungOn 1 = .ok (.istore_n 1, 1) := by decide +kernel
theorem dX4_boughsHungOn_2 : decode cX4_boughsHungOn 2 = .ok (.iconst 0, 1) := by decide +kernel
theorem dX4_boughsHungOn_3 : decode cX4_boughsHungOn 3 = .ok (.istore_n 2, 1) := by decide +kernel
theorem dX4_boughsHungOn_4 : decode cX4_boughsHungOn 4 = .ok (.iload_n 2, 1) := by decide +kernel
theorem dX4_boughsHungOn_5 : decode cX4_boughsHungOn 5 = .ok (.bipush 6, 2) := by decide +kernel
theorem dX4_boughsHungOn_7 : decode cX4_boughsHungOn 7 = .ok (.if_icmp .ge 20, 3) := by decide +kernel
theorem dX4_boughsHungOn_10 : decode cX4_boughsHungOn 10 = .ok (.aload_n 0, 1) := by decide +kernel
theorem dX4_boughsHungOn_11 : decode cX4_boughsHungOn 11 = .ok (.iload_n 2, 1) := by decide +kernel
theorem dX4_boughsHungOn_12 : decode cX4_boughsHungOn 12 = .ok (.invokevirtual 62, 3) := by decide +kernel
theorem dX4_boughsHungOn_15 : decode cX4_boughsHungOn 15 = .ok (.ifCond .eq 6, 3) := by decide +kernel
theorem dX4_boughsHungOn_18 : decode cX4_boughsHungOn 18 = .ok (.iinc 1 1, 3) := by decide +kernel
theorem dX4_boughsHungOn_21 : decode cX4_boughsHungOn 21 = .ok (.iinc 2 1, 3) := by decide +kernel
theorem dX4_boughsHungOn_24 : decode cX4_boughsHungOn 24 = .ok (.goto (-20), 3) := by decide +kernel
theorem dX4_boughsHungOn_27 : decode cX4_boughsHungOn 27 = .ok (.iload_n 1, 1) := by decide +kernel
theorem dX4_boughsHungOn_28 : decode cX4_boughsHungOn 28 = .ok (.ireturn, 1) := by decide +kernel
theorem dX4_mates_0 : decode cX4_mates 0 = .ok (.aload_n 0, 1) := by decide +kernel
theorem dX4_mates_1 : decode cX4_mates 1 = .ok (.aload_n 0, 1) := by decide +kernel
theorem dX4_mates_2 : decode cX4_mates 2 = .ok (.getfield 21, 3) := by decide +kernel
theorem dX4_mates_5 : decode cX4_mates 5 = .ok (.iload_n 1, 1) := by decide +kernel
theorem dX4_mates_6 : decode cX4_mates 6 = .ok (.iaload, 1) := by decide +kernel
theorem dX4_mates_7 : decode cX4_mates 7 = .ok (.invokevirtual 62, 3) := by decide +kernel
theorem dX4_mates_10 : decode cX4_mates 10 = .ok (.iconst 1, 1) := by decide +kernel
theorem dX4_mates_11 : decode cX4_mates 11 = .ok (.iload_n 1, 1) := by decide +kernel
theorem dX4_mates_12 : decode cX4_mates 12 = .ok (.ishl, 1) := by decide +kernel
theorem dX4_mates_13 : decode cX4_mates 13 = .ok (.iconst (-1), 1) := by decide +kernel
theorem dX4_mates_14 : decode cX4_mates 14 = .ok (.ixor, 1) := by decide +kernel
theorem dX4_mates_15 : decode cX4_mates 15 = .ok (.iand, 1) := by decide +kernel
theorem dX4_mates_16 : decode cX4_mates 16 = .ok (.invokestatic 66, 3) := by decide +kernel
theorem dX4_mates_19 : decode cX4_mates 19 = .ok (.ireturn, 1) := by decide +kernel
theorem dX4_loses_0 : decode cX4_loses 0 = .ok (.iconst 1, 1) := by decide +kernel
theorem dX4_loses_1 : decode cX4_loses 1 = .ok (.aload_n 0, 1) := by decide +kernel
theorem dX4_loses_2 : decode cX4_loses 2 = .ok (.getfield 9, 3) := by decide +kernel
theorem dX4_loses_5 : decode cX4_loses 5 = .ok (.iconst 0, 1) := by decide +kernel
theorem dX4_loses_6 : decode cX4_loses 6 = .ok (.iaload, 1) := by decide +kernel
theorem dX4_loses_7 : decode cX4_loses 7 = .ok (.iadd, 1) := by decide +kernel
theorem dX4_loses_8 : decode cX4_loses 8 = .ok (.aload_n 0, 1) := by decide +kernel
theorem dX4_loses_9 : decode cX4_loses 9 = .ok (.getfield 15, 3) := by decide +kernel
theorem dX4_loses_12 : decode cX4_loses 12 = .ok (.aload_n 0, 1) := by decide +kernel
theorem dX4_loses_13 : decode cX4_loses 13 = .ok (.getfield 21, 3) := by decide +kernel
theorem dX4_loses_16 : decode cX4_loses 16 = .ok (.iload_n 1, 1) := by decide +kernel
theorem dX4_loses_17 : decode cX4_loses 17 = .ok (.iaload, 1) := by decide +kernel
theorem dX4_loses_18 : decode cX4_loses 18 = .ok (.iaload, 1) := by decide +kernel
theorem dX4_loses_19 : decode cX4_loses 19 = .ok (.iadd, 1) := by decide +kernel
theorem dX4_loses_20 : decode cX4_loses 20 = .ok (.istore_n 2, 1) := by decide +kernel
theorem dX4_loses_21 : decode cX4_loses 21 = .ok (.aload_n 0, 1) := by decide +kernel
theorem dX4_loses_22 : decode cX4_loses 22 = .ok (.getfield 18, 3) := by decide +kernel
theorem dX4_loses_25 : decode cX4_loses 25 = .ok (.iload_n 1, 1) := by decide +kernel
theorem dX4_loses_26 : decode cX4_loses 26 = .ok (.iaload, 1) := by decide +kernel
theorem dX4_loses_27 : decode cX4_loses 27 = .ok (.tableswitch 104 1 5 #[33, 53, 42, 61, 89], 33) := by decide +kernel
theorem dX4_loses_60 : decode cX4_loses 60 = .ok (.iload_n 2, 1) := by decide +kernel
theorem dX4_loses_61 : decode cX4_loses 61 = .ok (.aload_n 0, 1) := by decide +kernel
theorem dX4_loses_62 : decode cX4_loses 62 = .ok (.getfield 9, 3) := by decide +kernel
theorem dX4_loses_65 : decode cX4_loses 65 = .ok (.iconst 1, 1) := by decide +kernel
theorem dX4_loses_66 : decode cX4_loses 66 = .ok (.iaload, 1) := by decide +kernel
theorem dX4_loses_67 : decode cX4_loses 67 = .ok (.iadd, 1) := by decide +kernel
theorem dX4_loses_68 : decode cX4_loses 68 = .ok (.ireturn, 1) := by decide +kernel
theorem dX4_loses_69 : decode cX4_loses 69 = .ok (.iconst 2, 1) := by decide +kernel
theorem dX4_loses_70 : decode cX4_loses 70 = .ok (.iload_n 2, 1) := by decide +kernel
theorem dX4_loses_71 : decode cX4_loses 71 = .ok (.aload_n 0, 1) := by decide +kernel
theorem dX4_loses_72 : decode cX4_loses 72 = .ok (.getfield 9, 3) := by decide +kernel
theorem dX4_loses_75 : decode cX4_loses 75 = .ok (.iconst 1, 1) := by decide +kernel
theorem dX4_loses_76 : decode cX4_loses 76 = .ok (.iaload, 1) := by decide +kernel
theorem dX4_loses_77 : decode cX4_loses 77 = .ok (.iadd, 1) := by decide +kernel
theorem dX4_loses_78 : decode cX4_loses 78 = .ok (.imul, 1) := by decide +kernel
theorem dX4_loses_79 : decode cX4_loses 79 = .ok (.ireturn, 1) := by decide +kernel
theorem dX4_loses_80 : decode cX4_loses 80 = .ok (.iload_n 2, 1) := by decide +kernel
theorem dX4_loses_81 : decode cX4_loses 81 = .ok (.aload_n 0, 1) := by decide +kernel
theorem dX4_loses_82 : decode cX4_loses 82 = .ok (.iload_n 1, 1) := by decide +kernel
theorem dX4_loses_83 : decode cX4_loses 83 = .ok (.invokevirtual 71, 3) := by decide +kernel
theorem dX4_loses_86 : decode cX4_loses 86 = .ok (.isub, 1) := by decide +kernel
theorem dX4_loses_87 : decode cX4_loses 87 = .ok (.ireturn, 1) := by decide +kernel
theorem dX4_loses_88 : decode cX4_loses 88 = .ok (.iload_n 2, 1) := by decide +kernel
theorem dX4_loses_89 : decode cX4_loses 89 = .ok (.aload_n 0, 1) := by decide +kernel
theorem dX4_loses_90 : decode cX4_loses 90 = .ok (.iload_n 1, 1) := by decide +kernel
theorem dX4_loses_91 : decode cX4_loses 91 = .ok (.invokevirtual 71, 3) := by decide +kernel
theorem dX4_loses_94 : decode cX4_loses 94 = .ok (.isub, 1) := by decide +kernel
theorem dX4_loses_95 : decode cX4_loses 95 = .ok (.aload_n 0, 1) := by decide +kernel
theorem dX4_loses_96 : decode cX4_loses 96 = .ok (.getfield 46, 3) := by decide +kernel
theorem dX4_loses_99 : decode cX4_loses 99 = .ok (.iconst 2, 1) := by decide +kernel
theorem dX4_loses_100 : decode cX4_loses 100 = .ok (.irem, 1) := by decide +kernel
theorem dX4_loses_101 : decode cX4_loses 101 = .ok (.ifCond .ne 12, 3) := by decide +kernel
theorem dX4_loses_104 : decode cX4_loses 104 = .ok (.aload_n 0, 1) := by decide +kernel
theorem dX4_loses_105 : decode cX4_loses 105 = .ok (.getfield 9, 3) := by decide +kernel
theorem dX4_loses_108 : decode cX4_loses 108 = .ok (.iconst 2, 1) := by decide +kernel
theorem dX4_loses_109 : decode cX4_loses 109 = .ok (.iaload, 1) := by decide +kernel
theorem dX4_loses_110 : decode cX4_loses 110 = .ok (.goto 4, 3) := by decide +kernel
theorem dX4_loses_113 : decode cX4_loses 113 = .ok (.iconst 0, 1) := by decide +kernel
theorem dX4_loses_114 : decode cX4_loses 114 = .ok (.iadd, 1) := by decide +kernel
theorem dX4_loses_115 : decode cX4_loses 115 = .ok (.ireturn, 1) := by decide +kernel
theorem dX4_loses_116 : decode cX4_loses 116 = .ok (.aload_n 0, 1) := by decide +kernel
theorem dX4_loses_117 : decode cX4_loses 117 = .ok (.getfield 46, 3) := by decide +kernel
theorem dX4_loses_120 : decode cX4_loses 120 = .ok (.iconst 5, 1) := by decide +kernel
theorem dX4_loses_121 : decode cX4_loses 121 = .ok (.irem, 1) := by decide +kernel
theorem dX4_loses_122 : decode cX4_loses 122 = .ok (.ifCond .ne 7, 3) := by decide +kernel
theorem dX4_loses_125 : decode cX4_loses 125 = .ok (.iload_n 2, 1) := by decide +kernel
theorem dX4_loses_126 : decode cX4_loses 126 = .ok (.goto 4, 3) := by decide +kernel
theorem dX4_loses_129 : decode cX4_loses 129 = .ok (.iconst 0, 1) := by decide +kernel
theorem dX4_loses_130 : decode cX4_loses 130 = .ok (.ireturn, 1) := by decide +kernel
theorem dX4_loses_131 : decode cX4_loses 131 = .ok (.iload_n 2, 1) := by decide +kernel
theorem dX4_loses_132 : decode cX4_loses 132 = .ok (.ireturn, 1) := by decide +kernel
theorem dX4_rank_0 : decode cX4_rank 0 = .ok (.aload_n 0, 1) := by decide +kernel
theorem dX4_rank_1 : decode cX4_rank 1 = .ok (.getfield 27, 3) := by decide +kernel
theorem dX4_rank_4 : decode cX4_rank 4 = .ok (.iload_n 1, 1) := by decide +kernel
theorem dX4_rank_5 : decode cX4_rank 5 = .ok (.iaload, 1) := by decide +kernel
theorem dX4_rank_6 : decode cX4_rank 6 = .ok (.istore_n 2, 1) := by decide +kernel
theorem dX4_rank_7 : decode cX4_rank 7 = .ok (.aload_n 0, 1) := by decide +kernel
theorem dX4_rank_8 : decode cX4_rank 8 = .ok (.getfield 18, 3) := by decide +kernel
theorem dX4_rank_11 : decode cX4_rank 11 = .ok (.iload_n 1, 1) := by decide +kernel
theorem dX4_rank_12 : decode cX4_rank 12 = .ok (.iaload, 1) := by decide +kernel
theorem dX4_rank_13 : decode cX4_rank 13 = .ok (.tableswitch 65 1 5 #[35, 50, 39, 55, 62], 35) := by decide +kernel
theorem dX4_rank_48 : decode cX4_rank 48 = .ok (.iload_n 2, 1) := by decide +kernel
theorem dX4_rank_49 : decode cX4_rank 49 = .ok (.iconst 3, 1) := by decide +kernel
theorem dX4_rank_50 : decode cX4_rank 50 = .ok (.iadd, 1) := by decide +kernel
theorem dX4_rank_51 : decode cX4_rank 51 = .ok (.ireturn, 1) := by decide +kernel
theorem dX4_rank_52 : decode cX4_rank 52 = .ok (.iload_n 2, 1) := by decide +kernel
theorem dX4_rank_53 : decode cX4_rank 53 = .ok (.iconst 3, 1) := by decide +kernel
theorem dX4_rank_54 : decode cX4_rank 54 = .ok (.iadd, 1) := by decide +kernel
theorem dX4_rank_55 : decode cX4_rank 55 = .ok (.aload_n 0, 1) := by decide +kernel
theorem dX4_rank_56 : decode cX4_rank 56 = .ok (.getfield 21, 3) := by decide +kernel
theorem dX4_rank_59 : decode cX4_rank 59 = .ok (.iload_n 1, 1) := by decide +kernel
theorem dX4_rank_60 : decode cX4_rank 60 = .ok (.iaload, 1) := by decide +kernel
theorem dX4_rank_61 : decode cX4_rank 61 = .ok (.iadd, 1) := by decide +kernel
theorem dX4_rank_62 : decode cX4_rank 62 = .ok (.ireturn, 1) := by decide +kernel
theorem dX4_rank_63 : decode cX4_rank 63 = .ok (.bipush 10, 2) := by decide +kernel
theorem dX4_rank_65 : decode cX4_rank 65 = .ok (.iload_n 2, 1) := by decide +kernel
theorem dX4_rank_66 : decode cX4_rank 66 = .ok (.isub, 1) := by decide +kernel
theorem dX4_rank_67 : decode cX4_rank 67 = .ok (.ireturn, 1) := by decide +kernel
theorem dX4_rank_68 : decode cX4_rank 68 = .ok (.iconst 2, 1) := by decide +kernel
theorem dX4_rank_69 : decode cX4_rank 69 = .ok (.bipush 10, 2) := by decide +kernel
theorem dX4_rank_71 : decode cX4_rank 71 = .ok (.iload_n 2, 1) := by decide +kernel
theorem dX4_rank_72 : decode cX4_rank 72 = .ok (.isub, 1) := by decide +kernel
theorem dX4_rank_73 : decode cX4_rank 73 = .ok (.imul, 1) := by decide +kernel
theorem dX4_rank_74 : decode cX4_rank 74 = .ok (.ireturn, 1) := by decide +kernel
theorem dX4_rank_75 : decode cX4_rank 75 = .ok (.iload_n 2, 1) := by decide +kernel
theorem dX4_rank_76 : decode cX4_rank 76 = .ok (.ineg, 1) := by decide +kernel
theorem dX4_rank_77 : decode cX4_rank 77 = .ok (.ireturn, 1) := by decide +kernel
theorem dX4_rank_78 : decode cX4_rank 78 = .ok (.iload_n 2, 1) := by decide +kernel
theorem dX4_rank_79 : decode cX4_rank 79 = .ok (.ireturn, 1) := by decide +kernel
theorem dX4_passDay_0 : decode cX4_passDay 0 = .ok (.iconst 0, 1) := by decide +kernel
theorem dX4_passDay_1 : decode cX4_passDay 1 = .ok (.istore_n 1, 1) := by decide +kernel
theorem dX4_passDay_2 : decode cX4_passDay 2 = .ok (.iload_n 1, 1) := by decide +kernel
theorem dX4_passDay_3 : decode cX4_passDay 3 = .ok (.aload_n 0, 1) := by decide +kernel
theorem dX4_passDay_4 : decode cX4_passDay 4 = .ok (.getfield 40, 3) := by decide +kernel
theorem dX4_passDay_7 : decode cX4_passDay 7 = .ok (.if_icmp .ge 46, 3) := by decide +kernel
theorem dX4_passDay_10 : decode cX4_passDay 10 = .ok (.aload_n 0, 1) := by decide +kernel
theorem dX4_passDay_11 : decode cX4_passDay 11 = .ok (.iload_n 1, 1) := by decide +kernel
theorem dX4_passDay_12 : decode cX4_passDay 12 = .ok (.invokevirtual 58, 3) := by decide +kernel
theorem dX4_passDay_15 : decode cX4_passDay 15 = .ok (.ifCond .eq 32, 3) := by decide +kernel
theorem dX4_passDay_18 : decode cX4_passDay 18 = .ok (.aload_n 0, 1) := by decide +kernel
theorem dX4_passDay_19 : decode cX4_passDay 19 = .ok (.iload_n 1, 1) := by decide +kernel
theorem dX4_passDay_20 : decode cX4_passDay 20 = .ok (.invokevirtual 74, 3) := by decide +kernel
theorem dX4_passDay_23 : decode cX4_passDay 23 = .ok (.ifCond .ne 24, 3) := by decide +kernel
theorem dX4_passDay_26 : decode cX4_passDay 26 = .ok (.aload_n 0, 1) := by decide +kernel
theorem dX4_passDay_27 : decode cX4_passDay 27 = .ok (.getfield 24, 3) := by decide +kernel
theorem dX4_passDay_30 : decode cX4_passDay 30 = .ok (.iload_n 1, 1) := by decide +kernel
theorem dX4_passDay_31 : decode cX4_passDay 31 = .ok (.aload_n 0, 1) := by decide +kernel
theorem dX4_passDay_32 : decode cX4_passDay 32 = .ok (.getfield 24, 3) := by decide +kernel
theorem dX4_passDay_35 : decode cX4_passDay 35 = .ok (.iload_n 1, 1) := by decide +kernel
theorem dX4_passDay_36 : decode cX4_passDay 36 = .ok (.iaload, 1) := by decide +kernel
theorem dX4_passDay_37 : decode cX4_passDay 37 = .ok (.aload_n 0, 1) := by decide +kernel
theorem dX4_passDay_38 : decode cX4_passDay 38 = .ok (.iload_n 1, 1) := by decide +kernel
theorem dX4_passDay_39 : decode cX4_passDay 39 = .ok (.invokevirtual 77, 3) := by decide +kernel
theorem dX4_passDay_42 : decode cX4_passDay 42 = .ok (.isub, 1) := by decide +kernel
theorem dX4_passDay_43 : decode cX4_passDay 43 = .ok (.invokestatic 80, 3) := by decide +kernel
theorem dX4_passDay_46 : decode cX4_passDay 46 = .ok (.iastore, 1) := by decide +kernel
theorem dX4_passDay_47 : decode cX4_passDay 47 = .ok (.iinc 1 1, 3) := by decide +kernel
theorem dX4_passDay_50 : decode cX4_passDay 50 = .ok (.goto (-48), 3) := by decide +kernel
theorem dX4_passDay_53 : decode cX4_passDay 53 = .ok (.aload_n 0, 1) := by decide +kernel
theorem dX4_passDay_54 : decode cX4_passDay 54 = .ok (.invokevirtual 83, 3) := by decide +kernel
theorem dX4_passDay_57 : decode cX4_passDay 57 = .ok (.istore_n 1, 1) := by decide +kernel
theorem dX4_passDay_58 : decode cX4_passDay 58 = .ok (.iload_n 1, 1) := by decide +kernel
theorem dX4_passDay_59 : decode cX4_passDay 59 = .ok (.ifCond .lt 8, 3) := by decide +kernel
theorem dX4_passDay_62 : decode cX4_passDay 62 = .ok (.aload_n 0, 1) := by decide +kernel
theorem dX4_passDay_63 : decode cX4_passDay 63 = .ok (.iload_n 1, 1) := by decide +kernel
theorem dX4_passDay_64 : decode cX4_passDay 64 = .ok (.invokevirtual 87, 3) := by decide +kernel
theorem dX4_passDay_67 : decode cX4_passDay 67 = .ok (.aload_n 0, 1) := by decide +kernel
theorem dX4_passDay_68 : decode cX4_passDay 68 = .ok (.dup, 1) := by decide +kernel
theorem dX4_passDay_69 : decode cX4_passDay 69 = .ok (.getfield 46, 3) := by decide +kernel
theorem dX4_passDay_72 : decode cX4_passDay 72 = .ok (.iconst 1, 1) := by decide +kernel
theorem dX4_passDay_73 : decode cX4_passDay 73 = .ok (.iadd, 1) := by decide +kernel
theorem dX4_passDay_74 : decode cX4_passDay 74 = .ok (.putfield 46, 3) := by decide +kernel
theorem dX4_passDay_77 : decode cX4_passDay 77 = .ok (.iload_n 1, 1) := by decide +kernel
theorem dX4_passDay_78 : decode cX4_passDay 78 = .ok (.ireturn, 1) := by decide +kernel
theorem dX4_faller_0 : decode cX4_faller 0 = .ok (.iconst (-1), 1) := by decide +kernel
theorem dX4_faller_1 : decode cX4_faller 1 = .ok (.istore_n 1, 1) := by decide +kernel
theorem dX4_faller_2 : decode cX4_faller 2 = .ok (.iconst 0, 1) := by decide +kernel
theorem dX4_faller_3 : decode cX4_faller 3 = .ok (.istore_n 2, 1) := by decide +kernel
theorem dX4_faller_4 : decode cX4_faller 4 = .ok (.iload_n 2, 1) := by decide +kernel
theorem dX4_faller_5 : decode cX4_faller 5 = .ok (.aload_n 0, 1) := by decide +kernel
theorem dX4_faller_6 : decode cX4_faller 6 = .ok (.getfield 40, 3) := by decide +kernel
theorem dX4_faller_9 : decode cX4_faller 9 = .ok (.if_icmp .ge 53, 3) := by decide +kernel
theorem dX4_faller_12 : decode cX4_faller 12 = .ok (.aload_n 0, 1) := by decide +kernel
theorem dX4_faller_13 : decode cX4_faller 13 = .ok (.iload_n 2, 1) := by decide +kernel
theorem dX4_faller_14 : decode cX4_faller 14 = .ok (.invokevirtual 58, 3) := by decide +kernel
theorem dX4_faller_17 : decode cX4_faller 17 = .ok (.ifCond .eq 39, 3) := by decide +kernel
theorem dX4_faller_20 : decode cX4_faller 20 = .ok (.aload_n 0, 1) := by decide +kernel
theorem dX4_faller_21 : decode cX4_faller 21 = .ok (.getfield 24, 3) := by decide +kernel
theorem dX4_faller_24 : decode cX4_faller 24 = .ok (.iload_n 2, 1) := by decide +kernel
theorem dX4_faller_25 : decode cX4_faller 25 = .ok (.iaload, 1) := by decide +kernel
theorem dX4_faller_26 : decode cX4_faller 26 = .ok (.ifCond .ne 30, 3) := by decide +kernel
theorem dX4_faller_29 : decode cX4_faller 29 = .ok (.aload_n 0, 1) := by decide +kernel
theorem dX4_faller_30 : decode cX4_faller 30 = .ok (.iload_n 2, 1) := by decide +kernel
theorem dX4_faller_31 : decode cX4_faller 31 = .ok (.invokevirtual 74, 3) := by decide +kernel
theorem dX4_faller_34 : decode cX4_faller 34 = .ok (.ifCond .ne 22, 3) := by decide +kernel
theorem dX4_faller_37 : decode cX4_faller 37 = .ok (.iload_n 1, 1) := by decide +kernel
theorem dX4_faller_38 : decode cX4_faller 38 = .ok (.ifCond .lt 16, 3) := by decide +kernel
theorem dX4_faller_41 : decode cX4_faller 41 = .ok (.aload_n 0, 1) := by decide +kernel
theorem dX4_faller_42 : decode cX4_faller 42 = .ok (.iload_n 2, 1) := by decide +kernel
theorem dX4_faller_43 : decode cX4_faller 43 = .ok (.invokevirtual 91, 3) := by decide +kernel
theorem dX4_faller_46 : decode cX4_faller 46 = .ok (.aload_n 0, 1) := by decide +kernel
theorem dX4_faller_47 : decode cX4_faller 47 = .ok (.iload_n 1, 1) := by decide +kernel
theorem dX4_faller_48 : decode cX4_faller 48 = .ok (.invokevirtual 91, 3) := by decide +kernel
theorem dX4_faller_51 : decode cX4_faller 51 = .ok (.if_icmp .le 5, 3) := by decide +kernel
theorem dX4_faller_54 : decode cX4_faller 54 = .ok (.iload_n 2, 1) := by decide +kernel
theorem dX4_faller_55 : decode cX4_faller 55 = .ok (.istore_n 1, 1) := by decide +kernel
theorem dX4_faller_56 : decode cX4_faller 56 = .ok (.iinc 2 1, 3) := by decide +kernel
theorem dX4_faller_59 : decode cX4_faller 59 = .ok (.goto (-55), 3) := by decide +kernel
theorem dX4_faller_62 : decode cX4_faller 62 = .ok (.iload_n 1, 1) := by decide +kernel
theorem dX4_faller_63 : decode cX4_faller 63 = .ok (.ireturn, 1) := by decide +kernel
theorem dX4_isTied_0 : decode cX4_isTied 0 = .ok (.aload_n 0, 1) := by decide +kernel
theorem dX4_isTied_1 : decode cX4_isTied 1 = .ok (.getfield 49, 3) := by decide +kernel
theorem dX4_isTied_4 : decode cX4_isTied 4 = .ok (.iload_n 1, 1) := by decide +kernel
theorem dX4_isTied_5 : decode cX4_isTied 5 = .ok (.ishr, 1) := by decide +kernel
theorem dX4_isTied_6 : decode cX4_isTied 6 = .ok (.iconst 1, 1) := by decide +kernel
theorem dX4_isTied_7 : decode cX4_isTied 7 = .ok (.iand, 1) := by decide +kernel
theorem dX4_isTied_8 : decode cX4_isTied 8 = .ok (.ifCond .eq 7, 3) := by decide +kernel
theorem dX4_isTied_11 : decode cX4_isTied 11 = .ok (.iconst 1, 1) := by decide +kernel
theorem dX4_isTied_12 : decode cX4_isTied 12 = .ok (.goto 4, 3) := by decide +kernel
theorem dX4_isTied_15 : decode cX4_isTied 15 = .ok (.iconst 0, 1) := by decide +kernel
theorem dX4_isTied_16 : decode cX4_isTied 16 = .ok (.ireturn, 1) := by decide +kernel
theorem dX4_fell_0 : decode cX4_fell 0 = .ok (.aload_n 0, 1) := by decide +kernel
theorem dX4_fell_1 : decode cX4_fell 1 = .ok (.dup, 1) := by decide +kernel
theorem dX4_fell_2 : decode cX4_fell 2 = .ok (.getfield 43, 3) := by decide +kernel
theorem dX4_fell_5 : decode cX4_fell 5 = .ok (.iconst 1, 1) := by decide +kernel
theorem dX4_fell_6 : decode cX4_fell 6 = .ok (.iadd, 1) := by decide +kernel
theorem dX4_fell_7 : decode cX4_fell 7 = .ok (.putfield 43, 3) := by decide +kernel
theorem dX4_fell_10 : decode cX4_fell 10 = .ok (.aload_n 0, 1) := by decide +kernel
theorem dX4_fell_11 : decode cX4_fell 11 = .ok (.getfield 30, 3) := by decide +kernel
theorem dX4_fell_14 : decode cX4_fell 14 = .ok (.iload_n 1, 1) := by decide +kernel
theorem dX4_fell_15 : decode cX4_fell 15 = .ok (.aload_n 0, 1) := by decide +kernel
theorem dX4_fell_16 : decode cX4_fell 16 = .ok (.getfield 43, 3) := by decide +kernel
theorem dX4_fell_19 : decode cX4_fell 19 = .ok (.iastore, 1) := by decide +kernel
theorem dX4_fell_20 : decode cX4_fell 20 = .ok (.return_, 1) := by decide +kernel
theorem dX4_passDayByDraws_0 : decode cX4_passDayByDraws 0 = .ok (.aload_n 0, 1) := by decide +kernel
theorem dX4_passDayByDraws_1 : decode cX4_passDayByDraws 1 = .ok (.getfield 40, 3) := by decide +kernel
theorem dX4_passDayByDraws_4 : decode cX4_passDayByDraws 4 = .ok (.ifCond .le 39, 3) := by decide +kernel
theorem dX4_passDayByDraws_7 : decode cX4_passDayByDraws 7 = .ok (.aload_n 0, 1) := by decide +kernel
theorem dX4_passDayByDraws_8 : decode cX4_passDayByDraws 8 = .ok (.invokevirtual 94, 3) := by decide +kernel
theorem dX4_passDayByDraws_11 : decode cX4_passDayByDraws 11 = .ok (.aload_n 0, 1) := by decide +kernel
theorem dX4_passDayByDraws_12 : decode cX4_passDayByDraws 12 = .ok (.getfield 40, 3) := by decide +kernel
theorem dX4_passDayByDraws_15 : decode cX4_passDayByDraws 15 = .ok (.irem, 1) := by decide +kernel
theorem dX4_passDayByDraws_16 : decode cX4_passDayByDraws 16 = .ok (.istore_n 1, 1) := by decide +kernel
theorem dX4_passDayByDraws_17 : decode cX4_passDayByDraws 17 = .ok (.aload_n 0, 1) := by decide +kernel
theorem dX4_passDayByDraws_18 : decode cX4_passDayByDraws 18 = .ok (.invokevirtual 94, 3) := by decide +kernel
theorem dX4_passDayByDraws_21 : decode cX4_passDayByDraws 21 = .ok (.bipush 100, 2) := by decide +kernel
theorem dX4_passDayByDraws_23 : decode cX4_passDayByDraws 23 = .ok (.irem, 1) := by decide +kernel
theorem dX4_passDayByDraws_24 : decode cX4_passDayByDraws 24 = .ok (.aload_n 0, 1) := by decide +kernel
theorem dX4_passDayByDraws_25 : decode cX4_passDayByDraws 25 = .ok (.getfield 9, 3) := by decide +kernel
theorem dX4_passDayByDraws_28 : decode cX4_passDayByDraws 28 = .ok (.iconst 3, 1) := by decide +kernel
theorem dX4_passDayByDraws_29 : decode cX4_passDayByDraws 29 = .ok (.iaload, 1) := by decide +kernel
theorem dX4_passDayByDraws_30 : decode cX4_passDayByDraws 30 = .ok (.if_icmp .ge 13, 3) := by decide +kernel
theorem dX4_passDayByDraws_33 : decode cX4_passDayByDraws 33 = .ok (.aload_n 0, 1) := by decide +kernel
theorem dX4_passDayByDraws_34 : decode cX4_passDayByDraws 34 = .ok (.getfield 24, 3) := by decide +kernel
theorem dX4_passDayByDraws_37 : decode cX4_passDayByDraws 37 = .ok (.iload_n 1, 1) := by decide +kernel
theorem dX4_passDayByDraws_38 : decode cX4_passDayByDraws 38 = .ok (.dup2, 1) := by decide +kernel
theorem dX4_passDayByDraws_39 : decode cX4_passDayByDraws 39 = .ok (.iaload, 1) := by decide +kernel
theorem dX4_passDayByDraws_40 : decode cX4_passDayByDraws 40 = .ok (.iconst 3, 1) := by decide +kernel
theorem dX4_passDayByDraws_41 : decode cX4_passDayByDraws 41 = .ok (.idiv, 1) := by decide +kernel
theorem dX4_passDayByDraws_42 : decode cX4_passDayByDraws 42 = .ok (.iastore, 1) := by decide +kernel
theorem dX4_passDayByDraws_43 : decode cX4_passDayByDraws 43 = .ok (.aload_n 0, 1) := by decide +kernel
theorem dX4_passDayByDraws_44 : decode cX4_passDayByDraws 44 = .ok (.invokevirtual 97, 3) := by decide +kernel
theorem dX4_passDayByDraws_47 : decode cX4_passDayByDraws 47 = .ok (.ireturn, 1) := by decide +kernel
theorem dX4_drawn_0 : decode cX4_drawn 0 = .ok (.aload_n 0, 1) := by decide +kernel
theorem dX4_drawn_1 : decode cX4_drawn 1 = .ok (.aload_n 0, 1) := by decide +kernel
theorem dX4_drawn_2 : decode cX4_drawn 2 = .ok (.getfield 33, 3) := by decide +kernel
theorem dX4_drawn_5 : decode cX4_drawn 5 = .ok (.ldc 100, 2) := by decide +kernel
theorem dX4_drawn_7 : decode cX4_drawn 7 = .ok (.imul, 1) := by decide +kernel
theorem dX4_drawn_8 : decode cX4_drawn 8 = .ok (.sipush 12345, 3) := by decide +kernel
theorem dX4_drawn_11 : decode cX4_drawn 11 = .ok (.iadd, 1) := by decide +kernel
theorem dX4_drawn_12 : decode cX4_drawn 12 = .ok (.putfield 33, 3) := by decide +kernel
theorem dX4_drawn_15 : decode cX4_drawn 15 = .ok (.aload_n 0, 1) := by decide +kernel
theorem dX4_drawn_16 : decode cX4_drawn 16 = .ok (.getfield 33, 3) := by decide +kernel
theorem dX4_drawn_19 : decode cX4_drawn 19 = .ok (.bipush 16, 2) := by decide +kernel
theorem dX4_drawn_21 : decode cX4_drawn 21 = .ok (.iushr, 1) := by decide +kernel
theorem dX4_drawn_22 : decode cX4_drawn 22 = .ok (.ireturn, 1) := by decide +kernel
theorem dX4_signWritten_0 : decode cX4_signWritten 0 = .ok (.iconst 0, 1) := by decide +kernel
theorem dX4_signWritten_1 : decode cX4_signWritten 1 = .ok (.istore_n 2, 1) := by decide +kernel
theorem dX4_signWritten_2 : decode cX4_signWritten 2 = .ok (.iload_n 2, 1) := by decide +kernel
theorem dX4_signWritten_3 : decode cX4_signWritten 3 = .ok (.aload_n 0, 1) := by decide +kernel
theorem dX4_signWritten_4 : decode cX4_signWritten 4 = .ok (.getfield 40, 3) := by decide +kernel
theorem dX4_signWritten_7 : decode cX4_signWritten 7 = .ok (.if_icmp .ge 28, 3) := by decide +kernel
theorem dX4_signWritten_10 : decode cX4_signWritten 10 = .ok (.aload_n 0, 1) := by decide +kernel
theorem dX4_signWritten_11 : decode cX4_signWritten 11 = .ok (.getfield 30, 3) := by decide +kernel
theorem dX4_signWritten_14 : decode cX4_signWritten 14 = .ok (.iload_n 2, 1) := by decide +kernel
theorem dX4_signWritten_15 : decode cX4_signWritten 15 = .ok (.iaload, 1) := by decide +kernel
theorem dX4_signWritten_16 : decode cX4_signWritten 16 = .ok (.iload_n 1, 1) := by decide +kernel
theorem dX4_signWritten_17 : decode cX4_signWritten 17 = .ok (.iconst 1, 1) := by decide +kernel
theorem dX4_signWritten_18 : decode cX4_signWritten 18 = .ok (.iadd, 1) := by decide +kernel
theorem dX4_signWritten_19 : decode cX4_signWritten 19 = .ok (.if_icmp .ne 10, 3) := by decide +kernel
theorem dX4_signWritten_22 : decode cX4_signWritten 22 = .ok (.aload_n 0, 1) := by decide +kernel
theorem dX4_signWritten_23 : decode cX4_signWritten 23 = .ok (.getfield 27, 3) := by decide +kernel
theorem dX4_signWritten_26 : decode cX4_signWritten 26 = .ok (.iload_n 2, 1) := by decide +kernel
theorem dX4_signWritten_27 : decode cX4_signWritten 27 = .ok (.iaload, 1) := by decide +kernel
theorem dX4_signWritten_28 : decode cX4_signWritten 28 = .ok (.ireturn, 1) := by decide +kernel
theorem dX4_signWritten_29 : decode cX4_signWritten 29 = .ok (.iinc 2 1, 3) := by decide +kernel
theorem dX4_signWritten_32 : decode cX4_signWritten 32 = .ok (.goto (-30), 3) := by decide +kernel
theorem dX4_signWritten_35 : decode cX4_signWritten 35 = .ok (.bipush (-3), 2) := by decide +kernel
theorem dX4_signWritten_37 : decode cX4_signWritten 37 = .ok (.ireturn, 1) := by decide +kernel
theorem dX4_rhymes_0 : decode cX4_rhymes 0 = .ok (.iconst 0, 1) := by decide +kernel
theorem dX4_rhymes_1 : decode cX4_rhymes 1 = .ok (.istore_n 1, 1) := by decide +kernel
theorem dX4_rhymes_2 : decode cX4_rhymes 2 = .ok (.iconst 1, 1) := by decide +kernel
theorem dX4_rhymes_3 : decode cX4_rhymes 3 = .ok (.istore_n 2, 1) := by decide +kernel
theorem dX4_rhymes_4 : decode cX4_rhymes 4 = .ok (.iload_n 2, 1) := by decide +kernel
theorem dX4_rhymes_5 : decode cX4_rhymes 5 = .ok (.aload_n 0, 1) := by decide +kernel
theorem dX4_rhymes_6 : decode cX4_rhymes 6 = .ok (.getfield 43, 3) := by decide +kernel
theorem dX4_rhymes_9 : decode cX4_rhymes 9 = .ok (.if_icmp .ge 27, 3) := by decide +kernel
theorem dX4_rhymes_12 : decode cX4_rhymes 12 = .ok (.aload_n 0, 1) := by decide +kernel
theorem dX4_rhymes_13 : decode cX4_rhymes 13 = .ok (.iload_n 2, 1) := by decide +kernel
theorem dX4_rhymes_14 : decode cX4_rhymes 14 = .ok (.invokevirtual 101, 3) := by decide +kernel
theorem dX4_rhymes_17 : decode cX4_rhymes 17 = .ok (.aload_n 0, 1) := by decide +kernel
theorem dX4_rhymes_18 : decode cX4_rhymes 18 = .ok (.iload_n 2, 1) := by decide +kernel
theorem dX4_rhymes_19 : decode cX4_rhymes 19 = .ok (.iconst 1, 1) := by decide +kernel
theorem dX4_rhymes_20 : decode cX4_rhymes 20 = .ok (.isub, 1) := by decide +kernel
theorem dX4_rhymes_21 : decode cX4_rhymes 21 = .ok (.invokevirtual 101, 3) := by decide +kernel
theorem dX4_rhymes_24 : decode cX4_rhymes 24 = .ok (.if_icmp .ne 6, 3) := by decide +kernel
theorem dX4_rhymes_27 : decode cX4_rhymes 27 = .ok (.iinc 1 1, 3) := by decide +kernel
theorem dX4_rhymes_30 : decode cX4_rhymes 30 = .ok (.iinc 2 1, 3) := by decide +kernel
theorem dX4_rhymes_33 : decode cX4_rhymes 33 = .ok (.goto (-29), 3) := by decide +kernel
theorem dX4_rhymes_36 : decode cX4_rhymes 36 = .ok (.iload_n 1, 1) := by decide +kernel
theorem dX4_rhymes_37 : decode cX4_rhymes 37 = .ok (.ireturn, 1) := by decide +kernel
theorem dX4_spelled_0 : decode cX4_spelled 0 = .ok (.iconst 0, 1) := by decide +kernel
theorem dX4_spelled_1 : decode cX4_spelled 1 = .ok (.istore_n 1, 1) := by decide +kernel
theorem dX4_spelled_2 : decode cX4_spelled 2 = .ok (.iconst 0, 1) := by decide +kernel
theorem dX4_spelled_3 : decode cX4_spelled 3 = .ok (.istore_n 2, 1) := by decide +kernel
theorem dX4_spelled_4 : decode cX4_spelled 4 = .ok (.iload_n 2, 1) := by decide +kernel
theorem dX4_spelled_5 : decode cX4_spelled 5 = .ok (.aload_n 0, 1) := by decide +kernel
theorem dX4_spelled_6 : decode cX4_spelled 6 = .ok (.getfield 43, 3) := by decide +kernel
theorem dX4_spelled_9 : decode cX4_spelled 9 = .ok (.if_icmp .ge 20, 3) := by decide +kernel
theorem dX4_spelled_12 : decode cX4_spelled 12 = .ok (.iload_n 1, 1) := by decide +kernel
theorem dX4_spelled_13 : decode cX4_spelled 13 = .ok (.bipush 10, 2) := by decide +kernel
theorem dX4_spelled_15 : decode cX4_spelled 15 = .ok (.imul, 1) := by decide +kernel
theorem dX4_spelled_16 : decode cX4_spelled 16 = .ok (.aload_n 0, 1) := by decide +kernel
theorem dX4_spelled_17 : decode cX4_spelled 17 = .ok (.iload_n 2, 1) := by decide +kernel
theorem dX4_spelled_18 : decode cX4_spelled 18 = .ok (.invokevirtual 101, 3) := by decide +kernel
theorem dX4_spelled_21 : decode cX4_spelled 21 = .ok (.iadd, 1) := by decide +kernel
theorem dX4_spelled_22 : decode cX4_spelled 22 = .ok (.istore_n 1, 1) := by decide +kernel
theorem dX4_spelled_23 : decode cX4_spelled 23 = .ok (.iinc 2 1, 3) := by decide +kernel
theorem dX4_spelled_26 : decode cX4_spelled 26 = .ok (.goto (-22), 3) := by decide +kernel
theorem dX4_spelled_29 : decode cX4_spelled 29 = .ok (.iload_n 1, 1) := by decide +kernel
theorem dX4_spelled_30 : decode cX4_spelled 30 = .ok (.ireturn, 1) := by decide +kernel
theorem dX4_holdTogether_0 : decode cX4_holdTogether 0 = .ok (.iconst 0, 1) := by decide +kernel
theorem dX4_holdTogether_1 : decode cX4_holdTogether 1 = .ok (.istore_n 1, 1) := by decide +kernel
theorem dX4_holdTogether_2 : decode cX4_holdTogether 2 = .ok (.iconst 0, 1) := by decide +kernel
theorem dX4_holdTogether_3 : decode cX4_holdTogether 3 = .ok (.istore_n 2, 1) := by decide +kernel
theorem dX4_holdTogether_4 : decode cX4_holdTogether 4 = .ok (.iload_n 2, 1) := by decide +kernel
theorem dX4_holdTogether_5 : decode cX4_holdTogether 5 = .ok (.aload_n 0, 1) := by decide +kernel
theorem dX4_holdTogether_6 : decode cX4_holdTogether 6 = .ok (.getfield 40, 3) := by decide +kernel
theorem dX4_holdTogether_9 : decode cX4_holdTogether 9 = .ok (.if_icmp .ge 26, 3) := by decide +kernel
theorem dX4_holdTogether_12 : decode cX4_holdTogether 12 = .ok (.aload_n 0, 1) := by decide +kernel
theorem dX4_holdTogether_13 : decode cX4_holdTogether 13 = .ok (.iload_n 2, 1) := by decide +kernel
theorem dX4_holdTogether_14 : decode cX4_holdTogether 14 = .ok (.invokevirtual 58, 3) := by decide +kernel
theorem dX4_holdTogether_17 : decode cX4_holdTogether 17 = .ok (.ifCond .eq 12, 3) := by decide +kernel
theorem dX4_holdTogether_20 : decode cX4_holdTogether 20 = .ok (.iload_n 1, 1) := by decide +kernel
theorem dX4_holdTogether_21 : decode cX4_holdTogether 21 = .ok (.aload_n 0, 1) := by decide +kernel
theorem dX4_holdTogether_22 : decode cX4_holdTogether 22 = .ok (.getfield 24, 3) := by decide +kernel
theorem dX4_holdTogether_25 : decode cX4_holdTogether 25 = .ok (.iload_n 2, 1) := by decide +kernel
theorem dX4_holdTogether_26 : decode cX4_holdTogether 26 = .ok (.iaload, 1) := by decide +kernel
theorem dX4_holdTogether_27 : decode cX4_holdTogether 27 = .ok (.iadd, 1) := by decide +kernel
theorem dX4_holdTogether_28 : decode cX4_holdTogether 28 = .ok (.istore_n 1, 1) := by decide +kernel
theorem dX4_holdTogether_29 : decode cX4_holdTogether 29 = .ok (.iinc 2 1, 3) := by decide +kernel
theorem dX4_holdTogether_32 : decode cX4_holdTogether 32 = .ok (.goto (-28), 3) := by decide +kernel
theorem dX4_holdTogether_35 : decode cX4_holdTogether 35 = .ok (.iload_n 1, 1) := by decide +kernel
theorem dX4_holdTogether_36 : decode cX4_holdTogether 36 = .ok (.ireturn, 1) := by decide +kernel
theorem dX4_swayTogether_0 : decode cX4_swayTogether 0 = .ok (.iconst 0, 1) := by decide +kernel
theorem dX4_swayTogether_1 : decode cX4_swayTogether 1 = .ok (.istore_n 1, 1) := by decide +kernel
theorem dX4_swayTogether_2 : decode cX4_swayTogether 2 = .ok (.iconst 0, 1) := by decide +kernel
theorem dX4_swayTogether_3 : decode cX4_swayTogether 3 = .ok (.istore_n 2, 1) := by decide +kernel
theorem dX4_swayTogether_4 : decode cX4_swayTogether 4 = .ok (.iload_n 2, 1) := by decide +kernel
theorem dX4_swayTogether_5 : decode cX4_swayTogether 5 = .ok (.bipush 6, 2) := by decide +kernel
theorem dX4_swayTogether_7 : decode cX4_swayTogether 7 = .ok (.if_icmp .ge 18, 3) := by decide +kernel
theorem dX4_swayTogether_10 : decode cX4_swayTogether 10 = .ok (.iload_n 1, 1) := by decide +kernel
theorem dX4_swayTogether_11 : decode cX4_swayTogether 11 = .ok (.aload_n 0, 1) := by decide +kernel
theorem dX4_swayTogether_12 : decode cX4_swayTogether 12 = .ok (.getfield 15, 3) := by decide +kernel
theorem dX4_swayTogether_15 : decode cX4_swayTogether 15 = .ok (.iload_n 2, 1) := by decide +kernel
theorem dX4_swayTogether_16 : decode cX4_swayTogether 16 = .ok (.iaload, 1) := by decide +kernel
theorem dX4_swayTogether_17 : decode cX4_swayTogether 17 = .ok (.iadd, 1) := by decide +kernel
theorem dX4_swayTogether_18 : decode cX4_swayTogether 18 = .ok (.istore_n 1, 1) := by decide +kernel
theorem dX4_swayTogether_19 : decode cX4_swayTogether 19 = .ok (.iinc 2 1, 3) := by decide +kernel
theorem dX4_swayTogether_22 : decode cX4_swayTogether 22 = .ok (.goto (-18), 3) := by decide +kernel
theorem dX4_swayTogether_25 : decode cX4_swayTogether 25 = .ok (.iload_n 1, 1) := by decide +kernel
theorem dX4_swayTogether_26 : decode cX4_swayTogether 26 = .ok (.ireturn, 1) := by decide +kernel
