theorem dJ0_charAt_5068e_0 : decode cJ0_charAt_5068e 0 = .ok (.aload_n 0, 1) := by decide +kernel
theorem dJ0_charAt_5068e_1 : decode cJ0_charAt_5068e 1 = .ok (.invokevirtual 492, 3) := by decide +kernel
theorem dJ0_charAt_5068e_4 : decode cJ0_charAt_5068e 4 = .ok (.ifCond .eq 12, 3) := by decide +kernel
theorem dJ0_charAt_5068e_7 : decode cJ0_charAt_5068e 7 = .ok (.aload_n 0, 1) := by decide +kernel
theorem dJ0_charAt_5068e_8 : decode cJ0_charAt_5068e 8 = .ok (.getfield 9, 3) := by decide +kernel
theorem dJ0_charAt_5068e_11 : decode cJ0_charAt_5068e 11 = .ok (.iload_n 1, 1) := by decide +kernel
theorem dJ0_charAt_5068e_12 : decode cJ0_charAt_5068e 12 = .ok (.invokestatic 495, 3) := by decide +kernel
theorem dJ0_charAt_5068e_15 : decode cJ0_charAt_5068e 15 = .ok (.ireturn, 1) := by decide +kernel
theorem dJ0_charAt_5068e_16 : decode cJ0_charAt_5068e 16 = .ok (.aload_n 0, 1) := by decide +kernel
theorem dJ0_charAt_5068e_17 : decode cJ0_charAt_5068e 17 = .ok (.getfield 9, 3) := by decide +kernel
theorem dJ0_charAt_5068e_20 : decode cJ0_charAt_5068e 20 = .ok (.iload_n 1, 1) := by decide +kernel
theorem dJ0_charAt_5068e_21 : decode cJ0_charAt_5068e 21 = .ok (.invokestatic 498, 3) := by decide +kernel
theorem dJ0_charAt_5068e_24 : decode cJ0_charAt_5068e 24 = .ok (.ireturn, 1) := by decide +kernel
theorem dJ0_checkIndex_df160_0 : decode cJ0_checkIndex_df160 0 = .ok (.iload_n 0, 1) := by decide +kernel
theorem dJ0_checkIndex_df160_1 : decode cJ0_checkIndex_df160 1 = .ok (.iload_n 1, 1) := by decide +kernel
theorem dJ0_checkIndex_df160_2 : decode cJ0_checkIndex_df160 2 = .ok (.getstatic 1053, 3) := by decide +kernel
theorem dJ0_checkIndex_df160_5 : decode cJ0_checkIndex_df160 5 = .ok (.invokestatic 1059, 3) := by decide +kernel
theorem dJ0_checkIndex_df160_8 : decode cJ0_checkIndex_df160 8 = .ok (.pop, 1) := by decide +kernel
theorem dJ0_checkIndex_df160_9 : decode cJ0_checkIndex_df160 9 = .ok (.return_, 1) := by decide +kernel
theorem dJ0_coder_7d493_0 : decode cJ0_coder_7d493 0 = .ok (.getstatic 38, 3) := by decide +kernel
theorem dJ0_coder_7d493_3 : decode cJ0_coder_7d493 3 = .ok (.ifCond .eq 10, 3) := by decide +kernel
theorem dJ0_coder_7d493_6 : decode cJ0_coder_7d493 6 = .ok (.aload_n 0, 1) := by decide +kernel
theorem dJ0_coder_7d493_7 : decode cJ0_coder_7d493 7 = .ok (.getfield 15, 3) := by decide +kernel
theorem dJ0_coder_7d493_10 : decode cJ0_coder_7d493 10 = .ok (.goto 4, 3) := by decide +kernel
theorem dJ0_coder_7d493_13 : decode cJ0_coder_7d493 13 = .ok (.iconst 1, 1) := by decide +kernel
theorem dJ0_coder_7d493_14 : decode cJ0_coder_7d493 14 = .ok (.ireturn, 1) := by decide +kernel
theorem dJ0_indexOf_0f7a4_0 : decode cJ0_indexOf_0f7a4 0 = .ok (.aload_n 0, 1) := by decide +kernel
theorem dJ0_indexOf_0f7a4_1 : decode cJ0_indexOf_0f7a4 1 = .ok (.iload_n 1, 1) := by decide +kernel
theorem dJ0_indexOf_0f7a4_2 : decode cJ0_indexOf_0f7a4 2 = .ok (.iconst 0, 1) := by decide +kernel
theorem dJ0_indexOf_0f7a4_3 : decode cJ0_indexOf_0f7a4 3 = .ok (.invokevirtual 633, 3) := by decide +kernel
theorem dJ0_indexOf_0f7a4_6 : decode cJ0_indexOf_0f7a4 6 = .ok (.ireturn, 1) := by decide +kernel
theorem dJ0_indexOf_7cf53_0 : decode cJ0_indexOf_7cf53 0 = .ok (.aload_n 0, 1) := by decide +kernel
theorem dJ0_indexOf_7cf53_1 : decode cJ0_indexOf_7cf53 1 = .ok (.invokevirtual 492, 3) := by decide +kernel
theorem dJ0_indexOf_7cf53_4 : decode cJ0_indexOf_7cf53 4 = .ok (.ifCond .eq 19, 3) := by decide +kernel
theorem dJ0_indexOf_7cf53_7 : decode cJ0_indexOf_7cf53 7 = .ok (.aload_n 0, 1) := by decide +kernel
theorem dJ0_indexOf_7cf53_8 : decode cJ0_indexOf_7cf53 8 = .ok (.getfield 9, 3) := by decide +kernel
theorem dJ0_indexOf_7cf53_11 : decode cJ0_indexOf_7cf53 11 = .ok (.iload_n 1, 1) := by decide +kernel
theorem dJ0_indexOf_7cf53_12 : decode cJ0_indexOf_7cf53 12 = .ok (.iload_n 2, 1) := by decide +kernel
theorem dJ0_indexOf_7cf53_13 : decode cJ0_indexOf_7cf53 13 = .ok (.aload_n 0, 1) := by decide +kernel
theorem dJ0_indexOf_7cf53_14 : decode cJ0_indexOf_7cf53 14 = .ok (.invokevirtual 505, 3) := by decide +kernel
theorem dJ0_indexOf_7cf53_17 : decode cJ0_indexOf_7cf53 17 = .ok (.invokestatic 637, 3) := by decide +kernel
theorem dJ0_indexOf_7cf53_20 : decode cJ0_indexOf_7cf53 20 = .ok (.goto 16, 3) := by decide +kernel
theorem dJ0_indexOf_7cf53_23 : decode cJ0_indexOf_7cf53 23 = .ok (.aload_n 0, 1) := by decide +kernel
theorem dJ0_indexOf_7cf53_24 : decode cJ0_indexOf_7cf53 24 = .ok (.getfield 9, 3) := by decide +kernel
theorem dJ0_indexOf_7cf53_27 : decode cJ0_indexOf_7cf53 27 = .ok (.iload_n 1, 1) := by decide +kernel
theorem dJ0_indexOf_7cf53_28 : decode cJ0_indexOf_7cf53 28 = .ok (.iload_n 2, 1) := by decide +kernel
theorem dJ0_indexOf_7cf53_29 : decode cJ0_indexOf_7cf53 29 = .ok (.aload_n 0, 1) := by decide +kernel
theorem dJ0_indexOf_7cf53_30 : decode cJ0_indexOf_7cf53 30 = .ok (.invokevirtual 505, 3) := by decide +kernel
theorem dJ0_indexOf_7cf53_33 : decode cJ0_indexOf_7cf53 33 = .ok (.invokestatic 640, 3) := by decide +kernel
theorem dJ0_indexOf_7cf53_36 : decode cJ0_indexOf_7cf53 36 = .ok (.ireturn, 1) := by decide +kernel
theorem dJ0_isLatin1_aae02_0 : decode cJ0_isLatin1_aae02 0 = .ok (.getstatic 38, 3) := by decide +kernel
theorem dJ0_isLatin1_aae02_3 : decode cJ0_isLatin1_aae02 3 = .ok (.ifCond .eq 14, 3) := by decide +kernel
theorem dJ0_isLatin1_aae02_6 : decode cJ0_isLatin1_aae02 6 = .ok (.aload_n 0, 1) := by decide +kernel
theorem dJ0_isLatin1_aae02_7 : decode cJ0_isLatin1_aae02 7 = .ok (.getfield 15, 3) := by decide +kernel
theorem dJ0_isLatin1_aae02_10 : decode cJ0_isLatin1_aae02 10 = .ok (.ifCond .ne 7, 3) := by decide +kernel
theorem dJ0_isLatin1_aae02_13 : decode cJ0_isLatin1_aae02 13 = .ok (.iconst 1, 1) := by decide +kernel
theorem dJ0_isLatin1_aae02_14 : decode cJ0_isLatin1_aae02 14 = .ok (.goto 4, 3) := by decide +kernel
theorem dJ0_isLatin1_aae02_17 : decode cJ0_isLatin1_aae02 17 = .ok (.iconst 0, 1) := by decide +kernel
theorem dJ0_isLatin1_aae02_18 : decode cJ0_isLatin1_aae02 18 = .ok (.ireturn, 1) := by decide +kernel
theorem dJ0_length_8abf5_0 : decode cJ0_length_8abf5 0 = .ok (.aload_n 0, 1) := by decide +kernel
theorem dJ0_length_8abf5_1 : decode cJ0_length_8abf5 1 = .ok (.getfield 9, 3) := by decide +kernel
theorem dJ0_length_8abf5_4 : decode cJ0_length_8abf5 4 = .ok (.arraylength, 1) := by decide +kernel
theorem dJ0_length_8abf5_5 : decode cJ0_length_8abf5 5 = .ok (.aload_n 0, 1) := by decide +kernel
theorem dJ0_length_8abf5_6 : decode cJ0_length_8abf5 6 = .ok (.invokevirtual 335, 3) := by decide +kernel
theorem dJ0_length_8abf5_9 : decode cJ0_length_8abf5 9 = .ok (.ishr, 1) := by decide +kernel
theorem dJ0_length_8abf5_10 : decode cJ0_length_8abf5 10 = .ok (.ireturn, 1) := by decide +kernel
theorem dJ1_canEncode_9a6ad_0 : decode cJ1_canEncode_9a6ad 0 = .ok (.iload_n 0, 1) := by decide +kernel
theorem dJ1_canEncode_9a6ad_1 : decode cJ1_canEncode_9a6ad 1 = .ok (.ifCond .lt 14, 3) := by decide +kernel
theorem dJ1_canEncode_9a6ad_4 : decode cJ1_canEncode_9a6ad 4 = .ok (.iload_n 0, 1) := by decide +kernel
theorem dJ1_canEncode_9a6ad_5 : decode cJ1_canEncode_9a6ad 5 = .ok (.sipush 255, 3) := by decide +kernel
theorem dJ1_canEncode_9a6ad_8 : decode cJ1_canEncode_9a6ad 8 = .ok (.if_icmp .gt 7, 3) := by decide +kernel
theorem dJ1_canEncode_9a6ad_11 : decode cJ1_canEncode_9a6ad 11 = .ok (.iconst 1, 1) := by decide +kernel
theorem dJ1_canEncode_9a6ad_12 : decode cJ1_canEncode_9a6ad 12 = .ok (.goto 4, 3) := by decide +kernel
theorem dJ1_canEncode_9a6ad_15 : decode cJ1_canEncode_9a6ad 15 = .ok (.iconst 0, 1) := by decide +kernel
theorem dJ1_canEncode_9a6ad_16 : decode cJ1_canEncode_9a6ad 16 = .ok (.ireturn, 1) := by decide +kernel
theorem dJ1_charAt_3b067_0 : decode cJ1_charAt_3b067 0 = .ok (.iload_n 1, 1) := by decide +kernel
theorem dJ1_charAt_3b067_1 : decode cJ1_charAt_3b067 1 = .ok (.aload_n 0, 1) := by decide +kernel
theorem dJ1_charAt_3b067_2 : decode cJ1_charAt_3b067 2 = .ok (.arraylength, 1) := by decide +kernel
theorem dJ1_charAt_3b067_3 : decode cJ1_charAt_3b067 3 = .ok (.invokestatic 9, 3) := by decide +kernel
theorem dJ1_charAt_3b067_6 : decode cJ1_charAt_3b067 6 = .ok (.aload_n 0, 1) := by decide +kernel
theorem dJ1_charAt_3b067_7 : decode cJ1_charAt_3b067 7 = .ok (.iload_n 1, 1) := by decide +kernel
theorem dJ1_charAt_3b067_8 : decode cJ1_charAt_3b067 8 = .ok (.baload, 1) := by decide +kernel
theorem dJ1_charAt_3b067_9 : decode cJ1_charAt_3b067 9 = .ok (.sipush 255, 3) := by decide +kernel
theorem dJ1_charAt_3b067_12 : decode cJ1_charAt_3b067 12 = .ok (.iand, 1) := by decide +kernel
theorem dJ1_charAt_3b067_13 : decode cJ1_charAt_3b067 13 = .ok (.i2c, 1) := by decide +kernel
theorem dJ1_charAt_3b067_14 : decode cJ1_charAt_3b067 14 = .ok (.ireturn, 1) := by decide +kernel
theorem dJ1_indexOfChar_4cfef_0 : decode cJ1_indexOfChar_4cfef 0 = .ok (.iload_n 1, 1) := by decide +kernel
theorem dJ1_indexOfChar_4cfef_1 : decode cJ1_indexOfChar_4cfef 1 = .ok (.i2b, 1) := by decide +kernel
theorem dJ1_indexOfChar_4cfef_2 : decode cJ1_indexOfChar_4cfef 2 = .ok (.istore 4, 2) := by decide +kernel
theorem dJ1_indexOfChar_4cfef_4 : decode cJ1_indexOfChar_4cfef 4 = .ok (.iload_n 2, 1) := by decide +kernel
theorem dJ1_indexOfChar_4cfef_5 : decode cJ1_indexOfChar_4cfef 5 = .ok (.istore 5, 2) := by decide +kernel
theorem dJ1_indexOfChar_4cfef_7 : decode cJ1_indexOfChar_4cfef 7 = .ok (.iload 5, 2) := by decide +kernel
theorem dJ1_indexOfChar_4cfef_9 : decode cJ1_indexOfChar_4cfef 9 = .ok (.iload_n 3, 1) := by decide +kernel
theorem dJ1_indexOfChar_4cfef_10 : decode cJ1_indexOfChar_4cfef 10 = .ok (.if_icmp .ge 21, 3) := by decide +kernel
theorem dJ1_indexOfChar_4cfef_13 : decode cJ1_indexOfChar_4cfef 13 = .ok (.aload_n 0, 1) := by decide +kernel
theorem dJ1_indexOfChar_4cfef_14 : decode cJ1_indexOfChar_4cfef 14 = .ok (.iload 5, 2) := by decide +kernel
theorem dJ1_indexOfChar_4cfef_16 : decode cJ1_indexOfChar_4cfef 16 = .ok (.baload, 1) := by decide +kernel
theorem dJ1_indexOfChar_4cfef_17 : decode cJ1_indexOfChar_4cfef 17 = .ok (.iload 4, 2) := by decide +kernel
theorem dJ1_indexOfChar_4cfef_19 : decode cJ1_indexOfChar_4cfef 19 = .ok (.if_icmp .ne 6, 3) := by decide +kernel
theorem dJ1_indexOfChar_4cfef_22 : decode cJ1_indexOfChar_4cfef 22 = .ok (.iload 5, 2) := by decide +kernel
theorem dJ1_indexOfChar_4cfef_24 : decode cJ1_indexOfChar_4cfef 24 = .ok (.ireturn, 1) := by decide +kernel
theorem dJ1_indexOfChar_4cfef_25 : decode cJ1_indexOfChar_4cfef 25 = .ok (.iinc 5 1, 3) := by decide +kernel
theorem dJ1_indexOfChar_4cfef_28 : decode cJ1_indexOfChar_4cfef 28 = .ok (.goto (-21), 3) := by decide +kernel
theorem dJ1_indexOfChar_4cfef_31 : decode cJ1_indexOfChar_4cfef 31 = .ok (.iconst (-1), 1) := by decide +kernel
theorem dJ1_indexOfChar_4cfef_32 : decode cJ1_indexOfChar_4cfef 32 = .ok (.ireturn, 1) := by decide +kernel
theorem dJ1_indexOf_4cfef_0 : decode cJ1_indexOf_4cfef 0 = .ok (.iload_n 1, 1) := by decide +kernel
theorem dJ1_indexOf_4cfef_1 : decode cJ1_indexOf_4cfef 1 = .ok (.invokestatic 88, 3) := by decide +kernel
theorem dJ1_indexOf_4cfef_4 : decode cJ1_indexOf_4cfef 4 = .ok (.ifCond .ne 5, 3) := by decide +kernel
theorem dJ1_indexOf_4cfef_7 : decode cJ1_indexOf_4cfef 7 = .ok (.iconst (-1), 1) := by decide +kernel
theorem dJ1_indexOf_4cfef_8 : decode cJ1_indexOf_4cfef 8 = .ok (.ireturn, 1) := by decide +kernel
theorem dJ1_indexOf_4cfef_9 : decode cJ1_indexOf_4cfef 9 = .ok (.iload_n 2, 1) := by decide +kernel
theorem dJ1_indexOf_4cfef_10 : decode cJ1_indexOf_4cfef 10 = .ok (.iconst 0, 1) := by decide +kernel
theorem dJ1_indexOf_4cfef_11 : decode cJ1_indexOf_4cfef 11 = .ok (.invokestatic 92, 3) := by decide +kernel
theorem dJ1_indexOf_4cfef_14 : decode cJ1_indexOf_4cfef 14 = .ok (.istore_n 2, 1) := by decide +kernel
theorem dJ1_indexOf_4cfef_15 : decode cJ1_indexOf_4cfef 15 = .ok (.iload_n 3, 1) := by decide +kernel
theorem dJ1_indexOf_4cfef_16 : decode cJ1_indexOf_4cfef 16 = .ok (.aload_n 0, 1) := by decide +kernel
theorem dJ1_indexOf_4cfef_17 : decode cJ1_indexOf_4cfef 17 = .ok (.arraylength, 1) := by decide +kernel
theorem dJ1_indexOf_4cfef_18 : decode cJ1_indexOf_4cfef 18 = .ok (.invokestatic 38, 3) := by decide +kernel
theorem dJ1_indexOf_4cfef_21 : decode cJ1_indexOf_4cfef 21 = .ok (.istore_n 3, 1) := by decide +kernel
theorem dJ1_indexOf_4cfef_22 : decode cJ1_indexOf_4cfef 22 = .ok (.iload_n 2, 1) := by decide +kernel
theorem dJ1_indexOf_4cfef_23 : decode cJ1_indexOf_4cfef 23 = .ok (.iload_n 3, 1) := by decide +kernel
theorem dJ1_indexOf_4cfef_24 : decode cJ1_indexOf_4cfef 24 = .ok (.if_icmp .lt 5, 3) := by decide +kernel
theorem dJ1_indexOf_4cfef_27 : decode cJ1_indexOf_4cfef 27 = .ok (.iconst (-1), 1) := by decide +kernel
theorem dJ1_indexOf_4cfef_28 : decode cJ1_indexOf_4cfef 28 = .ok (.ireturn, 1) := by decide +kernel
theorem dJ1_indexOf_4cfef_29 : decode cJ1_indexOf_4cfef 29 = .ok (.aload_n 0, 1) := by decide +kernel
theorem dJ1_indexOf_4cfef_30 : decode cJ1_indexOf_4cfef 30 = .ok (.iload_n 1, 1) := by decide +kernel
theorem dJ1_indexOf_4cfef_31 : decode cJ1_indexOf_4cfef 31 = .ok (.iload_n 2, 1) := by decide +kernel
theorem dJ1_indexOf_4cfef_32 : decode cJ1_indexOf_4cfef 32 = .ok (.iload_n 3, 1) := by decide +kernel
theorem dJ1_indexOf_4cfef_33 : decode cJ1_indexOf_4cfef 33 = .ok (.invokestatic 95, 3) := by decide +kernel
theorem dJ1_indexOf_4cfef_36 : decode cJ1_indexOf_4cfef 36 = .ok (.ireturn, 1) := by decide +kernel
theorem dJ3_checkIndex_8e157_0 : decode cJ3_checkIndex_8e157 0 = .ok (.iload_n 0, 1) := by decide +kernel
theorem dJ3_checkIndex_8e157_1 : decode cJ3_checkIndex_8e157 1 = .ok (.ifCond .lt 8, 3) := by decide +kernel
theorem dJ3_checkIndex_8e157_4 : decode cJ3_checkIndex_8e157 4 = .ok (.iload_n 0, 1) := by decide +kernel
theorem dJ3_checkIndex_8e157_5 : decode cJ3_checkIndex_8e157 5 = .ok (.iload_n 1, 1) := by decide +kernel
theorem dJ3_checkIndex_8e157_6 : decode cJ3_checkIndex_8e157 6 = .ok (.if_icmp .lt 10, 3) := by decide +kernel
theorem dJ3_checkIndex_8e157_9 : decode cJ3_checkIndex_8e157 9 = .ok (.aload_n 2, 1) := by decide +kernel
theorem dJ3_checkIndex_8e157_10 : decode cJ3_checkIndex_8e157 10 = .ok (.iload_n 0, 1) := by decide +kernel
theorem dJ3_checkIndex_8e157_11 : decode cJ3_checkIndex_8e157 11 = .ok (.iload_n 1, 1) := by decide +kernel
theorem dJ3_checkIndex_8e157_12 : decode cJ3_checkIndex_8e157 12 = .ok (.invokestatic 95, 3) := by decide +kernel
theorem dJ3_checkIndex_8e157_15 : decode cJ3_checkIndex_8e157 15 = .ok (.athrow, 1) := by decide +kernel
theorem dJ3_checkIndex_8e157_16 : decode cJ3_checkIndex_8e157 16 = .ok (.iload_n 0, 1) := by decide +kernel
theorem dJ3_checkIndex_8e157_17 : decode cJ3_checkIndex_8e157 17 = .ok (.ireturn, 1) := by decide +kernel
theorem dJ6_bitCount_0f7a4_0 : decode cJ6_bitCount_0f7a4 0 = .ok (.iload_n 0, 1) := by decide +kernel
theorem dJ6_bitCount_0f7a4_1 : decode cJ6_bitCount_0f7a4 1 = .ok (.iload_n 0, 1) := by decide +kernel
theorem dJ6_bitCount_0f7a4_2 : decode cJ6_bitCount_0f7a4 2 = .ok (.iconst 1, 1) := by decide +kernel
theorem dJ6_bitCount_0f7a4_3 : decode cJ6_bitCount_0f7a4 3 = .ok (.iushr, 1) := by decide +kernel
theorem dJ6_bitCount_0f7a4_4 : decode cJ6_bitCount_0f7a4 4 = .ok (.ldc_w 265, 3) := by decide +kernel
theorem dJ6_bitCount_0f7a4_7 : decode cJ6_bitCount_0f7a4 7 = .ok (.iand, 1) := by decide +kernel
theorem dJ6_bitCount_0f7a4_8 : decode cJ6_bitCount_0f7a4 8 = .ok (.isub, 1) := by decide +kernel
theorem dJ6_bitCount_0f7a4_9 : decode cJ6_bitCount_0f7a4 9 = .ok (.istore_n 0, 1) := by decide +kernel
theorem dJ6_bitCount_0f7a4_10 : decode cJ6_bitCount_0f7a4 10 = .ok (.iload_n 0, 1) := by decide +kernel
theorem dJ6_bitCount_0f7a4_11 : decode cJ6_bitCount_0f7a4 11 = .ok (.ldc_w 266, 3) := by decide +kernel
theorem dJ6_bitCount_0f7a4_14 : decode cJ6_bitCount_0f7a4 14 = .ok (.iand, 1) := by decide +kernel
theorem dJ6_bitCount_0f7a4_15 : decode cJ6_bitCount_0f7a4 15 = .ok (.iload_n 0, 1) := by decide +kernel
theorem dJ6_bitCount_0f7a4_16 : decode cJ6_bitCount_0f7a4 16 = .ok (.iconst 2, 1) := by decide +kernel
theorem dJ6_bitCount_0f7a4_17 : decode cJ6_bitCount_0f7a4 17 = .ok (.iushr, 1) := by decide +kernel
theorem dJ6_bitCount_0f7a4_18 : decode cJ6_bitCount_0f7a4 18 = .ok (.ldc_w 266, 3) := by decide +kernel
theorem dJ6_bitCount_0f7a4_21 : decode cJ6_bitCount_0f7a4 21 = .ok (.iand, 1) := by decide +kernel
theorem dJ6_bitCount_0f7a4_22 : decode cJ6_bitCount_0f7a4 22 = .ok (.iadd, 1) := by decide +kernel
theorem dJ6_bitCount_0f7a4_23 : decode cJ6_bitCount_0f7a4 23 = .ok (.istore_n 0, 1) := by decide +kernel
theorem dJ6_bitCount_0f7a4_24 : decode cJ6_bitCount_0f7a4 24 = .ok (.iload_n 0, 1) := by decide +kernel
theorem dJ6_bitCount_0f7a4_25 : decode cJ6_bitCount_0f7a4 25 = .ok (.iload_n 0, 1) := by decide +kernel
theorem dJ6_bitCount_0f7a4_26 : decode cJ6_bitCount_0f7a4 26 = .ok (.iconst 4, 1) := by decide +kernel
theorem dJ6_bitCount_0f7a4_27 : decode cJ6_bitCount_0f7a4 27 = .ok (.iushr, 1) := by decide +kernel
theorem dJ6_bitCount_0f7a4_28 : decode cJ6_bitCount_0f7a4 28 = .ok (.iadd, 1) := by decide +kernel
theorem dJ6_bitCount_0f7a4_29 : decode cJ6_bitCount_0f7a4 29 = .ok (.ldc_w 267, 3) := by decide +kernel
theorem dJ6_bitCount_0f7a4_32 : decode cJ6_bitCount_0f7a4 32 = .ok (.iand, 1) := by decide +kernel
theorem dJ6_bitCount_0f7a4_33 : decode cJ6_bitCount_0f7a4 33 = .ok (.istore_n 0, 1) := by decide +kernel
theorem dJ6_bitCount_0f7a4_34 : decode cJ6_bitCount_0f7a4 34 = .ok (.iload_n 0, 1) := by decide +kernel
theorem dJ6_bitCount_0f7a4_35 : decode cJ6_bitCount_0f7a4 35 = .ok (.iload_n 0, 1) := by decide +kernel
theorem dJ6_bitCount_0f7a4_36 : decode cJ6_bitCount_0f7a4 36 = .ok (.bipush 8, 2) := by decide +kernel
theorem dJ6_bitCount_0f7a4_38 : decode cJ6_bitCount_0f7a4 38 = .ok (.iushr, 1) := by decide +kernel
theorem dJ6_bitCount_0f7a4_39 : decode cJ6_bitCount_0f7a4 39 = .ok (.iadd, 1) := by decide +kernel
theorem dJ6_bitCount_0f7a4_40 : decode cJ6_bitCount_0f7a4 40 = .ok (.istore_n 0, 1) := by decide +kernel
theorem dJ6_bitCount_0f7a4_41 : decode cJ6_bitCount_0f7a4 41 = .ok (.iload_n 0, 1) := by decide +kernel
theorem dJ6_bitCount_0f7a4_42 : decode cJ6_bitCount_0f7a4 42 = .ok (.iload_n 0, 1) := by decide +kernel
theorem dJ6_bitCount_0f7a4_43 : decode cJ6_bitCount_0f7a4 43 = .ok (.bipush 16, 2) := by decide +kernel
theorem dJ6_bitCount_0f7a4_45 : decode cJ6_bitCount_0f7a4 45 = .ok (.iushr, 1) := by decide +kernel
theorem dJ6_bitCount_0f7a4_46 : decode cJ6_bitCount_0f7a4 46 = .ok (.iadd, 1) := by decide +kernel
theorem dJ6_bitCount_0f7a4_47 : decode cJ6_bitCount_0f7a4 47 = .ok (.istore_n 0, 1) := by decide +kernel
theorem dJ6_bitCount_0f7a4_48 : decode cJ6_bitCount_0f7a4 48 = .ok (.iload_n 0, 1) := by decide +kernel
theorem dJ6_bitCount_0f7a4_49 : decode cJ6_bitCount_0f7a4 49 = .ok (.bipush 63, 2) := by decide +kernel
theorem dJ6_bitCount_0f7a4_51 : decode cJ6_bitCount_0f7a4 51 = .ok (.iand, 1) := by decide +kernel
theorem dJ6_bitCount_0f7a4_52 : decode cJ6_bitCount_0f7a4 52 = .ok (.ireturn, 1) := by decide +kernel
theorem dJ7_fill_53178_0 : decode cJ7_fill_53178 0 = .ok (.iconst 0, 1) := by decide +kernel
theorem dJ7_fill_53178_1 : decode cJ7_fill_53178 1 = .ok (.istore_n 2, 1) := by decide +kernel
theorem dJ7_fill_53178_2 : decode cJ7_fill_53178 2 = .ok (.aload_n 0, 1) := by decide +kernel
theorem dJ7_fill_53178_3 : decode cJ7_fill_53178 3 = .ok (.arraylength, 1) := by decide +kernel
theorem dJ7_fill_53178_4 : decode cJ7_fill_53178 4 = .ok (.istore_n 3, 1) := by decide +kernel
theorem dJ7_fill_53178_5 : decode cJ7_fill_53178 5 = .ok (.iload_n 2, 1) := by decide +kernel
theorem dJ7_fill_53178_6 : decode cJ7_fill_53178 6 = .ok (.iload_n 3, 1) := by decide +kernel
theorem dJ7_fill_53178_7 : decode cJ7_fill_53178 7 = .ok (.if_icmp .ge 13, 3) := by decide +kernel
theorem dJ7_fill_53178_10 : decode cJ7_fill_53178 10 = .ok (.aload_n 0, 1) := by decide +kernel
theorem dJ7_fill_53178_11 : decode cJ7_fill_53178 11 = .ok (.iload_n 2, 1) := by decide +kernel
theorem dJ7_fill_53178_12 : decode cJ7_fill_53178 12 = .ok (.iload_n 1, 1) := by decide +kernel
theorem dJ7_fill_53178_13 : decode cJ7_fill_53178 13 = .ok (.iastore, 1) := by decide +kernel
theorem dJ7_fill_53178_14 : decode cJ7_fill_53178 14 = .ok (.iinc 2 1, 3) := by decide +kernel
theorem dJ7_fill_53178_17 : decode cJ7_fill_53178 17 = .ok (.goto (-12), 3) := by decide +kernel
theorem dJ7_fill_53178_20 : decode cJ7_fill_53178 20 = .ok (.return_, 1) := by decide +kernel
theorem dJ7_fill_fb410_0 : decode cJ7_fill_fb410 0 = .ok (.iconst 0, 1) := by decide +kernel
theorem dJ7_fill_fb410_1 : decode cJ7_fill_fb410 1 = .ok (.istore_n 2, 1) := by decide +kernel
theorem dJ7_fill_fb410_2 : decode cJ7_fill_fb410 2 = .ok (.aload_n 0, 1) := by decide +kernel
theorem dJ7_fill_fb410_3 : decode cJ7_fill_fb410 3 = .ok (.arraylength, 1) := by decide +kernel
theorem dJ7_fill_fb410_4 : decode cJ7_fill_fb410 4 = .ok (.istore_n 3, 1) := by decide +kernel
theorem dJ7_fill_fb410_5 : decode cJ7_fill_fb410 5 = .ok (.iload_n 2, 1) := by decide +kernel
theorem dJ7_fill_fb410_6 : decode cJ7_fill_fb410 6 = .ok (.iload_n 3, 1) := by decide +kernel
theorem dJ7_fill_fb410_7 : decode cJ7_fill_fb410 7 = .ok (.if_icmp .ge 13, 3) := by decide +kernel
theorem dJ7_fill_fb410_10 : decode cJ7_fill_fb410 10 = .ok (.aload_n 0, 1) := by decide +kernel
theorem dJ7_fill_fb410_11 : decode cJ7_fill_fb410 11 = .ok (.iload_n 2, 1) := by decide +kernel
theorem dJ7_fill_fb410_12 : decode cJ7_fill_fb410 12 = .ok (.iload_n 1, 1) := by decide +kernel
theorem dJ7_fill_fb410_13 : decode cJ7_fill_fb410 13 = .ok (.sastore, 1) := by decide +kernel
theorem dJ7_fill_fb410_14 : decode cJ7_fill_fb410 14 = .ok (.iinc 2 1, 3) := by decide +kernel
theorem dJ7_fill_fb410_17 : decode cJ7_fill_fb410 17 = .ok (.goto (-12), 3) := by decide +kernel
theorem dJ7_fill_fb410_20 : decode cJ7_fill_fb410 20 = .ok (.return_, 1) := by decide +kernel
theorem dJ9_max_7cf53_0 : decode cJ9_max_7cf53 0 = .ok (.iload_n 0, 1) := by decide +kernel
theorem dJ9_max_7cf53_1 : decode cJ9_max_7cf53 1 = .ok (.iload_n 1, 1) := by decide +kernel
theorem dJ9_max_7cf53_2 : decode cJ9_max_7cf53 2 = .ok (.if_icmp .lt 7, 3) := by decide +kernel
theorem dJ9_max_7cf53_5 : decode cJ9_max_7cf53 5 = .ok (.iload_n 0, 1) := by decide +kernel
theorem dJ9_max_7cf53_6 : decode cJ9_max_7cf53 6 = .ok (.goto 4, 3) := by decide +kernel
theorem dJ9_max_7cf53_9 : decode cJ9_max_7cf53 9 = .ok (.iload_n 1, 1) := by decide +kernel
theorem dJ9_max_7cf53_10 : decode cJ9_max_7cf53 10 = .ok (.ireturn, 1) := by decide +kernel
theorem dJ9_min_7cf53_0 : decode cJ9_min_7cf53 0 = .ok (.iload_n 0, 1) := by decide +kernel
theorem dJ9_min_7cf53_1 : decode cJ9_min_7cf53 1 = .ok (.iload_n 1, 1) := by decide +kernel
theorem dJ9_min_7cf53_2 : decode cJ9_min_7cf53 2 = .ok (.if_icmp .gt 7, 3) := by decide +kernel
theorem dJ9_min_7cf53_5 : decode cJ9_min_7cf53 5 = .ok (.iload_n 0, 1) := by decide +kernel
theorem dJ9_min_7cf53_6 : decode cJ9_min_7cf53 6 = .ok (.goto 4, 3) := by decide +kernel
theorem dJ9_min_7cf53_9 : decode cJ9_min_7cf53 9 = .ok (.iload_n 1, 1) := by decide +kernel
theorem dJ9_min_7cf53_10 : decode cJ9_min_7cf53 10 = .ok (.ireturn, 1) := by decide +kernel
theorem dX0_has_0 : decode cX0_has 0 = .ok (.iload_n 1, 1) := by decide +kernel
theorem dX0_has_1 : decode cX0_has 1 = .ok (.ifCond .lt 15, 3) := by decide +kernel
theorem dX0_has_4 : decode cX0_has 4 = .ok (.iload_n 1, 1) := by decide +kernel
theorem dX0_has_5 : decode cX0_has 5 = .ok (.aload_n 0, 1) := by decide +kernel
theorem dX0_has_6 : decode cX0_has 6 = .ok (.getfield 41, 3) := by decide +kernel
theorem dX0_has_9 : decode cX0_has 9 = .ok (.if_icmp .ge 7, 3) := by decide +kernel
theorem dX0_has_12 : decode cX0_has 12 = .ok (.iconst 1, 1) := by decide +kernel
theorem dX0_has_13 : decode cX0_has 13 = .ok (.goto 4, 3) := by decide +kernel
theorem dX0_has_16 : decode cX0_has 16 = .ok (.iconst 0, 1) := by decide +kernel
theorem dX0_has_17 : decode cX0_has 17 = .ok (.ireturn, 1) := by decide +kernel
theorem dX0_takeFrom_0 : decode cX0_takeFrom 0 = .ok (.aload_n 0, 1) := by decide +kernel
theorem dX0_takeFrom_1 : decode cX0_takeFrom 1 = .ok (.aload_n 1, 1) := by decide +kernel
theorem dX0_takeFrom_2 : decode cX0_takeFrom 2 = .ok (.getfield 41, 3) := by decide +kernel
theorem dX0_takeFrom_5 : decode cX0_takeFrom 5 = .ok (.putfield 41, 3) := by decide +kernel
theorem dX0_takeFrom_8 : decode cX0_takeFrom 8 = .ok (.aload_n 1, 1) := by decide +kernel
theorem dX0_takeFrom_9 : decode cX0_takeFrom 9 = .ok (.getfield 9, 3) := by decide +kernel
theorem dX0_takeFrom_12 : decode cX0_takeFrom 12 = .ok (.aload_n 0, 1) := by decide +kernel
theorem dX0_takeFrom_13 : decode cX0_takeFrom 13 = .ok (.getfield 9, 3) := by decide +kernel
theorem dX0_takeFrom_16 : decode cX0_takeFrom 16 = .ok (.invokestatic 45, 3) := by decide +kernel
theorem dX0_takeFrom_19 : decode cX0_takeFrom 19 = .ok (.aload_n 1, 1) := by decide +kernel
theorem dX0_takeFrom_20 : decode cX0_takeFrom 20 = .ok (.getfield 15, 3) := by decide +kernel
theorem dX0_takeFrom_23 : decode cX0_takeFrom 23 = .ok (.aload_n 0, 1) := by decide +kernel
theorem dX0_takeFrom_24 : decode cX0_takeFrom 24 = .ok (.getfield 15, 3) := by decide +kernel
theorem dX0_takeFrom_27 : decode cX0_takeFrom 27 = .ok (.invokestatic 45, 3) := by decide +kernel
theorem dX0_takeFrom_30 : decode cX0_takeFrom 30 = .ok (.aload_n 1, 1) := by decide +kernel
theorem dX0_takeFrom_31 : decode cX0_takeFrom 31 = .ok (.getfield 18, 3) := by decide +kernel
theorem dX0_takeFrom_34 : decode cX0_takeFrom 34 = .ok (.aload_n 0, 1) := by decide +kernel
theorem dX0_takeFrom_35 : decode cX0_takeFrom 35 = .ok (.getfield 18, 3) := by decide +kernel
theorem dX0_takeFrom_38 : decode cX0_takeFrom 38 = .ok (.invokestatic 45, 3) := by decide +kernel
theorem dX0_takeFrom_41 : decode cX0_takeFrom 41 = .ok (.aload_n 1, 1) := by decide +kernel
theorem dX0_takeFrom_42 : decode cX0_takeFrom 42 = .ok (.getfield 21, 3) := by decide +kernel
theorem dX0_takeFrom_45 : decode cX0_takeFrom 45 = .ok (.aload_n 0, 1) := by decide +kernel
theorem dX0_takeFrom_46 : decode cX0_takeFrom 46 = .ok (.getfield 21, 3) := by decide +kernel
theorem dX0_takeFrom_49 : decode cX0_takeFrom 49 = .ok (.invokestatic 45, 3) := by decide +kernel
theorem dX0_takeFrom_52 : decode cX0_takeFrom 52 = .ok (.aload_n 1, 1) := by decide +kernel
theorem dX0_takeFrom_53 : decode cX0_takeFrom 53 = .ok (.getfield 24, 3) := by decide +kernel
theorem dX0_takeFrom_56 : decode cX0_takeFrom 56 = .ok (.aload_n 0, 1) := by decide +kernel
theorem dX0_takeFrom_57 : decode cX0_takeFrom 57 = .ok (.getfield 24, 3) := by decide +kernel
theorem dX0_takeFrom_60 : decode cX0_takeFrom 60 = .ok (.invokestatic 45, 3) := by decide +kernel
theorem dX0_takeFrom_63 : decode cX0_takeFrom 63 = .ok (.aload_n 1, 1) := by decide +kernel
theorem dX0_takeFrom_64 : decode cX0_takeFrom 64 = .ok (.getfield 29, 3) := by decide +kernel
theorem dX0_takeFrom_67 : decode cX0_takeFrom 67 = .ok (.aload_n 0, 1) := by decide +kernel
theorem dX0_takeFrom_68 : decode cX0_takeFrom 68 = .ok (.getfield 29, 3) := by decide +kernel
theorem dX0_takeFrom_71 : decode cX0_takeFrom 71 = .ok (.invokestatic 49, 3) := by decide +kernel
theorem dX0_takeFrom_74 : decode cX0_takeFrom 74 = .ok (.aload_n 1, 1) := by decide +kernel
theorem dX0_takeFrom_75 : decode cX0_takeFrom 75 = .ok (.getfield 32, 3) := by decide +kernel
theorem dX0_takeFrom_78 : decode cX0_takeFrom 78 = .ok (.aload_n 0, 1) := by decide +kernel
theorem dX0_takeFrom_79 : decode cX0_takeFrom 79 = .ok (.getfield 32, 3) := by decide +kernel
theorem dX0_takeFrom_82 : decode cX0_takeFrom 82 = .ok (.invokestatic 49, 3) := by decide +kernel
theorem dX0_takeFrom_85 : decode cX0_takeFrom 85 = .ok (.return_, 1) := by decide +kernel
theorem dX10_gather_0 : decode cX10_gather 0 = .ok (.iconst 0, 1) := by decide +kernel
theorem dX10_gather_1 : decode cX10_gather 1 = .ok (.istore_n 1, 1) := by decide +kernel
theorem dX10_gather_2 : decode cX10_gather 2 = .ok (.iload_n 1, 1) := by decide +kernel
theorem dX10_gather_3 : decode cX10_gather 3 = .ok (.aload_n 0, 1) := by decide +kernel
theorem dX10_gather_4 : decode cX10_gather 4 = .ok (.getfield 19, 3) := by decide +kernel
theorem dX10_gather_7 : decode cX10_gather 7 = .ok (.getfield 23, 3) := by decide +kernel
theorem dX10_gather_10 : decode cX10_gather 10 = .ok (.getfield 29, 3) := by decide +kernel
theorem dX10_gather_13 : decode cX10_gather 13 = .ok (.if_icmp .ge 86, 3) := by decide +kernel
theorem dX10_gather_16 : decode cX10_gather 16 = .ok (.aload_n 0, 1) := by decide +kernel
theorem dX10_gather_17 : decode cX10_gather 17 = .ok (.getfield 19, 3) := by decide +kernel
theorem dX10_gather_20 : decode cX10_gather 20 = .ok (.iload_n 1, 1) := by decide +kernel
theorem dX10_gather_21 : decode cX10_gather 21 = .ok (.invokevirtual 35, 3) := by decide +kernel
theorem dX10_gather_24 : decode cX10_gather 24 = .ok (.istore_n 2, 1) := by decide +kernel
theorem dX10_gather_25 : decode cX10_gather 25 = .ok (.aload_n 0, 1) := by decide +kernel
theorem dX10_gather_26 : decode cX10_gather 26 = .ok (.getfield 11, 3) := by decide +kernel
theorem dX10_gather_29 : decode cX10_gather 29 = .ok (.iload_n 1, 1) := by decide +kernel
theorem dX10_gather_30 : decode cX10_gather 30 = .ok (.aaload, 1) := by decide +kernel
theorem dX10_gather_31 : decode cX10_gather 31 = .ok (.iconst 0, 1) := by decide +kernel
theorem dX10_gather_32 : decode cX10_gather 32 = .ok (.invokestatic 39, 3) := by decide +kernel
theorem dX10_gather_35 : decode cX10_gather 35 = .ok (.iconst 0, 1) := by decide +kernel
theorem dX10_gather_36 : decode cX10_gather 36 = .ok (.istore_n 3, 1) := by decide +kernel
theorem dX10_gather_37 : decode cX10_gather 37 = .ok (.iload_n 3, 1) := by decide +kernel
theorem dX10_gather_38 : decode cX10_gather 38 = .ok (.aload_n 0, 1) := by decide +kernel
theorem dX10_gather_39 : decode cX10_gather 39 = .ok (.getfield 19, 3) := by decide +kernel
theorem dX10_gather_42 : decode cX10_gather 42 = .ok (.getfield 45, 3) := by decide +kernel
theorem dX10_gather_45 : decode cX10_gather 45 = .ok (.getfield 49, 3) := by decide +kernel
theorem dX10_gather_48 : decode cX10_gather 48 = .ok (.if_icmp .ge 45, 3) := by decide +kernel
theorem dX10_gather_51 : decode cX10_gather 51 = .ok (.aload_n 0, 1) := by decide +kernel
theorem dX10_gather_52 : decode cX10_gather 52 = .ok (.getfield 19, 3) := by decide +kernel
theorem dX10_gather_55 : decode cX10_gather 55 = .ok (.iload_n 1, 1) := by decide +kernel
theorem dX10_gather_56 : decode cX10_gather 56 = .ok (.iload_n 2, 1) := by decide +kernel
theorem dX10_gather_57 : decode cX10_gather 57 = .ok (.iload_n 3, 1) := by decide +kernel
theorem dX10_gather_58 : decode cX10_gather 58 = .ok (.invokevirtual 52, 3) := by decide +kernel
theorem dX10_gather_61 : decode cX10_gather 61 = .ok (.ifCond .le 26, 3) := by decide +kernel
theorem dX10_gather_64 : decode cX10_gather 64 = .ok (.aload_n 0, 1) := by decide +kernel
theorem dX10_gather_65 : decode cX10_gather 65 = .ok (.getfield 11, 3) := by decide +kernel
theorem dX10_gather_68 : decode cX10_gather 68 = .ok (.iload_n 1, 1) := by decide +kernel
theorem dX10_gather_69 : decode cX10_gather 69 = .ok (.aaload, 1) := by decide +kernel
theorem dX10_gather_70 : decode cX10_gather 70 = .ok (.aload_n 0, 1) := by decide +kernel
theorem dX10_gather_71 : decode cX10_gather 71 = .ok (.getfield 19, 3) := by decide +kernel
theorem dX10_gather_74 : decode cX10_gather 74 = .ok (.getfield 45, 3) := by decide +kernel
theorem dX10_gather_77 : decode cX10_gather 77 = .ok (.getfield 56, 3) := by decide +kernel
theorem dX10_gather_80 : decode cX10_gather 80 = .ok (.iload_n 3, 1) := by decide +kernel
theorem dX10_gather_81 : decode cX10_gather 81 = .ok (.iaload, 1) := by decide +kernel
theorem dX10_gather_82 : decode cX10_gather 82 = .ok (.dup2, 1) := by decide +kernel
theorem dX10_gather_83 : decode cX10_gather 83 = .ok (.iaload, 1) := by decide +kernel
theorem dX10_gather_84 : decode cX10_gather 84 = .ok (.iconst 1, 1) := by decide +kernel
theorem dX10_gather_85 : decode cX10_gather 85 = .ok (.iadd, 1) := by decide +kernel
theorem dX10_gather_86 : decode cX10_gather 86 = .ok (.iastore, 1) := by decide +kernel
theorem dX10_gather_87 : decode cX10_gather 87 = .ok (.iinc 3 1, 3) := by decide +kernel
theorem dX10_gather_90 : decode cX10_gather 90 = .ok (.goto (-53), 3) := by decide +kernel
theorem dX10_gather_93 : decode cX10_gather 93 = .ok (.iinc 1 1, 3) := by decide +kernel
theorem dX10_gather_96 : decode cX10_gather 96 = .ok (.goto (-94), 3) := by decide +kernel
theorem dX10_gather_99 : decode cX10_gather 99 = .ok (.return_, 1) := by decide +kernel
theorem dX10_picksOf_0 : decode cX10_picksOf 0 = .ok (.aload_n 0, 1) := by decide +kernel
theorem dX10_picksOf_1 : decode cX10_picksOf 1 = .ok (.invokevirtual 60, 3) := by decide +kernel
theorem dX10_picksOf_4 : decode cX10_picksOf 4 = .ok (.iconst 0, 1) := by decide +kernel
theorem dX10_picksOf_5 : decode cX10_picksOf 5 = .ok (.istore 4, 2) := by decide +kernel
theorem dX10_picksOf_7 : decode cX10_picksOf 7 = .ok (.iconst 0, 1) := by decide +kernel
theorem dX10_picksOf_8 : decode cX10_picksOf 8 = .ok (.istore 5, 2) := by decide +kernel
theorem dX10_picksOf_10 : decode cX10_picksOf 10 = .ok (.iload 5, 2) := by decide +kernel
theorem dX10_picksOf_12 : decode cX10_picksOf 12 = .ok (.aload_n 0, 1) := by decide +kernel
theorem dX10_picksOf_13 : decode cX10_picksOf 13 = .ok (.getfield 19, 3) := by decide +kernel
theorem dX10_picksOf_16 : decode cX10_picksOf 16 = .ok (.getfield 23, 3) := by decide +kernel
theorem dX10_picksOf_19 : decode cX10_picksOf 19 = .ok (.getfield 29, 3) := by decide +kernel
theorem dX10_picksOf_22 : decode cX10_picksOf 22 = .ok (.if_icmp .ge 42, 3) := by decide +kernel
theorem dX10_picksOf_25 : decode cX10_picksOf 25 = .ok (.iload_n 3, 1) := by decide +kernel
theorem dX10_picksOf_26 : decode cX10_picksOf 26 = .ok (.iload 5, 2) := by decide +kernel
theorem dX10_picksOf_28 : decode cX10_picksOf 28 = .ok (.invokestatic 63, 3) := by decide +kernel
theorem dX10_picksOf_31 : decode cX10_picksOf 31 = .ok (.iload_n 2, 1) := by decide +kernel
theorem dX10_picksOf_32 : decode cX10_picksOf 32 = .ok (.iconst 1, 1) := by decide +kernel
theorem dX10_picksOf_33 : decode cX10_picksOf 33 = .ok (.if_icmp .ne 7, 3) := by decide +kernel
theorem dX10_picksOf_36 : decode cX10_picksOf 36 = .ok (.iconst 1, 1) := by decide +kernel
theorem dX10_picksOf_37 : decode cX10_picksOf 37 = .ok (.goto 4, 3) := by decide +kernel
theorem dX10_picksOf_40 : decode cX10_picksOf 40 = .ok (.iconst 0, 1) := by decide +kernel
theorem dX10_picksOf_41 : decode cX10_picksOf 41 = .ok (.if_icmp .ne 17, 3) := by decide +kernel
theorem dX10_picksOf_44 : decode cX10_picksOf 44 = .ok (.iload 4, 2) := by decide +kernel
theorem dX10_picksOf_46 : decode cX10_picksOf 46 = .ok (.aload_n 0, 1) := by decide +kernel
theorem dX10_picksOf_47 : decode cX10_picksOf 47 = .ok (.getfield 11, 3) := by decide +kernel
theorem dX10_picksOf_50 : decode cX10_picksOf 50 = .ok (.iload 5, 2) := by decide +kernel
theorem dX10_picksOf_52 : decode cX10_picksOf 52 = .ok (.aaload, 1) := by decide +kernel
theorem dX10_picksOf_53 : decode cX10_picksOf 53 = .ok (.iload_n 1, 1) := by decide +kernel
theorem dX10_picksOf_54 : decode cX10_picksOf 54 = .ok (.iaload, 1) := by decide +kernel
theorem dX10_picksOf_55 : decode cX10_picksOf 55 = .ok (.iadd, 1) := by decide +kernel
theorem dX10_picksOf_56 : decode cX10_picksOf 56 = .ok (.istore 4, 2) := by decide +kernel
theorem dX10_picksOf_58 : decode cX10_picksOf 58 = .ok (.iinc 5 1, 3) := by decide +kernel
theorem dX10_picksOf_61 : decode cX10_picksOf 61 = .ok (.goto (-51), 3) := by decide +kernel
theorem dX10_picksOf_64 : decode cX10_picksOf 64 = .ok (.iload 4, 2) := by decide +kernel
theorem dX10_picksOf_66 : decode cX10_picksOf 66 = .ok (.ireturn, 1) := by decide +kernel
theorem dX10_seekFrom_0 : decode cX10_seekFrom 0 = .ok (.iload_n 3, 1) := by decide +kernel
theorem dX10_seekFrom_1 : decode cX10_seekFrom 1 = .ok (.aload_n 0, 1) := by decide +kernel
theorem dX10_seekFrom_2 : decode cX10_seekFrom 2 = .ok (.getfield 67, 3) := by decide +kernel
theorem dX10_seekFrom_5 : decode cX10_seekFrom 5 = .ok (.if_icmp .lt 4, 3) := by decide +kernel
theorem dX10_seekFrom_8 : decode cX10_seekFrom 8 = .ok (.return_, 1) := by decide +kernel
theorem dX10_seekFrom_9 : decode cX10_seekFrom 9 = .ok (.iload_n 1, 1) := by decide +kernel
theorem dX10_seekFrom_10 : decode cX10_seekFrom 10 = .ok (.ifCond .ge 14, 3) := by decide +kernel
theorem dX10_seekFrom_13 : decode cX10_seekFrom 13 = .ok (.aload_n 0, 1) := by decide +kernel
theorem dX10_seekFrom_14 : decode cX10_seekFrom 14 = .ok (.iload_n 3, 1) := by decide +kernel
theorem dX10_seekFrom_15 : decode cX10_seekFrom 15 = .ok (.putfield 67, 3) := by decide +kernel
theorem dX10_seekFrom_18 : decode cX10_seekFrom 18 = .ok (.aload_n 0, 1) := by decide +kernel
theorem dX10_seekFrom_19 : decode cX10_seekFrom 19 = .ok (.iload_n 2, 1) := by decide +kernel
theorem dX10_seekFrom_20 : decode cX10_seekFrom 20 = .ok (.putfield 70, 3) := by decide +kernel
theorem dX10_seekFrom_23 : decode cX10_seekFrom 23 = .ok (.return_, 1) := by decide +kernel
theorem dX10_seekFrom_24 : decode cX10_seekFrom 24 = .ok (.iconst 0, 1) := by decide +kernel
theorem dX10_seekFrom_25 : decode cX10_seekFrom 25 = .ok (.istore 4, 2) := by decide +kernel
theorem dX10_seekFrom_27 : decode cX10_seekFrom 27 = .ok (.iload 4, 2) := by decide +kernel
theorem dX10_seekFrom_29 : decode cX10_seekFrom 29 = .ok (.iconst 2, 1) := by decide +kernel
theorem dX10_seekFrom_30 : decode cX10_seekFrom 30 = .ok (.if_icmp .ge 118, 3) := by decide +kernel
theorem dX10_seekFrom_33 : decode cX10_seekFrom 33 = .ok (.iload_n 3, 1) := by decide +kernel
theorem dX10_seekFrom_34 : decode cX10_seekFrom 34 = .ok (.istore 5, 2) := by decide +kernel
theorem dX10_seekFrom_36 : decode cX10_seekFrom 36 = .ok (.iconst 0, 1) := by decide +kernel
theorem dX10_seekFrom_37 : decode cX10_seekFrom 37 = .ok (.istore 6, 2) := by decide +kernel
theorem dX10_seekFrom_39 : decode cX10_seekFrom 39 = .ok (.iload 6, 2) := by decide +kernel
theorem dX10_seekFrom_41 : decode cX10_seekFrom 41 = .ok (.iconst 4, 1) := by decide +kernel
theorem dX10_seekFrom_42 : decode cX10_seekFrom 42 = .ok (.if_icmp .ge 48, 3) := by decide +kernel
theorem dX10_seekFrom_45 : decode cX10_seekFrom 45 = .ok (.aload_n 0, 1) := by decide +kernel
theorem dX10_seekFrom_46 : decode cX10_seekFrom 46 = .ok (.getfield 16, 3) := by decide +kernel
theorem dX10_seekFrom_49 : decode cX10_seekFrom 49 = .ok (.iload 4, 2) := by decide +kernel
theorem dX10_seekFrom_51 : decode cX10_seekFrom 51 = .ok (.aaload, 1) := by decide +kernel
theorem dX10_seekFrom_52 : decode cX10_seekFrom 52 = .ok (.iload 6, 2) := by decide +kernel
theorem dX10_seekFrom_54 : decode cX10_seekFrom 54 = .ok (.dup2, 1) := by decide +kernel
theorem dX10_seekFrom_55 : decode cX10_seekFrom 55 = .ok (.iaload, 1) := by decide +kernel
theorem dX10_seekFrom_56 : decode cX10_seekFrom 56 = .ok (.aload_n 0, 1) := by decide +kernel
theorem dX10_seekFrom_57 : decode cX10_seekFrom 57 = .ok (.getfield 11, 3) := by decide +kernel
theorem dX10_seekFrom_60 : decode cX10_seekFrom 60 = .ok (.iload_n 1, 1) := by decide +kernel
theorem dX10_seekFrom_61 : decode cX10_seekFrom 61 = .ok (.aaload, 1) := by decide +kernel
theorem dX10_seekFrom_62 : decode cX10_seekFrom 62 = .ok (.iload 6, 2) := by decide +kernel
theorem dX10_seekFrom_64 : decode cX10_seekFrom 64 = .ok (.iaload, 1) := by decide +kernel
theorem dX10_seekFrom_65 : decode cX10_seekFrom 65 = .ok (.iadd, 1) := by decide +kernel
theorem dX10_seekFrom_66 : decode cX10_seekFrom 66 = .ok (.iastore, 1) := by decide +kernel
theorem dX10_seekFrom_67 : decode cX10_seekFrom 67 = .ok (.iload 5, 2) := by decide +kernel
theorem dX10_seekFrom_69 : decode cX10_seekFrom 69 = .ok (.aload_n 0, 1) := by decide +kernel
theorem dX10_seekFrom_70 : decode cX10_seekFrom 70 = .ok (.getfield 16, 3) := by decide +kernel
theorem dX10_seekFrom_73 : decode cX10_seekFrom 73 = .ok (.iload 4, 2) := by decide +kernel
theorem dX10_seekFrom_75 : decode cX10_seekFrom 75 = .ok (.aaload, 1) := by decide +kernel
theorem dX10_seekFrom_76 : decode cX10_seekFrom 76 = .ok (.iload 6, 2) := by decide +kernel
theorem dX10_seekFrom_78 : decode cX10_seekFrom 78 = .ok (.iaload, 1) := by decide +kernel
theorem dX10_seekFrom_79 : decode cX10_seekFrom 79 = .ok (.invokestatic 77, 3) := by decide +kernel
theorem dX10_seekFrom_82 : decode cX10_seekFrom 82 = .ok (.istore 5, 2) := by decide +kernel
theorem dX10_seekFrom_84 : decode cX10_seekFrom 84 = .ok (.iinc 6 1, 3) := by decide +kernel
theorem dX10_seekFrom_87 : decode cX10_seekFrom 87 = .ok (.goto (-48), 3) := by decide +kernel
theorem dX10_seekFrom_90 : decode cX10_seekFrom 90 = .ok (.aload_n 0, 1) := by decide +kernel
theorem dX10_seekFrom_91 : decode cX10_seekFrom 91 = .ok (.iload_n 1, 1) := by decide +kernel
theorem dX10_seekFrom_92 : decode cX10_seekFrom 92 = .ok (.iconst 1, 1) := by decide +kernel
theorem dX10_seekFrom_93 : decode cX10_seekFrom 93 = .ok (.isub, 1) := by decide +kernel
theorem dX10_seekFrom_94 : decode cX10_seekFrom 94 = .ok (.iload_n 2, 1) := by decide +kernel
theorem dX10_seekFrom_95 : decode cX10_seekFrom 95 = .ok (.iload 4, 2) := by decide +kernel
theorem dX10_seekFrom_97 : decode cX10_seekFrom 97 = .ok (.iload_n 1, 1) := by decide +kernel
theorem dX10_seekFrom_98 : decode cX10_seekFrom 98 = .ok (.ishl, 1) := by decide +kernel
theorem dX10_seekFrom_99 : decode cX10_seekFrom 99 = .ok (.ior, 1) := by decide +kernel
theorem dX10_seekFrom_100 : decode cX10_seekFrom 100 = .ok (.iload 5, 2) := by decide +kernel
theorem dX10_seekFrom_102 : decode cX10_seekFrom 102 = .ok (.invokevirtual 73, 3) := by decide +kernel
theorem dX10_seekFrom_105 : decode cX10_seekFrom 105 = .ok (.iconst 0, 1) := by decide +kernel
theorem dX10_seekFrom_106 : decode cX10_seekFrom 106 = .ok (.istore 6, 2) := by decide +kernel
theorem dX10_seekFrom_108 : decode cX10_seekFrom 108 = .ok (.iload 6, 2) := by decide +kernel
theorem dX10_seekFrom_110 : decode cX10_seekFrom 110 = .ok (.iconst 4, 1) := by decide +kernel
theorem dX10_seekFrom_111 : decode cX10_seekFrom 111 = .ok (.if_icmp .ge 31, 3) := by decide +kernel
theorem dX10_seekFrom_114 : decode cX10_seekFrom 114 = .ok (.aload_n 0, 1) := by decide +kernel
theorem dX10_seekFrom_115 : decode cX10_seekFrom 115 = .ok (.getfield 16, 3) := by decide +kernel
theorem dX10_seekFrom_118 : decode cX10_seekFrom 118 = .ok (.iload 4, 2) := by decide +kernel
theorem dX10_seekFrom_120 : decode cX10_seekFrom 120 = .ok (.aaload, 1) := by decide +kernel
theorem dX10_seekFrom_121 : decode cX10_seekFrom 121 = .ok (.iload 6, 2) := by decide +kernel
theorem dX10_seekFrom_123 : decode cX10_seekFrom 123 = .ok (.dup2, 1) := by decide +kernel
theorem dX10_seekFrom_124 : decode cX10_seekFrom 124 = .ok (.iaload, 1) := by decide +kernel
theorem dX10_seekFrom_125 : decode cX10_seekFrom 125 = .ok (.aload_n 0, 1) := by decide +kernel
theorem dX10_seekFrom_126 : decode cX10_seekFrom 126 = .ok (.getfield 11, 3) := by decide +kernel
theorem dX10_seekFrom_129 : decode cX10_seekFrom 129 = .ok (.iload_n 1, 1) := by decide +kernel
theorem dX10_seekFrom_130 : decode cX10_seekFrom 130 = .ok (.aaload, 1) := by decide +kernel
theorem dX10_seekFrom_131 : decode cX10_seekFrom 131 = .ok (.iload 6, 2) := by decide +kernel
theorem dX10_seekFrom_133 : decode cX10_seekFrom 133 = .ok (.iaload, 1) := by decide +kernel
theorem dX10_seekFrom_134 : decode cX10_seekFrom 134 = .ok (.isub, 1) := by decide +kernel
theorem dX10_seekFrom_135 : decode cX10_seekFrom 135 = .ok (.iastore, 1) := by decide +kernel
theorem dX10_seekFrom_136 : decode cX10_seekFrom 136 = .ok (.iinc 6 1, 3) := by decide +kernel
theorem dX10_seekFrom_139 : decode cX10_seekFrom 139 = .ok (.goto (-31), 3) := by decide +kernel
theorem dX10_seekFrom_142 : decode cX10_seekFrom 142 = .ok (.iinc 4 1, 3) := by decide +kernel
theorem dX10_seekFrom_145 : decode cX10_seekFrom 145 = .ok (.goto (-118), 3) := by decide +kernel
theorem dX10_seekFrom_148 : decode cX10_seekFrom 148 = .ok (.return_, 1) := by decide +kernel
theorem dX10_seek_0 : decode cX10_seek 0 = .ok (.aload_n 0, 1) := by decide +kernel
theorem dX10_seek_1 : decode cX10_seek 1 = .ok (.invokevirtual 60, 3) := by decide +kernel
theorem dX10_seek_4 : decode cX10_seek 4 = .ok (.aload_n 0, 1) := by decide +kernel
theorem dX10_seek_5 : decode cX10_seek 5 = .ok (.sipush 169, 3) := by decide +kernel
theorem dX10_seek_8 : decode cX10_seek 8 = .ok (.putfield 67, 3) := by decide +kernel
theorem dX10_seek_11 : decode cX10_seek 11 = .ok (.aload_n 0, 1) := by decide +kernel
theorem dX10_seek_12 : decode cX10_seek 12 = .ok (.iconst 0, 1) := by decide +kernel
theorem dX10_seek_13 : decode cX10_seek 13 = .ok (.putfield 70, 3) := by decide +kernel
theorem dX10_seek_16 : decode cX10_seek 16 = .ok (.aload_n 0, 1) := by decide +kernel
theorem dX10_seek_17 : decode cX10_seek 17 = .ok (.aload_n 0, 1) := by decide +kernel
theorem dX10_seek_18 : decode cX10_seek 18 = .ok (.getfield 19, 3) := by decide +kernel
theorem dX10_seek_21 : decode cX10_seek 21 = .ok (.getfield 23, 3) := by decide +kernel
theorem dX10_seek_24 : decode cX10_seek 24 = .ok (.getfield 29, 3) := by decide +kernel
theorem dX10_seek_27 : decode cX10_seek 27 = .ok (.iconst 1, 1) := by decide +kernel
theorem dX10_seek_28 : decode cX10_seek 28 = .ok (.isub, 1) := by decide +kernel
theorem dX10_seek_29 : decode cX10_seek 29 = .ok (.iconst 0, 1) := by decide +kernel
theorem dX10_seek_30 : decode cX10_seek 30 = .ok (.iconst 0, 1) := by decide +kernel
theorem dX10_seek_31 : decode cX10_seek 31 = .ok (.invokevirtual 73, 3) := by decide +kernel
theorem dX10_seek_34 : decode cX10_seek 34 = .ok (.return_, 1) := by decide +kernel
theorem dX11_about_0 : decode cX11_about 0 = .ok (.aload_n 0, 1) := by decide +kernel
theorem dX11_about_1 : decode cX11_about 1 = .ok (.getfield 10, 3) := by decide +kernel
theorem dX11_about_4 : decode cX11_about 4 = .ok (.getfield 96, 3) := by decide +kernel
theorem dX11_about_7 : decode cX11_about 7 = .ok (.iload_n 1, 1) := by decide +kernel
theorem dX11_about_8 : decode cX11_about 8 = .ok (.invokevirtual 109, 3) := by decide +kernel
theorem dX11_about_11 : decode cX11_about 11 = .ok (.ifCond .ne 6, 3) := by decide +kernel
theorem dX11_about_14 : decode cX11_about 14 = .ok (.ldc 61, 2) := by decide +kernel
theorem dX11_about_16 : decode cX11_about 16 = .ok (.ireturn, 1) := by decide +kernel
theorem dX11_about_17 : decode cX11_about 17 = .ok (.iload_n 2, 1) := by decide +kernel
theorem dX11_about_18 : decode cX11_about 18 = .ok (.tableswitch 122 0 6 #[42, 55, 68, 77, 86, 98, 110], 42) := by decide +kernel
theorem dX11_about_60 : decode cX11_about 60 = .ok (.aload_n 0, 1) := by decide +kernel
theorem dX11_about_61 : decode cX11_about 61 = .ok (.getfield 10, 3) := by decide +kernel
theorem dX11_about_64 : decode cX11_about 64 = .ok (.getfield 96, 3) := by decide +kernel
theorem dX11_about_67 : decode cX11_about 67 = .ok (.getfield 103, 3) := by decide +kernel
theorem dX11_about_70 : decode cX11_about 70 = .ok (.iload_n 1, 1) := by decide +kernel
theorem dX11_about_71 : decode cX11_about 71 = .ok (.iaload, 1) := by decide +kernel
theorem dX11_about_72 : decode cX11_about 72 = .ok (.ireturn, 1) := by decide +kernel
theorem dX11_about_73 : decode cX11_about 73 = .ok (.aload_n 0, 1) := by decide +kernel
theorem dX11_about_74 : decode cX11_about 74 = .ok (.getfield 10, 3) := by decide +kernel
theorem dX11_about_77 : decode cX11_about 77 = .ok (.getfield 96, 3) := by decide +kernel
theorem dX11_about_80 : decode cX11_about 80 = .ok (.getfield 106, 3) := by decide +kernel
theorem dX11_about_83 : decode cX11_about 83 = .ok (.iload_n 1, 1) := by decide +kernel
theorem dX11_about_84 : decode cX11_about 84 = .ok (.iaload, 1) := by decide +kernel
theorem dX11_about_85 : decode cX11_about 85 = .ok (.ireturn, 1) := by decide +kernel
theorem dX11_about_86 : decode cX11_about 86 = .ok (.aload_n 0, 1) := by decide +kernel
theorem dX11_about_87 : decode cX11_about 87 = .ok (.getfield 10, 3) := by decide +kernel
theorem dX11_about_90 : decode cX11_about 90 = .ok (.iload_n 1, 1) := by decide +kernel
theorem dX11_about_91 : decode cX11_about 91 = .ok (.invokevirtual 132, 3) := by decide +kernel
theorem dX11_about_94 : decode cX11_about 94 = .ok (.ireturn, 1) := by decide +kernel
theorem dX11_about_95 : decode cX11_about 95 = .ok (.aload_n 0, 1) := by decide +kernel
theorem dX11_about_96 : decode cX11_about 96 = .ok (.getfield 10, 3) := by decide +kernel
theorem dX11_about_99 : decode cX11_about 99 = .ok (.iload_n 1, 1) := by decide +kernel
theorem dX11_about_100 : decode cX11_about 100 = .ok (.invokevirtual 135, 3) := by decide +kernel
theorem dX11_about_103 : decode cX11_about 103 = .ok (.ireturn, 1) := by decide +kernel
theorem dX11_about_104 : decode cX11_about 104 = .ok (.aload_n 0, 1) := by decide +kernel
theorem dX11_about_105 : decode cX11_about 105 = .ok (.getfield 10, 3) := by decide +kernel
theorem dX11_about_108 : decode cX11_about 108 = .ok (.getfield 96, 3) := by decide +kernel
theorem dX11_about_111 : decode cX11_about 111 = .ok (.iload_n 1, 1) := by decide +kernel
theorem dX11_about_112 : decode cX11_about 112 = .ok (.invokevirtual 128, 3) := by decide +kernel
theorem dX11_about_115 : decode cX11_about 115 = .ok (.ireturn, 1) := by decide +kernel
theorem dX11_about_116 : decode cX11_about 116 = .ok (.aload_n 0, 1) := by decide +kernel
theorem dX11_about_117 : decode cX11_about 117 = .ok (.getfield 10, 3) := by decide +kernel
theorem dX11_about_120 : decode cX11_about 120 = .ok (.getfield 96, 3) := by decide +kernel
theorem dX11_about_123 : decode cX11_about 123 = .ok (.iload_n 1, 1) := by decide +kernel
theorem dX11_about_124 : decode cX11_about 124 = .ok (.invokevirtual 138, 3) := by decide +kernel
theorem dX11_about_127 : decode cX11_about 127 = .ok (.ireturn, 1) := by decide +kernel
theorem dX11_about_128 : decode cX11_about 128 = .ok (.aload_n 0, 1) := by decide +kernel
theorem dX11_about_129 : decode cX11_about 129 = .ok (.getfield 10, 3) := by decide +kernel
theorem dX11_about_132 : decode cX11_about 132 = .ok (.iload_n 1, 1) := by decide +kernel
theorem dX11_about_133 : decode cX11_about 133 = .ok (.invokevirtual 141, 3) := by decide +kernel
theorem dX11_about_136 : decode cX11_about 136 = .ok (.invokestatic 114, 3) := by decide +kernel
theorem dX11_about_139 : decode cX11_about 139 = .ok (.ireturn, 1) := by decide +kernel
theorem dX11_about_140 : decode cX11_about 140 = .ok (.ldc 61, 2) := by decide +kernel
theorem dX11_about_142 : decode cX11_about 142 = .ok (.ireturn, 1) := by decide +kernel
theorem dX11_back_0 : decode cX11_back 0 = .ok (.aload_n 0, 1) := by decide +kernel
theorem dX11_back_1 : decode cX11_back 1 = .ok (.getfield 361, 3) := by decide +kernel
theorem dX11_back_4 : decode cX11_back 4 = .ok (.ifnonnull 6, 3) := by decide +kernel
theorem dX11_back_7 : decode cX11_back 7 = .ok (.ldc 124, 2) := by decide +kernel
theorem dX11_back_9 : decode cX11_back 9 = .ok (.ireturn, 1) := by decide +kernel
theorem dX11_back_10 : decode cX11_back 10 = .ok (.aload_n 0, 1) := by decide +kernel
theorem dX11_back_11 : decode cX11_back 11 = .ok (.getfield 10, 3) := by decide +kernel
theorem dX11_back_14 : decode cX11_back 14 = .ok (.aload_n 0, 1) := by decide +kernel
theorem dX11_back_15 : decode cX11_back 15 = .ok (.getfield 361, 3) := by decide +kernel
theorem dX11_back_18 : decode cX11_back 18 = .ok (.invokevirtual 364, 3) := by decide +kernel
theorem dX11_back_21 : decode cX11_back 21 = .ok (.aload_n 0, 1) := by decide +kernel
theorem dX11_back_22 : decode cX11_back 22 = .ok (.getfield 10, 3) := by decide +kernel
theorem dX11_back_25 : decode cX11_back 25 = .ok (.getfield 203, 3) := by decide +kernel
theorem dX11_back_28 : decode cX11_back 28 = .ok (.ireturn, 1) := by decide +kernel
theorem dX11_best_0 : decode cX11_best 0 = .ok (.iload_n 1, 1) := by decide +kernel
theorem dX11_best_1 : decode cX11_best 1 = .ok (.iconst 1, 1) := by decide +kernel
theorem dX11_best_2 : decode cX11_best 2 = .ok (.iconst 4, 1) := by decide +kernel
theorem dX11_best_3 : decode cX11_best 3 = .ok (.invokestatic 57, 3) := by decide +kernel
theorem dX11_best_6 : decode cX11_best 6 = .ok (.ifCond .eq 14, 3) := by decide +kernel
theorem dX11_best_9 : decode cX11_best 9 = .ok (.iload_n 2, 1) := by decide +kernel
theorem dX11_best_10 : decode cX11_best 10 = .ok (.iconst 1, 1) := by decide +kernel
theorem dX11_best_11 : decode cX11_best 11 = .ok (.sipush 2000, 3) := by decide +kernel
theorem dX11_best_14 : decode cX11_best 14 = .ok (.invokestatic 57, 3) := by decide +kernel
theorem dX11_best_17 : decode cX11_best 17 = .ok (.ifCond .ne 6, 3) := by decide +kernel
theorem dX11_best_20 : decode cX11_best 20 = .ok (.ldc 61, 2) := by decide +kernel
theorem dX11_best_22 : decode cX11_best 22 = .ok (.ireturn, 1) := by decide +kernel
theorem dX11_best_23 : decode cX11_best 23 = .ok (.aload_n 0, 1) := by decide +kernel
theorem dX11_best_24 : decode cX11_best 24 = .ok (.getfield 28, 3) := by decide +kernel
theorem dX11_best_27 : decode cX11_best 27 = .ok (.iload_n 1, 1) := by decide +kernel
theorem dX11_best_28 : decode cX11_best 28 = .ok (.iload_n 2, 1) := by decide +kernel
theorem dX11_best_29 : decode cX11_best 29 = .ok (.invokevirtual 265, 3) := by decide +kernel
theorem dX11_best_32 : decode cX11_best 32 = .ok (.istore_n 3, 1) := by decide +kernel
theorem dX11_best_33 : decode cX11_best 33 = .ok (.iload_n 3, 1) := by decide +kernel
theorem dX11_best_34 : decode cX11_best 34 = .ok (.ifCond .ne 13, 3) := by decide +kernel
theorem dX11_best_37 : decode cX11_best 37 = .ok (.aload_n 0, 1) := by decide +kernel
theorem dX11_best_38 : decode cX11_best 38 = .ok (.getfield 28, 3) := by decide +kernel
theorem dX11_best_41 : decode cX11_best 41 = .ok (.getfield 268, 3) := by decide +kernel
theorem dX11_best_44 : decode cX11_best 44 = .ok (.goto 4, 3) := by decide +kernel
theorem dX11_best_47 : decode cX11_best 47 = .ok (.iload_n 3, 1) := by decide +kernel
theorem dX11_best_48 : decode cX11_best 48 = .ok (.ireturn, 1) := by decide +kernel
theorem dX11_box_0 : decode cX11_box 0 = .ok (.aload_n 0, 1) := by decide +kernel
theorem dX11_box_1 : decode cX11_box 1 = .ok (.getfield 10, 3) := by decide +kernel
theorem dX11_box_4 : decode cX11_box 4 = .ok (.getfield 144, 3) := by decide +kernel
theorem dX11_box_7 : decode cX11_box 7 = .ok (.iload_n 1, 1) := by decide +kernel
theorem dX11_box_8 : decode cX11_box 8 = .ok (.invokevirtual 163, 3) := by decide +kernel
theorem dX11_box_11 : decode cX11_box 11 = .ok (.ifCond .eq 18, 3) := by decide +kernel
theorem dX11_box_14 : decode cX11_box 14 = .ok (.iload_n 2, 1) := by decide +kernel
theorem dX11_box_15 : decode cX11_box 15 = .ok (.iconst 0, 1) := by decide +kernel
theorem dX11_box_16 : decode cX11_box 16 = .ok (.aload_n 0, 1) := by decide +kernel
theorem dX11_box_17 : decode cX11_box 17 = .ok (.getfield 10, 3) := by decide +kernel
theorem dX11_box_20 : decode cX11_box 20 = .ok (.getfield 203, 3) := by decide +kernel
theorem dX11_box_23 : decode cX11_box 23 = .ok (.invokestatic 57, 3) := by decide +kernel
theorem dX11_box_26 : decode cX11_box 26 = .ok (.ifCond .ne 6, 3) := by decide +kernel
theorem dX11_box_29 : decode cX11_box 29 = .ok (.ldc 61, 2) := by decide +kernel
theorem dX11_box_31 : decode cX11_box 31 = .ok (.ireturn, 1) := by decide +kernel
theorem dX11_box_32 : decode cX11_box 32 = .ok (.iload_n 2, 1) := by decide +kernel
theorem dX11_box_33 : decode cX11_box 33 = .ok (.aload_n 0, 1) := by decide +kernel
theorem dX11_box_34 : decode cX11_box 34 = .ok (.getfield 10, 3) := by decide +kernel
theorem dX11_box_37 : decode cX11_box 37 = .ok (.getfield 203, 3) := by decide +kernel
theorem dX11_box_40 : decode cX11_box 40 = .ok (.if_icmp .ne 14, 3) := by decide +kernel
theorem dX11_box_43 : decode cX11_box 43 = .ok (.aload_n 0, 1) := by decide +kernel
theorem dX11_box_44 : decode cX11_box 44 = .ok (.getfield 10, 3) := by decide +kernel
theorem dX11_box_47 : decode cX11_box 47 = .ok (.iload_n 1, 1) := by decide +kernel
theorem dX11_box_48 : decode cX11_box 48 = .ok (.invokevirtual 206, 3) := by decide +kernel
theorem dX11_box_51 : decode cX11_box 51 = .ok (.goto 17, 3) := by decide +kernel
theorem dX11_box_54 : decode cX11_box 54 = .ok (.aload_n 0, 1) := by decide +kernel
theorem dX11_box_55 : decode cX11_box 55 = .ok (.getfield 10, 3) := by decide +kernel
theorem dX11_box_58 : decode cX11_box 58 = .ok (.getfield 144, 3) := by decide +kernel
theorem dX11_box_61 : decode cX11_box 61 = .ok (.getfield 209, 3) := by decide +kernel
theorem dX11_box_64 : decode cX11_box 64 = .ok (.iload_n 1, 1) := by decide +kernel
theorem dX11_box_65 : decode cX11_box 65 = .ok (.aaload, 1) := by decide +kernel
theorem dX11_box_66 : decode cX11_box 66 = .ok (.iload_n 2, 1) := by decide +kernel
theorem dX11_box_67 : decode cX11_box 67 = .ok (.iaload, 1) := by decide +kernel
theorem dX11_box_68 : decode cX11_box 68 = .ok (.ireturn, 1) := by decide +kernel
theorem dX11_check_0 : decode cX11_check 0 = .ok (.aload_n 0, 1) := by decide +kernel
theorem dX11_check_1 : decode cX11_check 1 = .ok (.getfield 351, 3) := by decide +kernel
theorem dX11_check_4 : decode cX11_check 4 = .ok (.istore_n 1, 1) := by decide +kernel
theorem dX11_check_5 : decode cX11_check 5 = .ok (.aload_n 0, 1) := by decide +kernel
theorem dX11_check_6 : decode cX11_check 6 = .ok (.iconst 0, 1) := by decide +kernel
theorem dX11_check_7 : decode cX11_check 7 = .ok (.putfield 351, 3) := by decide +kernel
theorem dX11_check_10 : decode cX11_check 10 = .ok (.aload_n 0, 1) := by decide +kernel
theorem dX11_check_11 : decode cX11_check 11 = .ok (.getfield 35, 3) := by decide +kernel
theorem dX11_check_14 : decode cX11_check 14 = .ok (.sipush 5000, 3) := by decide +kernel
theorem dX11_check_17 : decode cX11_check 17 = .ok (.invokevirtual 311, 3) := by decide +kernel
theorem dX11_check_20 : decode cX11_check 20 = .ok (.istore_n 2, 1) := by decide +kernel
theorem dX11_check_21 : decode cX11_check 21 = .ok (.iload_n 2, 1) := by decide +kernel
theorem dX11_check_22 : decode cX11_check 22 = .ok (.ifCond .eq 5, 3) := by decide +kernel
theorem dX11_check_25 : decode cX11_check 25 = .ok (.iload_n 2, 1) := by decide +kernel
theorem dX11_check_26 : decode cX11_check 26 = .ok (.ireturn, 1) := by decide +kernel
theorem dX11_check_27 : decode cX11_check 27 = .ok (.aload_n 0, 1) := by decide +kernel
theorem dX11_check_28 : decode cX11_check 28 = .ok (.getfield 35, 3) := by decide +kernel
theorem dX11_check_31 : decode cX11_check 31 = .ok (.invokevirtual 354, 3) := by decide +kernel
theorem dX11_check_34 : decode cX11_check 34 = .ok (.astore_n 3, 1) := by decide +kernel
theorem dX11_check_35 : decode cX11_check 35 = .ok (.aload_n 0, 1) := by decide +kernel
theorem dX11_check_36 : decode cX11_check 36 = .ok (.getfield 35, 3) := by decide +kernel
theorem dX11_check_39 : decode cX11_check 39 = .ok (.getfield 358, 3) := by decide +kernel
theorem dX11_check_42 : decode cX11_check 42 = .ok (.istore 4, 2) := by decide +kernel
theorem dX11_check_44 : decode cX11_check 44 = .ok (.iconst 0, 1) := by decide +kernel
theorem dX11_check_45 : decode cX11_check 45 = .ok (.istore 5, 2) := by decide +kernel
theorem dX11_check_47 : decode cX11_check 47 = .ok (.iload 5, 2) := by decide +kernel
theorem dX11_check_49 : decode cX11_check 49 = .ok (.iload_n 1, 1) := by decide +kernel
theorem dX11_check_50 : decode cX11_check 50 = .ok (.if_icmp .ge 30, 3) := by decide +kernel
theorem dX11_check_53 : decode cX11_check 53 = .ok (.iload 5, 2) := by decide +kernel
theorem dX11_check_55 : decode cX11_check 55 = .ok (.iload 4, 2) := by decide +kernel
theorem dX11_check_57 : decode cX11_check 57 = .ok (.if_icmp .ge 23, 3) := by decide +kernel
theorem dX11_check_60 : decode cX11_check 60 = .ok (.aload_n 0, 1) := by decide +kernel
theorem dX11_check_61 : decode cX11_check 61 = .ok (.getfield 53, 3) := by decide +kernel
theorem dX11_check_64 : decode cX11_check 64 = .ok (.iload 5, 2) := by decide +kernel
theorem dX11_check_66 : decode cX11_check 66 = .ok (.iaload, 1) := by decide +kernel
theorem dX11_check_67 : decode cX11_check 67 = .ok (.aload_n 3, 1) := by decide +kernel
theorem dX11_check_68 : decode cX11_check 68 = .ok (.iload 5, 2) := by decide +kernel
theorem dX11_check_70 : decode cX11_check 70 = .ok (.iaload, 1) := by decide +kernel
theorem dX11_check_71 : decode cX11_check 71 = .ok (.if_icmp .ne 9, 3) := by decide +kernel
theorem dX11_check_74 : decode cX11_check 74 = .ok (.iinc 5 1, 3) := by decide +kernel
theorem dX11_check_77 : decode cX11_check 77 = .ok (.goto (-30), 3) := by decide +kernel
theorem dX11_check_80 : decode cX11_check 80 = .ok (.iload 5, 2) := by decide +kernel
theorem dX11_check_82 : decode cX11_check 82 = .ok (.iload_n 1, 1) := by decide +kernel
theorem dX11_check_83 : decode cX11_check 83 = .ok (.if_icmp .ne 14, 3) := by decide +kernel
theorem dX11_check_86 : decode cX11_check 86 = .ok (.iload 5, 2) := by decide +kernel
theorem dX11_check_88 : decode cX11_check 88 = .ok (.iload 4, 2) := by decide +kernel
theorem dX11_check_90 : decode cX11_check 90 = .ok (.if_icmp .ne 7, 3) := by decide +kernel
theorem dX11_check_93 : decode cX11_check 93 = .ok (.iconst 0, 1) := by decide +kernel
theorem dX11_check_94 : decode cX11_check 94 = .ok (.goto 7, 3) := by decide +kernel
theorem dX11_check_97 : decode cX11_check 97 = .ok (.iconst 1, 1) := by decide +kernel
theorem dX11_check_98 : decode cX11_check 98 = .ok (.iload 5, 2) := by decide +kernel
theorem dX11_check_100 : decode cX11_check 100 = .ok (.iadd, 1) := by decide +kernel
theorem dX11_check_101 : decode cX11_check 101 = .ok (.ireturn, 1) := by decide +kernel
theorem dX11_choose_0 : decode cX11_choose 0 = .ok (.aload_n 0, 1) := by decide +kernel
theorem dX11_choose_1 : decode cX11_choose 1 = .ok (.getfield 10, 3) := by decide +kernel
theorem dX11_choose_4 : decode cX11_choose 4 = .ok (.getfield 144, 3) := by decide +kernel
theorem dX11_choose_7 : decode cX11_choose 7 = .ok (.iload_n 1, 1) := by decide +kernel
theorem dX11_choose_8 : decode cX11_choose 8 = .ok (.invokevirtual 163, 3) := by decide +kernel
theorem dX11_choose_11 : decode cX11_choose 11 = .ok (.ifCond .ne 6, 3) := by decide +kernel
theorem dX11_choose_14 : decode cX11_choose 14 = .ok (.ldc 61, 2) := by decide +kernel
theorem dX11_choose_16 : decode cX11_choose 16 = .ok (.ireturn, 1) := by decide +kernel
theorem dX11_choose_17 : decode cX11_choose 17 = .ok (.iload_n 2, 1) := by decide +kernel
theorem dX11_choose_18 : decode cX11_choose 18 = .ok (.iconst (-1), 1) := by decide +kernel
theorem dX11_choose_19 : decode cX11_choose 19 = .ok (.if_icmp .eq 18, 3) := by decide +kernel
theorem dX11_choose_22 : decode cX11_choose 22 = .ok (.aload_n 0, 1) := by decide +kernel
theorem dX11_choose_23 : decode cX11_choose 23 = .ok (.getfield 10, 3) := by decide +kernel
theorem dX11_choose_26 : decode cX11_choose 26 = .ok (.iload_n 1, 1) := by decide +kernel
theorem dX11_choose_27 : decode cX11_choose 27 = .ok (.iload_n 2, 1) := by decide +kernel
theorem dX11_choose_28 : decode cX11_choose 28 = .ok (.invokevirtual 193, 3) := by decide +kernel
theorem dX11_choose_31 : decode cX11_choose 31 = .ok (.ifCond .ne 6, 3) := by decide +kernel
theorem dX11_choose_34 : decode cX11_choose 34 = .ok (.ldc 61, 2) := by decide +kernel
theorem dX11_choose_36 : decode cX11_choose 36 = .ok (.ireturn, 1) := by decide +kernel
theorem dX11_choose_37 : decode cX11_choose 37 = .ok (.aload_n 0, 1) := by decide +kernel
theorem dX11_choose_38 : decode cX11_choose 38 = .ok (.getfield 10, 3) := by decide +kernel
theorem dX11_choose_41 : decode cX11_choose 41 = .ok (.getfield 196, 3) := by decide +kernel
theorem dX11_choose_44 : decode cX11_choose 44 = .ok (.ifCond .eq 6, 3) := by decide +kernel
theorem dX11_choose_47 : decode cX11_choose 47 = .ok (.ldc 124, 2) := by decide +kernel
theorem dX11_choose_49 : decode cX11_choose 49 = .ok (.ireturn, 1) := by decide +kernel
theorem dX11_choose_50 : decode cX11_choose 50 = .ok (.aload_n 0, 1) := by decide +kernel
theorem dX11_choose_51 : decode cX11_choose 51 = .ok (.getfield 10, 3) := by decide +kernel
theorem dX11_choose_54 : decode cX11_choose 54 = .ok (.getfield 144, 3) := by decide +kernel
theorem dX11_choose_57 : decode cX11_choose 57 = .ok (.getfield 200, 3) := by decide +kernel
theorem dX11_choose_60 : decode cX11_choose 60 = .ok (.iload_n 1, 1) := by decide +kernel
theorem dX11_choose_61 : decode cX11_choose 61 = .ok (.iaload, 1) := by decide +kernel
theorem dX11_choose_62 : decode cX11_choose 62 = .ok (.istore_n 3, 1) := by decide +kernel
theorem dX11_choose_63 : decode cX11_choose 63 = .ok (.aload_n 0, 1) := by decide +kernel
theorem dX11_choose_64 : decode cX11_choose 64 = .ok (.getfield 10, 3) := by decide +kernel
theorem dX11_choose_67 : decode cX11_choose 67 = .ok (.getfield 144, 3) := by decide +kernel
theorem dX11_choose_70 : decode cX11_choose 70 = .ok (.getfield 200, 3) := by decide +kernel
theorem dX11_choose_73 : decode cX11_choose 73 = .ok (.iload_n 1, 1) := by decide +kernel
theorem dX11_choose_74 : decode cX11_choose 74 = .ok (.iload_n 2, 1) := by decide +kernel
theorem dX11_choose_75 : decode cX11_choose 75 = .ok (.iastore, 1) := by decide +kernel
theorem dX11_choose_76 : decode cX11_choose 76 = .ok (.iload_n 3, 1) := by decide +kernel
theorem dX11_choose_77 : decode cX11_choose 77 = .ok (.ireturn, 1) := by decide +kernel
theorem dX11_copyRow_0 : decode cX11_copyRow 0 = .ok (.aload_n 0, 1) := by decide +kernel
theorem dX11_copyRow_1 : decode cX11_copyRow 1 = .ok (.iconst 0, 1) := by decide +kernel
theorem dX11_copyRow_2 : decode cX11_copyRow 2 = .ok (.aload_n 1, 1) := by decide +kernel
theorem dX11_copyRow_3 : decode cX11_copyRow 3 = .ok (.iconst 0, 1) := by decide +kernel
theorem dX11_copyRow_4 : decode cX11_copyRow 4 = .ok (.aload_n 0, 1) := by decide +kernel
theorem dX11_copyRow_5 : decode cX11_copyRow 5 = .ok (.arraylength, 1) := by decide +kernel
theorem dX11_copyRow_6 : decode cX11_copyRow 6 = .ok (.aload_n 1, 1) := by decide +kernel
theorem dX11_copyRow_7 : decode cX11_copyRow 7 = .ok (.arraylength, 1) := by decide +kernel
theorem dX11_copyRow_8 : decode cX11_copyRow 8 = .ok (.invokestatic 180, 3) := by decide +kernel
theorem dX11_copyRow_11 : decode cX11_copyRow 11 = .ok (.invokestatic 375, 3) := by decide +kernel
theorem dX11_copyRow_14 : decode cX11_copyRow 14 = .ok (.return_, 1) := by decide +kernel
theorem dX11_copyRows_0 : decode cX11_copyRows 0 = .ok (.iconst 0, 1) := by decide +kernel
theorem dX11_copyRows_1 : decode cX11_copyRows 1 = .ok (.istore_n 2, 1) := by decide +kernel
theorem dX11_copyRows_2 : decode cX11_copyRows 2 = .ok (.iload_n 2, 1) := by decide +kernel
theorem dX11_copyRows_3 : decode cX11_copyRows 3 = .ok (.aload_n 0, 1) := by decide +kernel
theorem dX11_copyRows_4 : decode cX11_copyRows 4 = .ok (.arraylength, 1) := by decide +kernel
theorem dX11_copyRows_5 : decode cX11_copyRows 5 = .ok (.if_icmp .ge 24, 3) := by decide +kernel
theorem dX11_copyRows_8 : decode cX11_copyRows 8 = .ok (.iload_n 2, 1) := by decide +kernel
theorem dX11_copyRows_9 : decode cX11_copyRows 9 = .ok (.aload_n 1, 1) := by decide +kernel
theorem dX11_copyRows_10 : decode cX11_copyRows 10 = .ok (.arraylength, 1) := by decide +kernel
theorem dX11_copyRows_11 : decode cX11_copyRows 11 = .ok (.if_icmp .ge 18, 3) := by decide +kernel
theorem dX11_copyRows_14 : decode cX11_copyRows 14 = .ok (.aload_n 0, 1) := by decide +kernel
theorem dX11_copyRows_15 : decode cX11_copyRows 15 = .ok (.iload_n 2, 1) := by decide +kernel
theorem dX11_copyRows_16 : decode cX11_copyRows 16 = .ok (.aaload, 1) := by decide +kernel
theorem dX11_copyRows_17 : decode cX11_copyRows 17 = .ok (.aload_n 1, 1) := by decide +kernel
theorem dX11_copyRows_18 : decode cX11_copyRows 18 = .ok (.iload_n 2, 1) := by decide +kernel
theorem dX11_copyRows_19 : decode cX11_copyRows 19 = .ok (.aaload, 1) := by decide +kernel
theorem dX11_copyRows_20 : decode cX11_copyRows 20 = .ok (.invokestatic 381, 3) := by decide +kernel
theorem dX11_copyRows_23 : decode cX11_copyRows 23 = .ok (.iinc 2 1, 3) := by decide +kernel
theorem dX11_copyRows_26 : decode cX11_copyRows 26 = .ok (.goto (-24), 3) := by decide +kernel
theorem dX11_copyRows_29 : decode cX11_copyRows 29 = .ok (.return_, 1) := by decide +kernel
theorem dX11_copy_0 : decode cX11_copy 0 = .ok (.aload_n 0, 1) := by decide +kernel
theorem dX11_copy_1 : decode cX11_copy 1 = .ok (.getfield 49, 3) := by decide +kernel
theorem dX11_copy_4 : decode cX11_copy 4 = .ok (.iload_n 1, 1) := by decide +kernel
theorem dX11_copy_5 : decode cX11_copy 5 = .ok (.invokevirtual 170, 3) := by decide +kernel
theorem dX11_copy_8 : decode cX11_copy 8 = .ok (.ifCond .eq 14, 3) := by decide +kernel
theorem dX11_copy_11 : decode cX11_copy 11 = .ok (.aload_n 0, 1) := by decide +kernel
theorem dX11_copy_12 : decode cX11_copy 12 = .ok (.getfield 49, 3) := by decide +kernel
theorem dX11_copy_15 : decode cX11_copy 15 = .ok (.iload_n 3, 1) := by decide +kernel
theorem dX11_copy_16 : decode cX11_copy 16 = .ok (.invokevirtual 170, 3) := by decide +kernel
theorem dX11_copy_19 : decode cX11_copy 19 = .ok (.ifCond .ne 6, 3) := by decide +kernel
theorem dX11_copy_22 : decode cX11_copy 22 = .ok (.ldc 61, 2) := by decide +kernel
theorem dX11_copy_24 : decode cX11_copy 24 = .ok (.ireturn, 1) := by decide +kernel
theorem dX11_copy_25 : decode cX11_copy 25 = .ok (.aload_n 0, 1) := by decide +kernel
theorem dX11_copy_26 : decode cX11_copy 26 = .ok (.getfield 49, 3) := by decide +kernel
theorem dX11_copy_29 : decode cX11_copy 29 = .ok (.iload_n 1, 1) := by decide +kernel
theorem dX11_copy_30 : decode cX11_copy 30 = .ok (.invokevirtual 173, 3) := by decide +kernel
theorem dX11_copy_33 : decode cX11_copy 33 = .ok (.ifCond .ne 14, 3) := by decide +kernel
theorem dX11_copy_36 : decode cX11_copy 36 = .ok (.aload_n 0, 1) := by decide +kernel
theorem dX11_copy_37 : decode cX11_copy 37 = .ok (.getfield 49, 3) := by decide +kernel
theorem dX11_copy_40 : decode cX11_copy 40 = .ok (.iload_n 3, 1) := by decide +kernel
theorem dX11_copy_41 : decode cX11_copy 41 = .ok (.invokevirtual 173, 3) := by decide +kernel
theorem dX11_copy_44 : decode cX11_copy 44 = .ok (.ifCond .eq 6, 3) := by decide +kernel
theorem dX11_copy_47 : decode cX11_copy 47 = .ok (.ldc 176, 2) := by decide +kernel
theorem dX11_copy_49 : decode cX11_copy 49 = .ok (.ireturn, 1) := by decide +kernel
theorem dX11_copy_50 : decode cX11_copy 50 = .ok (.aload_n 0, 1) := by decide +kernel
theorem dX11_copy_51 : decode cX11_copy 51 = .ok (.getfield 49, 3) := by decide +kernel
theorem dX11_copy_54 : decode cX11_copy 54 = .ok (.iload_n 1, 1) := by decide +kernel
theorem dX11_copy_55 : decode cX11_copy 55 = .ok (.iload_n 2, 1) := by decide +kernel
theorem dX11_copy_56 : decode cX11_copy 56 = .ok (.iload 5, 2) := by decide +kernel
theorem dX11_copy_58 : decode cX11_copy 58 = .ok (.invokevirtual 371, 3) := by decide +kernel
theorem dX11_copy_61 : decode cX11_copy 61 = .ok (.ifCond .eq 18, 3) := by decide +kernel
theorem dX11_copy_64 : decode cX11_copy 64 = .ok (.aload_n 0, 1) := by decide +kernel
theorem dX11_copy_65 : decode cX11_copy 65 = .ok (.getfield 49, 3) := by decide +kernel
theorem dX11_copy_68 : decode cX11_copy 68 = .ok (.iload_n 3, 1) := by decide +kernel
theorem dX11_copy_69 : decode cX11_copy 69 = .ok (.iload 4, 2) := by decide +kernel
theorem dX11_copy_71 : decode cX11_copy 71 = .ok (.iload 5, 2) := by decide +kernel
theorem dX11_copy_73 : decode cX11_copy 73 = .ok (.invokevirtual 371, 3) := by decide +kernel
theorem dX11_copy_76 : decode cX11_copy 76 = .ok (.ifCond .ne 7, 3) := by decide +kernel
theorem dX11_copy_79 : decode cX11_copy 79 = .ok (.ldc_w 374, 3) := by decide +kernel
theorem dX11_copy_82 : decode cX11_copy 82 = .ok (.ireturn, 1) := by decide +kernel
theorem dX11_copy_83 : decode cX11_copy 83 = .ok (.aload_n 0, 1) := by decide +kernel
theorem dX11_copy_84 : decode cX11_copy 84 = .ok (.getfield 49, 3) := by decide +kernel
theorem dX11_copy_87 : decode cX11_copy 87 = .ok (.getfield 186, 3) := by decide +kernel
theorem dX11_copy_90 : decode cX11_copy 90 = .ok (.iload_n 1, 1) := by decide +kernel
theorem dX11_copy_91 : decode cX11_copy 91 = .ok (.aaload, 1) := by decide +kernel
theorem dX11_copy_92 : decode cX11_copy 92 = .ok (.iload_n 2, 1) := by decide +kernel
theorem dX11_copy_93 : decode cX11_copy 93 = .ok (.aload_n 0, 1) := by decide +kernel
theorem dX11_copy_94 : decode cX11_copy 94 = .ok (.getfield 49, 3) := by decide +kernel
theorem dX11_copy_97 : decode cX11_copy 97 = .ok (.getfield 186, 3) := by decide +kernel
theorem dX11_copy_100 : decode cX11_copy 100 = .ok (.iload_n 3, 1) := by decide +kernel
theorem dX11_copy_101 : decode cX11_copy 101 = .ok (.aaload, 1) := by decide +kernel
theorem dX11_copy_102 : decode cX11_copy 102 = .ok (.iload 4, 2) := by decide +kernel
theorem dX11_copy_104 : decode cX11_copy 104 = .ok (.iload 5, 2) := by decide +kernel
theorem dX11_copy_106 : decode cX11_copy 106 = .ok (.invokestatic 375, 3) := by decide +kernel
theorem dX11_copy_109 : decode cX11_copy 109 = .ok (.iload 5, 2) := by decide +kernel
theorem dX11_copy_111 : decode cX11_copy 111 = .ok (.ireturn, 1) := by decide +kernel
theorem dX11_count_0 : decode cX11_count 0 = .ok (.iload_n 1, 1) := by decide +kernel
theorem dX11_count_1 : decode cX11_count 1 = .ok (.tableswitch 138 0 8 #[51, 62, 73, 84, 95, 106, 117, 125, 130], 51) := by decide +kernel
theorem dX11_count_52 : decode cX11_count 52 = .ok (.aload_n 0, 1) := by decide +kernel
theorem dX11_count_53 : decode cX11_count 53 = .ok (.getfield 10, 3) := by decide +kernel
theorem dX11_count_56 : decode cX11_count 56 = .ok (.getfield 62, 3) := by decide +kernel
theorem dX11_count_59 : decode cX11_count 59 = .ok (.getfield 66, 3) := by decide +kernel
theorem dX11_count_62 : decode cX11_count 62 = .ok (.ireturn, 1) := by decide +kernel
theorem dX11_count_63 : decode cX11_count 63 = .ok (.aload_n 0, 1) := by decide +kernel
theorem dX11_count_64 : decode cX11_count 64 = .ok (.getfield 10, 3) := by decide +kernel
theorem dX11_count_67 : decode cX11_count 67 = .ok (.getfield 96, 3) := by decide +kernel
theorem dX11_count_70 : decode cX11_count 70 = .ok (.getfield 100, 3) := by decide +kernel
theorem dX11_count_73 : decode cX11_count 73 = .ok (.ireturn, 1) := by decide +kernel
theorem dX11_count_74 : decode cX11_count 74 = .ok (.aload_n 0, 1) := by decide +kernel
theorem dX11_count_75 : decode cX11_count 75 = .ok (.getfield 10, 3) := by decide +kernel
theorem dX11_count_78 : decode cX11_count 78 = .ok (.getfield 144, 3) := by decide +kernel
theorem dX11_count_81 : decode cX11_count 81 = .ok (.getfield 148, 3) := by decide +kernel
theorem dX11_count_84 : decode cX11_count 84 = .ok (.ireturn, 1) := by decide +kernel
theorem dX11_count_85 : decode cX11_count 85 = .ok (.aload_n 0, 1) := by decide +kernel
theorem dX11_count_86 : decode cX11_count 86 = .ok (.getfield 10, 3) := by decide +kernel
theorem dX11_count_89 : decode cX11_count 89 = .ok (.getfield 278, 3) := by decide +kernel
theorem dX11_count_92 : decode cX11_count 92 = .ok (.getfield 282, 3) := by decide +kernel
theorem dX11_count_95 : decode cX11_count 95 = .ok (.ireturn, 1) := by decide +kernel
theorem dX11_count_96 : decode cX11_count 96 = .ok (.aload_n 0, 1) := by decide +kernel
theorem dX11_count_97 : decode cX11_count 97 = .ok (.getfield 10, 3) := by decide +kernel
theorem dX11_count_100 : decode cX11_count 100 = .ok (.getfield 118, 3) := by decide +kernel
theorem dX11_count_103 : decode cX11_count 103 = .ok (.invokestatic 260, 3) := by decide +kernel
theorem dX11_count_106 : decode cX11_count 106 = .ok (.ireturn, 1) := by decide +kernel
theorem dX11_count_107 : decode cX11_count 107 = .ok (.aload_n 0, 1) := by decide +kernel
theorem dX11_count_108 : decode cX11_count 108 = .ok (.getfield 10, 3) := by decide +kernel
theorem dX11_count_111 : decode cX11_count 111 = .ok (.getfield 196, 3) := by decide +kernel
theorem dX11_count_114 : decode cX11_count 114 = .ok (.invokestatic 114, 3) := by decide +kernel
theorem dX11_count_117 : decode cX11_count 117 = .ok (.ireturn, 1) := by decide +kernel
theorem dX11_count_118 : decode cX11_count 118 = .ok (.aload_n 0, 1) := by decide +kernel
theorem dX11_count_119 : decode cX11_count 119 = .ok (.getfield 10, 3) := by decide +kernel
theorem dX11_count_122 : decode cX11_count 122 = .ok (.getfield 203, 3) := by decide +kernel
theorem dX11_count_125 : decode cX11_count 125 = .ok (.ireturn, 1) := by decide +kernel
theorem dX11_count_126 : decode cX11_count 126 = .ok (.aload_n 0, 1) := by decide +kernel
theorem dX11_count_127 : decode cX11_count 127 = .ok (.getfield 351, 3) := by decide +kernel
theorem dX11_count_130 : decode cX11_count 130 = .ok (.ireturn, 1) := by decide +kernel
theorem dX11_count_131 : decode cX11_count 131 = .ok (.aload_n 0, 1) := by decide +kernel
theorem dX11_count_132 : decode cX11_count 132 = .ok (.getfield 19, 3) := by decide +kernel
theorem dX11_count_135 : decode cX11_count 135 = .ok (.getfield 215, 3) := by decide +kernel
theorem dX11_count_138 : decode cX11_count 138 = .ok (.ireturn, 1) := by decide +kernel
theorem dX11_count_139 : decode cX11_count 139 = .ok (.ldc 61, 2) := by decide +kernel
theorem dX11_count_141 : decode cX11_count 141 = .ok (.ireturn, 1) := by decide +kernel
theorem dX11_end_0 : decode cX11_end 0 = .ok (.aload_n 0, 1) := by decide +kernel
theorem dX11_end_1 : decode cX11_end 1 = .ok (.getfield 10, 3) := by decide +kernel
theorem dX11_end_4 : decode cX11_end 4 = .ok (.getfield 203, 3) := by decide +kernel
theorem dX11_end_7 : decode cX11_end 7 = .ok (.bipush 99, 2) := by decide +kernel
theorem dX11_end_9 : decode cX11_end 9 = .ok (.if_icmp .lt 6, 3) := by decide +kernel
theorem dX11_end_12 : decode cX11_end 12 = .ok (.ldc 124, 2) := by decide +kernel
theorem dX11_end_14 : decode cX11_end 14 = .ok (.ireturn, 1) := by decide +kernel
theorem dX11_end_15 : decode cX11_end 15 = .ok (.aload_n 0, 1) := by decide +kernel
theorem dX11_end_16 : decode cX11_end 16 = .ok (.getfield 10, 3) := by decide +kernel
theorem dX11_end_19 : decode cX11_end 19 = .ok (.invokevirtual 336, 3) := by decide +kernel
theorem dX11_end_22 : decode cX11_end 22 = .ok (.aload_n 0, 1) := by decide +kernel
theorem dX11_end_23 : decode cX11_end 23 = .ok (.getfield 10, 3) := by decide +kernel
theorem dX11_end_26 : decode cX11_end 26 = .ok (.getfield 203, 3) := by decide +kernel
theorem dX11_end_29 : decode cX11_end 29 = .ok (.ireturn, 1) := by decide +kernel
theorem dX11_family_0 : decode cX11_family 0 = .ok (.iload_n 2, 1) := by decide +kernel
theorem dX11_family_1 : decode cX11_family 1 = .ok (.bipush 10, 2) := by decide +kernel
theorem dX11_family_3 : decode cX11_family 3 = .ok (.irem, 1) := by decide +kernel
theorem dX11_family_4 : decode cX11_family 4 = .ok (.istore_n 3, 1) := by decide +kernel
theorem dX11_family_5 : decode cX11_family 5 = .ok (.iload_n 2, 1) := by decide +kernel
theorem dX11_family_6 : decode cX11_family 6 = .ok (.bipush 10, 2) := by decide +kernel
theorem dX11_family_8 : decode cX11_family 8 = .ok (.idiv, 1) := by decide +kernel
theorem dX11_family_9 : decode cX11_family 9 = .ok (.sipush 1000, 3) := by decide +kernel
theorem dX11_family_12 : decode cX11_family 12 = .ok (.irem, 1) := by decide +kernel
theorem dX11_family_13 : decode cX11_family 13 = .ok (.istore 4, 2) := by decide +kernel
theorem dX11_family_15 : decode cX11_family 15 = .ok (.iload_n 2, 1) := by decide +kernel
theorem dX11_family_16 : decode cX11_family 16 = .ok (.sipush 10000, 3) := by decide +kernel
theorem dX11_family_19 : decode cX11_family 19 = .ok (.idiv, 1) := by decide +kernel
theorem dX11_family_20 : decode cX11_family 20 = .ok (.istore 5, 2) := by decide +kernel
theorem dX11_family_22 : decode cX11_family 22 = .ok (.iload_n 1, 1) := by decide +kernel
theorem dX11_family_23 : decode cX11_family 23 = .ok (.iconst 0, 1) := by decide +kernel
theorem dX11_family_24 : decode cX11_family 24 = .ok (.sipush 255, 3) := by decide +kernel
theorem dX11_family_27 : decode cX11_family 27 = .ok (.invokestatic 57, 3) := by decide +kernel
theorem dX11_family_30 : decode cX11_family 30 = .ok (.ifCond .eq 23, 3) := by decide +kernel
theorem dX11_family_33 : decode cX11_family 33 = .ok (.iload_n 2, 1) := by decide +kernel
theorem dX11_family_34 : decode cX11_family 34 = .ok (.ifCond .lt 19, 3) := by decide +kernel
theorem dX11_family_37 : decode cX11_family 37 = .ok (.iload_n 3, 1) := by decide +kernel
theorem dX11_family_38 : decode cX11_family 38 = .ok (.iconst 1, 1) := by decide +kernel
theorem dX11_family_39 : decode cX11_family 39 = .ok (.bipush 6, 2) := by decide +kernel
theorem dX11_family_41 : decode cX11_family 41 = .ok (.invokestatic 57, 3) := by decide +kernel
theorem dX11_family_44 : decode cX11_family 44 = .ok (.ifCond .eq 9, 3) := by decide +kernel
theorem dX11_family_47 : decode cX11_family 47 = .ok (.iload 5, 2) := by decide +kernel
theorem dX11_family_49 : decode cX11_family 49 = .ok (.iconst 1, 1) := by decide +kernel
theorem dX11_family_50 : decode cX11_family 50 = .ok (.if_icmp .le 6, 3) := by decide +kernel
theorem dX11_family_53 : decode cX11_family 53 = .ok (.ldc 61, 2) := by decide +kernel
theorem dX11_family_55 : decode cX11_family 55 = .ok (.ireturn, 1) := by decide +kernel
theorem dX11_family_56 : decode cX11_family 56 = .ok (.aload_n 0, 1) := by decide +kernel
theorem dX11_family_57 : decode cX11_family 57 = .ok (.getfield 10, 3) := by decide +kernel
theorem dX11_family_60 : decode cX11_family 60 = .ok (.getfield 144, 3) := by decide +kernel
theorem dX11_family_63 : decode cX11_family 63 = .ok (.astore 6, 2) := by decide +kernel
theorem dX11_family_65 : decode cX11_family 65 = .ok (.aload 6, 2) := by decide +kernel
theorem dX11_family_67 : decode cX11_family 67 = .ok (.getfield 148, 3) := by decide +kernel
theorem dX11_family_70 : decode cX11_family 70 = .ok (.bipush 12, 2) := by decide +kernel
theorem dX11_family_72 : decode cX11_family 72 = .ok (.if_icmp .lt 6, 3) := by decide +kernel
theorem dX11_family_75 : decode cX11_family 75 = .ok (.ldc 72, 2) := by decide +kernel
theorem dX11_family_77 : decode cX11_family 77 = .ok (.ireturn, 1) := by decide +kernel
theorem dX11_family_78 : decode cX11_family 78 = .ok (.aload 6, 2) := by decide +kernel
theorem dX11_family_80 : decode cX11_family 80 = .ok (.dup, 1) := by decide +kernel
theorem dX11_family_81 : decode cX11_family 81 = .ok (.getfield 148, 3) := by decide +kernel
theorem dX11_family_84 : decode cX11_family 84 = .ok (.dup_x1, 1) := by decide +kernel
theorem dX11_family_85 : decode cX11_family 85 = .ok (.iconst 1, 1) := by decide +kernel
theorem dX11_family_86 : decode cX11_family 86 = .ok (.iadd, 1) := by decide +kernel
theorem dX11_family_87 : decode cX11_family 87 = .ok (.putfield 148, 3) := by decide +kernel
theorem dX11_family_90 : decode cX11_family 90 = .ok (.istore 7, 2) := by decide +kernel
theorem dX11_family_92 : decode cX11_family 92 = .ok (.aload 6, 2) := by decide +kernel
theorem dX11_family_94 : decode cX11_family 94 = .ok (.getfield 151, 3) := by decide +kernel
theorem dX11_family_97 : decode cX11_family 97 = .ok (.iload 7, 2) := by decide +kernel
theorem dX11_family_99 : decode cX11_family 99 = .ok (.iload_n 1, 1) := by decide +kernel
theorem dX11_family_100 : decode cX11_family 100 = .ok (.iastore, 1) := by decide +kernel
theorem dX11_family_101 : decode cX11_family 101 = .ok (.aload 6, 2) := by decide +kernel
theorem dX11_family_103 : decode cX11_family 103 = .ok (.getfield 154, 3) := by decide +kernel
theorem dX11_family_106 : decode cX11_family 106 = .ok (.iload 7, 2) := by decide +kernel
theorem dX11_family_108 : decode cX11_family 108 = .ok (.iload_n 3, 1) := by decide +kernel
theorem dX11_family_109 : decode cX11_family 109 = .ok (.iastore, 1) := by decide +kernel
theorem dX11_family_110 : decode cX11_family 110 = .ok (.aload 6, 2) := by decide +kernel
theorem dX11_family_112 : decode cX11_family 112 = .ok (.getfield 157, 3) := by decide +kernel
theorem dX11_family_115 : decode cX11_family 115 = .ok (.iload 7, 2) := by decide +kernel
theorem dX11_family_117 : decode cX11_family 117 = .ok (.iload 4, 2) := by decide +kernel
theorem dX11_family_119 : decode cX11_family 119 = .ok (.iastore, 1) := by decide +kernel
theorem dX11_family_120 : decode cX11_family 120 = .ok (.aload 6, 2) := by decide +kernel
theorem dX11_family_122 : decode cX11_family 122 = .ok (.getfield 160, 3) := by decide +kernel
theorem dX11_family_125 : decode cX11_family 125 = .ok (.iload 7, 2) := by decide +kernel
theorem dX11_family_127 : decode cX11_family 127 = .ok (.iload 5, 2) := by decide +kernel
theorem dX11_family_129 : decode cX11_family 129 = .ok (.iastore, 1) := by decide +kernel
theorem dX11_family_130 : decode cX11_family 130 = .ok (.iload 7, 2) := by decide +kernel
theorem dX11_family_132 : decode cX11_family 132 = .ok (.ireturn, 1) := by decide +kernel
theorem dX11_feed_0 : decode cX11_feed 0 = .ok (.aload_n 0, 1) := by decide +kernel
theorem dX11_feed_1 : decode cX11_feed 1 = .ok (.getfield 19, 3) := by decide +kernel
theorem dX11_feed_4 : decode cX11_feed 4 = .ok (.getfield 215, 3) := by decide +kernel
theorem dX11_feed_7 : decode cX11_feed 7 = .ok (.bipush 12, 2) := by decide +kernel
theorem dX11_feed_9 : decode cX11_feed 9 = .ok (.iadd, 1) := by decide +kernel
theorem dX11_feed_10 : decode cX11_feed 10 = .ok (.bipush 120, 2) := by decide +kernel
theorem dX11_feed_12 : decode cX11_feed 12 = .ok (.if_icmp .le 6, 3) := by decide +kernel
theorem dX11_feed_15 : decode cX11_feed 15 = .ok (.ldc 72, 2) := by decide +kernel
theorem dX11_feed_17 : decode cX11_feed 17 = .ok (.ireturn, 1) := by decide +kernel
theorem dX11_feed_18 : decode cX11_feed 18 = .ok (.aload_n 0, 1) := by decide +kernel
theorem dX11_feed_19 : decode cX11_feed 19 = .ok (.getfield 19, 3) := by decide +kernel
theorem dX11_feed_22 : decode cX11_feed 22 = .ok (.iload_n 1, 1) := by decide +kernel
theorem dX11_feed_23 : decode cX11_feed 23 = .ok (.invokevirtual 218, 3) := by decide +kernel
theorem dX11_feed_26 : decode cX11_feed 26 = .ok (.aload_n 0, 1) := by decide +kernel
theorem dX11_feed_27 : decode cX11_feed 27 = .ok (.getfield 19, 3) := by decide +kernel
theorem dX11_feed_30 : decode cX11_feed 30 = .ok (.iload_n 2, 1) := by decide +kernel
theorem dX11_feed_31 : decode cX11_feed 31 = .ok (.invokevirtual 218, 3) := by decide +kernel
theorem dX11_feed_34 : decode cX11_feed 34 = .ok (.aload_n 0, 1) := by decide +kernel
theorem dX11_feed_35 : decode cX11_feed 35 = .ok (.getfield 19, 3) := by decide +kernel
theorem dX11_feed_38 : decode cX11_feed 38 = .ok (.iload_n 3, 1) := by decide +kernel
theorem dX11_feed_39 : decode cX11_feed 39 = .ok (.invokevirtual 218, 3) := by decide +kernel
theorem dX11_feed_42 : decode cX11_feed 42 = .ok (.aload_n 0, 1) := by decide +kernel
theorem dX11_feed_43 : decode cX11_feed 43 = .ok (.getfield 19, 3) := by decide +kernel
theorem dX11_feed_46 : decode cX11_feed 46 = .ok (.getfield 215, 3) := by decide +kernel
theorem dX11_feed_49 : decode cX11_feed 49 = .ok (.ireturn, 1) := by decide +kernel
theorem dX11_hasBit_0 : decode cX11_hasBit 0 = .ok (.iload_n 0, 1) := by decide +kernel
theorem dX11_hasBit_1 : decode cX11_hasBit 1 = .ok (.iload_n 1, 1) := by decide +kernel
theorem dX11_hasBit_2 : decode cX11_hasBit 2 = .ok (.ishr, 1) := by decide +kernel
theorem dX11_hasBit_3 : decode cX11_hasBit 3 = .ok (.iconst 1, 1) := by decide +kernel
theorem dX11_hasBit_4 : decode cX11_hasBit 4 = .ok (.iand, 1) := by decide +kernel
theorem dX11_hasBit_5 : decode cX11_hasBit 5 = .ok (.ifCond .eq 7, 3) := by decide +kernel
theorem dX11_hasBit_8 : decode cX11_hasBit 8 = .ok (.iconst 1, 1) := by decide +kernel
theorem dX11_hasBit_9 : decode cX11_hasBit 9 = .ok (.goto 4, 3) := by decide +kernel
theorem dX11_hasBit_12 : decode cX11_hasBit 12 = .ok (.iconst 0, 1) := by decide +kernel
theorem dX11_hasBit_13 : decode cX11_hasBit 13 = .ok (.ireturn, 1) := by decide +kernel
theorem dX11_heat_0 : decode cX11_heat 0 = .ok (.iload_n 1, 1) := by decide +kernel
theorem dX11_heat_1 : decode cX11_heat 1 = .ok (.iconst 0, 1) := by decide +kernel
theorem dX11_heat_2 : decode cX11_heat 2 = .ok (.bipush 60, 2) := by decide +kernel
theorem dX11_heat_4 : decode cX11_heat 4 = .ok (.invokestatic 57, 3) := by decide +kernel
theorem dX11_heat_7 : decode cX11_heat 7 = .ok (.ifCond .ne 6, 3) := by decide +kernel
theorem dX11_heat_10 : decode cX11_heat 10 = .ok (.ldc 61, 2) := by decide +kernel
theorem dX11_heat_12 : decode cX11_heat 12 = .ok (.ireturn, 1) := by decide +kernel
theorem dX11_heat_13 : decode cX11_heat 13 = .ok (.aload_n 0, 1) := by decide +kernel
theorem dX11_heat_14 : decode cX11_heat 14 = .ok (.getfield 10, 3) := by decide +kernel
theorem dX11_heat_17 : decode cX11_heat 17 = .ok (.getfield 248, 3) := by decide +kernel
theorem dX11_heat_20 : decode cX11_heat 20 = .ok (.istore_n 2, 1) := by decide +kernel
theorem dX11_heat_21 : decode cX11_heat 21 = .ok (.aload_n 0, 1) := by decide +kernel
theorem dX11_heat_22 : decode cX11_heat 22 = .ok (.getfield 10, 3) := by decide +kernel
theorem dX11_heat_25 : decode cX11_heat 25 = .ok (.iload_n 1, 1) := by decide +kernel
theorem dX11_heat_26 : decode cX11_heat 26 = .ok (.putfield 248, 3) := by decide +kernel
theorem dX11_heat_29 : decode cX11_heat 29 = .ok (.iload_n 2, 1) := by decide +kernel
theorem dX11_heat_30 : decode cX11_heat 30 = .ok (.ireturn, 1) := by decide +kernel
theorem dX11_ice_0 : decode cX11_ice 0 = .ok (.aload_n 0, 1) := by decide +kernel
theorem dX11_ice_1 : decode cX11_ice 1 = .ok (.getfield 10, 3) := by decide +kernel
theorem dX11_ice_4 : decode cX11_ice 4 = .ok (.getfield 144, 3) := by decide +kernel
theorem dX11_ice_7 : decode cX11_ice 7 = .ok (.iload_n 1, 1) := by decide +kernel
theorem dX11_ice_8 : decode cX11_ice 8 = .ok (.invokevirtual 163, 3) := by decide +kernel
theorem dX11_ice_11 : decode cX11_ice 11 = .ok (.ifCond .ne 6, 3) := by decide +kernel
theorem dX11_ice_14 : decode cX11_ice 14 = .ok (.ldc 61, 2) := by decide +kernel
theorem dX11_ice_16 : decode cX11_ice 16 = .ok (.ireturn, 1) := by decide +kernel
theorem dX11_ice_17 : decode cX11_ice 17 = .ok (.aload_n 0, 1) := by decide +kernel
theorem dX11_ice_18 : decode cX11_ice 18 = .ok (.getfield 10, 3) := by decide +kernel
theorem dX11_ice_21 : decode cX11_ice 21 = .ok (.iload_n 1, 1) := by decide +kernel
theorem dX11_ice_22 : decode cX11_ice 22 = .ok (.invokevirtual 212, 3) := by decide +kernel
theorem dX11_ice_25 : decode cX11_ice 25 = .ok (.ireturn, 1) := by decide +kernel
theorem dX11_isBitsBelow_0 : decode cX11_isBitsBelow 0 = .ok (.iload_n 0, 1) := by decide +kernel
theorem dX11_isBitsBelow_1 : decode cX11_isBitsBelow 1 = .ok (.ifCond .lt 13, 3) := by decide +kernel
theorem dX11_isBitsBelow_4 : decode cX11_isBitsBelow 4 = .ok (.iload_n 0, 1) := by decide +kernel
theorem dX11_isBitsBelow_5 : decode cX11_isBitsBelow 5 = .ok (.iload_n 1, 1) := by decide +kernel
theorem dX11_isBitsBelow_6 : decode cX11_isBitsBelow 6 = .ok (.ishr, 1) := by decide +kernel
theorem dX11_isBitsBelow_7 : decode cX11_isBitsBelow 7 = .ok (.ifCond .ne 7, 3) := by decide +kernel
theorem dX11_isBitsBelow_10 : decode cX11_isBitsBelow 10 = .ok (.iconst 1, 1) := by decide +kernel
theorem dX11_isBitsBelow_11 : decode cX11_isBitsBelow 11 = .ok (.goto 4, 3) := by decide +kernel
theorem dX11_isBitsBelow_14 : decode cX11_isBitsBelow 14 = .ok (.iconst 0, 1) := by decide +kernel
theorem dX11_isBitsBelow_15 : decode cX11_isBitsBelow 15 = .ok (.ireturn, 1) := by decide +kernel
theorem dX11_isIn_0 : decode cX11_isIn 0 = .ok (.iload_n 0, 1) := by decide +kernel
theorem dX11_isIn_1 : decode cX11_isIn 1 = .ok (.iload_n 1, 1) := by decide +kernel
theorem dX11_isIn_2 : decode cX11_isIn 2 = .ok (.if_icmp .lt 12, 3) := by decide +kernel
theorem dX11_isIn_5 : decode cX11_isIn 5 = .ok (.iload_n 0, 1) := by decide +kernel
theorem dX11_isIn_6 : decode cX11_isIn 6 = .ok (.iload_n 2, 1) := by decide +kernel
theorem dX11_isIn_7 : decode cX11_isIn 7 = .ok (.if_icmp .gt 7, 3) := by decide +kernel
theorem dX11_isIn_10 : decode cX11_isIn 10 = .ok (.iconst 1, 1) := by decide +kernel
theorem dX11_isIn_11 : decode cX11_isIn 11 = .ok (.goto 4, 3) := by decide +kernel
theorem dX11_isIn_14 : decode cX11_isIn 14 = .ok (.iconst 0, 1) := by decide +kernel
theorem dX11_isIn_15 : decode cX11_isIn 15 = .ok (.ireturn, 1) := by decide +kernel
theorem dX11_isLikes_0 : decode cX11_isLikes 0 = .ok (.iload_n 0, 1) := by decide +kernel
theorem dX11_isLikes_1 : decode cX11_isLikes 1 = .ok (.iconst 0, 1) := by decide +kernel
theorem dX11_isLikes_2 : decode cX11_isLikes 2 = .ok (.bipush 9, 2) := by decide +kernel
theorem dX11_isLikes_4 : decode cX11_isLikes 4 = .ok (.invokestatic 57, 3) := by decide +kernel
theorem dX11_isLikes_7 : decode cX11_isLikes 7 = .ok (.ireturn, 1) := by decide +kernel
theorem dX11_isOf_0 : decode cX11_isOf 0 = .ok (.aload_n 0, 1) := by decide +kernel
theorem dX11_isOf_1 : decode cX11_isOf 1 = .ok (.getfield 10, 3) := by decide +kernel
theorem dX11_isOf_4 : decode cX11_isOf 4 = .ok (.getfield 96, 3) := by decide +kernel
theorem dX11_isOf_7 : decode cX11_isOf 7 = .ok (.iload_n 1, 1) := by decide +kernel
theorem dX11_isOf_8 : decode cX11_isOf 8 = .ok (.invokevirtual 109, 3) := by decide +kernel
theorem dX11_isOf_11 : decode cX11_isOf 11 = .ok (.ifCond .eq 12, 3) := by decide +kernel
theorem dX11_isOf_14 : decode cX11_isOf 14 = .ok (.iload_n 2, 1) := by decide +kernel
theorem dX11_isOf_15 : decode cX11_isOf 15 = .ok (.iconst 0, 1) := by decide +kernel
theorem dX11_isOf_16 : decode cX11_isOf 16 = .ok (.iconst 3, 1) := by decide +kernel
theorem dX11_isOf_17 : decode cX11_isOf 17 = .ok (.invokestatic 57, 3) := by decide +kernel
theorem dX11_isOf_20 : decode cX11_isOf 20 = .ok (.ifCond .ne 6, 3) := by decide +kernel
theorem dX11_isOf_23 : decode cX11_isOf 23 = .ok (.ldc 61, 2) := by decide +kernel
theorem dX11_isOf_25 : decode cX11_isOf 25 = .ok (.ireturn, 1) := by decide +kernel
theorem dX11_isOf_26 : decode cX11_isOf 26 = .ok (.aload_n 0, 1) := by decide +kernel
theorem dX11_isOf_27 : decode cX11_isOf 27 = .ok (.getfield 10, 3) := by decide +kernel
theorem dX11_isOf_30 : decode cX11_isOf 30 = .ok (.getfield 96, 3) := by decide +kernel
theorem dX11_isOf_33 : decode cX11_isOf 33 = .ok (.iload_n 1, 1) := by decide +kernel
theorem dX11_isOf_34 : decode cX11_isOf 34 = .ok (.iload_n 2, 1) := by decide +kernel
theorem dX11_isOf_35 : decode cX11_isOf 35 = .ok (.invokevirtual 110, 3) := by decide +kernel
theorem dX11_isOf_38 : decode cX11_isOf 38 = .ok (.invokestatic 114, 3) := by decide +kernel
theorem dX11_isOf_41 : decode cX11_isOf 41 = .ok (.ireturn, 1) := by decide +kernel
theorem dX11_kept_0 : decode cX11_kept 0 = .ok (.iload_n 1, 1) := by decide +kernel
theorem dX11_kept_1 : decode cX11_kept 1 = .ok (.aload_n 0, 1) := by decide +kernel
theorem dX11_kept_2 : decode cX11_kept 2 = .ok (.getfield 10, 3) := by decide +kernel
theorem dX11_kept_5 : decode cX11_kept 5 = .ok (.getfield 96, 3) := by decide +kernel
theorem dX11_kept_8 : decode cX11_kept 8 = .ok (.getfield 100, 3) := by decide +kernel
theorem dX11_kept_11 : decode cX11_kept 11 = .ok (.invokestatic 251, 3) := by decide +kernel
theorem dX11_kept_14 : decode cX11_kept 14 = .ok (.ifCond .eq 15, 3) := by decide +kernel
theorem dX11_kept_17 : decode cX11_kept 17 = .ok (.iload_n 1, 1) := by decide +kernel
theorem dX11_kept_18 : decode cX11_kept 18 = .ok (.invokestatic 260, 3) := by decide +kernel
theorem dX11_kept_21 : decode cX11_kept 21 = .ok (.iconst 1, 1) := by decide +kernel
theorem dX11_kept_22 : decode cX11_kept 22 = .ok (.iconst 4, 1) := by decide +kernel
theorem dX11_kept_23 : decode cX11_kept 23 = .ok (.invokestatic 57, 3) := by decide +kernel
theorem dX11_kept_26 : decode cX11_kept 26 = .ok (.ifCond .ne 6, 3) := by decide +kernel
theorem dX11_kept_29 : decode cX11_kept 29 = .ok (.ldc 61, 2) := by decide +kernel
theorem dX11_kept_31 : decode cX11_kept 31 = .ok (.ireturn, 1) := by decide +kernel
theorem dX11_kept_32 : decode cX11_kept 32 = .ok (.aload_n 0, 1) := by decide +kernel
theorem dX11_kept_33 : decode cX11_kept 33 = .ok (.getfield 28, 3) := by decide +kernel
theorem dX11_kept_36 : decode cX11_kept 36 = .ok (.invokevirtual 271, 3) := by decide +kernel
theorem dX11_kept_39 : decode cX11_kept 39 = .ok (.aload_n 0, 1) := by decide +kernel
theorem dX11_kept_40 : decode cX11_kept 40 = .ok (.getfield 28, 3) := by decide +kernel
theorem dX11_kept_43 : decode cX11_kept 43 = .ok (.iload_n 1, 1) := by decide +kernel
theorem dX11_kept_44 : decode cX11_kept 44 = .ok (.invokevirtual 274, 3) := by decide +kernel
theorem dX11_kept_47 : decode cX11_kept 47 = .ok (.ireturn, 1) := by decide +kernel
theorem dX11_law_0 : decode cX11_law 0 = .ok (.aload_n 0, 1) := by decide +kernel
theorem dX11_law_1 : decode cX11_law 1 = .ok (.getfield 19, 3) := by decide +kernel
theorem dX11_law_4 : decode cX11_law 4 = .ok (.invokevirtual 222, 3) := by decide +kernel
theorem dX11_law_7 : decode cX11_law 7 = .ok (.aload_n 0, 1) := by decide +kernel
theorem dX11_law_8 : decode cX11_law 8 = .ok (.getfield 19, 3) := by decide +kernel
theorem dX11_law_11 : decode cX11_law 11 = .ok (.iconst 0, 1) := by decide +kernel
theorem dX11_law_12 : decode cX11_law 12 = .ok (.putfield 215, 3) := by decide +kernel
theorem dX11_law_15 : decode cX11_law 15 = .ok (.aload_n 0, 1) := by decide +kernel
theorem dX11_law_16 : decode cX11_law 16 = .ok (.getfield 19, 3) := by decide +kernel
theorem dX11_law_19 : decode cX11_law 19 = .ok (.getfield 225, 3) := by decide +kernel
theorem dX11_law_22 : decode cX11_law 22 = .ok (.ifCond .lt 14, 3) := by decide +kernel
theorem dX11_law_25 : decode cX11_law 25 = .ok (.bipush (-100), 2) := by decide +kernel
theorem dX11_law_27 : decode cX11_law 27 = .ok (.aload_n 0, 1) := by decide +kernel
theorem dX11_law_28 : decode cX11_law 28 = .ok (.getfield 19, 3) := by decide +kernel
theorem dX11_law_31 : decode cX11_law 31 = .ok (.getfield 225, 3) := by decide +kernel
theorem dX11_law_34 : decode cX11_law 34 = .ok (.isub, 1) := by decide +kernel
theorem dX11_law_35 : decode cX11_law 35 = .ok (.ireturn, 1) := by decide +kernel
theorem dX11_law_36 : decode cX11_law 36 = .ok (.aload_n 0, 1) := by decide +kernel
theorem dX11_law_37 : decode cX11_law 37 = .ok (.getfield 10, 3) := by decide +kernel
theorem dX11_law_40 : decode cX11_law 40 = .ok (.getfield 228, 3) := by decide +kernel
theorem dX11_law_43 : decode cX11_law 43 = .ok (.aload_n 0, 1) := by decide +kernel
theorem dX11_law_44 : decode cX11_law 44 = .ok (.getfield 19, 3) := by decide +kernel
theorem dX11_law_47 : decode cX11_law 47 = .ok (.getfield 232, 3) := by decide +kernel
theorem dX11_law_50 : decode cX11_law 50 = .ok (.aload_n 0, 1) := by decide +kernel
theorem dX11_law_51 : decode cX11_law 51 = .ok (.getfield 19, 3) := by decide +kernel
theorem dX11_law_54 : decode cX11_law 54 = .ok (.getfield 235, 3) := by decide +kernel
theorem dX11_law_57 : decode cX11_law 57 = .ok (.aload_n 0, 1) := by decide +kernel
theorem dX11_law_58 : decode cX11_law 58 = .ok (.getfield 19, 3) := by decide +kernel
theorem dX11_law_61 : decode cX11_law 61 = .ok (.getfield 236, 3) := by decide +kernel
theorem dX11_law_64 : decode cX11_law 64 = .ok (.invokevirtual 239, 3) := by decide +kernel
theorem dX11_law_67 : decode cX11_law 67 = .ok (.aload_n 0, 1) := by decide +kernel
theorem dX11_law_68 : decode cX11_law 68 = .ok (.getfield 19, 3) := by decide +kernel
theorem dX11_law_71 : decode cX11_law 71 = .ok (.getfield 245, 3) := by decide +kernel
theorem dX11_law_74 : decode cX11_law 74 = .ok (.ireturn, 1) := by decide +kernel
theorem dX11_lay_0 : decode cX11_lay 0 = .ok (.aload_n 0, 1) := by decide +kernel
theorem dX11_lay_1 : decode cX11_lay 1 = .ok (.getfield 10, 3) := by decide +kernel
theorem dX11_lay_4 : decode cX11_lay 4 = .ok (.getfield 144, 3) := by decide +kernel
theorem dX11_lay_7 : decode cX11_lay 7 = .ok (.iload_n 1, 1) := by decide +kernel
theorem dX11_lay_8 : decode cX11_lay 8 = .ok (.invokevirtual 163, 3) := by decide +kernel
theorem dX11_lay_11 : decode cX11_lay 11 = .ok (.ifCond .eq 14, 3) := by decide +kernel
theorem dX11_lay_14 : decode cX11_lay 14 = .ok (.aload_n 0, 1) := by decide +kernel
theorem dX11_lay_15 : decode cX11_lay 15 = .ok (.getfield 49, 3) := by decide +kernel
theorem dX11_lay_18 : decode cX11_lay 18 = .ok (.iload_n 2, 1) := by decide +kernel
theorem dX11_lay_19 : decode cX11_lay 19 = .ok (.invokevirtual 170, 3) := by decide +kernel
theorem dX11_lay_22 : decode cX11_lay 22 = .ok (.ifCond .ne 6, 3) := by decide +kernel
theorem dX11_lay_25 : decode cX11_lay 25 = .ok (.ldc 61, 2) := by decide +kernel
theorem dX11_lay_27 : decode cX11_lay 27 = .ok (.ireturn, 1) := by decide +kernel
theorem dX11_lay_28 : decode cX11_lay 28 = .ok (.aload_n 0, 1) := by decide +kernel
theorem dX11_lay_29 : decode cX11_lay 29 = .ok (.getfield 49, 3) := by decide +kernel
theorem dX11_lay_32 : decode cX11_lay 32 = .ok (.iload_n 2, 1) := by decide +kernel
theorem dX11_lay_33 : decode cX11_lay 33 = .ok (.invokevirtual 173, 3) := by decide +kernel
theorem dX11_lay_36 : decode cX11_lay 36 = .ok (.ifCond .eq 6, 3) := by decide +kernel
theorem dX11_lay_39 : decode cX11_lay 39 = .ok (.ldc 176, 2) := by decide +kernel
theorem dX11_lay_41 : decode cX11_lay 41 = .ok (.ireturn, 1) := by decide +kernel
theorem dX11_lay_42 : decode cX11_lay 42 = .ok (.aload_n 0, 1) := by decide +kernel
theorem dX11_lay_43 : decode cX11_lay 43 = .ok (.getfield 10, 3) := by decide +kernel
theorem dX11_lay_46 : decode cX11_lay 46 = .ok (.getfield 96, 3) := by decide +kernel
theorem dX11_lay_49 : decode cX11_lay 49 = .ok (.getfield 100, 3) := by decide +kernel
theorem dX11_lay_52 : decode cX11_lay 52 = .ok (.aload_n 0, 1) := by decide +kernel
theorem dX11_lay_53 : decode cX11_lay 53 = .ok (.getfield 49, 3) := by decide +kernel
theorem dX11_lay_56 : decode cX11_lay 56 = .ok (.getfield 177, 3) := by decide +kernel
theorem dX11_lay_59 : decode cX11_lay 59 = .ok (.iload_n 2, 1) := by decide +kernel
theorem dX11_lay_60 : decode cX11_lay 60 = .ok (.iaload, 1) := by decide +kernel
theorem dX11_lay_61 : decode cX11_lay 61 = .ok (.invokestatic 180, 3) := by decide +kernel
theorem dX11_lay_64 : decode cX11_lay 64 = .ok (.istore_n 3, 1) := by decide +kernel
theorem dX11_lay_65 : decode cX11_lay 65 = .ok (.iconst 0, 1) := by decide +kernel
theorem dX11_lay_66 : decode cX11_lay 66 = .ok (.istore 4, 2) := by decide +kernel
theorem dX11_lay_68 : decode cX11_lay 68 = .ok (.iconst 0, 1) := by decide +kernel
theorem dX11_lay_69 : decode cX11_lay 69 = .ok (.istore 5, 2) := by decide +kernel
theorem dX11_lay_71 : decode cX11_lay 71 = .ok (.iload 5, 2) := by decide +kernel
theorem dX11_lay_73 : decode cX11_lay 73 = .ok (.iload_n 3, 1) := by decide +kernel
theorem dX11_lay_74 : decode cX11_lay 74 = .ok (.if_icmp .ge 51, 3) := by decide +kernel
theorem dX11_lay_77 : decode cX11_lay 77 = .ok (.aload_n 0, 1) := by decide +kernel
theorem dX11_lay_78 : decode cX11_lay 78 = .ok (.getfield 49, 3) := by decide +kernel
theorem dX11_lay_81 : decode cX11_lay 81 = .ok (.getfield 186, 3) := by decide +kernel
theorem dX11_lay_84 : decode cX11_lay 84 = .ok (.iload_n 2, 1) := by decide +kernel
theorem dX11_lay_85 : decode cX11_lay 85 = .ok (.aaload, 1) := by decide +kernel
theorem dX11_lay_86 : decode cX11_lay 86 = .ok (.iload 5, 2) := by decide +kernel
theorem dX11_lay_88 : decode cX11_lay 88 = .ok (.saload, 1) := by decide +kernel
theorem dX11_lay_89 : decode cX11_lay 89 = .ok (.istore 6, 2) := by decide +kernel
theorem dX11_lay_91 : decode cX11_lay 91 = .ok (.iload 6, 2) := by decide +kernel
theorem dX11_lay_93 : decode cX11_lay 93 = .ok (.invokestatic 164, 3) := by decide +kernel
theorem dX11_lay_96 : decode cX11_lay 96 = .ok (.ifCond .eq 23, 3) := by decide +kernel
theorem dX11_lay_99 : decode cX11_lay 99 = .ok (.aload_n 0, 1) := by decide +kernel
theorem dX11_lay_100 : decode cX11_lay 100 = .ok (.getfield 10, 3) := by decide +kernel
theorem dX11_lay_103 : decode cX11_lay 103 = .ok (.getfield 144, 3) := by decide +kernel
theorem dX11_lay_106 : decode cX11_lay 106 = .ok (.getfield 167, 3) := by decide +kernel
theorem dX11_lay_109 : decode cX11_lay 109 = .ok (.iload_n 1, 1) := by decide +kernel
theorem dX11_lay_110 : decode cX11_lay 110 = .ok (.aaload, 1) := by decide +kernel
theorem dX11_lay_111 : decode cX11_lay 111 = .ok (.iload 5, 2) := by decide +kernel
theorem dX11_lay_113 : decode cX11_lay 113 = .ok (.iload 6, 2) := by decide +kernel
theorem dX11_lay_115 : decode cX11_lay 115 = .ok (.iastore, 1) := by decide +kernel
theorem dX11_lay_116 : decode cX11_lay 116 = .ok (.iinc 4 1, 3) := by decide +kernel
theorem dX11_lay_119 : decode cX11_lay 119 = .ok (.iinc 5 1, 3) := by decide +kernel
theorem dX11_lay_122 : decode cX11_lay 122 = .ok (.goto (-51), 3) := by decide +kernel
theorem dX11_lay_125 : decode cX11_lay 125 = .ok (.iload 4, 2) := by decide +kernel
theorem dX11_lay_127 : decode cX11_lay 127 = .ok (.ireturn, 1) := by decide +kernel
theorem dX11_likes_0 : decode cX11_likes 0 = .ok (.aload_n 0, 1) := by decide +kernel
theorem dX11_likes_1 : decode cX11_likes 1 = .ok (.getfield 10, 3) := by decide +kernel
theorem dX11_likes_4 : decode cX11_likes 4 = .ok (.getfield 144, 3) := by decide +kernel
theorem dX11_likes_7 : decode cX11_likes 7 = .ok (.iload_n 1, 1) := by decide +kernel
theorem dX11_likes_8 : decode cX11_likes 8 = .ok (.invokevirtual 163, 3) := by decide +kernel
theorem dX11_likes_11 : decode cX11_likes 11 = .ok (.ifCond .eq 24, 3) := by decide +kernel
theorem dX11_likes_14 : decode cX11_likes 14 = .ok (.aload_n 0, 1) := by decide +kernel
theorem dX11_likes_15 : decode cX11_likes 15 = .ok (.getfield 10, 3) := by decide +kernel
theorem dX11_likes_18 : decode cX11_likes 18 = .ok (.getfield 96, 3) := by decide +kernel
theorem dX11_likes_21 : decode cX11_likes 21 = .ok (.iload_n 2, 1) := by decide +kernel
theorem dX11_likes_22 : decode cX11_likes 22 = .ok (.invokevirtual 109, 3) := by decide +kernel
theorem dX11_likes_25 : decode cX11_likes 25 = .ok (.ifCond .eq 10, 3) := by decide +kernel
theorem dX11_likes_28 : decode cX11_likes 28 = .ok (.iload_n 3, 1) := by decide +kernel
theorem dX11_likes_29 : decode cX11_likes 29 = .ok (.invokestatic 164, 3) := by decide +kernel
theorem dX11_likes_32 : decode cX11_likes 32 = .ok (.ifCond .ne 6, 3) := by decide +kernel
theorem dX11_likes_35 : decode cX11_likes 35 = .ok (.ldc 61, 2) := by decide +kernel
theorem dX11_likes_37 : decode cX11_likes 37 = .ok (.ireturn, 1) := by decide +kernel
theorem dX11_likes_38 : decode cX11_likes 38 = .ok (.aload_n 0, 1) := by decide +kernel
theorem dX11_likes_39 : decode cX11_likes 39 = .ok (.getfield 10, 3) := by decide +kernel
theorem dX11_likes_42 : decode cX11_likes 42 = .ok (.getfield 144, 3) := by decide +kernel
theorem dX11_likes_45 : decode cX11_likes 45 = .ok (.getfield 167, 3) := by decide +kernel
theorem dX11_likes_48 : decode cX11_likes 48 = .ok (.iload_n 1, 1) := by decide +kernel
theorem dX11_likes_49 : decode cX11_likes 49 = .ok (.aaload, 1) := by decide +kernel
theorem dX11_likes_50 : decode cX11_likes 50 = .ok (.iload_n 2, 1) := by decide +kernel
theorem dX11_likes_51 : decode cX11_likes 51 = .ok (.iaload, 1) := by decide +kernel
theorem dX11_likes_52 : decode cX11_likes 52 = .ok (.istore 4, 2) := by decide +kernel
theorem dX11_likes_54 : decode cX11_likes 54 = .ok (.aload_n 0, 1) := by decide +kernel
theorem dX11_likes_55 : decode cX11_likes 55 = .ok (.getfield 10, 3) := by decide +kernel
theorem dX11_likes_58 : decode cX11_likes 58 = .ok (.getfield 144, 3) := by decide +kernel
theorem dX11_likes_61 : decode cX11_likes 61 = .ok (.getfield 167, 3) := by decide +kernel
theorem dX11_likes_64 : decode cX11_likes 64 = .ok (.iload_n 1, 1) := by decide +kernel
theorem dX11_likes_65 : decode cX11_likes 65 = .ok (.aaload, 1) := by decide +kernel
theorem dX11_likes_66 : decode cX11_likes 66 = .ok (.iload_n 2, 1) := by decide +kernel
theorem dX11_likes_67 : decode cX11_likes 67 = .ok (.iload_n 3, 1) := by decide +kernel
theorem dX11_likes_68 : decode cX11_likes 68 = .ok (.iastore, 1) := by decide +kernel
theorem dX11_likes_69 : decode cX11_likes 69 = .ok (.iload 4, 2) := by decide +kernel
theorem dX11_likes_71 : decode cX11_likes 71 = .ok (.ireturn, 1) := by decide +kernel
theorem dX11_lot_0 : decode cX11_lot 0 = .ok (.aload_n 0, 1) := by decide +kernel
theorem dX11_lot_1 : decode cX11_lot 1 = .ok (.getfield 10, 3) := by decide +kernel
theorem dX11_lot_4 : decode cX11_lot 4 = .ok (.getfield 62, 3) := by decide +kernel
theorem dX11_lot_7 : decode cX11_lot 7 = .ok (.iload_n 1, 1) := by decide +kernel
theorem dX11_lot_8 : decode cX11_lot 8 = .ok (.invokevirtual 88, 3) := by decide +kernel
theorem dX11_lot_11 : decode cX11_lot 11 = .ok (.ifCond .eq 14, 3) := by decide +kernel
theorem dX11_lot_14 : decode cX11_lot 14 = .ok (.iload_n 2, 1) := by decide +kernel
theorem dX11_lot_15 : decode cX11_lot 15 = .ok (.iconst 1, 1) := by decide +kernel
theorem dX11_lot_16 : decode cX11_lot 16 = .ok (.ldc_w 277, 3) := by decide +kernel
theorem dX11_lot_19 : decode cX11_lot 19 = .ok (.invokestatic 57, 3) := by decide +kernel
theorem dX11_lot_22 : decode cX11_lot 22 = .ok (.ifCond .ne 6, 3) := by decide +kernel
theorem dX11_lot_25 : decode cX11_lot 25 = .ok (.ldc 61, 2) := by decide +kernel
theorem dX11_lot_27 : decode cX11_lot 27 = .ok (.ireturn, 1) := by decide +kernel
theorem dX11_lot_28 : decode cX11_lot 28 = .ok (.aload_n 0, 1) := by decide +kernel
theorem dX11_lot_29 : decode cX11_lot 29 = .ok (.getfield 10, 3) := by decide +kernel
theorem dX11_lot_32 : decode cX11_lot 32 = .ok (.getfield 278, 3) := by decide +kernel
theorem dX11_lot_35 : decode cX11_lot 35 = .ok (.astore_n 3, 1) := by decide +kernel
theorem dX11_lot_36 : decode cX11_lot 36 = .ok (.aload_n 3, 1) := by decide +kernel
theorem dX11_lot_37 : decode cX11_lot 37 = .ok (.getfield 282, 3) := by decide +kernel
theorem dX11_lot_40 : decode cX11_lot 40 = .ok (.bipush 40, 2) := by decide +kernel
theorem dX11_lot_42 : decode cX11_lot 42 = .ok (.if_icmp .lt 6, 3) := by decide +kernel
theorem dX11_lot_45 : decode cX11_lot 45 = .ok (.ldc 72, 2) := by decide +kernel
theorem dX11_lot_47 : decode cX11_lot 47 = .ok (.ireturn, 1) := by decide +kernel
theorem dX11_lot_48 : decode cX11_lot 48 = .ok (.aload_n 3, 1) := by decide +kernel
theorem dX11_lot_49 : decode cX11_lot 49 = .ok (.dup, 1) := by decide +kernel
theorem dX11_lot_50 : decode cX11_lot 50 = .ok (.getfield 282, 3) := by decide +kernel
theorem dX11_lot_53 : decode cX11_lot 53 = .ok (.dup_x1, 1) := by decide +kernel
theorem dX11_lot_54 : decode cX11_lot 54 = .ok (.iconst 1, 1) := by decide +kernel
theorem dX11_lot_55 : decode cX11_lot 55 = .ok (.iadd, 1) := by decide +kernel
theorem dX11_lot_56 : decode cX11_lot 56 = .ok (.putfield 282, 3) := by decide +kernel
theorem dX11_lot_59 : decode cX11_lot 59 = .ok (.istore 4, 2) := by decide +kernel
theorem dX11_lot_61 : decode cX11_lot 61 = .ok (.aload_n 3, 1) := by decide +kernel
theorem dX11_lot_62 : decode cX11_lot 62 = .ok (.getfield 285, 3) := by decide +kernel
theorem dX11_lot_65 : decode cX11_lot 65 = .ok (.iload 4, 2) := by decide +kernel
theorem dX11_lot_67 : decode cX11_lot 67 = .ok (.iload_n 1, 1) := by decide +kernel
theorem dX11_lot_68 : decode cX11_lot 68 = .ok (.iastore, 1) := by decide +kernel
theorem dX11_lot_69 : decode cX11_lot 69 = .ok (.aload_n 3, 1) := by decide +kernel
theorem dX11_lot_70 : decode cX11_lot 70 = .ok (.getfield 288, 3) := by decide +kernel
theorem dX11_lot_73 : decode cX11_lot 73 = .ok (.iload 4, 2) := by decide +kernel
theorem dX11_lot_75 : decode cX11_lot 75 = .ok (.iload_n 2, 1) := by decide +kernel
theorem dX11_lot_76 : decode cX11_lot 76 = .ok (.iastore, 1) := by decide +kernel
theorem dX11_lot_77 : decode cX11_lot 77 = .ok (.aload_n 3, 1) := by decide +kernel
theorem dX11_lot_78 : decode cX11_lot 78 = .ok (.getfield 290, 3) := by decide +kernel
theorem dX11_lot_81 : decode cX11_lot 81 = .ok (.iload 4, 2) := by decide +kernel
theorem dX11_lot_83 : decode cX11_lot 83 = .ok (.aload_n 0, 1) := by decide +kernel
theorem dX11_lot_84 : decode cX11_lot 84 = .ok (.getfield 10, 3) := by decide +kernel
theorem dX11_lot_87 : decode cX11_lot 87 = .ok (.getfield 203, 3) := by decide +kernel
theorem dX11_lot_90 : decode cX11_lot 90 = .ok (.iastore, 1) := by decide +kernel
theorem dX11_lot_91 : decode cX11_lot 91 = .ok (.aload_n 3, 1) := by decide +kernel
theorem dX11_lot_92 : decode cX11_lot 92 = .ok (.getfield 293, 3) := by decide +kernel
theorem dX11_lot_95 : decode cX11_lot 95 = .ok (.iload 4, 2) := by decide +kernel
theorem dX11_lot_97 : decode cX11_lot 97 = .ok (.iload_n 2, 1) := by decide +kernel
theorem dX11_lot_98 : decode cX11_lot 98 = .ok (.iastore, 1) := by decide +kernel
theorem dX11_lot_99 : decode cX11_lot 99 = .ok (.iload 4, 2) := by decide +kernel
theorem dX11_lot_101 : decode cX11_lot 101 = .ok (.ireturn, 1) := by decide +kernel
theorem dX11_mark_0 : decode cX11_mark 0 = .ok (.aload_n 0, 1) := by decide +kernel
theorem dX11_mark_1 : decode cX11_mark 1 = .ok (.getfield 49, 3) := by decide +kernel
theorem dX11_mark_4 : decode cX11_mark 4 = .ok (.iload_n 1, 1) := by decide +kernel
theorem dX11_mark_5 : decode cX11_mark 5 = .ok (.invokevirtual 170, 3) := by decide +kernel
theorem dX11_mark_8 : decode cX11_mark 8 = .ok (.ifCond .ne 6, 3) := by decide +kernel
theorem dX11_mark_11 : decode cX11_mark 11 = .ok (.ldc 61, 2) := by decide +kernel
theorem dX11_mark_13 : decode cX11_mark 13 = .ok (.ireturn, 1) := by decide +kernel
theorem dX11_mark_14 : decode cX11_mark 14 = .ok (.aload_n 0, 1) := by decide +kernel
theorem dX11_mark_15 : decode cX11_mark 15 = .ok (.getfield 49, 3) := by decide +kernel
theorem dX11_mark_18 : decode cX11_mark 18 = .ok (.iload_n 1, 1) := by decide +kernel
theorem dX11_mark_19 : decode cX11_mark 19 = .ok (.invokevirtual 173, 3) := by decide +kernel
theorem dX11_mark_22 : decode cX11_mark 22 = .ok (.ifCond .eq 6, 3) := by decide +kernel
theorem dX11_mark_25 : decode cX11_mark 25 = .ok (.ldc 176, 2) := by decide +kernel
theorem dX11_mark_27 : decode cX11_mark 27 = .ok (.ireturn, 1) := by decide +kernel
theorem dX11_mark_28 : decode cX11_mark 28 = .ok (.aload_n 0, 1) := by decide +kernel
theorem dX11_mark_29 : decode cX11_mark 29 = .ok (.getfield 49, 3) := by decide +kernel
theorem dX11_mark_32 : decode cX11_mark 32 = .ok (.iload_n 1, 1) := by decide +kernel
theorem dX11_mark_33 : decode cX11_mark 33 = .ok (.iload_n 2, 1) := by decide +kernel
theorem dX11_mark_34 : decode cX11_mark 34 = .ok (.iconst 1, 1) := by decide +kernel
theorem dX11_mark_35 : decode cX11_mark 35 = .ok (.invokevirtual 371, 3) := by decide +kernel
theorem dX11_mark_38 : decode cX11_mark 38 = .ok (.ifCond .ne 7, 3) := by decide +kernel
theorem dX11_mark_41 : decode cX11_mark 41 = .ok (.ldc_w 374, 3) := by decide +kernel
theorem dX11_mark_44 : decode cX11_mark 44 = .ok (.ireturn, 1) := by decide +kernel
theorem dX11_mark_45 : decode cX11_mark 45 = .ok (.aload_n 0, 1) := by decide +kernel
theorem dX11_mark_46 : decode cX11_mark 46 = .ok (.getfield 49, 3) := by decide +kernel
theorem dX11_mark_49 : decode cX11_mark 49 = .ok (.getfield 186, 3) := by decide +kernel
theorem dX11_mark_52 : decode cX11_mark 52 = .ok (.iload_n 1, 1) := by decide +kernel
theorem dX11_mark_53 : decode cX11_mark 53 = .ok (.aaload, 1) := by decide +kernel
theorem dX11_mark_54 : decode cX11_mark 54 = .ok (.iload_n 2, 1) := by decide +kernel
theorem dX11_mark_55 : decode cX11_mark 55 = .ok (.saload, 1) := by decide +kernel
theorem dX11_mark_56 : decode cX11_mark 56 = .ok (.istore 4, 2) := by decide +kernel
theorem dX11_mark_58 : decode cX11_mark 58 = .ok (.aload_n 0, 1) := by decide +kernel
theorem dX11_mark_59 : decode cX11_mark 59 = .ok (.getfield 49, 3) := by decide +kernel
theorem dX11_mark_62 : decode cX11_mark 62 = .ok (.getfield 186, 3) := by decide +kernel
theorem dX11_mark_65 : decode cX11_mark 65 = .ok (.iload_n 1, 1) := by decide +kernel
theorem dX11_mark_66 : decode cX11_mark 66 = .ok (.aaload, 1) := by decide +kernel
theorem dX11_mark_67 : decode cX11_mark 67 = .ok (.iload_n 2, 1) := by decide +kernel
theorem dX11_mark_68 : decode cX11_mark 68 = .ok (.iload_n 3, 1) := by decide +kernel
theorem dX11_mark_69 : decode cX11_mark 69 = .ok (.i2s, 1) := by decide +kernel
theorem dX11_mark_70 : decode cX11_mark 70 = .ok (.sastore, 1) := by decide +kernel
theorem dX11_mark_71 : decode cX11_mark 71 = .ok (.iload 4, 2) := by decide +kernel
theorem dX11_mark_73 : decode cX11_mark 73 = .ok (.ireturn, 1) := by decide +kernel
theorem dX11_may_0 : decode cX11_may 0 = .ok (.aload_n 0, 1) := by decide +kernel
theorem dX11_may_1 : decode cX11_may 1 = .ok (.getfield 10, 3) := by decide +kernel
theorem dX11_may_4 : decode cX11_may 4 = .ok (.getfield 144, 3) := by decide +kernel
theorem dX11_may_7 : decode cX11_may 7 = .ok (.iload_n 1, 1) := by decide +kernel
theorem dX11_may_8 : decode cX11_may 8 = .ok (.invokevirtual 163, 3) := by decide +kernel
theorem dX11_may_11 : decode cX11_may 11 = .ok (.ifCond .eq 17, 3) := by decide +kernel
theorem dX11_may_14 : decode cX11_may 14 = .ok (.aload_n 0, 1) := by decide +kernel
theorem dX11_may_15 : decode cX11_may 15 = .ok (.getfield 10, 3) := by decide +kernel
theorem dX11_may_18 : decode cX11_may 18 = .ok (.getfield 96, 3) := by decide +kernel
theorem dX11_may_21 : decode cX11_may 21 = .ok (.iload_n 2, 1) := by decide +kernel
theorem dX11_may_22 : decode cX11_may 22 = .ok (.invokevirtual 109, 3) := by decide +kernel
theorem dX11_may_25 : decode cX11_may 25 = .ok (.ifCond .ne 6, 3) := by decide +kernel
theorem dX11_may_28 : decode cX11_may 28 = .ok (.ldc 61, 2) := by decide +kernel
theorem dX11_may_30 : decode cX11_may 30 = .ok (.ireturn, 1) := by decide +kernel
theorem dX11_may_31 : decode cX11_may 31 = .ok (.aload_n 0, 1) := by decide +kernel
theorem dX11_may_32 : decode cX11_may 32 = .ok (.getfield 10, 3) := by decide +kernel
theorem dX11_may_35 : decode cX11_may 35 = .ok (.iload_n 1, 1) := by decide +kernel
theorem dX11_may_36 : decode cX11_may 36 = .ok (.iload_n 2, 1) := by decide +kernel
theorem dX11_may_37 : decode cX11_may 37 = .ok (.invokevirtual 190, 3) := by decide +kernel
theorem dX11_may_40 : decode cX11_may 40 = .ok (.invokestatic 114, 3) := by decide +kernel
theorem dX11_may_43 : decode cX11_may 43 = .ok (.ireturn, 1) := by decide +kernel
theorem dX11_meal_0 : decode cX11_meal 0 = .ok (.iload_n 1, 1) := by decide +kernel
theorem dX11_meal_1 : decode cX11_meal 1 = .ok (.iconst 0, 1) := by decide +kernel
theorem dX11_meal_2 : decode cX11_meal 2 = .ok (.iconst 3, 1) := by decide +kernel
theorem dX11_meal_3 : decode cX11_meal 3 = .ok (.invokestatic 57, 3) := by decide +kernel
theorem dX11_meal_6 : decode cX11_meal 6 = .ok (.ifCond .eq 13, 3) := by decide +kernel
theorem dX11_meal_9 : decode cX11_meal 9 = .ok (.iload_n 2, 1) := by decide +kernel
theorem dX11_meal_10 : decode cX11_meal 10 = .ok (.iconst 0, 1) := by decide +kernel
theorem dX11_meal_11 : decode cX11_meal 11 = .ok (.bipush 15, 2) := by decide +kernel
theorem dX11_meal_13 : decode cX11_meal 13 = .ok (.invokestatic 57, 3) := by decide +kernel
theorem dX11_meal_16 : decode cX11_meal 16 = .ok (.ifCond .ne 6, 3) := by decide +kernel
theorem dX11_meal_19 : decode cX11_meal 19 = .ok (.ldc 61, 2) := by decide +kernel
theorem dX11_meal_21 : decode cX11_meal 21 = .ok (.ireturn, 1) := by decide +kernel
theorem dX11_meal_22 : decode cX11_meal 22 = .ok (.aload_n 0, 1) := by decide +kernel
theorem dX11_meal_23 : decode cX11_meal 23 = .ok (.getfield 10, 3) := by decide +kernel
theorem dX11_meal_26 : decode cX11_meal 26 = .ok (.getfield 96, 3) := by decide +kernel
theorem dX11_meal_29 : decode cX11_meal 29 = .ok (.astore_n 3, 1) := by decide +kernel
theorem dX11_meal_30 : decode cX11_meal 30 = .ok (.aload_n 3, 1) := by decide +kernel
theorem dX11_meal_31 : decode cX11_meal 31 = .ok (.getfield 100, 3) := by decide +kernel
theorem dX11_meal_34 : decode cX11_meal 34 = .ok (.bipush 10, 2) := by decide +kernel
theorem dX11_meal_36 : decode cX11_meal 36 = .ok (.if_icmp .lt 6, 3) := by decide +kernel
theorem dX11_meal_39 : decode cX11_meal 39 = .ok (.ldc 72, 2) := by decide +kernel
theorem dX11_meal_41 : decode cX11_meal 41 = .ok (.ireturn, 1) := by decide +kernel
theorem dX11_meal_42 : decode cX11_meal 42 = .ok (.aload_n 3, 1) := by decide +kernel
theorem dX11_meal_43 : decode cX11_meal 43 = .ok (.dup, 1) := by decide +kernel
theorem dX11_meal_44 : decode cX11_meal 44 = .ok (.getfield 100, 3) := by decide +kernel
theorem dX11_meal_47 : decode cX11_meal 47 = .ok (.dup_x1, 1) := by decide +kernel
theorem dX11_meal_48 : decode cX11_meal 48 = .ok (.iconst 1, 1) := by decide +kernel
theorem dX11_meal_49 : decode cX11_meal 49 = .ok (.iadd, 1) := by decide +kernel
theorem dX11_meal_50 : decode cX11_meal 50 = .ok (.putfield 100, 3) := by decide +kernel
theorem dX11_meal_53 : decode cX11_meal 53 = .ok (.istore 4, 2) := by decide +kernel
theorem dX11_meal_55 : decode cX11_meal 55 = .ok (.aload_n 3, 1) := by decide +kernel
theorem dX11_meal_56 : decode cX11_meal 56 = .ok (.getfield 103, 3) := by decide +kernel
theorem dX11_meal_59 : decode cX11_meal 59 = .ok (.iload 4, 2) := by decide +kernel
theorem dX11_meal_61 : decode cX11_meal 61 = .ok (.iload_n 1, 1) := by decide +kernel
theorem dX11_meal_62 : decode cX11_meal 62 = .ok (.iastore, 1) := by decide +kernel
theorem dX11_meal_63 : decode cX11_meal 63 = .ok (.aload_n 3, 1) := by decide +kernel
theorem dX11_meal_64 : decode cX11_meal 64 = .ok (.getfield 106, 3) := by decide +kernel
theorem dX11_meal_67 : decode cX11_meal 67 = .ok (.iload 4, 2) := by decide +kernel
theorem dX11_meal_69 : decode cX11_meal 69 = .ok (.iload_n 2, 1) := by decide +kernel
theorem dX11_meal_70 : decode cX11_meal 70 = .ok (.iastore, 1) := by decide +kernel
theorem dX11_meal_71 : decode cX11_meal 71 = .ok (.iload 4, 2) := by decide +kernel
theorem dX11_meal_73 : decode cX11_meal 73 = .ok (.ireturn, 1) := by decide +kernel
theorem dX11_menu_0 : decode cX11_menu 0 = .ok (.iload_n 1, 1) := by decide +kernel
theorem dX11_menu_1 : decode cX11_menu 1 = .ok (.aload_n 0, 1) := by decide +kernel
theorem dX11_menu_2 : decode cX11_menu 2 = .ok (.getfield 10, 3) := by decide +kernel
theorem dX11_menu_5 : decode cX11_menu 5 = .ok (.getfield 96, 3) := by decide +kernel
theorem dX11_menu_8 : decode cX11_menu 8 = .ok (.getfield 100, 3) := by decide +kernel
theorem dX11_menu_11 : decode cX11_menu 11 = .ok (.invokestatic 251, 3) := by decide +kernel
theorem dX11_menu_14 : decode cX11_menu 14 = .ok (.ifCond .ne 6, 3) := by decide +kernel
theorem dX11_menu_17 : decode cX11_menu 17 = .ok (.ldc 61, 2) := by decide +kernel
theorem dX11_menu_19 : decode cX11_menu 19 = .ok (.ireturn, 1) := by decide +kernel
theorem dX11_menu_20 : decode cX11_menu 20 = .ok (.aload_n 0, 1) := by decide +kernel
theorem dX11_menu_21 : decode cX11_menu 21 = .ok (.getfield 10, 3) := by decide +kernel
theorem dX11_menu_24 : decode cX11_menu 24 = .ok (.getfield 196, 3) := by decide +kernel
theorem dX11_menu_27 : decode cX11_menu 27 = .ok (.ifCond .eq 6, 3) := by decide +kernel
theorem dX11_menu_30 : decode cX11_menu 30 = .ok (.ldc 124, 2) := by decide +kernel
theorem dX11_menu_32 : decode cX11_menu 32 = .ok (.ireturn, 1) := by decide +kernel
theorem dX11_menu_33 : decode cX11_menu 33 = .ok (.aload_n 0, 1) := by decide +kernel
theorem dX11_menu_34 : decode cX11_menu 34 = .ok (.getfield 10, 3) := by decide +kernel
theorem dX11_menu_37 : decode cX11_menu 37 = .ok (.iload_n 1, 1) := by decide +kernel
theorem dX11_menu_38 : decode cX11_menu 38 = .ok (.putfield 118, 3) := by decide +kernel
theorem dX11_menu_41 : decode cX11_menu 41 = .ok (.aload_n 0, 1) := by decide +kernel
theorem dX11_menu_42 : decode cX11_menu 42 = .ok (.getfield 10, 3) := by decide +kernel
theorem dX11_menu_45 : decode cX11_menu 45 = .ok (.getfield 144, 3) := by decide +kernel
theorem dX11_menu_48 : decode cX11_menu 48 = .ok (.getfield 200, 3) := by decide +kernel
theorem dX11_menu_51 : decode cX11_menu 51 = .ok (.iconst 0, 1) := by decide +kernel
theorem dX11_menu_52 : decode cX11_menu 52 = .ok (.invokestatic 254, 3) := by decide +kernel
theorem dX11_menu_55 : decode cX11_menu 55 = .ok (.iload_n 1, 1) := by decide +kernel
theorem dX11_menu_56 : decode cX11_menu 56 = .ok (.invokestatic 260, 3) := by decide +kernel
theorem dX11_menu_59 : decode cX11_menu 59 = .ok (.ireturn, 1) := by decide +kernel
theorem dX11_pack_0 : decode cX11_pack 0 = .ok (.iload_n 1, 1) := by decide +kernel
theorem dX11_pack_1 : decode cX11_pack 1 = .ok (.iconst 1, 1) := by decide +kernel
theorem dX11_pack_2 : decode cX11_pack 2 = .ok (.sipush 5000, 3) := by decide +kernel
theorem dX11_pack_5 : decode cX11_pack 5 = .ok (.invokestatic 57, 3) := by decide +kernel
theorem dX11_pack_8 : decode cX11_pack 8 = .ok (.ifCond .ne 6, 3) := by decide +kernel
theorem dX11_pack_11 : decode cX11_pack 11 = .ok (.ldc 61, 2) := by decide +kernel
theorem dX11_pack_13 : decode cX11_pack 13 = .ok (.ireturn, 1) := by decide +kernel
theorem dX11_pack_14 : decode cX11_pack 14 = .ok (.aload_n 0, 1) := by decide +kernel
theorem dX11_pack_15 : decode cX11_pack 15 = .ok (.getfield 10, 3) := by decide +kernel
theorem dX11_pack_18 : decode cX11_pack 18 = .ok (.getfield 196, 3) := by decide +kernel
theorem dX11_pack_21 : decode cX11_pack 21 = .ok (.ifCond .eq 6, 3) := by decide +kernel
theorem dX11_pack_24 : decode cX11_pack 24 = .ok (.ldc 124, 2) := by decide +kernel
theorem dX11_pack_26 : decode cX11_pack 26 = .ok (.ireturn, 1) := by decide +kernel
theorem dX11_pack_27 : decode cX11_pack 27 = .ok (.aload_n 0, 1) := by decide +kernel
theorem dX11_pack_28 : decode cX11_pack 28 = .ok (.getfield 35, 3) := by decide +kernel
theorem dX11_pack_31 : decode cX11_pack 31 = .ok (.iload_n 1, 1) := by decide +kernel
theorem dX11_pack_32 : decode cX11_pack 32 = .ok (.invokevirtual 311, 3) := by decide +kernel
theorem dX11_pack_35 : decode cX11_pack 35 = .ok (.istore_n 2, 1) := by decide +kernel
theorem dX11_pack_36 : decode cX11_pack 36 = .ok (.iload_n 2, 1) := by decide +kernel
theorem dX11_pack_37 : decode cX11_pack 37 = .ok (.ifCond .ne 13, 3) := by decide +kernel
theorem dX11_pack_40 : decode cX11_pack 40 = .ok (.aload_n 0, 1) := by decide +kernel
theorem dX11_pack_41 : decode cX11_pack 41 = .ok (.getfield 35, 3) := by decide +kernel
theorem dX11_pack_44 : decode cX11_pack 44 = .ok (.invokevirtual 326, 3) := by decide +kernel
theorem dX11_pack_47 : decode cX11_pack 47 = .ok (.goto 4, 3) := by decide +kernel
theorem dX11_pack_50 : decode cX11_pack 50 = .ok (.iload_n 2, 1) := by decide +kernel
theorem dX11_pack_51 : decode cX11_pack 51 = .ok (.ireturn, 1) := by decide +kernel
theorem dX11_part_0 : decode cX11_part 0 = .ok (.iload_n 2, 1) := by decide +kernel
theorem dX11_part_1 : decode cX11_part 1 = .ok (.bipush 100, 2) := by decide +kernel
theorem dX11_part_3 : decode cX11_part 3 = .ok (.idiv, 1) := by decide +kernel
theorem dX11_part_4 : decode cX11_part 4 = .ok (.istore 4, 2) := by decide +kernel
theorem dX11_part_6 : decode cX11_part 6 = .ok (.iload_n 2, 1) := by decide +kernel
theorem dX11_part_7 : decode cX11_part 7 = .ok (.bipush 10, 2) := by decide +kernel
theorem dX11_part_9 : decode cX11_part 9 = .ok (.idiv, 1) := by decide +kernel
theorem dX11_part_10 : decode cX11_part 10 = .ok (.bipush 10, 2) := by decide +kernel
theorem dX11_part_12 : decode cX11_part 12 = .ok (.irem, 1) := by decide +kernel
theorem dX11_part_13 : decode cX11_part 13 = .ok (.istore 5, 2) := by decide +kernel
theorem dX11_part_15 : decode cX11_part 15 = .ok (.iload_n 2, 1) := by decide +kernel
theorem dX11_part_16 : decode cX11_part 16 = .ok (.bipush 10, 2) := by decide +kernel
theorem dX11_part_18 : decode cX11_part 18 = .ok (.irem, 1) := by decide +kernel
theorem dX11_part_19 : decode cX11_part 19 = .ok (.istore 6, 2) := by decide +kernel
theorem dX11_part_21 : decode cX11_part 21 = .ok (.iload_n 1, 1) := by decide +kernel
theorem dX11_part_22 : decode cX11_part 22 = .ok (.iconst 0, 1) := by decide +kernel
theorem dX11_part_23 : decode cX11_part 23 = .ok (.sipush 255, 3) := by decide +kernel
theorem dX11_part_26 : decode cX11_part 26 = .ok (.invokestatic 57, 3) := by decide +kernel
theorem dX11_part_29 : decode cX11_part 29 = .ok (.ifCond .eq 13, 3) := by decide +kernel
theorem dX11_part_32 : decode cX11_part 32 = .ok (.iload_n 3, 1) := by decide +kernel
theorem dX11_part_33 : decode cX11_part 33 = .ok (.iconst 1, 1) := by decide +kernel
theorem dX11_part_34 : decode cX11_part 34 = .ok (.bipush 20, 2) := by decide +kernel
theorem dX11_part_36 : decode cX11_part 36 = .ok (.invokestatic 57, 3) := by decide +kernel
theorem dX11_part_39 : decode cX11_part 39 = .ok (.ifCond .ne 6, 3) := by decide +kernel
theorem dX11_part_42 : decode cX11_part 42 = .ok (.ldc 61, 2) := by decide +kernel
theorem dX11_part_44 : decode cX11_part 44 = .ok (.ireturn, 1) := by decide +kernel
theorem dX11_part_45 : decode cX11_part 45 = .ok (.iload_n 2, 1) := by decide +kernel
theorem dX11_part_46 : decode cX11_part 46 = .ok (.ifCond .lt 28, 3) := by decide +kernel
theorem dX11_part_49 : decode cX11_part 49 = .ok (.iload 4, 2) := by decide +kernel
theorem dX11_part_51 : decode cX11_part 51 = .ok (.iconst 1, 1) := by decide +kernel
theorem dX11_part_52 : decode cX11_part 52 = .ok (.sipush 999, 3) := by decide +kernel
theorem dX11_part_55 : decode cX11_part 55 = .ok (.invokestatic 57, 3) := by decide +kernel
theorem dX11_part_58 : decode cX11_part 58 = .ok (.ifCond .eq 16, 3) := by decide +kernel
theorem dX11_part_61 : decode cX11_part 61 = .ok (.iload 5, 2) := by decide +kernel
theorem dX11_part_63 : decode cX11_part 63 = .ok (.iconst 4, 1) := by decide +kernel
theorem dX11_part_64 : decode cX11_part 64 = .ok (.if_icmp .ge 10, 3) := by decide +kernel
theorem dX11_part_67 : decode cX11_part 67 = .ok (.iload 6, 2) := by decide +kernel
theorem dX11_part_69 : decode cX11_part 69 = .ok (.bipush 6, 2) := by decide +kernel
theorem dX11_part_71 : decode cX11_part 71 = .ok (.if_icmp .lt 6, 3) := by decide +kernel
theorem dX11_part_74 : decode cX11_part 74 = .ok (.ldc 61, 2) := by decide +kernel
theorem dX11_part_76 : decode cX11_part 76 = .ok (.ireturn, 1) := by decide +kernel
theorem dX11_part_77 : decode cX11_part 77 = .ok (.aload_n 0, 1) := by decide +kernel
theorem dX11_part_78 : decode cX11_part 78 = .ok (.getfield 10, 3) := by decide +kernel
theorem dX11_part_81 : decode cX11_part 81 = .ok (.getfield 62, 3) := by decide +kernel
theorem dX11_part_84 : decode cX11_part 84 = .ok (.astore 7, 2) := by decide +kernel
theorem dX11_part_86 : decode cX11_part 86 = .ok (.aload 7, 2) := by decide +kernel
theorem dX11_part_88 : decode cX11_part 88 = .ok (.getfield 66, 3) := by decide +kernel
theorem dX11_part_91 : decode cX11_part 91 = .ok (.bipush 14, 2) := by decide +kernel
theorem dX11_part_93 : decode cX11_part 93 = .ok (.if_icmp .lt 6, 3) := by decide +kernel
theorem dX11_part_96 : decode cX11_part 96 = .ok (.ldc 72, 2) := by decide +kernel
theorem dX11_part_98 : decode cX11_part 98 = .ok (.ireturn, 1) := by decide +kernel
theorem dX11_part_99 : decode cX11_part 99 = .ok (.aload 7, 2) := by decide +kernel
theorem dX11_part_101 : decode cX11_part 101 = .ok (.dup, 1) := by decide +kernel
theorem dX11_part_102 : decode cX11_part 102 = .ok (.getfield 66, 3) := by decide +kernel
theorem dX11_part_105 : decode cX11_part 105 = .ok (.dup_x1, 1) := by decide +kernel
theorem dX11_part_106 : decode cX11_part 106 = .ok (.iconst 1, 1) := by decide +kernel
theorem dX11_part_107 : decode cX11_part 107 = .ok (.iadd, 1) := by decide +kernel
theorem dX11_part_108 : decode cX11_part 108 = .ok (.putfield 66, 3) := by decide +kernel
theorem dX11_part_111 : decode cX11_part 111 = .ok (.istore 8, 2) := by decide +kernel
theorem dX11_part_113 : decode cX11_part 113 = .ok (.aload 7, 2) := by decide +kernel
theorem dX11_part_115 : decode cX11_part 115 = .ok (.getfield 73, 3) := by decide +kernel
theorem dX11_part_118 : decode cX11_part 118 = .ok (.iload 8, 2) := by decide +kernel
theorem dX11_part_120 : decode cX11_part 120 = .ok (.iload_n 1, 1) := by decide +kernel
theorem dX11_part_121 : decode cX11_part 121 = .ok (.iastore, 1) := by decide +kernel
theorem dX11_part_122 : decode cX11_part 122 = .ok (.aload 7, 2) := by decide +kernel
theorem dX11_part_124 : decode cX11_part 124 = .ok (.getfield 76, 3) := by decide +kernel
theorem dX11_part_127 : decode cX11_part 127 = .ok (.iload 8, 2) := by decide +kernel
theorem dX11_part_129 : decode cX11_part 129 = .ok (.iload 4, 2) := by decide +kernel
theorem dX11_part_131 : decode cX11_part 131 = .ok (.iastore, 1) := by decide +kernel
theorem dX11_part_132 : decode cX11_part 132 = .ok (.aload 7, 2) := by decide +kernel
theorem dX11_part_134 : decode cX11_part 134 = .ok (.getfield 79, 3) := by decide +kernel
theorem dX11_part_137 : decode cX11_part 137 = .ok (.iload 8, 2) := by decide +kernel
theorem dX11_part_139 : decode cX11_part 139 = .ok (.iload 5, 2) := by decide +kernel
theorem dX11_part_141 : decode cX11_part 141 = .ok (.iastore, 1) := by decide +kernel
theorem dX11_part_142 : decode cX11_part 142 = .ok (.aload 7, 2) := by decide +kernel
theorem dX11_part_144 : decode cX11_part 144 = .ok (.getfield 82, 3) := by decide +kernel
theorem dX11_part_147 : decode cX11_part 147 = .ok (.iload 8, 2) := by decide +kernel
theorem dX11_part_149 : decode cX11_part 149 = .ok (.iload 6, 2) := by decide +kernel
theorem dX11_part_151 : decode cX11_part 151 = .ok (.iastore, 1) := by decide +kernel
theorem dX11_part_152 : decode cX11_part 152 = .ok (.aload 7, 2) := by decide +kernel
theorem dX11_part_154 : decode cX11_part 154 = .ok (.getfield 85, 3) := by decide +kernel
theorem dX11_part_157 : decode cX11_part 157 = .ok (.iload 8, 2) := by decide +kernel
theorem dX11_part_159 : decode cX11_part 159 = .ok (.iload_n 3, 1) := by decide +kernel
theorem dX11_part_160 : decode cX11_part 160 = .ok (.iastore, 1) := by decide +kernel
theorem dX11_part_161 : decode cX11_part 161 = .ok (.iload 8, 2) := by decide +kernel
theorem dX11_part_163 : decode cX11_part 163 = .ok (.ireturn, 1) := by decide +kernel
theorem dX11_picks_0 : decode cX11_picks 0 = .ok (.iload_n 1, 1) := by decide +kernel
theorem dX11_picks_1 : decode cX11_picks 1 = .ok (.iconst 0, 1) := by decide +kernel
theorem dX11_picks_2 : decode cX11_picks 2 = .ok (.iconst 3, 1) := by decide +kernel
theorem dX11_picks_3 : decode cX11_picks 3 = .ok (.invokestatic 57, 3) := by decide +kernel
theorem dX11_picks_6 : decode cX11_picks 6 = .ok (.ifCond .eq 12, 3) := by decide +kernel
theorem dX11_picks_9 : decode cX11_picks 9 = .ok (.iload_n 2, 1) := by decide +kernel
theorem dX11_picks_10 : decode cX11_picks 10 = .ok (.iconst 0, 1) := by decide +kernel
theorem dX11_picks_11 : decode cX11_picks 11 = .ok (.iconst 1, 1) := by decide +kernel
theorem dX11_picks_12 : decode cX11_picks 12 = .ok (.invokestatic 57, 3) := by decide +kernel
theorem dX11_picks_15 : decode cX11_picks 15 = .ok (.ifCond .ne 6, 3) := by decide +kernel
theorem dX11_picks_18 : decode cX11_picks 18 = .ok (.ldc 61, 2) := by decide +kernel
theorem dX11_picks_20 : decode cX11_picks 20 = .ok (.ireturn, 1) := by decide +kernel
theorem dX11_picks_21 : decode cX11_picks 21 = .ok (.iload_n 3, 1) := by decide +kernel
theorem dX11_picks_22 : decode cX11_picks 22 = .ok (.aload_n 0, 1) := by decide +kernel
theorem dX11_picks_23 : decode cX11_picks 23 = .ok (.getfield 10, 3) := by decide +kernel
theorem dX11_picks_26 : decode cX11_picks 26 = .ok (.getfield 144, 3) := by decide +kernel
theorem dX11_picks_29 : decode cX11_picks 29 = .ok (.getfield 148, 3) := by decide +kernel
theorem dX11_picks_32 : decode cX11_picks 32 = .ok (.invokestatic 251, 3) := by decide +kernel
theorem dX11_picks_35 : decode cX11_picks 35 = .ok (.ifCond .ne 6, 3) := by decide +kernel
theorem dX11_picks_38 : decode cX11_picks 38 = .ok (.ldc 61, 2) := by decide +kernel
theorem dX11_picks_40 : decode cX11_picks 40 = .ok (.ireturn, 1) := by decide +kernel
theorem dX11_picks_41 : decode cX11_picks 41 = .ok (.aload_n 0, 1) := by decide +kernel
theorem dX11_picks_42 : decode cX11_picks 42 = .ok (.getfield 42, 3) := by decide +kernel
theorem dX11_picks_45 : decode cX11_picks 45 = .ok (.iload_n 1, 1) := by decide +kernel
theorem dX11_picks_46 : decode cX11_picks 46 = .ok (.iload_n 2, 1) := by decide +kernel
theorem dX11_picks_47 : decode cX11_picks 47 = .ok (.iload_n 3, 1) := by decide +kernel
theorem dX11_picks_48 : decode cX11_picks 48 = .ok (.invokevirtual 347, 3) := by decide +kernel
theorem dX11_picks_51 : decode cX11_picks 51 = .ok (.ireturn, 1) := by decide +kernel
theorem dX11_plan_0 : decode cX11_plan 0 = .ok (.iload_n 1, 1) := by decide +kernel
theorem dX11_plan_1 : decode cX11_plan 1 = .ok (.iconst 1, 1) := by decide +kernel
theorem dX11_plan_2 : decode cX11_plan 2 = .ok (.sipush 5000, 3) := by decide +kernel
theorem dX11_plan_5 : decode cX11_plan 5 = .ok (.invokestatic 57, 3) := by decide +kernel
theorem dX11_plan_8 : decode cX11_plan 8 = .ok (.ifCond .ne 6, 3) := by decide +kernel
theorem dX11_plan_11 : decode cX11_plan 11 = .ok (.ldc 61, 2) := by decide +kernel
theorem dX11_plan_13 : decode cX11_plan 13 = .ok (.ireturn, 1) := by decide +kernel
theorem dX11_plan_14 : decode cX11_plan 14 = .ok (.aload_n 0, 1) := by decide +kernel
theorem dX11_plan_15 : decode cX11_plan 15 = .ok (.getfield 35, 3) := by decide +kernel
theorem dX11_plan_18 : decode cX11_plan 18 = .ok (.iload_n 1, 1) := by decide +kernel
theorem dX11_plan_19 : decode cX11_plan 19 = .ok (.invokevirtual 311, 3) := by decide +kernel
theorem dX11_plan_22 : decode cX11_plan 22 = .ok (.istore_n 2, 1) := by decide +kernel
theorem dX11_plan_23 : decode cX11_plan 23 = .ok (.iload_n 2, 1) := by decide +kernel
theorem dX11_plan_24 : decode cX11_plan 24 = .ok (.ifCond .ne 13, 3) := by decide +kernel
theorem dX11_plan_27 : decode cX11_plan 27 = .ok (.aload_n 0, 1) := by decide +kernel
theorem dX11_plan_28 : decode cX11_plan 28 = .ok (.getfield 35, 3) := by decide +kernel
theorem dX11_plan_31 : decode cX11_plan 31 = .ok (.getfield 313, 3) := by decide +kernel
theorem dX11_plan_34 : decode cX11_plan 34 = .ok (.goto 4, 3) := by decide +kernel
theorem dX11_plan_37 : decode cX11_plan 37 = .ok (.iload_n 2, 1) := by decide +kernel
theorem dX11_plan_38 : decode cX11_plan 38 = .ok (.ireturn, 1) := by decide +kernel
theorem dX11_recall_0 : decode cX11_recall 0 = .ok (.aload_n 0, 1) := by decide +kernel
theorem dX11_recall_1 : decode cX11_recall 1 = .ok (.getfield 10, 3) := by decide +kernel
theorem dX11_recall_4 : decode cX11_recall 4 = .ok (.getfield 278, 3) := by decide +kernel
theorem dX11_recall_7 : decode cX11_recall 7 = .ok (.iload_n 1, 1) := by decide +kernel
theorem dX11_recall_8 : decode cX11_recall 8 = .ok (.invokevirtual 296, 3) := by decide +kernel
theorem dX11_recall_11 : decode cX11_recall 11 = .ok (.ifCond .ne 6, 3) := by decide +kernel
theorem dX11_recall_14 : decode cX11_recall 14 = .ok (.ldc 61, 2) := by decide +kernel
theorem dX11_recall_16 : decode cX11_recall 16 = .ok (.ireturn, 1) := by decide +kernel
theorem dX11_recall_17 : decode cX11_recall 17 = .ok (.aload_n 0, 1) := by decide +kernel
theorem dX11_recall_18 : decode cX11_recall 18 = .ok (.getfield 10, 3) := by decide +kernel
theorem dX11_recall_21 : decode cX11_recall 21 = .ok (.getfield 278, 3) := by decide +kernel
theorem dX11_recall_24 : decode cX11_recall 24 = .ok (.iload_n 1, 1) := by decide +kernel
theorem dX11_recall_25 : decode cX11_recall 25 = .ok (.invokevirtual 330, 3) := by decide +kernel
theorem dX11_recall_28 : decode cX11_recall 28 = .ok (.aload_n 0, 1) := by decide +kernel
theorem dX11_recall_29 : decode cX11_recall 29 = .ok (.getfield 10, 3) := by decide +kernel
theorem dX11_recall_32 : decode cX11_recall 32 = .ok (.getfield 278, 3) := by decide +kernel
theorem dX11_recall_35 : decode cX11_recall 35 = .ok (.getfield 333, 3) := by decide +kernel
theorem dX11_recall_38 : decode cX11_recall 38 = .ok (.iload_n 1, 1) := by decide +kernel
theorem dX11_recall_39 : decode cX11_recall 39 = .ok (.iaload, 1) := by decide +kernel
theorem dX11_recall_40 : decode cX11_recall 40 = .ok (.ireturn, 1) := by decide +kernel
theorem dX11_sheet_0 : decode cX11_sheet 0 = .ok (.aload_n 0, 1) := by decide +kernel
theorem dX11_sheet_1 : decode cX11_sheet 1 = .ok (.getfield 49, 3) := by decide +kernel
theorem dX11_sheet_4 : decode cX11_sheet 4 = .ok (.iload_n 1, 1) := by decide +kernel
theorem dX11_sheet_5 : decode cX11_sheet 5 = .ok (.invokevirtual 170, 3) := by decide +kernel
theorem dX11_sheet_8 : decode cX11_sheet 8 = .ok (.ifCond .eq 9, 3) := by decide +kernel
theorem dX11_sheet_11 : decode cX11_sheet 11 = .ok (.iload_n 2, 1) := by decide +kernel
theorem dX11_sheet_12 : decode cX11_sheet 12 = .ok (.bipush 16, 2) := by decide +kernel
theorem dX11_sheet_14 : decode cX11_sheet 14 = .ok (.if_icmp .le 6, 3) := by decide +kernel
theorem dX11_sheet_17 : decode cX11_sheet 17 = .ok (.ldc 61, 2) := by decide +kernel
theorem dX11_sheet_19 : decode cX11_sheet 19 = .ok (.ireturn, 1) := by decide +kernel
theorem dX11_sheet_20 : decode cX11_sheet 20 = .ok (.iload_n 2, 1) := by decide +kernel
theorem dX11_sheet_21 : decode cX11_sheet 21 = .ok (.ifCond .ge 7, 3) := by decide +kernel
theorem dX11_sheet_24 : decode cX11_sheet 24 = .ok (.ldc_w 367, 3) := by decide +kernel
theorem dX11_sheet_27 : decode cX11_sheet 27 = .ok (.ireturn, 1) := by decide +kernel
theorem dX11_sheet_28 : decode cX11_sheet 28 = .ok (.aload_n 0, 1) := by decide +kernel
theorem dX11_sheet_29 : decode cX11_sheet 29 = .ok (.getfield 49, 3) := by decide +kernel
theorem dX11_sheet_32 : decode cX11_sheet 32 = .ok (.getfield 186, 3) := by decide +kernel
theorem dX11_sheet_35 : decode cX11_sheet 35 = .ok (.iload_n 1, 1) := by decide +kernel
theorem dX11_sheet_36 : decode cX11_sheet 36 = .ok (.aaload, 1) := by decide +kernel
theorem dX11_sheet_37 : decode cX11_sheet 37 = .ok (.iconst 0, 1) := by decide +kernel
theorem dX11_sheet_38 : decode cX11_sheet 38 = .ok (.invokestatic 368, 3) := by decide +kernel
theorem dX11_sheet_41 : decode cX11_sheet 41 = .ok (.aload_n 0, 1) := by decide +kernel
theorem dX11_sheet_42 : decode cX11_sheet 42 = .ok (.getfield 49, 3) := by decide +kernel
theorem dX11_sheet_45 : decode cX11_sheet 45 = .ok (.getfield 177, 3) := by decide +kernel
theorem dX11_sheet_48 : decode cX11_sheet 48 = .ok (.iload_n 1, 1) := by decide +kernel
theorem dX11_sheet_49 : decode cX11_sheet 49 = .ok (.iload_n 2, 1) := by decide +kernel
theorem dX11_sheet_50 : decode cX11_sheet 50 = .ok (.iastore, 1) := by decide +kernel
theorem dX11_sheet_51 : decode cX11_sheet 51 = .ok (.iload_n 2, 1) := by decide +kernel
theorem dX11_sheet_52 : decode cX11_sheet 52 = .ok (.ireturn, 1) := by decide +kernel
theorem dX11_shifts_0 : decode cX11_shifts 0 = .ok (.iload_n 1, 1) := by decide +kernel
theorem dX11_shifts_1 : decode cX11_shifts 1 = .ok (.iconst 0, 1) := by decide +kernel
theorem dX11_shifts_2 : decode cX11_shifts 2 = .ok (.iconst 1, 1) := by decide +kernel
theorem dX11_shifts_3 : decode cX11_shifts 3 = .ok (.invokestatic 57, 3) := by decide +kernel
theorem dX11_shifts_6 : decode cX11_shifts 6 = .ok (.ifCond .ne 6, 3) := by decide +kernel
theorem dX11_shifts_9 : decode cX11_shifts 9 = .ok (.ldc 61, 2) := by decide +kernel
theorem dX11_shifts_11 : decode cX11_shifts 11 = .ok (.ireturn, 1) := by decide +kernel
theorem dX11_shifts_12 : decode cX11_shifts 12 = .ok (.aload_n 0, 1) := by decide +kernel
theorem dX11_shifts_13 : decode cX11_shifts 13 = .ok (.getfield 42, 3) := by decide +kernel
theorem dX11_shifts_16 : decode cX11_shifts 16 = .ok (.invokevirtual 339, 3) := by decide +kernel
theorem dX11_shifts_19 : decode cX11_shifts 19 = .ok (.iload_n 1, 1) := by decide +kernel
theorem dX11_shifts_20 : decode cX11_shifts 20 = .ok (.ifCond .ne 13, 3) := by decide +kernel
theorem dX11_shifts_23 : decode cX11_shifts 23 = .ok (.aload_n 0, 1) := by decide +kernel
theorem dX11_shifts_24 : decode cX11_shifts 24 = .ok (.getfield 42, 3) := by decide +kernel
theorem dX11_shifts_27 : decode cX11_shifts 27 = .ok (.getfield 341, 3) := by decide +kernel
theorem dX11_shifts_30 : decode cX11_shifts 30 = .ok (.goto 10, 3) := by decide +kernel
theorem dX11_shifts_33 : decode cX11_shifts 33 = .ok (.aload_n 0, 1) := by decide +kernel
theorem dX11_shifts_34 : decode cX11_shifts 34 = .ok (.getfield 42, 3) := by decide +kernel
theorem dX11_shifts_37 : decode cX11_shifts 37 = .ok (.getfield 344, 3) := by decide +kernel
theorem dX11_shifts_40 : decode cX11_shifts 40 = .ok (.ireturn, 1) := by decide +kernel
theorem dX11_stock_0 : decode cX11_stock 0 = .ok (.aload_n 0, 1) := by decide +kernel
theorem dX11_stock_1 : decode cX11_stock 1 = .ok (.getfield 10, 3) := by decide +kernel
