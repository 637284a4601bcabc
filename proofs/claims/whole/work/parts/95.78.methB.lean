theorem dJ3_checkIndex_8e157_0 : decode cJ3_checkIndex_8e157 0 = .ok (.iload_n 0, 1) := by decide +kernel
theorem dJ3_checkIndex_8e157_1 : decode cJ3_checkIndex_8e157 1 = .ok (.ifCond .lt 8, 3) := by decide +kernel
theorem dJ3_checkIndex_8e157_4 : decode cJ3_checkIndex_8e157 4 = .ok (.iload_n 0, 1) := by decide +kernel
theorem dJ3_checkIndex_8e157_5 : decode cJ3_checkIndex_8e157 5 = .ok (.iload_n 1, 1) := by decide +kernel
theorem dJ3_checkIndex_8e157_6 : decode cJ3_checkIndex_8e157 6 = .ok (.if_icmp .lt 10, 3) := by decide +kernel
theorem dJ3_checkIndex_8e157_9 : decode cJ3_checkIndex_8e157 9 = .ok (.aload_n 2, 1) := by decide +kernel
theorem dJ3_checkIndex_8e157_10 : decode cJ3_checkIndex_8e157 10 = .ok (.iload_n 0, 1) := by decide +kernel
theorem dJ3_checkIndex_8e157_11 : decode cJ3_checkIndex_8e157 11 = .ok (.iload_n 1, 1) := by decide +kernel
theorem dJ3_checkIndex_8e157_12 : decode cJ3_checkIndex_8e157 12 = .ok (.invokestatic 95, 3) := by decide +kernel
theorem dJ3_checkIndex_8e157_15 : decode cJ3_checkIndex_8e157 15 = .ok (.athrow, 1) := by decide +kernel
theorem dJ3_checkIndex_8e157_16 : decode cJ3_checkIndex_8e157 16 = .ok (.iload_n 0, 1) := by decide +kernel
theorem dJ3_checkIndex_8e157_17 : decode cJ3_checkIndex_8e157 17 = .ok (.ireturn, 1) := by decide +kernel
theorem dJ0_checkIndex_df160_0 : decode cJ0_checkIndex_df160 0 = .ok (.iload_n 0, 1) := by decide +kernel
theorem dJ0_checkIndex_df160_1 : decode cJ0_checkIndex_df160 1 = .ok (.iload_n 1, 1) := by decide +kernel
theorem dJ0_checkIndex_df160_2 : decode cJ0_checkIndex_df160 2 = .ok (.getstatic 1053, 3) := by decide +kernel
theorem dJ0_checkIndex_df160_5 : decode cJ0_checkIndex_df160 5 = .ok (.invokestatic 1059, 3) := by decide +kernel
theorem dJ0_checkIndex_df160_8 : decode cJ0_checkIndex_df160 8 = .ok (.pop, 1) := by decide +kernel
theorem dJ0_checkIndex_df160_9 : decode cJ0_checkIndex_df160 9 = .ok (.return_, 1) := by decide +kernel
theorem dJ0_coder_7d493_0 : decode cJ0_coder_7d493 0 = .ok (.getstatic 38, 3) := by decide +kernel
theorem dJ0_coder_7d493_3 : decode cJ0_coder_7d493 3 = .ok (.ifCond .eq 10, 3) := by decide +kernel
theorem dJ0_coder_7d493_6 : decode cJ0_coder_7d493 6 = .ok (.aload_n 0, 1) := by decide +kernel
theorem dJ0_coder_7d493_7 : decode cJ0_coder_7d493 7 = .ok (.getfield 15, 3) := by decide +kernel
theorem dJ0_coder_7d493_10 : decode cJ0_coder_7d493 10 = .ok (.goto 4, 3) := by decide +kernel
theorem dJ0_coder_7d493_13 : decode cJ0_coder_7d493 13 = .ok (.iconst 1, 1) := by decide +kernel
theorem dJ0_coder_7d493_14 : decode cJ0_coder_7d493 14 = .ok (.ireturn, 1) := by decide +kernel
theorem dJ0_isLatin1_aae02_0 : decode cJ0_isLatin1_aae02 0 = .ok (.getstatic 38, 3) := by decide +kernel
theorem dJ0_isLatin1_aae02_3 : decode cJ0_isLatin1_aae02 3 = .ok (.ifCond .eq 14, 3) := by decide +kernel
theorem dJ0_isLatin1_aae02_6 : decode cJ0_isLatin1_aae02 6 = .ok (.aload_n 0, 1) := by decide +kernel
theorem dJ0_isLatin1_aae02_7 : decode cJ0_isLatin1_aae02 7 = .ok (.getfield 15, 3) := by decide +kernel
theorem dJ0_isLatin1_aae02_10 : decode cJ0_isLatin1_aae02 10 = .ok (.ifCond .ne 7, 3) := by decide +kernel
theorem dJ0_isLatin1_aae02_13 : decode cJ0_isLatin1_aae02 13 = .ok (.iconst 1, 1) := by decide +kernel
theorem dJ0_isLatin1_aae02_14 : decode cJ0_isLatin1_aae02 14 = .ok (.goto 4, 3) := by decide +kernel
theorem dJ0_isLatin1_aae02_17 : decode cJ0_isLatin1_aae02 17 = .ok (.iconst 0, 1) := by decide +kernel
theorem dJ0_isLatin1_aae02_18 : decode cJ0_isLatin1_aae02 18 = .ok (.ireturn, 1) := by decide +kernel
theorem dJ0_length_8abf5_0 : decode cJ0_length_8abf5 0 = .ok (.aload_n 0, 1) := by decide +kernel
theorem dJ0_length_8abf5_1 : decode cJ0_length_8abf5 1 = .ok (.getfield 9, 3) := by decide +kernel
theorem dJ0_length_8abf5_4 : decode cJ0_length_8abf5 4 = .ok (.arraylength, 1) := by decide +kernel
theorem dJ0_length_8abf5_5 : decode cJ0_length_8abf5 5 = .ok (.aload_n 0, 1) := by decide +kernel
theorem dJ0_length_8abf5_6 : decode cJ0_length_8abf5 6 = .ok (.invokevirtual 335, 3) := by decide +kernel
theorem dJ0_length_8abf5_9 : decode cJ0_length_8abf5 9 = .ok (.ishr, 1) := by decide +kernel
theorem dJ0_length_8abf5_10 : decode cJ0_length_8abf5 10 = .ok (.ireturn, 1) := by decide +kernel
theorem dJ1_canEncode_9a6ad_0 : decode cJ1_canEncode_9a6ad 0 = .ok (.iload_n 0, 1) := by decide +kernel
theorem dJ1_canEncode_9a6ad_1 : decode cJ1_canEncode_9a6ad 1 = .ok (.ifCond .lt 14, 3) := by decide +kernel
theorem dJ1_canEncode_9a6ad_4 : decode cJ1_canEncode_9a6ad 4 = .ok (.iload_n 0, 1) := by decide +kernel
theorem dJ1_canEncode_9a6ad_5 : decode cJ1_canEncode_9a6ad 5 = .ok (.sipush 255, 3) := by decide +kernel
theorem dJ1_canEncode_9a6ad_8 : decode cJ1_canEncode_9a6ad 8 = .ok (.if_icmp .gt 7, 3) := by decide +kernel
theorem dJ1_canEncode_9a6ad_11 : decode cJ1_canEncode_9a6ad 11 = .ok (.iconst 1, 1) := by decide +kernel
theorem dJ1_canEncode_9a6ad_12 : decode cJ1_canEncode_9a6ad 12 = .ok (.goto 4, 3) := by decide +kernel
theorem dJ1_canEncode_9a6ad_15 : decode cJ1_canEncode_9a6ad 15 = .ok (.iconst 0, 1) := by decide +kernel
theorem dJ1_canEncode_9a6ad_16 : decode cJ1_canEncode_9a6ad 16 = .ok (.ireturn, 1) := by decide +kernel
theorem dJ1_indexOfChar_4cfef_0 : decode cJ1_indexOfChar_4cfef 0 = .ok (.iload_n 1, 1) := by decide +kernel
theorem dJ1_indexOfChar_4cfef_1 : decode cJ1_indexOfChar_4cfef 1 = .ok (.i2b, 1) := by decide +kernel
theorem dJ1_indexOfChar_4cfef_2 : decode cJ1_indexOfChar_4cfef 2 = .ok (.istore 4, 2) := by decide +kernel
theorem dJ1_indexOfChar_4cfef_4 : decode cJ1_indexOfChar_4cfef 4 = .ok (.iload_n 2, 1) := by decide +kernel
theorem dJ1_indexOfChar_4cfef_5 : decode cJ1_indexOfChar_4cfef 5 = .ok (.istore 5, 2) := by decide +kernel
theorem dJ1_indexOfChar_4cfef_7 : decode cJ1_indexOfChar_4cfef 7 = .ok (.iload 5, 2) := by decide +kernel
theorem dJ1_indexOfChar_4cfef_9 : decode cJ1_indexOfChar_4cfef 9 = .ok (.iload_n 3, 1) := by decide +kernel
theorem dJ1_indexOfChar_4cfef_10 : decode cJ1_indexOfChar_4cfef 10 = .ok (.if_icmp .ge 21, 3) := by decide +kernel
theorem dJ1_indexOfChar_4cfef_13 : decode cJ1_indexOfChar_4cfef 13 = .ok (.aload_n 0, 1) := by decide +kernel
theorem dJ1_indexOfChar_4cfef_14 : decode cJ1_indexOfChar_4cfef 14 = .ok (.iload 5, 2) := by decide +kernel
theorem dJ1_indexOfChar_4cfef_16 : decode cJ1_indexOfChar_4cfef 16 = .ok (.baload, 1) := by decide +kernel
theorem dJ1_indexOfChar_4cfef_17 : decode cJ1_indexOfChar_4cfef 17 = .ok (.iload 4, 2) := by decide +kernel
theorem dJ1_indexOfChar_4cfef_19 : decode cJ1_indexOfChar_4cfef 19 = .ok (.if_icmp .ne 6, 3) := by decide +kernel
theorem dJ1_indexOfChar_4cfef_22 : decode cJ1_indexOfChar_4cfef 22 = .ok (.iload 5, 2) := by decide +kernel
theorem dJ1_indexOfChar_4cfef_24 : decode cJ1_indexOfChar_4cfef 24 = .ok (.ireturn, 1) := by decide +kernel
theorem dJ1_indexOfChar_4cfef_25 : decode cJ1_indexOfChar_4cfef 25 = .ok (.iinc 5 1, 3) := by decide +kernel
theorem dJ1_indexOfChar_4cfef_28 : decode cJ1_indexOfChar_4cfef 28 = .ok (.goto (-21), 3) := by decide +kernel
theorem dJ1_indexOfChar_4cfef_31 : decode cJ1_indexOfChar_4cfef 31 = .ok (.iconst (-1), 1) := by decide +kernel
theorem dJ1_indexOfChar_4cfef_32 : decode cJ1_indexOfChar_4cfef 32 = .ok (.ireturn, 1) := by decide +kernel
theorem dJ1_indexOf_4cfef_0 : decode cJ1_indexOf_4cfef 0 = .ok (.iload_n 1, 1) := by decide +kernel
theorem dJ1_indexOf_4cfef_1 : decode cJ1_indexOf_4cfef 1 = .ok (.invokestatic 88, 3) := by decide +kernel
theorem dJ1_indexOf_4cfef_4 : decode cJ1_indexOf_4cfef 4 = .ok (.ifCond .ne 5, 3) := by decide +kernel
theorem dJ1_indexOf_4cfef_7 : decode cJ1_indexOf_4cfef 7 = .ok (.iconst (-1), 1) := by decide +kernel
theorem dJ1_indexOf_4cfef_8 : decode cJ1_indexOf_4cfef 8 = .ok (.ireturn, 1) := by decide +kernel
theorem dJ1_indexOf_4cfef_9 : decode cJ1_indexOf_4cfef 9 = .ok (.iload_n 2, 1) := by decide +kernel
theorem dJ1_indexOf_4cfef_10 : decode cJ1_indexOf_4cfef 10 = .ok (.iconst 0, 1) := by decide +kernel
theorem dJ1_indexOf_4cfef_11 : decode cJ1_indexOf_4cfef 11 = .ok (.invokestatic 92, 3) := by decide +kernel
theorem dJ1_indexOf_4cfef_14 : decode cJ1_indexOf_4cfef 14 = .ok (.istore_n 2, 1) := by decide +kernel
theorem dJ1_indexOf_4cfef_15 : decode cJ1_indexOf_4cfef 15 = .ok (.iload_n 3, 1) := by decide +kernel
theorem dJ1_indexOf_4cfef_16 : decode cJ1_indexOf_4cfef 16 = .ok (.aload_n 0, 1) := by decide +kernel
theorem dJ1_indexOf_4cfef_17 : decode cJ1_indexOf_4cfef 17 = .ok (.arraylength, 1) := by decide +kernel
theorem dJ1_indexOf_4cfef_18 : decode cJ1_indexOf_4cfef 18 = .ok (.invokestatic 38, 3) := by decide +kernel
theorem dJ1_indexOf_4cfef_21 : decode cJ1_indexOf_4cfef 21 = .ok (.istore_n 3, 1) := by decide +kernel
theorem dJ1_indexOf_4cfef_22 : decode cJ1_indexOf_4cfef 22 = .ok (.iload_n 2, 1) := by decide +kernel
theorem dJ1_indexOf_4cfef_23 : decode cJ1_indexOf_4cfef 23 = .ok (.iload_n 3, 1) := by decide +kernel
theorem dJ1_indexOf_4cfef_24 : decode cJ1_indexOf_4cfef 24 = .ok (.if_icmp .lt 5, 3) := by decide +kernel
theorem dJ1_indexOf_4cfef_27 : decode cJ1_indexOf_4cfef 27 = .ok (.iconst (-1), 1) := by decide +kernel
theorem dJ1_indexOf_4cfef_28 : decode cJ1_indexOf_4cfef 28 = .ok (.ireturn, 1) := by decide +kernel
theorem dJ1_indexOf_4cfef_29 : decode cJ1_indexOf_4cfef 29 = .ok (.aload_n 0, 1) := by decide +kernel
theorem dJ1_indexOf_4cfef_30 : decode cJ1_indexOf_4cfef 30 = .ok (.iload_n 1, 1) := by decide +kernel
theorem dJ1_indexOf_4cfef_31 : decode cJ1_indexOf_4cfef 31 = .ok (.iload_n 2, 1) := by decide +kernel
theorem dJ1_indexOf_4cfef_32 : decode cJ1_indexOf_4cfef 32 = .ok (.iload_n 3, 1) := by decide +kernel
theorem dJ1_indexOf_4cfef_33 : decode cJ1_indexOf_4cfef 33 = .ok (.invokestatic 95, 3) := by decide +kernel
theorem dJ1_indexOf_4cfef_36 : decode cJ1_indexOf_4cfef 36 = .ok (.ireturn, 1) := by decide +kernel
theorem dJ0_indexOf_7cf53_0 : decode cJ0_indexOf_7cf53 0 = .ok (.aload_n 0, 1) := by decide +kernel
theorem dJ0_indexOf_7cf53_1 : decode cJ0_indexOf_7cf53 1 = .ok (.invokevirtual 492, 3) := by decide +kernel
theorem dJ0_indexOf_7cf53_4 : decode cJ0_indexOf_7cf53 4 = .ok (.ifCond .eq 19, 3) := by decide +kernel
theorem dJ0_indexOf_7cf53_7 : decode cJ0_indexOf_7cf53 7 = .ok (.aload_n 0, 1) := by decide +kernel
theorem dJ0_indexOf_7cf53_8 : decode cJ0_indexOf_7cf53 8 = .ok (.getfield 9, 3) := by decide +kernel
theorem dJ0_indexOf_7cf53_11 : decode cJ0_indexOf_7cf53 11 = .ok (.iload_n 1, 1) := by decide +kernel
theorem dJ0_indexOf_7cf53_12 : decode cJ0_indexOf_7cf53 12 = .ok (.iload_n 2, 1) := by decide +kernel
theorem dJ0_indexOf_7cf53_13 : decode cJ0_indexOf_7cf53 13 = .ok (.aload_n 0, 1) := by decide +kernel
theorem dJ0_indexOf_7cf53_14 : decode cJ0_indexOf_7cf53 14 = .ok (.invokevirtual 505, 3) := by decide +kernel
theorem dJ0_indexOf_7cf53_17 : decode cJ0_indexOf_7cf53 17 = .ok (.invokestatic 637, 3) := by decide +kernel
theorem dJ0_indexOf_7cf53_20 : decode cJ0_indexOf_7cf53 20 = .ok (.goto 16, 3) := by decide +kernel
theorem dJ0_indexOf_7cf53_23 : decode cJ0_indexOf_7cf53 23 = .ok (.aload_n 0, 1) := by decide +kernel
theorem dJ0_indexOf_7cf53_24 : decode cJ0_indexOf_7cf53 24 = .ok (.getfield 9, 3) := by decide +kernel
theorem dJ0_indexOf_7cf53_27 : decode cJ0_indexOf_7cf53 27 = .ok (.iload_n 1, 1) := by decide +kernel
theorem dJ0_indexOf_7cf53_28 : decode cJ0_indexOf_7cf53 28 = .ok (.iload_n 2, 1) := by decide +kernel
theorem dJ0_indexOf_7cf53_29 : decode cJ0_indexOf_7cf53 29 = .ok (.aload_n 0, 1) := by decide +kernel
theorem dJ0_indexOf_7cf53_30 : decode cJ0_indexOf_7cf53 30 = .ok (.invokevirtual 505, 3) := by decide +kernel
theorem dJ0_indexOf_7cf53_33 : decode cJ0_indexOf_7cf53 33 = .ok (.invokestatic 640, 3) := by decide +kernel
theorem dJ0_indexOf_7cf53_36 : decode cJ0_indexOf_7cf53 36 = .ok (.ireturn, 1) := by decide +kernel
theorem dJ0_indexOf_0f7a4_0 : decode cJ0_indexOf_0f7a4 0 = .ok (.aload_n 0, 1) := by decide +kernel
theorem dJ0_indexOf_0f7a4_1 : decode cJ0_indexOf_0f7a4 1 = .ok (.iload_n 1, 1) := by decide +kernel
theorem dJ0_indexOf_0f7a4_2 : decode cJ0_indexOf_0f7a4 2 = .ok (.iconst 0, 1) := by decide +kernel
theorem dJ0_indexOf_0f7a4_3 : decode cJ0_indexOf_0f7a4 3 = .ok (.invokevirtual 633, 3) := by decide +kernel
theorem dJ0_indexOf_0f7a4_6 : decode cJ0_indexOf_0f7a4 6 = .ok (.ireturn, 1) := by decide +kernel
theorem dJ1_charAt_3b067_0 : decode cJ1_charAt_3b067 0 = .ok (.iload_n 1, 1) := by decide +kernel
theorem dJ1_charAt_3b067_1 : decode cJ1_charAt_3b067 1 = .ok (.aload_n 0, 1) := by decide +kernel
theorem dJ1_charAt_3b067_2 : decode cJ1_charAt_3b067 2 = .ok (.arraylength, 1) := by decide +kernel
theorem dJ1_charAt_3b067_3 : decode cJ1_charAt_3b067 3 = .ok (.invokestatic 9, 3) := by decide +kernel
theorem dJ1_charAt_3b067_6 : decode cJ1_charAt_3b067 6 = .ok (.aload_n 0, 1) := by decide +kernel
theorem dJ1_charAt_3b067_7 : decode cJ1_charAt_3b067 7 = .ok (.iload_n 1, 1) := by decide +kernel
theorem dJ1_charAt_3b067_8 : decode cJ1_charAt_3b067 8 = .ok (.baload, 1) := by decide +kernel
theorem dJ1_charAt_3b067_9 : decode cJ1_charAt_3b067 9 = .ok (.sipush 255, 3) := by decide +kernel
theorem dJ1_charAt_3b067_12 : decode cJ1_charAt_3b067 12 = .ok (.iand, 1) := by decide +kernel
theorem dJ1_charAt_3b067_13 : decode cJ1_charAt_3b067 13 = .ok (.i2c, 1) := by decide +kernel
theorem dJ1_charAt_3b067_14 : decode cJ1_charAt_3b067 14 = .ok (.ireturn, 1) := by decide +kernel
theorem dJ0_charAt_5068e_0 : decode cJ0_charAt_5068e 0 = .ok (.aload_n 0, 1) := by decide +kernel
theorem dJ0_charAt_5068e_1 : decode cJ0_charAt_5068e 1 = .ok (.invokevirtual 492, 3) := by decide +kernel
theorem dJ0_charAt_5068e_4 : decode cJ0_charAt_5068e 4 = .ok (.ifCond .eq 12, 3) := by decide +kernel
theorem dJ0_charAt_5068e_7 : decode cJ0_charAt_5068e 7 = .ok (.aload_n 0, 1) := by decide +kernel
theorem dJ0_charAt_5068e_8 : decode cJ0_charAt_5068e 8 = .ok (.getfield 9, 3) := by decide +kernel
theorem dJ0_charAt_5068e_11 : decode cJ0_charAt_5068e 11 = .ok (.iload_n 1, 1) := by decide +kernel
theorem dJ0_charAt_5068e_12 : decode cJ0_charAt_5068e 12 = .ok (.invokestatic 495, 3) := by decide +kernel
theorem dJ0_charAt_5068e_15 : decode cJ0_charAt_5068e 15 = .ok (.ireturn, 1) := by decide +kernel
theorem dJ0_charAt_5068e_16 : decode cJ0_charAt_5068e 16 = .ok (.aload_n 0, 1) := by decide +kernel
theorem dJ0_charAt_5068e_17 : decode cJ0_charAt_5068e 17 = .ok (.getfield 9, 3) := by decide +kernel
theorem dJ0_charAt_5068e_20 : decode cJ0_charAt_5068e 20 = .ok (.iload_n 1, 1) := by decide +kernel
theorem dJ0_charAt_5068e_21 : decode cJ0_charAt_5068e 21 = .ok (.invokestatic 498, 3) := by decide +kernel
theorem dJ0_charAt_5068e_24 : decode cJ0_charAt_5068e 24 = .ok (.ireturn, 1) := by decide +kernel
theorem dX4_reaches_0 : decode cX4_reaches 0 = .ok (.aload_n 0, 1) := by decide +kernel
theorem dX4_reaches_1 : decode cX4_reaches 1 = .ok (.aload_n 2, 1) := by decide +kernel
theorem dX4_reaches_2 : decode cX4_reaches 2 = .ok (.iload 4, 2) := by decide +kernel
theorem dX4_reaches_4 : decode cX4_reaches 4 = .ok (.aaload, 1) := by decide +kernel
theorem dX4_reaches_5 : decode cX4_reaches 5 = .ok (.iload_n 1, 1) := by decide +kernel
theorem dX4_reaches_6 : decode cX4_reaches 6 = .ok (.invokevirtual 40, 3) := by decide +kernel
theorem dX4_reaches_9 : decode cX4_reaches 9 = .ok (.istore 6, 2) := by decide +kernel
theorem dX4_reaches_11 : decode cX4_reaches 11 = .ok (.iload 4, 2) := by decide +kernel
theorem dX4_reaches_13 : decode cX4_reaches 13 = .ok (.iload 5, 2) := by decide +kernel
theorem dX4_reaches_15 : decode cX4_reaches 15 = .ok (.if_icmp .ge 9, 3) := by decide +kernel
theorem dX4_reaches_18 : decode cX4_reaches 18 = .ok (.iload 4, 2) := by decide +kernel
theorem dX4_reaches_20 : decode cX4_reaches 20 = .ok (.iconst 4, 1) := by decide +kernel
theorem dX4_reaches_21 : decode cX4_reaches 21 = .ok (.if_icmp .lt 14, 3) := by decide +kernel
theorem dX4_reaches_24 : decode cX4_reaches 24 = .ok (.iload 6, 2) := by decide +kernel
theorem dX4_reaches_26 : decode cX4_reaches 26 = .ok (.ifCond .ne 7, 3) := by decide +kernel
theorem dX4_reaches_29 : decode cX4_reaches 29 = .ok (.iconst 1, 1) := by decide +kernel
theorem dX4_reaches_30 : decode cX4_reaches 30 = .ok (.goto 4, 3) := by decide +kernel
theorem dX4_reaches_33 : decode cX4_reaches 33 = .ok (.iconst 0, 1) := by decide +kernel
theorem dX4_reaches_34 : decode cX4_reaches 34 = .ok (.ireturn, 1) := by decide +kernel
theorem dX4_reaches_35 : decode cX4_reaches 35 = .ok (.iload 4, 2) := by decide +kernel
theorem dX4_reaches_37 : decode cX4_reaches 37 = .ok (.iconst 1, 1) := by decide +kernel
theorem dX4_reaches_38 : decode cX4_reaches 38 = .ok (.iadd, 1) := by decide +kernel
theorem dX4_reaches_39 : decode cX4_reaches 39 = .ok (.iload 5, 2) := by decide +kernel
theorem dX4_reaches_41 : decode cX4_reaches 41 = .ok (.if_icmp .ne 7, 3) := by decide +kernel
theorem dX4_reaches_44 : decode cX4_reaches 44 = .ok (.iconst 1, 1) := by decide +kernel
theorem dX4_reaches_45 : decode cX4_reaches 45 = .ok (.goto 4, 3) := by decide +kernel
theorem dX4_reaches_48 : decode cX4_reaches 48 = .ok (.iconst 0, 1) := by decide +kernel
theorem dX4_reaches_49 : decode cX4_reaches 49 = .ok (.istore 7, 2) := by decide +kernel
theorem dX4_reaches_51 : decode cX4_reaches 51 = .ok (.iconst 0, 1) := by decide +kernel
theorem dX4_reaches_52 : decode cX4_reaches 52 = .ok (.istore 8, 2) := by decide +kernel
theorem dX4_reaches_54 : decode cX4_reaches 54 = .ok (.iload 8, 2) := by decide +kernel
theorem dX4_reaches_56 : decode cX4_reaches 56 = .ok (.aload_n 0, 1) := by decide +kernel
theorem dX4_reaches_57 : decode cX4_reaches 57 = .ok (.getfield 44, 3) := by decide +kernel
theorem dX4_reaches_60 : decode cX4_reaches 60 = .ok (.if_icmp .ge 92, 3) := by decide +kernel
theorem dX4_reaches_63 : decode cX4_reaches 63 = .ok (.aload_n 2, 1) := by decide +kernel
theorem dX4_reaches_64 : decode cX4_reaches 64 = .ok (.iload 4, 2) := by decide +kernel
theorem dX4_reaches_66 : decode cX4_reaches 66 = .ok (.aaload, 1) := by decide +kernel
theorem dX4_reaches_67 : decode cX4_reaches 67 = .ok (.getfield 46, 3) := by decide +kernel
theorem dX4_reaches_70 : decode cX4_reaches 70 = .ok (.iload 8, 2) := by decide +kernel
theorem dX4_reaches_72 : decode cX4_reaches 72 = .ok (.iaload, 1) := by decide +kernel
theorem dX4_reaches_73 : decode cX4_reaches 73 = .ok (.ifCond .ne 73, 3) := by decide +kernel
theorem dX4_reaches_76 : decode cX4_reaches 76 = .ok (.iload 7, 2) := by decide +kernel
theorem dX4_reaches_78 : decode cX4_reaches 78 = .ok (.ifCond .eq 18, 3) := by decide +kernel
theorem dX4_reaches_81 : decode cX4_reaches 81 = .ok (.iload 6, 2) := by decide +kernel
theorem dX4_reaches_83 : decode cX4_reaches 83 = .ok (.aload_n 0, 1) := by decide +kernel
theorem dX4_reaches_84 : decode cX4_reaches 84 = .ok (.getfield 49, 3) := by decide +kernel
theorem dX4_reaches_87 : decode cX4_reaches 87 = .ok (.iload 8, 2) := by decide +kernel
theorem dX4_reaches_89 : decode cX4_reaches 89 = .ok (.iaload, 1) := by decide +kernel
theorem dX4_reaches_90 : decode cX4_reaches 90 = .ok (.iconst (-1), 1) := by decide +kernel
theorem dX4_reaches_91 : decode cX4_reaches 91 = .ok (.ixor, 1) := by decide +kernel
theorem dX4_reaches_92 : decode cX4_reaches 92 = .ok (.iand, 1) := by decide +kernel
theorem dX4_reaches_93 : decode cX4_reaches 93 = .ok (.ifCond .ne 53, 3) := by decide +kernel
theorem dX4_reaches_96 : decode cX4_reaches 96 = .ok (.aload_n 3, 1) := by decide +kernel
theorem dX4_reaches_97 : decode cX4_reaches 97 = .ok (.iload 4, 2) := by decide +kernel
theorem dX4_reaches_99 : decode cX4_reaches 99 = .ok (.iload 8, 2) := by decide +kernel
theorem dX4_reaches_101 : decode cX4_reaches 101 = .ok (.iastore, 1) := by decide +kernel
theorem dX4_reaches_102 : decode cX4_reaches 102 = .ok (.aload_n 2, 1) := by decide +kernel
theorem dX4_reaches_103 : decode cX4_reaches 103 = .ok (.iload 4, 2) := by decide +kernel
theorem dX4_reaches_105 : decode cX4_reaches 105 = .ok (.iconst 1, 1) := by decide +kernel
theorem dX4_reaches_106 : decode cX4_reaches 106 = .ok (.iadd, 1) := by decide +kernel
theorem dX4_reaches_107 : decode cX4_reaches 107 = .ok (.aaload, 1) := by decide +kernel
theorem dX4_reaches_108 : decode cX4_reaches 108 = .ok (.aload_n 2, 1) := by decide +kernel
theorem dX4_reaches_109 : decode cX4_reaches 109 = .ok (.iload 4, 2) := by decide +kernel
theorem dX4_reaches_111 : decode cX4_reaches 111 = .ok (.aaload, 1) := by decide +kernel
theorem dX4_reaches_112 : decode cX4_reaches 112 = .ok (.invokevirtual 32, 3) := by decide +kernel
theorem dX4_reaches_115 : decode cX4_reaches 115 = .ok (.aload_n 0, 1) := by decide +kernel
theorem dX4_reaches_116 : decode cX4_reaches 116 = .ok (.aload_n 2, 1) := by decide +kernel
theorem dX4_reaches_117 : decode cX4_reaches 117 = .ok (.iload 4, 2) := by decide +kernel
theorem dX4_reaches_119 : decode cX4_reaches 119 = .ok (.iconst 1, 1) := by decide +kernel
theorem dX4_reaches_120 : decode cX4_reaches 120 = .ok (.iadd, 1) := by decide +kernel
theorem dX4_reaches_121 : decode cX4_reaches 121 = .ok (.aaload, 1) := by decide +kernel
theorem dX4_reaches_122 : decode cX4_reaches 122 = .ok (.iload 8, 2) := by decide +kernel
theorem dX4_reaches_124 : decode cX4_reaches 124 = .ok (.iconst 0, 1) := by decide +kernel
theorem dX4_reaches_125 : decode cX4_reaches 125 = .ok (.invokevirtual 52, 3) := by decide +kernel
theorem dX4_reaches_128 : decode cX4_reaches 128 = .ok (.aload_n 0, 1) := by decide +kernel
theorem dX4_reaches_129 : decode cX4_reaches 129 = .ok (.iload_n 1, 1) := by decide +kernel
theorem dX4_reaches_130 : decode cX4_reaches 130 = .ok (.aload_n 2, 1) := by decide +kernel
theorem dX4_reaches_131 : decode cX4_reaches 131 = .ok (.aload_n 3, 1) := by decide +kernel
theorem dX4_reaches_132 : decode cX4_reaches 132 = .ok (.iload 4, 2) := by decide +kernel
theorem dX4_reaches_134 : decode cX4_reaches 134 = .ok (.iconst 1, 1) := by decide +kernel
theorem dX4_reaches_135 : decode cX4_reaches 135 = .ok (.iadd, 1) := by decide +kernel
theorem dX4_reaches_136 : decode cX4_reaches 136 = .ok (.iload 5, 2) := by decide +kernel
theorem dX4_reaches_138 : decode cX4_reaches 138 = .ok (.invokestatic 36, 3) := by decide +kernel
theorem dX4_reaches_141 : decode cX4_reaches 141 = .ok (.ifCond .eq 5, 3) := by decide +kernel
theorem dX4_reaches_144 : decode cX4_reaches 144 = .ok (.iconst 1, 1) := by decide +kernel
theorem dX4_reaches_145 : decode cX4_reaches 145 = .ok (.ireturn, 1) := by decide +kernel
theorem dX4_reaches_146 : decode cX4_reaches 146 = .ok (.iinc 8 1, 3) := by decide +kernel
theorem dX4_reaches_149 : decode cX4_reaches 149 = .ok (.goto (-95), 3) := by decide +kernel
theorem dX4_reaches_152 : decode cX4_reaches 152 = .ok (.iconst 0, 1) := by decide +kernel
theorem dX4_reaches_153 : decode cX4_reaches 153 = .ok (.ireturn, 1) := by decide +kernel
theorem dX5_formOf_0 : decode cX5_formOf 0 = .ok (.iload_n 0, 1) := by decide +kernel
theorem dX5_formOf_1 : decode cX5_formOf 1 = .ok (.tableswitch 36 0 2 #[27, 30, 33], 27) := by decide +kernel
theorem dX5_formOf_28 : decode cX5_formOf 28 = .ok (.ldc 104, 2) := by decide +kernel
theorem dX5_formOf_30 : decode cX5_formOf 30 = .ok (.areturn, 1) := by decide +kernel
theorem dX5_formOf_31 : decode cX5_formOf 31 = .ok (.ldc 106, 2) := by decide +kernel
theorem dX5_formOf_33 : decode cX5_formOf 33 = .ok (.areturn, 1) := by decide +kernel
theorem dX5_formOf_34 : decode cX5_formOf 34 = .ok (.ldc 108, 2) := by decide +kernel
theorem dX5_formOf_36 : decode cX5_formOf 36 = .ok (.areturn, 1) := by decide +kernel
theorem dX5_formOf_37 : decode cX5_formOf 37 = .ok (.ldc 110, 2) := by decide +kernel
theorem dX5_formOf_39 : decode cX5_formOf 39 = .ok (.areturn, 1) := by decide +kernel
theorem dX5_takeInForm_0 : decode cX5_takeInForm 0 = .ok (.aload_n 0, 1) := by decide +kernel
theorem dX5_takeInForm_1 : decode cX5_takeInForm 1 = .ok (.getfield 25, 3) := by decide +kernel
theorem dX5_takeInForm_4 : decode cX5_takeInForm 4 = .ok (.invokestatic 112, 3) := by decide +kernel
theorem dX5_takeInForm_7 : decode cX5_takeInForm 7 = .ok (.astore_n 2, 1) := by decide +kernel
theorem dX5_takeInForm_8 : decode cX5_takeInForm 8 = .ok (.aload_n 0, 1) := by decide +kernel
theorem dX5_takeInForm_9 : decode cX5_takeInForm 9 = .ok (.getfield 29, 3) := by decide +kernel
theorem dX5_takeInForm_12 : decode cX5_takeInForm 12 = .ok (.aload_n 2, 1) := by decide +kernel
theorem dX5_takeInForm_13 : decode cX5_takeInForm 13 = .ok (.invokevirtual 116, 3) := by decide +kernel
theorem dX5_takeInForm_16 : decode cX5_takeInForm 16 = .ok (.if_icmp .ge 14, 3) := by decide +kernel
theorem dX5_takeInForm_19 : decode cX5_takeInForm 19 = .ok (.aload_n 2, 1) := by decide +kernel
theorem dX5_takeInForm_20 : decode cX5_takeInForm 20 = .ok (.aload_n 0, 1) := by decide +kernel
theorem dX5_takeInForm_21 : decode cX5_takeInForm 21 = .ok (.getfield 29, 3) := by decide +kernel
theorem dX5_takeInForm_24 : decode cX5_takeInForm 24 = .ok (.invokevirtual 122, 3) := by decide +kernel
theorem dX5_takeInForm_27 : decode cX5_takeInForm 27 = .ok (.goto 5, 3) := by decide +kernel
theorem dX5_takeInForm_30 : decode cX5_takeInForm 30 = .ok (.bipush 59, 2) := by decide +kernel
theorem dX5_takeInForm_32 : decode cX5_takeInForm 32 = .ok (.istore_n 3, 1) := by decide +kernel
theorem dX5_takeInForm_33 : decode cX5_takeInForm 33 = .ok (.iload_n 3, 1) := by decide +kernel
theorem dX5_takeInForm_34 : decode cX5_takeInForm 34 = .ok (.bipush 110, 2) := by decide +kernel
theorem dX5_takeInForm_36 : decode cX5_takeInForm 36 = .ok (.if_icmp .ne 8, 3) := by decide +kernel
theorem dX5_takeInForm_39 : decode cX5_takeInForm 39 = .ok (.bipush 22, 2) := by decide +kernel
theorem dX5_takeInForm_41 : decode cX5_takeInForm 41 = .ok (.goto 16, 3) := by decide +kernel
theorem dX5_takeInForm_44 : decode cX5_takeInForm 44 = .ok (.iload_n 3, 1) := by decide +kernel
theorem dX5_takeInForm_45 : decode cX5_takeInForm 45 = .ok (.bipush 105, 2) := by decide +kernel
theorem dX5_takeInForm_47 : decode cX5_takeInForm 47 = .ok (.if_icmp .ne 8, 3) := by decide +kernel
theorem dX5_takeInForm_50 : decode cX5_takeInForm 50 = .ok (.bipush 23, 2) := by decide +kernel
theorem dX5_takeInForm_52 : decode cX5_takeInForm 52 = .ok (.goto 5, 3) := by decide +kernel
theorem dX5_takeInForm_55 : decode cX5_takeInForm 55 = .ok (.bipush 59, 2) := by decide +kernel
theorem dX5_takeInForm_57 : decode cX5_takeInForm 57 = .ok (.istore 4, 2) := by decide +kernel
theorem dX5_takeInForm_59 : decode cX5_takeInForm 59 = .ok (.aload_n 0, 1) := by decide +kernel
theorem dX5_takeInForm_60 : decode cX5_takeInForm 60 = .ok (.getfield 12, 3) := by decide +kernel
theorem dX5_takeInForm_63 : decode cX5_takeInForm 63 = .ok (.getfield 84, 3) := by decide +kernel
theorem dX5_takeInForm_66 : decode cX5_takeInForm 66 = .ok (.iload 4, 2) := by decide +kernel
theorem dX5_takeInForm_68 : decode cX5_takeInForm 68 = .ok (.if_icmp .eq 5, 3) := by decide +kernel
theorem dX5_takeInForm_71 : decode cX5_takeInForm 71 = .ok (.iconst 1, 1) := by decide +kernel
theorem dX5_takeInForm_72 : decode cX5_takeInForm 72 = .ok (.ireturn, 1) := by decide +kernel
theorem dX5_takeInForm_73 : decode cX5_takeInForm 73 = .ok (.iload_n 3, 1) := by decide +kernel
theorem dX5_takeInForm_74 : decode cX5_takeInForm 74 = .ok (.bipush 110, 2) := by decide +kernel
theorem dX5_takeInForm_76 : decode cX5_takeInForm 76 = .ok (.if_icmp .ne 11, 3) := by decide +kernel
theorem dX5_takeInForm_79 : decode cX5_takeInForm 79 = .ok (.aload_n 0, 1) := by decide +kernel
theorem dX5_takeInForm_80 : decode cX5_takeInForm 80 = .ok (.aload_n 1, 1) := by decide +kernel
theorem dX5_takeInForm_81 : decode cX5_takeInForm 81 = .ok (.invokevirtual 126, 3) := by decide +kernel
theorem dX5_takeInForm_84 : decode cX5_takeInForm 84 = .ok (.goto 29, 3) := by decide +kernel
theorem dX5_takeInForm_87 : decode cX5_takeInForm 87 = .ok (.iload_n 3, 1) := by decide +kernel
theorem dX5_takeInForm_88 : decode cX5_takeInForm 88 = .ok (.bipush 105, 2) := by decide +kernel
theorem dX5_takeInForm_90 : decode cX5_takeInForm 90 = .ok (.if_icmp .ne 18, 3) := by decide +kernel
theorem dX5_takeInForm_93 : decode cX5_takeInForm 93 = .ok (.aload_n 0, 1) := by decide +kernel
theorem dX5_takeInForm_94 : decode cX5_takeInForm 94 = .ok (.aload_n 1, 1) := by decide +kernel
theorem dX5_takeInForm_95 : decode cX5_takeInForm 95 = .ok (.aload_n 0, 1) := by decide +kernel
theorem dX5_takeInForm_96 : decode cX5_takeInForm 96 = .ok (.getfield 12, 3) := by decide +kernel
theorem dX5_takeInForm_99 : decode cX5_takeInForm 99 = .ok (.getfield 130, 3) := by decide +kernel
theorem dX5_takeInForm_102 : decode cX5_takeInForm 102 = .ok (.invokevirtual 133, 3) := by decide +kernel
theorem dX5_takeInForm_105 : decode cX5_takeInForm 105 = .ok (.goto 8, 3) := by decide +kernel
theorem dX5_takeInForm_108 : decode cX5_takeInForm 108 = .ok (.aload_n 0, 1) := by decide +kernel
theorem dX5_takeInForm_109 : decode cX5_takeInForm 109 = .ok (.iconst (-1), 1) := by decide +kernel
theorem dX5_takeInForm_110 : decode cX5_takeInForm 110 = .ok (.putfield 25, 3) := by decide +kernel
theorem dX5_takeInForm_113 : decode cX5_takeInForm 113 = .ok (.aload_n 0, 1) := by decide +kernel
theorem dX5_takeInForm_114 : decode cX5_takeInForm 114 = .ok (.dup, 1) := by decide +kernel
theorem dX5_takeInForm_115 : decode cX5_takeInForm 115 = .ok (.getfield 29, 3) := by decide +kernel
theorem dX5_takeInForm_118 : decode cX5_takeInForm 118 = .ok (.iconst 1, 1) := by decide +kernel
theorem dX5_takeInForm_119 : decode cX5_takeInForm 119 = .ok (.iadd, 1) := by decide +kernel
theorem dX5_takeInForm_120 : decode cX5_takeInForm 120 = .ok (.putfield 29, 3) := by decide +kernel
theorem dX5_takeInForm_123 : decode cX5_takeInForm 123 = .ok (.iconst 0, 1) := by decide +kernel
theorem dX5_takeInForm_124 : decode cX5_takeInForm 124 = .ok (.ireturn, 1) := by decide +kernel
theorem dX7_wordCodes_0 : decode cX7_wordCodes 0 = .ok (.bipush 22, 2) := by decide +kernel
theorem dX7_wordCodes_2 : decode cX7_wordCodes 2 = .ok (.newarray .long, 2) := by decide +kernel
theorem dX7_wordCodes_4 : decode cX7_wordCodes 4 = .ok (.astore_n 0, 1) := by decide +kernel
theorem dX7_wordCodes_5 : decode cX7_wordCodes 5 = .ok (.lconst 0, 1) := by decide +kernel
theorem dX7_wordCodes_6 : decode cX7_wordCodes 6 = .ok (.lstore_n 1, 1) := by decide +kernel
theorem dX7_wordCodes_7 : decode cX7_wordCodes 7 = .ok (.iconst 0, 1) := by decide +kernel
theorem dX7_wordCodes_8 : decode cX7_wordCodes 8 = .ok (.istore_n 3, 1) := by decide +kernel
theorem dX7_wordCodes_9 : decode cX7_wordCodes 9 = .ok (.iconst 0, 1) := by decide +kernel
theorem dX7_wordCodes_10 : decode cX7_wordCodes 10 = .ok (.istore 4, 2) := by decide +kernel
theorem dX7_wordCodes_12 : decode cX7_wordCodes 12 = .ok (.iload 4, 2) := by decide +kernel
theorem dX7_wordCodes_14 : decode cX7_wordCodes 14 = .ok (.ldc 36, 2) := by decide +kernel
theorem dX7_wordCodes_16 : decode cX7_wordCodes 16 = .ok (.invokevirtual 38, 3) := by decide +kernel
theorem dX7_wordCodes_19 : decode cX7_wordCodes 19 = .ok (.if_icmp .ge 50, 3) := by decide +kernel
theorem dX7_wordCodes_22 : decode cX7_wordCodes 22 = .ok (.iload_n 3, 1) := by decide +kernel
theorem dX7_wordCodes_23 : decode cX7_wordCodes 23 = .ok (.bipush 22, 2) := by decide +kernel
theorem dX7_wordCodes_25 : decode cX7_wordCodes 25 = .ok (.if_icmp .ge 44, 3) := by decide +kernel
theorem dX7_wordCodes_28 : decode cX7_wordCodes 28 = .ok (.ldc 36, 2) := by decide +kernel
theorem dX7_wordCodes_30 : decode cX7_wordCodes 30 = .ok (.iload 4, 2) := by decide +kernel
theorem dX7_wordCodes_32 : decode cX7_wordCodes 32 = .ok (.invokevirtual 44, 3) := by decide +kernel
theorem dX7_wordCodes_35 : decode cX7_wordCodes 35 = .ok (.istore 5, 2) := by decide +kernel
theorem dX7_wordCodes_37 : decode cX7_wordCodes 37 = .ok (.iload 5, 2) := by decide +kernel
theorem dX7_wordCodes_39 : decode cX7_wordCodes 39 = .ok (.bipush 32, 2) := by decide +kernel
theorem dX7_wordCodes_41 : decode cX7_wordCodes 41 = .ok (.if_icmp .ne 15, 3) := by decide +kernel
theorem dX7_wordCodes_44 : decode cX7_wordCodes 44 = .ok (.aload_n 0, 1) := by decide +kernel
theorem dX7_wordCodes_45 : decode cX7_wordCodes 45 = .ok (.iload_n 3, 1) := by decide +kernel
theorem dX7_wordCodes_46 : decode cX7_wordCodes 46 = .ok (.lload_n 1, 1) := by decide +kernel
theorem dX7_wordCodes_47 : decode cX7_wordCodes 47 = .ok (.lastore, 1) := by decide +kernel
theorem dX7_wordCodes_48 : decode cX7_wordCodes 48 = .ok (.iinc 3 1, 3) := by decide +kernel
theorem dX7_wordCodes_51 : decode cX7_wordCodes 51 = .ok (.lconst 0, 1) := by decide +kernel
theorem dX7_wordCodes_52 : decode cX7_wordCodes 52 = .ok (.lstore_n 1, 1) := by decide +kernel
theorem dX7_wordCodes_53 : decode cX7_wordCodes 53 = .ok (.goto 10, 3) := by decide +kernel
theorem dX7_wordCodes_56 : decode cX7_wordCodes 56 = .ok (.lload_n 1, 1) := by decide +kernel
theorem dX7_wordCodes_57 : decode cX7_wordCodes 57 = .ok (.iload 5, 2) := by decide +kernel
theorem dX7_wordCodes_59 : decode cX7_wordCodes 59 = .ok (.invokestatic 48, 3) := by decide +kernel
theorem dX7_wordCodes_62 : decode cX7_wordCodes 62 = .ok (.lstore_n 1, 1) := by decide +kernel
theorem dX7_wordCodes_63 : decode cX7_wordCodes 63 = .ok (.iinc 4 1, 3) := by decide +kernel
theorem dX7_wordCodes_66 : decode cX7_wordCodes 66 = .ok (.goto (-54), 3) := by decide +kernel
theorem dX7_wordCodes_69 : decode cX7_wordCodes 69 = .ok (.aload_n 0, 1) := by decide +kernel
theorem dX7_wordCodes_70 : decode cX7_wordCodes 70 = .ok (.areturn, 1) := by decide +kernel
theorem dX7_next_0 : decode cX7_next 0 = .ok (.aload_n 0, 1) := by decide +kernel
theorem dX7_next_1 : decode cX7_next 1 = .ok (.getfield 19, 3) := by decide +kernel
theorem dX7_next_4 : decode cX7_next 4 = .ok (.iload_n 2, 1) := by decide +kernel
theorem dX7_next_5 : decode cX7_next 5 = .ok (.if_icmp .ge 28, 3) := by decide +kernel
theorem dX7_next_8 : decode cX7_next 8 = .ok (.aload_n 1, 1) := by decide +kernel
theorem dX7_next_9 : decode cX7_next 9 = .ok (.aload_n 0, 1) := by decide +kernel
theorem dX7_next_10 : decode cX7_next 10 = .ok (.getfield 19, 3) := by decide +kernel
theorem dX7_next_13 : decode cX7_next 13 = .ok (.baload, 1) := by decide +kernel
theorem dX7_next_14 : decode cX7_next 14 = .ok (.invokestatic 54, 3) := by decide +kernel
theorem dX7_next_17 : decode cX7_next 17 = .ok (.ifCond .eq 16, 3) := by decide +kernel
theorem dX7_next_20 : decode cX7_next 20 = .ok (.aload_n 0, 1) := by decide +kernel
theorem dX7_next_21 : decode cX7_next 21 = .ok (.dup, 1) := by decide +kernel
theorem dX7_next_22 : decode cX7_next 22 = .ok (.getfield 19, 3) := by decide +kernel
theorem dX7_next_25 : decode cX7_next 25 = .ok (.iconst 1, 1) := by decide +kernel
theorem dX7_next_26 : decode cX7_next 26 = .ok (.iadd, 1) := by decide +kernel
theorem dX7_next_27 : decode cX7_next 27 = .ok (.putfield 19, 3) := by decide +kernel
theorem dX7_next_30 : decode cX7_next 30 = .ok (.goto (-30), 3) := by decide +kernel
theorem dX7_next_33 : decode cX7_next 33 = .ok (.aload_n 0, 1) := by decide +kernel
theorem dX7_next_34 : decode cX7_next 34 = .ok (.aload_n 0, 1) := by decide +kernel
theorem dX7_next_35 : decode cX7_next 35 = .ok (.getfield 19, 3) := by decide +kernel
theorem dX7_next_38 : decode cX7_next 38 = .ok (.putfield 23, 3) := by decide +kernel
theorem dX7_next_41 : decode cX7_next 41 = .ok (.aload_n 0, 1) := by decide +kernel
theorem dX7_next_42 : decode cX7_next 42 = .ok (.getfield 19, 3) := by decide +kernel
theorem dX7_next_45 : decode cX7_next 45 = .ok (.iload_n 2, 1) := by decide +kernel
theorem dX7_next_46 : decode cX7_next 46 = .ok (.if_icmp .lt 5, 3) := by decide +kernel
theorem dX7_next_49 : decode cX7_next 49 = .ok (.iconst 0, 1) := by decide +kernel
theorem dX7_next_50 : decode cX7_next 50 = .ok (.ireturn, 1) := by decide +kernel
theorem dX7_next_51 : decode cX7_next 51 = .ok (.aload_n 1, 1) := by decide +kernel
theorem dX7_next_52 : decode cX7_next 52 = .ok (.aload_n 0, 1) := by decide +kernel
theorem dX7_next_53 : decode cX7_next 53 = .ok (.getfield 19, 3) := by decide +kernel
theorem dX7_next_56 : decode cX7_next 56 = .ok (.baload, 1) := by decide +kernel
theorem dX7_next_57 : decode cX7_next 57 = .ok (.invokestatic 58, 3) := by decide +kernel
theorem dX7_next_60 : decode cX7_next 60 = .ok (.ifCond .eq 12, 3) := by decide +kernel
theorem dX7_next_63 : decode cX7_next 63 = .ok (.aload_n 0, 1) := by decide +kernel
theorem dX7_next_64 : decode cX7_next 64 = .ok (.aload_n 1, 1) := by decide +kernel
theorem dX7_next_65 : decode cX7_next 65 = .ok (.iload_n 2, 1) := by decide +kernel
theorem dX7_next_66 : decode cX7_next 66 = .ok (.invokevirtual 61, 3) := by decide +kernel
theorem dX7_next_69 : decode cX7_next 69 = .ok (.goto 64, 3) := by decide +kernel
theorem dX7_next_72 : decode cX7_next 72 = .ok (.aload_n 1, 1) := by decide +kernel
theorem dX7_next_73 : decode cX7_next 73 = .ok (.aload_n 0, 1) := by decide +kernel
theorem dX7_next_74 : decode cX7_next 74 = .ok (.getfield 19, 3) := by decide +kernel
theorem dX7_next_77 : decode cX7_next 77 = .ok (.baload, 1) := by decide +kernel
theorem dX7_next_78 : decode cX7_next 78 = .ok (.invokestatic 65, 3) := by decide +kernel
theorem dX7_next_81 : decode cX7_next 81 = .ok (.ifCond .eq 12, 3) := by decide +kernel
theorem dX7_next_84 : decode cX7_next 84 = .ok (.aload_n 0, 1) := by decide +kernel
theorem dX7_next_85 : decode cX7_next 85 = .ok (.aload_n 1, 1) := by decide +kernel
theorem dX7_next_86 : decode cX7_next 86 = .ok (.iload_n 2, 1) := by decide +kernel
theorem dX7_next_87 : decode cX7_next 87 = .ok (.invokevirtual 68, 3) := by decide +kernel
theorem dX7_next_90 : decode cX7_next 90 = .ok (.goto 43, 3) := by decide +kernel
theorem dX7_next_93 : decode cX7_next 93 = .ok (.aload_n 1, 1) := by decide +kernel
theorem dX7_next_94 : decode cX7_next 94 = .ok (.aload_n 0, 1) := by decide +kernel
theorem dX7_next_95 : decode cX7_next 95 = .ok (.getfield 19, 3) := by decide +kernel
theorem dX7_next_98 : decode cX7_next 98 = .ok (.baload, 1) := by decide +kernel
theorem dX7_next_99 : decode cX7_next 99 = .ok (.sipush 255, 3) := by decide +kernel
theorem dX7_next_102 : decode cX7_next 102 = .ok (.iand, 1) := by decide +kernel
theorem dX7_next_103 : decode cX7_next 103 = .ok (.istore_n 3, 1) := by decide +kernel
theorem dX7_next_104 : decode cX7_next 104 = .ok (.aload_n 0, 1) := by decide +kernel
theorem dX7_next_105 : decode cX7_next 105 = .ok (.ldc 71, 2) := by decide +kernel
theorem dX7_next_107 : decode cX7_next 107 = .ok (.iload_n 3, 1) := by decide +kernel
theorem dX7_next_108 : decode cX7_next 108 = .ok (.i2c, 1) := by decide +kernel
theorem dX7_next_109 : decode cX7_next 109 = .ok (.invokevirtual 73, 3) := by decide +kernel
theorem dX7_next_112 : decode cX7_next 112 = .ok (.ifCond .lt 7, 3) := by decide +kernel
theorem dX7_next_115 : decode cX7_next 115 = .ok (.iload_n 3, 1) := by decide +kernel
theorem dX7_next_116 : decode cX7_next 116 = .ok (.goto 4, 3) := by decide +kernel
theorem dX7_next_119 : decode cX7_next 119 = .ok (.iconst (-1), 1) := by decide +kernel
theorem dX7_next_120 : decode cX7_next 120 = .ok (.putfield 26, 3) := by decide +kernel
theorem dX7_next_123 : decode cX7_next 123 = .ok (.aload_n 0, 1) := by decide +kernel
theorem dX7_next_124 : decode cX7_next 124 = .ok (.dup, 1) := by decide +kernel
theorem dX7_next_125 : decode cX7_next 125 = .ok (.getfield 19, 3) := by decide +kernel
theorem dX7_next_128 : decode cX7_next 128 = .ok (.iconst 1, 1) := by decide +kernel
theorem dX7_next_129 : decode cX7_next 129 = .ok (.iadd, 1) := by decide +kernel
theorem dX7_next_130 : decode cX7_next 130 = .ok (.putfield 19, 3) := by decide +kernel
theorem dX7_next_133 : decode cX7_next 133 = .ok (.iconst 1, 1) := by decide +kernel
theorem dX7_next_134 : decode cX7_next 134 = .ok (.ireturn, 1) := by decide +kernel
theorem dX4_fewest_0 : decode cX4_fewest 0 = .ok (.iload_n 3, 1) := by decide +kernel
theorem dX4_fewest_1 : decode cX4_fewest 1 = .ok (.iconst (-1), 1) := by decide +kernel
theorem dX4_fewest_2 : decode cX4_fewest 2 = .ok (.if_icmp .ne 14, 3) := by decide +kernel
theorem dX4_fewest_5 : decode cX4_fewest 5 = .ok (.iconst 1, 1) := by decide +kernel
theorem dX4_fewest_6 : decode cX4_fewest 6 = .ok (.aload_n 1, 1) := by decide +kernel
theorem dX4_fewest_7 : decode cX4_fewest 7 = .ok (.getfield 22, 3) := by decide +kernel
theorem dX4_fewest_10 : decode cX4_fewest 10 = .ok (.ishl, 1) := by decide +kernel
theorem dX4_fewest_11 : decode cX4_fewest 11 = .ok (.iconst 1, 1) := by decide +kernel
theorem dX4_fewest_12 : decode cX4_fewest 12 = .ok (.isub, 1) := by decide +kernel
theorem dX4_fewest_13 : decode cX4_fewest 13 = .ok (.goto 6, 3) := by decide +kernel
theorem dX4_fewest_16 : decode cX4_fewest 16 = .ok (.iconst 1, 1) := by decide +kernel
theorem dX4_fewest_17 : decode cX4_fewest 17 = .ok (.iload_n 3, 1) := by decide +kernel
theorem dX4_fewest_18 : decode cX4_fewest 18 = .ok (.ishl, 1) := by decide +kernel
theorem dX4_fewest_19 : decode cX4_fewest 19 = .ok (.istore 4, 2) := by decide +kernel
theorem dX4_fewest_21 : decode cX4_fewest 21 = .ok (.aload_n 1, 1) := by decide +kernel
theorem dX4_fewest_22 : decode cX4_fewest 22 = .ok (.aload_n 2, 1) := by decide +kernel
theorem dX4_fewest_23 : decode cX4_fewest 23 = .ok (.invokevirtual 28, 3) := by decide +kernel
theorem dX4_fewest_26 : decode cX4_fewest 26 = .ok (.iload 4, 2) := by decide +kernel
theorem dX4_fewest_28 : decode cX4_fewest 28 = .ok (.iand, 1) := by decide +kernel
theorem dX4_fewest_29 : decode cX4_fewest 29 = .ok (.ifCond .eq 6, 3) := by decide +kernel
theorem dX4_fewest_32 : decode cX4_fewest 32 = .ok (.bipush (-2), 2) := by decide +kernel
theorem dX4_fewest_34 : decode cX4_fewest 34 = .ok (.ireturn, 1) := by decide +kernel
theorem dX4_fewest_35 : decode cX4_fewest 35 = .ok (.aload_n 0, 1) := by decide +kernel
theorem dX4_fewest_36 : decode cX4_fewest 36 = .ok (.getfield 11, 3) := by decide +kernel
theorem dX4_fewest_39 : decode cX4_fewest 39 = .ok (.iconst 0, 1) := by decide +kernel
theorem dX4_fewest_40 : decode cX4_fewest 40 = .ok (.aaload, 1) := by decide +kernel
theorem dX4_fewest_41 : decode cX4_fewest 41 = .ok (.aload_n 2, 1) := by decide +kernel
theorem dX4_fewest_42 : decode cX4_fewest 42 = .ok (.invokevirtual 32, 3) := by decide +kernel
theorem dX4_fewest_45 : decode cX4_fewest 45 = .ok (.iconst 0, 1) := by decide +kernel
theorem dX4_fewest_46 : decode cX4_fewest 46 = .ok (.istore 5, 2) := by decide +kernel
theorem dX4_fewest_48 : decode cX4_fewest 48 = .ok (.iload 5, 2) := by decide +kernel
theorem dX4_fewest_50 : decode cX4_fewest 50 = .ok (.iconst 4, 1) := by decide +kernel
theorem dX4_fewest_51 : decode cX4_fewest 51 = .ok (.if_icmp .gt 32, 3) := by decide +kernel
theorem dX4_fewest_54 : decode cX4_fewest 54 = .ok (.aload_n 1, 1) := by decide +kernel
theorem dX4_fewest_55 : decode cX4_fewest 55 = .ok (.iload 4, 2) := by decide +kernel
theorem dX4_fewest_57 : decode cX4_fewest 57 = .ok (.aload_n 0, 1) := by decide +kernel
theorem dX4_fewest_58 : decode cX4_fewest 58 = .ok (.getfield 11, 3) := by decide +kernel
theorem dX4_fewest_61 : decode cX4_fewest 61 = .ok (.aload_n 0, 1) := by decide +kernel
theorem dX4_fewest_62 : decode cX4_fewest 62 = .ok (.getfield 17, 3) := by decide +kernel
theorem dX4_fewest_65 : decode cX4_fewest 65 = .ok (.iconst 0, 1) := by decide +kernel
theorem dX4_fewest_66 : decode cX4_fewest 66 = .ok (.iload 5, 2) := by decide +kernel
theorem dX4_fewest_68 : decode cX4_fewest 68 = .ok (.invokestatic 36, 3) := by decide +kernel
theorem dX4_fewest_71 : decode cX4_fewest 71 = .ok (.ifCond .eq 6, 3) := by decide +kernel
theorem dX4_fewest_74 : decode cX4_fewest 74 = .ok (.iload 5, 2) := by decide +kernel
theorem dX4_fewest_76 : decode cX4_fewest 76 = .ok (.ireturn, 1) := by decide +kernel
theorem dX4_fewest_77 : decode cX4_fewest 77 = .ok (.iinc 5 1, 3) := by decide +kernel
theorem dX4_fewest_80 : decode cX4_fewest 80 = .ok (.goto (-32), 3) := by decide +kernel
theorem dX4_fewest_83 : decode cX4_fewest 83 = .ok (.bipush (-2), 2) := by decide +kernel
theorem dX4_fewest_85 : decode cX4_fewest 85 = .ok (.ireturn, 1) := by decide +kernel
theorem dX5_take_0 : decode cX5_take 0 = .ok (.aload_n 0, 1) := by decide +kernel
theorem dX5_take_1 : decode cX5_take 1 = .ok (.getfield 25, 3) := by decide +kernel
theorem dX5_take_4 : decode cX5_take 4 = .ok (.iconst (-1), 1) := by decide +kernel
theorem dX5_take_5 : decode cX5_take 5 = .ok (.if_icmp .ne 9, 3) := by decide +kernel
theorem dX5_take_8 : decode cX5_take 8 = .ok (.aload_n 0, 1) := by decide +kernel
theorem dX5_take_9 : decode cX5_take 9 = .ok (.aload_n 1, 1) := by decide +kernel
theorem dX5_take_10 : decode cX5_take 10 = .ok (.invokevirtual 63, 3) := by decide +kernel
theorem dX5_take_13 : decode cX5_take 13 = .ok (.ireturn, 1) := by decide +kernel
theorem dX5_take_14 : decode cX5_take 14 = .ok (.aload_n 0, 1) := by decide +kernel
theorem dX5_take_15 : decode cX5_take 15 = .ok (.getfield 25, 3) := by decide +kernel
theorem dX5_take_18 : decode cX5_take 18 = .ok (.invokestatic 66, 3) := by decide +kernel
theorem dX5_take_21 : decode cX5_take 21 = .ok (.ifCond .eq 36, 3) := by decide +kernel
theorem dX5_take_24 : decode cX5_take 24 = .ok (.aload_n 0, 1) := by decide +kernel
theorem dX5_take_25 : decode cX5_take 25 = .ok (.getfield 21, 3) := by decide +kernel
theorem dX5_take_28 : decode cX5_take 28 = .ok (.aload_n 0, 1) := by decide +kernel
theorem dX5_take_29 : decode cX5_take 29 = .ok (.getfield 12, 3) := by decide +kernel
theorem dX5_take_32 : decode cX5_take 32 = .ok (.aload_n 1, 1) := by decide +kernel
theorem dX5_take_33 : decode cX5_take 33 = .ok (.getfield 70, 3) := by decide +kernel
theorem dX5_take_36 : decode cX5_take 36 = .ok (.invokevirtual 74, 3) := by decide +kernel
theorem dX5_take_39 : decode cX5_take 39 = .ok (.istore_n 2, 1) := by decide +kernel
theorem dX5_take_40 : decode cX5_take 40 = .ok (.aload_n 0, 1) := by decide +kernel
theorem dX5_take_41 : decode cX5_take 41 = .ok (.getfield 21, 3) := by decide +kernel
theorem dX5_take_44 : decode cX5_take 44 = .ok (.getfield 77, 3) := by decide +kernel
theorem dX5_take_47 : decode cX5_take 47 = .ok (.ifCond .eq 8, 3) := by decide +kernel
theorem dX5_take_50 : decode cX5_take 50 = .ok (.aload_n 0, 1) := by decide +kernel
theorem dX5_take_51 : decode cX5_take 51 = .ok (.iconst (-1), 1) := by decide +kernel
theorem dX5_take_52 : decode cX5_take 52 = .ok (.putfield 25, 3) := by decide +kernel
theorem dX5_take_55 : decode cX5_take 55 = .ok (.iload_n 2, 1) := by decide +kernel
theorem dX5_take_56 : decode cX5_take 56 = .ok (.ireturn, 1) := by decide +kernel
theorem dX5_take_57 : decode cX5_take 57 = .ok (.aload_n 0, 1) := by decide +kernel
theorem dX5_take_58 : decode cX5_take 58 = .ok (.aload_n 1, 1) := by decide +kernel
theorem dX5_take_59 : decode cX5_take 59 = .ok (.invokevirtual 81, 3) := by decide +kernel
theorem dX5_take_62 : decode cX5_take 62 = .ok (.ireturn, 1) := by decide +kernel
theorem dX7_init_0 : decode cX7_init 0 = .ok (.aload_n 0, 1) := by decide +kernel
theorem dX7_init_1 : decode cX7_init 1 = .ok (.invokespecial 5, 3) := by decide +kernel
theorem dX7_init_4 : decode cX7_init 4 = .ok (.aload_n 0, 1) := by decide +kernel
theorem dX7_init_5 : decode cX7_init 5 = .ok (.invokestatic 11, 3) := by decide +kernel
theorem dX7_init_8 : decode cX7_init 8 = .ok (.putfield 15, 3) := by decide +kernel
theorem dX7_init_11 : decode cX7_init 11 = .ok (.aload_n 0, 1) := by decide +kernel
theorem dX7_init_12 : decode cX7_init 12 = .ok (.iconst 0, 1) := by decide +kernel
theorem dX7_init_13 : decode cX7_init 13 = .ok (.putfield 19, 3) := by decide +kernel
theorem dX7_init_16 : decode cX7_init 16 = .ok (.aload_n 0, 1) := by decide +kernel
theorem dX7_init_17 : decode cX7_init 17 = .ok (.iconst 0, 1) := by decide +kernel
theorem dX7_init_18 : decode cX7_init 18 = .ok (.putfield 23, 3) := by decide +kernel
theorem dX7_init_21 : decode cX7_init 21 = .ok (.aload_n 0, 1) := by decide +kernel
theorem dX7_init_22 : decode cX7_init 22 = .ok (.iconst (-1), 1) := by decide +kernel
theorem dX7_init_23 : decode cX7_init 23 = .ok (.putfield 26, 3) := by decide +kernel
theorem dX7_init_26 : decode cX7_init 26 = .ok (.aload_n 0, 1) := by decide +kernel
theorem dX7_init_27 : decode cX7_init 27 = .ok (.iconst 0, 1) := by decide +kernel
theorem dX7_init_28 : decode cX7_init 28 = .ok (.putfield 29, 3) := by decide +kernel
theorem dX7_init_31 : decode cX7_init 31 = .ok (.aload_n 0, 1) := by decide +kernel
theorem dX7_init_32 : decode cX7_init 32 = .ok (.lconst 0, 1) := by decide +kernel
theorem dX7_init_33 : decode cX7_init 33 = .ok (.putfield 32, 3) := by decide +kernel
theorem dX7_init_36 : decode cX7_init 36 = .ok (.return_, 1) := by decide +kernel
theorem dX9_plan_0 : decode cX9_plan 0 = .ok (.iload_n 1, 1) := by decide +kernel
theorem dX9_plan_1 : decode cX9_plan 1 = .ok (.iconst (-1), 1) := by decide +kernel
theorem dX9_plan_2 : decode cX9_plan 2 = .ok (.if_icmp .ne 7, 3) := by decide +kernel
theorem dX9_plan_5 : decode cX9_plan 5 = .ok (.iconst 1, 1) := by decide +kernel
theorem dX9_plan_6 : decode cX9_plan 6 = .ok (.goto 4, 3) := by decide +kernel
theorem dX9_plan_9 : decode cX9_plan 9 = .ok (.iconst 0, 1) := by decide +kernel
theorem dX9_plan_10 : decode cX9_plan 10 = .ok (.istore_n 3, 1) := by decide +kernel
theorem dX9_plan_11 : decode cX9_plan 11 = .ok (.iload_n 3, 1) := by decide +kernel
theorem dX9_plan_12 : decode cX9_plan 12 = .ok (.ifCond .ne 14, 3) := by decide +kernel
theorem dX9_plan_15 : decode cX9_plan 15 = .ok (.aload_n 0, 1) := by decide +kernel
theorem dX9_plan_16 : decode cX9_plan 16 = .ok (.getfield 30, 3) := by decide +kernel
theorem dX9_plan_19 : decode cX9_plan 19 = .ok (.iload_n 1, 1) := by decide +kernel
theorem dX9_plan_20 : decode cX9_plan 20 = .ok (.invokevirtual 112, 3) := by decide +kernel
theorem dX9_plan_23 : decode cX9_plan 23 = .ok (.ifCond .eq 13, 3) := by decide +kernel
theorem dX9_plan_26 : decode cX9_plan 26 = .ok (.iload_n 2, 1) := by decide +kernel
theorem dX9_plan_27 : decode cX9_plan 27 = .ok (.iconst (-1), 1) := by decide +kernel
theorem dX9_plan_28 : decode cX9_plan 28 = .ok (.if_icmp .lt 8, 3) := by decide +kernel
theorem dX9_plan_31 : decode cX9_plan 31 = .ok (.iload_n 2, 1) := by decide +kernel
theorem dX9_plan_32 : decode cX9_plan 32 = .ok (.iconst 4, 1) := by decide +kernel
theorem dX9_plan_33 : decode cX9_plan 33 = .ok (.if_icmp .lt 5, 3) := by decide +kernel
theorem dX9_plan_36 : decode cX9_plan 36 = .ok (.iconst (-1), 1) := by decide +kernel
theorem dX9_plan_37 : decode cX9_plan 37 = .ok (.ireturn, 1) := by decide +kernel
theorem dX9_plan_38 : decode cX9_plan 38 = .ok (.aload_n 0, 1) := by decide +kernel
theorem dX9_plan_39 : decode cX9_plan 39 = .ok (.getfield 50, 3) := by decide +kernel
theorem dX9_plan_42 : decode cX9_plan 42 = .ok (.aload_n 0, 1) := by decide +kernel
theorem dX9_plan_43 : decode cX9_plan 43 = .ok (.getfield 30, 3) := by decide +kernel
theorem dX9_plan_46 : decode cX9_plan 46 = .ok (.aload_n 0, 1) := by decide +kernel
theorem dX9_plan_47 : decode cX9_plan 47 = .ok (.getfield 40, 3) := by decide +kernel
theorem dX9_plan_50 : decode cX9_plan 50 = .ok (.iload_n 1, 1) := by decide +kernel
theorem dX9_plan_51 : decode cX9_plan 51 = .ok (.invokevirtual 258, 3) := by decide +kernel
theorem dX9_plan_54 : decode cX9_plan 54 = .ok (.istore 4, 2) := by decide +kernel
theorem dX9_plan_56 : decode cX9_plan 56 = .ok (.iload 4, 2) := by decide +kernel
theorem dX9_plan_58 : decode cX9_plan 58 = .ok (.bipush (-2), 2) := by decide +kernel
theorem dX9_plan_60 : decode cX9_plan 60 = .ok (.if_icmp .eq 8, 3) := by decide +kernel
theorem dX9_plan_63 : decode cX9_plan 63 = .ok (.iload_n 2, 1) := by decide +kernel
theorem dX9_plan_64 : decode cX9_plan 64 = .ok (.iconst (-1), 1) := by decide +kernel
theorem dX9_plan_65 : decode cX9_plan 65 = .ok (.if_icmp .ne 6, 3) := by decide +kernel
theorem dX9_plan_68 : decode cX9_plan 68 = .ok (.iload 4, 2) := by decide +kernel
theorem dX9_plan_70 : decode cX9_plan 70 = .ok (.ireturn, 1) := by decide +kernel
theorem dX9_plan_71 : decode cX9_plan 71 = .ok (.iload_n 2, 1) := by decide +kernel
theorem dX9_plan_72 : decode cX9_plan 72 = .ok (.iload 4, 2) := by decide +kernel
theorem dX9_plan_74 : decode cX9_plan 74 = .ok (.if_icmp .ge 15, 3) := by decide +kernel
theorem dX9_plan_77 : decode cX9_plan 77 = .ok (.aload_n 0, 1) := by decide +kernel
theorem dX9_plan_78 : decode cX9_plan 78 = .ok (.getfield 50, 3) := by decide +kernel
theorem dX9_plan_81 : decode cX9_plan 81 = .ok (.getfield 262, 3) := by decide +kernel
theorem dX9_plan_84 : decode cX9_plan 84 = .ok (.iload_n 2, 1) := by decide +kernel
theorem dX9_plan_85 : decode cX9_plan 85 = .ok (.iaload, 1) := by decide +kernel
theorem dX9_plan_86 : decode cX9_plan 86 = .ok (.goto 4, 3) := by decide +kernel
theorem dX9_plan_89 : decode cX9_plan 89 = .ok (.iconst (-1), 1) := by decide +kernel
theorem dX9_plan_90 : decode cX9_plan 90 = .ok (.ireturn, 1) := by decide +kernel
theorem dX5_init_0 : decode cX5_init 0 = .ok (.aload_n 0, 1) := by decide +kernel
theorem dX5_init_1 : decode cX5_init 1 = .ok (.invokespecial 3, 3) := by decide +kernel
theorem dX5_init_4 : decode cX5_init 4 = .ok (.aload_n 0, 1) := by decide +kernel
theorem dX5_init_5 : decode cX5_init 5 = .ok (.new 9, 3) := by decide +kernel
theorem dX5_init_8 : decode cX5_init 8 = .ok (.dup, 1) := by decide +kernel
theorem dX5_init_9 : decode cX5_init 9 = .ok (.invokespecial 11, 3) := by decide +kernel
theorem dX5_init_12 : decode cX5_init 12 = .ok (.putfield 12, 3) := by decide +kernel
theorem dX5_init_15 : decode cX5_init 15 = .ok (.aload_n 0, 1) := by decide +kernel
theorem dX5_init_16 : decode cX5_init 16 = .ok (.new 18, 3) := by decide +kernel
theorem dX5_init_19 : decode cX5_init 19 = .ok (.dup, 1) := by decide +kernel
theorem dX5_init_20 : decode cX5_init 20 = .ok (.invokespecial 20, 3) := by decide +kernel
theorem dX5_init_23 : decode cX5_init 23 = .ok (.putfield 21, 3) := by decide +kernel
theorem dX5_init_26 : decode cX5_init 26 = .ok (.aload_n 0, 1) := by decide +kernel
theorem dX5_init_27 : decode cX5_init 27 = .ok (.iconst (-1), 1) := by decide +kernel
theorem dX5_init_28 : decode cX5_init 28 = .ok (.putfield 25, 3) := by decide +kernel
theorem dX5_init_31 : decode cX5_init 31 = .ok (.aload_n 0, 1) := by decide +kernel
theorem dX5_init_32 : decode cX5_init 32 = .ok (.iconst 0, 1) := by decide +kernel
theorem dX5_init_33 : decode cX5_init 33 = .ok (.putfield 29, 3) := by decide +kernel
theorem dX5_init_36 : decode cX5_init 36 = .ok (.aload_n 0, 1) := by decide +kernel
theorem dX5_init_37 : decode cX5_init 37 = .ok (.iconst (-1), 1) := by decide +kernel
theorem dX5_init_38 : decode cX5_init 38 = .ok (.putfield 32, 3) := by decide +kernel
theorem dX5_init_41 : decode cX5_init 41 = .ok (.aload_n 0, 1) := by decide +kernel
theorem dX5_init_42 : decode cX5_init 42 = .ok (.iconst 0, 1) := by decide +kernel
theorem dX5_init_43 : decode cX5_init 43 = .ok (.putfield 35, 3) := by decide +kernel
theorem dX5_init_46 : decode cX5_init 46 = .ok (.aload_n 0, 1) := by decide +kernel
theorem dX5_init_47 : decode cX5_init 47 = .ok (.iconst (-1), 1) := by decide +kernel
theorem dX5_init_48 : decode cX5_init 48 = .ok (.putfield 38, 3) := by decide +kernel
theorem dX5_init_51 : decode cX5_init 51 = .ok (.aload_n 0, 1) := by decide +kernel
theorem dX5_init_52 : decode cX5_init 52 = .ok (.iconst (-1), 1) := by decide +kernel
theorem dX5_init_53 : decode cX5_init 53 = .ok (.putfield 41, 3) := by decide +kernel
theorem dX5_init_56 : decode cX5_init 56 = .ok (.return_, 1) := by decide +kernel
theorem dX5_readInto_0 : decode cX5_readInto 0 = .ok (.aload_n 1, 1) := by decide +kernel
theorem dX5_readInto_1 : decode cX5_readInto 1 = .ok (.invokevirtual 44, 3) := by decide +kernel
theorem dX5_readInto_4 : decode cX5_readInto 4 = .ok (.aload_n 0, 1) := by decide +kernel
theorem dX5_readInto_5 : decode cX5_readInto 5 = .ok (.getfield 12, 3) := by decide +kernel
theorem dX5_readInto_8 : decode cX5_readInto 8 = .ok (.invokevirtual 49, 3) := by decide +kernel
theorem dX5_readInto_11 : decode cX5_readInto 11 = .ok (.aload_n 0, 1) := by decide +kernel
theorem dX5_readInto_12 : decode cX5_readInto 12 = .ok (.iconst (-1), 1) := by decide +kernel
theorem dX5_readInto_13 : decode cX5_readInto 13 = .ok (.putfield 25, 3) := by decide +kernel
theorem dX5_readInto_16 : decode cX5_readInto 16 = .ok (.aload_n 0, 1) := by decide +kernel
theorem dX5_readInto_17 : decode cX5_readInto 17 = .ok (.iconst 0, 1) := by decide +kernel
theorem dX5_readInto_18 : decode cX5_readInto 18 = .ok (.putfield 35, 3) := by decide +kernel
theorem dX5_readInto_21 : decode cX5_readInto 21 = .ok (.aload_n 0, 1) := by decide +kernel
theorem dX5_readInto_22 : decode cX5_readInto 22 = .ok (.iconst (-1), 1) := by decide +kernel
theorem dX5_readInto_23 : decode cX5_readInto 23 = .ok (.putfield 38, 3) := by decide +kernel
theorem dX5_readInto_26 : decode cX5_readInto 26 = .ok (.iconst 1, 1) := by decide +kernel
theorem dX5_readInto_27 : decode cX5_readInto 27 = .ok (.istore 4, 2) := by decide +kernel
theorem dX5_readInto_29 : decode cX5_readInto 29 = .ok (.iload 4, 2) := by decide +kernel
theorem dX5_readInto_31 : decode cX5_readInto 31 = .ok (.iload_n 3, 1) := by decide +kernel
theorem dX5_readInto_32 : decode cX5_readInto 32 = .ok (.if_icmp .gt 63, 3) := by decide +kernel
theorem dX5_readInto_35 : decode cX5_readInto 35 = .ok (.aload_n 0, 1) := by decide +kernel
theorem dX5_readInto_36 : decode cX5_readInto 36 = .ok (.getfield 12, 3) := by decide +kernel
theorem dX5_readInto_39 : decode cX5_readInto 39 = .ok (.aload_n 2, 1) := by decide +kernel
theorem dX5_readInto_40 : decode cX5_readInto 40 = .ok (.iload_n 3, 1) := by decide +kernel
theorem dX5_readInto_41 : decode cX5_readInto 41 = .ok (.invokevirtual 52, 3) := by decide +kernel
theorem dX5_readInto_44 : decode cX5_readInto 44 = .ok (.ifCond .eq 51, 3) := by decide +kernel
theorem dX5_readInto_47 : decode cX5_readInto 47 = .ok (.aload_n 0, 1) := by decide +kernel
theorem dX5_readInto_48 : decode cX5_readInto 48 = .ok (.aload_n 1, 1) := by decide +kernel
theorem dX5_readInto_49 : decode cX5_readInto 49 = .ok (.invokevirtual 56, 3) := by decide +kernel
theorem dX5_readInto_52 : decode cX5_readInto 52 = .ok (.istore 5, 2) := by decide +kernel
theorem dX5_readInto_54 : decode cX5_readInto 54 = .ok (.iload 5, 2) := by decide +kernel
theorem dX5_readInto_56 : decode cX5_readInto 56 = .ok (.ifCond .ne 14, 3) := by decide +kernel
theorem dX5_readInto_59 : decode cX5_readInto 59 = .ok (.iload 4, 2) := by decide +kernel
theorem dX5_readInto_61 : decode cX5_readInto 61 = .ok (.sipush 400, 3) := by decide +kernel
theorem dX5_readInto_64 : decode cX5_readInto 64 = .ok (.if_icmp .le 6, 3) := by decide +kernel
theorem dX5_readInto_67 : decode cX5_readInto 67 = .ok (.iconst 2, 1) := by decide +kernel
theorem dX5_readInto_68 : decode cX5_readInto 68 = .ok (.istore 5, 2) := by decide +kernel
theorem dX5_readInto_70 : decode cX5_readInto 70 = .ok (.iload 5, 2) := by decide +kernel
theorem dX5_readInto_72 : decode cX5_readInto 72 = .ok (.ifCond .eq 17, 3) := by decide +kernel
theorem dX5_readInto_75 : decode cX5_readInto 75 = .ok (.aload_n 0, 1) := by decide +kernel
theorem dX5_readInto_76 : decode cX5_readInto 76 = .ok (.aload_n 0, 1) := by decide +kernel
theorem dX5_readInto_77 : decode cX5_readInto 77 = .ok (.getfield 12, 3) := by decide +kernel
theorem dX5_readInto_80 : decode cX5_readInto 80 = .ok (.getfield 60, 3) := by decide +kernel
theorem dX5_readInto_83 : decode cX5_readInto 83 = .ok (.putfield 41, 3) := by decide +kernel
theorem dX5_readInto_86 : decode cX5_readInto 86 = .ok (.iload 5, 2) := by decide +kernel
theorem dX5_readInto_88 : decode cX5_readInto 88 = .ok (.ireturn, 1) := by decide +kernel
theorem dX5_readInto_89 : decode cX5_readInto 89 = .ok (.iinc 4 1, 3) := by decide +kernel
theorem dX5_readInto_92 : decode cX5_readInto 92 = .ok (.goto (-63), 3) := by decide +kernel
theorem dX5_readInto_95 : decode cX5_readInto 95 = .ok (.aload_n 0, 1) := by decide +kernel
theorem dX5_readInto_96 : decode cX5_readInto 96 = .ok (.getfield 25, 3) := by decide +kernel
theorem dX5_readInto_99 : decode cX5_readInto 99 = .ok (.iconst (-1), 1) := by decide +kernel
theorem dX5_readInto_100 : decode cX5_readInto 100 = .ok (.if_icmp .eq 7, 3) := by decide +kernel
theorem dX5_readInto_103 : decode cX5_readInto 103 = .ok (.iconst 1, 1) := by decide +kernel
theorem dX5_readInto_104 : decode cX5_readInto 104 = .ok (.goto 4, 3) := by decide +kernel
theorem dX5_readInto_107 : decode cX5_readInto 107 = .ok (.iconst 0, 1) := by decide +kernel
theorem dX5_readInto_108 : decode cX5_readInto 108 = .ok (.istore 4, 2) := by decide +kernel
theorem dX5_readInto_110 : decode cX5_readInto 110 = .ok (.aload_n 0, 1) := by decide +kernel
theorem dX5_readInto_111 : decode cX5_readInto 111 = .ok (.iload 4, 2) := by decide +kernel
theorem dX5_readInto_113 : decode cX5_readInto 113 = .ok (.ifCond .eq 7, 3) := by decide +kernel
theorem dX5_readInto_116 : decode cX5_readInto 116 = .ok (.iload_n 3, 1) := by decide +kernel
theorem dX5_readInto_117 : decode cX5_readInto 117 = .ok (.goto 7, 3) := by decide +kernel
theorem dX5_readInto_120 : decode cX5_readInto 120 = .ok (.aload_n 0, 1) := by decide +kernel
theorem dX5_readInto_121 : decode cX5_readInto 121 = .ok (.getfield 38, 3) := by decide +kernel
theorem dX5_readInto_124 : decode cX5_readInto 124 = .ok (.putfield 41, 3) := by decide +kernel
theorem dX5_readInto_127 : decode cX5_readInto 127 = .ok (.iload 4, 2) := by decide +kernel
theorem dX5_readInto_129 : decode cX5_readInto 129 = .ok (.ifCond .eq 7, 3) := by decide +kernel
theorem dX5_readInto_132 : decode cX5_readInto 132 = .ok (.iconst 1, 1) := by decide +kernel
theorem dX5_readInto_133 : decode cX5_readInto 133 = .ok (.goto 7, 3) := by decide +kernel
theorem dX5_readInto_136 : decode cX5_readInto 136 = .ok (.aload_n 0, 1) := by decide +kernel
theorem dX5_readInto_137 : decode cX5_readInto 137 = .ok (.getfield 35, 3) := by decide +kernel
theorem dX5_readInto_140 : decode cX5_readInto 140 = .ok (.ireturn, 1) := by decide +kernel
theorem dX9_init_0 : decode cX9_init 0 = .ok (.aload_n 0, 1) := by decide +kernel
theorem dX9_init_1 : decode cX9_init 1 = .ok (.invokespecial 1, 3) := by decide +kernel
theorem dX9_init_4 : decode cX9_init 4 = .ok (.aload_n 0, 1) := by decide +kernel
theorem dX9_init_5 : decode cX9_init 5 = .ok (.sipush 2000, 3) := by decide +kernel
theorem dX9_init_8 : decode cX9_init 8 = .ok (.newarray .byte, 2) := by decide +kernel
theorem dX9_init_10 : decode cX9_init 10 = .ok (.putfield 9, 3) := by decide +kernel
theorem dX9_init_13 : decode cX9_init 13 = .ok (.aload_n 0, 1) := by decide +kernel
theorem dX9_init_14 : decode cX9_init 14 = .ok (.iconst 0, 1) := by decide +kernel
theorem dX9_init_15 : decode cX9_init 15 = .ok (.putfield 13, 3) := by decide +kernel
theorem dX9_init_18 : decode cX9_init 18 = .ok (.aload_n 0, 1) := by decide +kernel
theorem dX9_init_19 : decode cX9_init 19 = .ok (.iconst (-1), 1) := by decide +kernel
theorem dX9_init_20 : decode cX9_init 20 = .ok (.putfield 17, 3) := by decide +kernel
theorem dX9_init_23 : decode cX9_init 23 = .ok (.aload_n 0, 1) := by decide +kernel
theorem dX9_init_24 : decode cX9_init 24 = .ok (.new 20, 3) := by decide +kernel
theorem dX9_init_27 : decode cX9_init 27 = .ok (.dup, 1) := by decide +kernel
theorem dX9_init_28 : decode cX9_init 28 = .ok (.invokespecial 22, 3) := by decide +kernel
theorem dX9_init_31 : decode cX9_init 31 = .ok (.putfield 23, 3) := by decide +kernel
theorem dX9_init_34 : decode cX9_init 34 = .ok (.aload_n 0, 1) := by decide +kernel
theorem dX9_init_35 : decode cX9_init 35 = .ok (.new 27, 3) := by decide +kernel
theorem dX9_init_38 : decode cX9_init 38 = .ok (.dup, 1) := by decide +kernel
theorem dX9_init_39 : decode cX9_init 39 = .ok (.invokespecial 29, 3) := by decide +kernel
theorem dX9_init_42 : decode cX9_init 42 = .ok (.putfield 30, 3) := by decide +kernel
theorem dX9_init_45 : decode cX9_init 45 = .ok (.aload_n 0, 1) := by decide +kernel
theorem dX9_init_46 : decode cX9_init 46 = .ok (.new 27, 3) := by decide +kernel
theorem dX9_init_49 : decode cX9_init 49 = .ok (.dup, 1) := by decide +kernel
theorem dX9_init_50 : decode cX9_init 50 = .ok (.invokespecial 29, 3) := by decide +kernel
theorem dX9_init_53 : decode cX9_init 53 = .ok (.putfield 34, 3) := by decide +kernel
theorem dX9_init_56 : decode cX9_init 56 = .ok (.aload_n 0, 1) := by decide +kernel
theorem dX9_init_57 : decode cX9_init 57 = .ok (.new 37, 3) := by decide +kernel
theorem dX9_init_60 : decode cX9_init 60 = .ok (.dup, 1) := by decide +kernel
theorem dX9_init_61 : decode cX9_init 61 = .ok (.invokespecial 39, 3) := by decide +kernel
theorem dX9_init_64 : decode cX9_init 64 = .ok (.putfield 40, 3) := by decide +kernel
theorem dX9_init_67 : decode cX9_init 67 = .ok (.aload_n 0, 1) := by decide +kernel
theorem dX9_init_68 : decode cX9_init 68 = .ok (.new 37, 3) := by decide +kernel
theorem dX9_init_71 : decode cX9_init 71 = .ok (.dup, 1) := by decide +kernel
theorem dX9_init_72 : decode cX9_init 72 = .ok (.invokespecial 39, 3) := by decide +kernel
theorem dX9_init_75 : decode cX9_init 75 = .ok (.putfield 44, 3) := by decide +kernel
theorem dX9_init_78 : decode cX9_init 78 = .ok (.aload_n 0, 1) := by decide +kernel
theorem dX9_init_79 : decode cX9_init 79 = .ok (.new 47, 3) := by decide +kernel
theorem dX9_init_82 : decode cX9_init 82 = .ok (.dup, 1) := by decide +kernel
theorem dX9_init_83 : decode cX9_init 83 = .ok (.invokespecial 49, 3) := by decide +kernel
theorem dX9_init_86 : decode cX9_init 86 = .ok (.putfield 50, 3) := by decide +kernel
theorem dX9_init_89 : decode cX9_init 89 = .ok (.aload_n 0, 1) := by decide +kernel
theorem dX9_init_90 : decode cX9_init 90 = .ok (.new 54, 3) := by decide +kernel
theorem dX9_init_93 : decode cX9_init 93 = .ok (.dup, 1) := by decide +kernel
theorem dX9_init_94 : decode cX9_init 94 = .ok (.invokespecial 56, 3) := by decide +kernel
theorem dX9_init_97 : decode cX9_init 97 = .ok (.putfield 57, 3) := by decide +kernel
theorem dX9_init_100 : decode cX9_init 100 = .ok (.aload_n 0, 1) := by decide +kernel
theorem dX9_init_101 : decode cX9_init 101 = .ok (.new 61, 3) := by decide +kernel
theorem dX9_init_104 : decode cX9_init 104 = .ok (.dup, 1) := by decide +kernel
theorem dX9_init_105 : decode cX9_init 105 = .ok (.invokespecial 63, 3) := by decide +kernel
theorem dX9_init_108 : decode cX9_init 108 = .ok (.putfield 64, 3) := by decide +kernel
theorem dX9_init_111 : decode cX9_init 111 = .ok (.return_, 1) := by decide +kernel
theorem dX9_read_0 : decode cX9_read 0 = .ok (.aload_n 0, 1) := by decide +kernel
theorem dX9_read_1 : decode cX9_read 1 = .ok (.getfield 23, 3) := by decide +kernel
theorem dX9_read_4 : decode cX9_read 4 = .ok (.aload_n 0, 1) := by decide +kernel
theorem dX9_read_5 : decode cX9_read 5 = .ok (.getfield 34, 3) := by decide +kernel
theorem dX9_read_8 : decode cX9_read 8 = .ok (.aload_n 0, 1) := by decide +kernel
theorem dX9_read_9 : decode cX9_read 9 = .ok (.getfield 9, 3) := by decide +kernel
theorem dX9_read_12 : decode cX9_read 12 = .ok (.aload_n 0, 1) := by decide +kernel
theorem dX9_read_13 : decode cX9_read 13 = .ok (.getfield 13, 3) := by decide +kernel
theorem dX9_read_16 : decode cX9_read 16 = .ok (.invokevirtual 72, 3) := by decide +kernel
theorem dX9_read_19 : decode cX9_read 19 = .ok (.istore_n 1, 1) := by decide +kernel
theorem dX9_read_20 : decode cX9_read 20 = .ok (.aload_n 0, 1) := by decide +kernel
theorem dX9_read_21 : decode cX9_read 21 = .ok (.iconst 0, 1) := by decide +kernel
theorem dX9_read_22 : decode cX9_read 22 = .ok (.putfield 13, 3) := by decide +kernel
theorem dX9_read_25 : decode cX9_read 25 = .ok (.aload_n 0, 1) := by decide +kernel
theorem dX9_read_26 : decode cX9_read 26 = .ok (.aload_n 0, 1) := by decide +kernel
theorem dX9_read_27 : decode cX9_read 27 = .ok (.getfield 23, 3) := by decide +kernel
theorem dX9_read_30 : decode cX9_read 30 = .ok (.getfield 76, 3) := by decide +kernel
theorem dX9_read_33 : decode cX9_read 33 = .ok (.putfield 17, 3) := by decide +kernel
theorem dX9_read_36 : decode cX9_read 36 = .ok (.iload_n 1, 1) := by decide +kernel
theorem dX9_read_37 : decode cX9_read 37 = .ok (.ifCond .ne 47, 3) := by decide +kernel
theorem dX9_read_40 : decode cX9_read 40 = .ok (.aload_n 0, 1) := by decide +kernel
theorem dX9_read_41 : decode cX9_read 41 = .ok (.getfield 30, 3) := by decide +kernel
theorem dX9_read_44 : decode cX9_read 44 = .ok (.astore_n 2, 1) := by decide +kernel
theorem dX9_read_45 : decode cX9_read 45 = .ok (.aload_n 0, 1) := by decide +kernel
theorem dX9_read_46 : decode cX9_read 46 = .ok (.aload_n 0, 1) := by decide +kernel
theorem dX9_read_47 : decode cX9_read 47 = .ok (.getfield 34, 3) := by decide +kernel
theorem dX9_read_50 : decode cX9_read 50 = .ok (.putfield 30, 3) := by decide +kernel
theorem dX9_read_53 : decode cX9_read 53 = .ok (.aload_n 0, 1) := by decide +kernel
theorem dX9_read_54 : decode cX9_read 54 = .ok (.aload_n 2, 1) := by decide +kernel
theorem dX9_read_55 : decode cX9_read 55 = .ok (.putfield 34, 3) := by decide +kernel
theorem dX9_read_58 : decode cX9_read 58 = .ok (.aload_n 0, 1) := by decide +kernel
theorem dX9_read_59 : decode cX9_read 59 = .ok (.getfield 30, 3) := by decide +kernel
theorem dX9_read_62 : decode cX9_read 62 = .ok (.aload_n 0, 1) := by decide +kernel
theorem dX9_read_63 : decode cX9_read 63 = .ok (.getfield 40, 3) := by decide +kernel
theorem dX9_read_66 : decode cX9_read 66 = .ok (.invokevirtual 77, 3) := by decide +kernel
theorem dX9_read_69 : decode cX9_read 69 = .ok (.aload_n 0, 1) := by decide +kernel
theorem dX9_read_70 : decode cX9_read 70 = .ok (.getfield 57, 3) := by decide +kernel
theorem dX9_read_73 : decode cX9_read 73 = .ok (.invokevirtual 81, 3) := by decide +kernel
theorem dX9_read_76 : decode cX9_read 76 = .ok (.aload_n 0, 1) := by decide +kernel
theorem dX9_read_77 : decode cX9_read 77 = .ok (.getfield 64, 3) := by decide +kernel
theorem dX9_read_80 : decode cX9_read 80 = .ok (.iconst 0, 1) := by decide +kernel
theorem dX9_read_81 : decode cX9_read 81 = .ok (.putfield 84, 3) := by decide +kernel
theorem dX9_read_84 : decode cX9_read 84 = .ok (.iload_n 1, 1) := by decide +kernel
theorem dX9_read_85 : decode cX9_read 85 = .ok (.ireturn, 1) := by decide +kernel
set_option maxRecDepth 100000 in
theorem tJ3_checkIndex_8e157 (G : gx) (fu : Nat) (v0 : Int32) (v1 : Int32) (v : Value) (hv : v.category = 1) (h : mh) : Ct lI G yJ3_checkIndex_8e157 cJ3_checkIndex_8e157 3 (some .int) 1 [.int v0, .int v1, v] h (fJ3_checkIndex_8e157 fu v0 v1 h) := by
  refine ct_ls (ls := [(0, .int v0), (1, .int v1), (2, v)]) rfl (by decide) (by cases v <;> first | exact Nat.le_of_ble_eq_true rfl | (simp [Value.category] at hv)) ?_
  unfold fJ3_checkIndex_8e157
  refine ev_step (st_iload_n (pc := 0) (j := 0) dJ3_checkIndex_8e157_0 rfl rfl) ?_
  refine ev_br (br_if_lt (tgt := 9) (pc := 1) dJ3_checkIndex_8e157_1 (by decide)) (fun _ => ?_) (fun _ => ?_)
  · exact ev_none
  · refine ev_step (st_iload_n (pc := 4) (j := 0) dJ3_checkIndex_8e157_4 rfl rfl) ?_
    refine ev_step (st_iload_n (pc := 5) (j := 1) dJ3_checkIndex_8e157_5 rfl rfl) ?_
    refine ev_br (br_icmp_lt (tgt := 16) (pc := 6) dJ3_checkIndex_8e157_6 (by decide)) (fun _ => ?_) (fun _ => ?_)
    · refine ev_step (st_iload_n (pc := 16) (j := 0) dJ3_checkIndex_8e157_16 rfl rfl) ?_
      exact ev_iret (pc := 17) dJ3_checkIndex_8e157_17
    · exact ev_none
set_option maxRecDepth 100000 in
theorem tJ0_checkIndex_df160 (G : gx) (fu : Nat) (v0 : Int32) (v1 : Int32) (h : mh) : Ct lV G yJ0_checkIndex_df160 cJ0_checkIndex_df160 2 (none) 2 [.int v0, .int v1] h (fJ0_checkIndex_df160 fu v0 v1 h) := by
  refine ct_ls (ls := [(0, .int v0), (1, .int v1)]) rfl (by decide) (Nat.le_of_ble_eq_true rfl) ?_
  unfold fJ0_checkIndex_df160
  refine ev_step (st_iload_n (pc := 0) (j := 0) dJ0_checkIndex_df160_0 rfl rfl) ?_
  refine ev_step (st_iload_n (pc := 1) (j := 1) dJ0_checkIndex_df160_1 rfl rfl) ?_
  refine ev_gsF (pc := 2) g_J0_1053 dJ0_checkIndex_df160_2 (fun v hv => ?_)
  refine ev_callI (iv_S (As := [.int v0, .int v1, v]) (st := []) (pc := 5) m_J3_checkIndex_8e157 l_J0_1059 z_J3_checkIndex_8e157 rfl (Nat.le_of_ble_eq_true rfl) rfl dJ0_checkIndex_df160_5) (tJ3_checkIndex_8e157 G fu v0 v1 v hv h) (by decide) (by decide) (fun x1 h2 => ?_)
  refine ev_step (st_pop (pc := 8) dJ0_checkIndex_df160_8 rfl) ?_
  exact ev_vret (pc := 9) dJ0_checkIndex_df160_9

set_option maxRecDepth 100000 in
set_option maxHeartbeats 4000000 in
theorem tJ0_coder_7d493 (G : gx) (fu : Nat) (v0 : Nat) (h : mh) : Ct lI G yJ0_coder_7d493 cJ0_coder_7d493 1 (some .byte) 1 [.ref (gK G v0)] h (fJ0_coder_7d493 fu v0 h) := by
  refine ct_ls (ls := [(0, .ref (gK G v0))]) rfl (by decide) (Nat.le_of_ble_eq_true rfl) ?_
  unfold fJ0_coder_7d493
  refine ev_step (st_gsC (pc := 0) g_J0_38 dJ0_coder_7d493_0) ?_
  refine ev_br (br_if_eq (tgt := 13) (pc := 3) dJ0_coder_7d493_3 (by decide)) (fun _ => ?_) (fun _ => ?_)
  · refine ev_step (st_iconst (pc := 13) dJ0_coder_7d493_13 ni_1) ?_
    exact ev_nret (pc := 14) rfl dJ0_coder_7d493_14
  · refine ev_step (st_aload_n (pc := 6) (j := 0) dJ0_coder_7d493_6 rfl rfl) ?_
    refine ev_cks (fun hj => ?_)
    refine ev_step (st_scod (pc := 7) hj g_J0_15 dJ0_coder_7d493_7) ?_
    refine ev_step (st_goto (pc := 10) (tgt := 14) dJ0_coder_7d493_10 (by decide)) ?_
    exact ev_nret (pc := 14) rfl dJ0_coder_7d493_14
set_option maxRecDepth 100000 in
set_option maxHeartbeats 4000000 in
theorem tJ0_isLatin1_aae02 (G : gx) (fu : Nat) (v0 : Nat) (h : mh) : Ct lI G yJ0_isLatin1_aae02 cJ0_isLatin1_aae02 1 (some .boolean) 1 [.ref (gK G v0)] h (fJ0_isLatin1_aae02 fu v0 h) := by
  refine ct_ls (ls := [(0, .ref (gK G v0))]) rfl (by decide) (Nat.le_of_ble_eq_true rfl) ?_
  unfold fJ0_isLatin1_aae02
  refine ev_step (st_gsC (pc := 0) g_J0_38 dJ0_isLatin1_aae02_0) ?_
  refine ev_br (br_if_eq (tgt := 17) (pc := 3) dJ0_isLatin1_aae02_3 (by decide)) (fun _ => ?_) (fun _ => ?_)
  · refine ev_step (st_iconst (pc := 17) dJ0_isLatin1_aae02_17 ni_0) ?_
    exact ev_zret (pc := 18) dJ0_isLatin1_aae02_18
  · refine ev_step (st_aload_n (pc := 6) (j := 0) dJ0_isLatin1_aae02_6 rfl rfl) ?_
    refine ev_cks (fun hj => ?_)
    refine ev_step (st_scod (pc := 7) hj g_J0_15 dJ0_isLatin1_aae02_7) ?_
    refine ev_br (br_if_ne (tgt := 17) (pc := 10) dJ0_isLatin1_aae02_10 (by decide)) (fun _ => ?_) (fun _ => ?_)
    · refine ev_step (st_iconst (pc := 13) dJ0_isLatin1_aae02_13 ni_1) ?_
      refine ev_step (st_goto (pc := 14) (tgt := 18) dJ0_isLatin1_aae02_14 (by decide)) ?_
      exact ev_zret (pc := 18) dJ0_isLatin1_aae02_18
    · refine ev_step (st_iconst (pc := 17) dJ0_isLatin1_aae02_17 ni_0) ?_
      exact ev_zret (pc := 18) dJ0_isLatin1_aae02_18
set_option maxRecDepth 100000 in
set_option maxHeartbeats 4000000 in
theorem tJ0_length_8abf5 (G : gx) (fu : Nat) (v0 : Nat) (h : mh) : Ct lI G yJ0_length_8abf5 cJ0_length_8abf5 1 (some .int) 2 [.ref (gK G v0)] h (fJ0_length_8abf5 fu v0 h) := by
  refine ct_ls (ls := [(0, .ref (gK G v0))]) rfl (by decide) (Nat.le_of_ble_eq_true rfl) ?_
  unfold fJ0_length_8abf5
  refine ev_step (st_aload_n (pc := 0) (j := 0) dJ0_length_8abf5_0 rfl rfl) ?_
  refine ev_cks (fun hj => ?_)
  refine ev_step (st_sval (pc := 1) hj g_J0_9 dJ0_length_8abf5_1) ?_
  refine ev_lenS (pc := 4) dJ0_length_8abf5_4 (fun x1 => ?_)
  refine ev_step (st_aload_n (pc := 5) (j := 0) dJ0_length_8abf5_5 rfl rfl) ?_
  refine ev_cks (fun hj => ?_)
  refine ev_callI (iv_VS (As := []) (st := [.int x1]) (pc := 6) m_J0_coder_7d493 l_J0_335 i_J0_coder_7d493 e_J0_coder_7d493 hj rfl (Nat.le_of_ble_eq_true rfl) rfl dJ0_length_8abf5_6) (tJ0_coder_7d493 G fu v0 h) (by decide) (by decide) (fun x3 h2 => ?_)
  refine ev_step (st_ishr (pc := 9) dJ0_length_8abf5_9) ?_
  exact ev_iret (pc := 10) dJ0_length_8abf5_10
set_option maxRecDepth 100000 in
set_option maxHeartbeats 4000000 in
theorem tJ1_canEncode_9a6ad (G : gx) (fu : Nat) (v0 : Int32) (h : mh) : Ct lI G yJ1_canEncode_9a6ad cJ1_canEncode_9a6ad 1 (some .boolean) 1 [.int v0] h (fJ1_canEncode_9a6ad fu v0 h) := by
  refine ct_ls (ls := [(0, .int v0)]) rfl (by decide) (Nat.le_of_ble_eq_true rfl) ?_
  unfold fJ1_canEncode_9a6ad
  refine ev_step (st_iload_n (pc := 0) (j := 0) dJ1_canEncode_9a6ad_0 rfl rfl) ?_
  refine ev_br (br_if_lt (tgt := 15) (pc := 1) dJ1_canEncode_9a6ad_1 (by decide)) (fun _ => ?_) (fun _ => ?_)
  · refine ev_step (st_iconst (pc := 15) dJ1_canEncode_9a6ad_15 ni_0) ?_
    exact ev_zret (pc := 16) dJ1_canEncode_9a6ad_16
  · refine ev_step (st_iload_n (pc := 4) (j := 0) dJ1_canEncode_9a6ad_4 rfl rfl) ?_
    refine ev_step (st_sipush (pc := 5) dJ1_canEncode_9a6ad_5 ns_255) ?_
    refine ev_br (br_icmp_gt (tgt := 15) (pc := 8) dJ1_canEncode_9a6ad_8 (by decide)) (fun _ => ?_) (fun _ => ?_)
    · refine ev_step (st_iconst (pc := 15) dJ1_canEncode_9a6ad_15 ni_0) ?_
      exact ev_zret (pc := 16) dJ1_canEncode_9a6ad_16
    · refine ev_step (st_iconst (pc := 11) dJ1_canEncode_9a6ad_11 ni_1) ?_
      refine ev_step (st_goto (pc := 12) (tgt := 16) dJ1_canEncode_9a6ad_12 (by decide)) ?_
      exact ev_zret (pc := 16) dJ1_canEncode_9a6ad_16
set_option maxRecDepth 100000 in
set_option maxHeartbeats 4000000 in
theorem tJ1_indexOfChar_4cfef_7 (G : gx) (fu : Nat) (h0 : mh) (v0 : Nat) (v1 : Int32) (v2 : Int32) (v3 : Int32) (v4 : Int32) (n : Nat) (v5 : Int32) (h : mh) : Ev lI G yJ1_indexOfChar_4cfef cJ1_indexOfChar_4cfef 6 (some .int) 1 h0 7 [(0, .ref (gV G v0)), (1, .int v1), (2, .int v2), (3, .int v3), (4, .int v4), (5, .int v5)] [] h (itr (bJ1_indexOfChar_4cfef_7 fu v0 v1 v2 v3 v4) n (v5, h)) := by
  refine ev_itr (P := fun (q : Int32 × mh) (R9 : Option (Int32 × mh)) => Ev lI G yJ1_indexOfChar_4cfef cJ1_indexOfChar_4cfef 6 (some .int) 1 h0 7 [(0, .ref (gV G v0)), (1, .int v1), (2, .int v2), (3, .int v3), (4, .int v4), (5, .int q.1)] [] q.2 R9) (fun _ => ev_none) (fun k7 hk9 q => ?_) n (v5, h)
  obtain ⟨v5, h⟩ := q
  have hk7 : ∀ (v5 : Int32) (h : mh), Ev lI G yJ1_indexOfChar_4cfef cJ1_indexOfChar_4cfef 6 (some .int) 1 h0 7 [(0, .ref (gV G v0)), (1, .int v1), (2, .int v2), (3, .int v3), (4, .int v4), (5, .int v5)] [] h (k7 (v5, h)) := fun v5 h => hk9 (v5, h)
  show Ev lI G yJ1_indexOfChar_4cfef cJ1_indexOfChar_4cfef 6 (some .int) 1 h0 7 [(0, .ref (gV G v0)), (1, .int v1), (2, .int v2), (3, .int v3), (4, .int v4), (5, .int v5)] [] h (bJ1_indexOfChar_4cfef_7 fu v0 v1 v2 v3 v4 k7 (v5, h))
  unfold bJ1_indexOfChar_4cfef_7
  refine ev_step (st_iload (pc := 7) (j := 5) dJ1_indexOfChar_4cfef_7 rfl) ?_
  refine ev_step (st_iload_n (pc := 9) (j := 3) dJ1_indexOfChar_4cfef_9 rfl rfl) ?_
  refine ev_br (br_icmp_ge (tgt := 31) (pc := 10) dJ1_indexOfChar_4cfef_10 (by decide)) (fun _ => ?_) (fun _ => ?_)
  · refine ev_step (st_iconst (pc := 31) dJ1_indexOfChar_4cfef_31 ni_m1) ?_
    exact ev_iret (pc := 32) dJ1_indexOfChar_4cfef_32
  · refine ev_step (st_aload_n (pc := 13) (j := 0) dJ1_indexOfChar_4cfef_13 rfl rfl) ?_
    refine ev_step (st_iload (pc := 14) (j := 5) dJ1_indexOfChar_4cfef_14 rfl) ?_
    refine ev_ldS (pc := 16) dJ1_indexOfChar_4cfef_16 (fun x1 => ?_)
    refine ev_step (st_iload (pc := 17) (j := 4) dJ1_indexOfChar_4cfef_17 rfl) ?_
    refine ev_br (br_icmp_ne (tgt := 25) (pc := 19) dJ1_indexOfChar_4cfef_19 (by decide)) (fun _ => ?_) (fun _ => ?_)
    · refine ev_step (st_iload (pc := 22) (j := 5) dJ1_indexOfChar_4cfef_22 rfl) ?_
      exact ev_iret (pc := 24) dJ1_indexOfChar_4cfef_24
    · refine ev_step (st_inc (pc := 25) (j := 5) (ls' := [(5, .int (v5 + (1 : Int32))), (0, .ref (gV G v0)), (1, .int v1), (2, .int v2), (3, .int v3), (4, .int v4)]) dJ1_indexOfChar_4cfef_25 rfl ni_1 (by decide) rfl) ?_
      refine ev_step (st_goto (pc := 28) (tgt := 7) dJ1_indexOfChar_4cfef_28 (by decide)) ?_
      refine ev_sub (ls' := [(0, .ref (gV G v0)), (1, .int v1), (2, .int v2), (3, .int v3), (4, .int v4), (5, .int (v5 + (1 : Int32)))]) [1, 2, 3, 4, 5, 0] rfl ?_
      exact hk7 (v5 + (1 : Int32)) h
set_option maxRecDepth 100000 in
set_option maxHeartbeats 4000000 in
theorem tJ1_indexOfChar_4cfef (G : gx) (fu : Nat) (v0 : Nat) (v1 : Int32) (v2 : Int32) (v3 : Int32) (h : mh) : Ct lI G yJ1_indexOfChar_4cfef cJ1_indexOfChar_4cfef 6 (some .int) 1 [.ref (gV G v0), .int v1, .int v2, .int v3] h (fJ1_indexOfChar_4cfef fu v0 v1 v2 v3 h) := by
  refine ct_ls (ls := [(0, .ref (gV G v0)), (1, .int v1), (2, .int v2), (3, .int v3)]) rfl (by decide) (Nat.le_of_ble_eq_true rfl) ?_
  unfold fJ1_indexOfChar_4cfef
  refine ev_step (st_iload_n (pc := 0) (j := 1) dJ1_indexOfChar_4cfef_0 rfl rfl) ?_
  refine ev_step (st_i2b (pc := 1) dJ1_indexOfChar_4cfef_1) ?_
  refine ev_top (fun x1 => ?_)
  refine ev_step (st_istore (pc := 2) (ls' := [(4, .int x1), (0, .ref (gV G v0)), (1, .int v1), (2, .int v2), (3, .int v3)]) dJ1_indexOfChar_4cfef_2 (by decide) rfl) ?_
  refine ev_step (st_iload_n (pc := 4) (j := 3) dJ1_indexOfChar_4cfef_4 rfl rfl) ?_
  refine ev_step (st_istore (pc := 5) (ls' := [(5, .int v2), (4, .int x1), (0, .ref (gV G v0)), (1, .int v1), (2, .int v2), (3, .int v3)]) dJ1_indexOfChar_4cfef_5 (by decide) rfl) ?_
  refine ev_sub (ls' := [(0, .ref (gV G v0)), (1, .int v1), (2, .int v2), (3, .int v3), (4, .int x1), (5, .int v2)]) [2, 3, 4, 5, 1, 0] rfl ?_
  exact tJ1_indexOfChar_4cfef_7 G fu h v0 v1 v2 v3 x1 fu v2 h
set_option maxRecDepth 100000 in
set_option maxHeartbeats 4000000 in
theorem tJ1_indexOf_4cfef (G : gx) (fu : Nat) (v0 : Nat) (v1 : Int32) (v2 : Int32) (v3 : Int32) (h : mh) : Ct lI G yJ1_indexOf_4cfef cJ1_indexOf_4cfef 4 (some .int) 2 [.ref (gV G v0), .int v1, .int v2, .int v3] h (fJ1_indexOf_4cfef fu v0 v1 v2 v3 h) := by
  refine ct_ls (ls := [(0, .ref (gV G v0)), (1, .int v1), (2, .int v2), (3, .int v3)]) rfl (by decide) (Nat.le_of_ble_eq_true rfl) ?_
  unfold fJ1_indexOf_4cfef
  refine ev_step (st_iload_n (pc := 0) (j := 1) dJ1_indexOf_4cfef_0 rfl rfl) ?_
  refine ev_callI (iv_S (As := [.int v1]) (st := []) (pc := 1) m_J1_canEncode_9a6ad l_J1_88 z_J1_canEncode_9a6ad rfl (Nat.le_of_ble_eq_true rfl) rfl dJ1_indexOf_4cfef_1) (tJ1_canEncode_9a6ad G fu v1 h) (by decide) (by decide) (fun x2 h1 => ?_)
  refine ev_br (br_if_ne (tgt := 9) (pc := 4) dJ1_indexOf_4cfef_4 (by decide)) (fun _ => ?_) (fun _ => ?_)
  · refine ev_step (st_iconst (pc := 7) dJ1_indexOf_4cfef_7 ni_m1) ?_
    exact ev_iret (pc := 8) dJ1_indexOf_4cfef_8
  · refine ev_step (st_iload_n (pc := 9) (j := 2) dJ1_indexOf_4cfef_9 rfl rfl) ?_
    refine ev_step (st_iconst (pc := 10) dJ1_indexOf_4cfef_10 ni_0) ?_
    refine ev_mmax (pc := 11) mm_J1_92 (by decide) (Nat.le_of_ble_eq_true rfl) dJ1_indexOf_4cfef_11 ?_
    refine ev_top (fun x3 => ?_)
    refine ev_step (st_istore_n (pc := 14) (ls' := [(2, .int x3), (0, .ref (gV G v0)), (1, .int v1), (3, .int v3)]) dJ1_indexOf_4cfef_14 rfl (by decide) rfl) ?_
    refine ev_step (st_iload_n (pc := 15) (j := 3) dJ1_indexOf_4cfef_15 rfl rfl) ?_
    refine ev_step (st_aload_n (pc := 16) (j := 1) dJ1_indexOf_4cfef_16 rfl rfl) ?_
    refine ev_lenS (pc := 17) dJ1_indexOf_4cfef_17 (fun x4 => ?_)
    refine ev_mmin (pc := 18) mm_J1_38 (by decide) (Nat.le_of_ble_eq_true rfl) dJ1_indexOf_4cfef_18 ?_
    refine ev_top (fun x5 => ?_)
    refine ev_step (st_istore_n (pc := 21) (ls' := [(3, .int x5), (2, .int x3), (0, .ref (gV G v0)), (1, .int v1)]) dJ1_indexOf_4cfef_21 rfl (by decide) rfl) ?_
    refine ev_step (st_iload_n (pc := 22) (j := 1) dJ1_indexOf_4cfef_22 rfl rfl) ?_
    refine ev_step (st_iload_n (pc := 23) (j := 0) dJ1_indexOf_4cfef_23 rfl rfl) ?_
    refine ev_br (br_icmp_lt (tgt := 29) (pc := 24) dJ1_indexOf_4cfef_24 (by decide)) (fun _ => ?_) (fun _ => ?_)
    · refine ev_step (st_aload_n (pc := 29) (j := 2) dJ1_indexOf_4cfef_29 rfl rfl) ?_
      refine ev_step (st_iload_n (pc := 30) (j := 3) dJ1_indexOf_4cfef_30 rfl rfl) ?_
      refine ev_step (st_iload_n (pc := 31) (j := 1) dJ1_indexOf_4cfef_31 rfl rfl) ?_
      refine ev_step (st_iload_n (pc := 32) (j := 0) dJ1_indexOf_4cfef_32 rfl rfl) ?_
      refine ev_callI (iv_S (As := [.ref (gV G v0), .int v1, .int x3, .int x5]) (st := []) (pc := 33) m_J1_indexOfChar_4cfef l_J1_95 z_J1_indexOfChar_4cfef rfl (Nat.le_of_ble_eq_true rfl) rfl dJ1_indexOf_4cfef_33) (tJ1_indexOfChar_4cfef G fu v0 v1 x3 x5 h1) (by decide) (by decide) (fun x7 h6 => ?_)
      exact ev_iret (pc := 36) dJ1_indexOf_4cfef_36
    · refine ev_step (st_iconst (pc := 27) dJ1_indexOf_4cfef_27 ni_m1) ?_
      exact ev_iret (pc := 28) dJ1_indexOf_4cfef_28
set_option maxRecDepth 100000 in
set_option maxHeartbeats 4000000 in
theorem tJ0_indexOf_7cf53 (G : gx) (fu : Nat) (v0 : Nat) (v1 : Int32) (v2 : Int32) (h : mh) : Ct lI G yJ0_indexOf_7cf53 cJ0_indexOf_7cf53 3 (some .int) 3 [.ref (gK G v0), .int v1, .int v2] h (fJ0_indexOf_7cf53 fu v0 v1 v2 h) := by
  refine ct_ls (ls := [(0, .ref (gK G v0)), (1, .int v1), (2, .int v2)]) rfl (by decide) (Nat.le_of_ble_eq_true rfl) ?_
  unfold fJ0_indexOf_7cf53
  refine ev_step (st_aload_n (pc := 0) (j := 0) dJ0_indexOf_7cf53_0 rfl rfl) ?_
  refine ev_cks (fun hj => ?_)
  refine ev_callI (iv_VS (As := []) (st := []) (pc := 1) m_J0_isLatin1_aae02 l_J0_492 i_J0_isLatin1_aae02 e_J0_isLatin1_aae02 hj rfl (Nat.le_of_ble_eq_true rfl) rfl dJ0_indexOf_7cf53_1) (tJ0_isLatin1_aae02 G fu v0 h) (by decide) (by decide) (fun x2 h1 => ?_)
  refine ev_br (br_if_eq (tgt := 23) (pc := 4) dJ0_indexOf_7cf53_4 (by decide)) (fun _ => ?_) (fun _ => ?_)
  · exact ev_none
  · refine ev_step (st_aload_n (pc := 7) (j := 0) dJ0_indexOf_7cf53_7 rfl rfl) ?_
    refine ev_cks (fun hj => ?_)
    refine ev_step (st_sval (pc := 8) hj g_J0_9 dJ0_indexOf_7cf53_8) ?_
    refine ev_step (st_iload_n (pc := 11) (j := 1) dJ0_indexOf_7cf53_11 rfl rfl) ?_
    refine ev_step (st_iload_n (pc := 12) (j := 2) dJ0_indexOf_7cf53_12 rfl rfl) ?_
    refine ev_step (st_aload_n (pc := 13) (j := 0) dJ0_indexOf_7cf53_13 rfl rfl) ?_
    refine ev_cks (fun hj => ?_)
    refine ev_callI (iv_VS (As := []) (st := [.int v2, .int v1, .ref (gV G v0)]) (pc := 14) m_J0_length_8abf5 l_J0_505 i_J0_length_8abf5 e_J0_length_8abf5 hj rfl (Nat.le_of_ble_eq_true rfl) rfl dJ0_indexOf_7cf53_14) (tJ0_length_8abf5 G fu v0 h1) (by decide) (by decide) (fun x4 h3 => ?_)
    refine ev_callI (iv_S (As := [.ref (gV G v0), .int v1, .int v2, .int x4]) (st := []) (pc := 17) m_J1_indexOf_4cfef l_J0_637 z_J1_indexOf_4cfef rfl (Nat.le_of_ble_eq_true rfl) rfl dJ0_indexOf_7cf53_17) (tJ1_indexOf_4cfef G fu v0 v1 v2 x4 h3) (by decide) (by decide) (fun x6 h5 => ?_)
    refine ev_step (st_goto (pc := 20) (tgt := 36) dJ0_indexOf_7cf53_20 (by decide)) ?_
    exact ev_iret (pc := 36) dJ0_indexOf_7cf53_36
set_option maxRecDepth 100000 in
set_option maxHeartbeats 4000000 in
theorem tJ0_indexOf_0f7a4 (G : gx) (fu : Nat) (v0 : Nat) (v1 : Int32) (h : mh) : Ct lI G yJ0_indexOf_0f7a4 cJ0_indexOf_0f7a4 2 (some .int) 4 [.ref (gK G v0), .int v1] h (fJ0_indexOf_0f7a4 fu v0 v1 h) := by
  refine ct_ls (ls := [(0, .ref (gK G v0)), (1, .int v1)]) rfl (by decide) (Nat.le_of_ble_eq_true rfl) ?_
  unfold fJ0_indexOf_0f7a4
  refine ev_step (st_aload_n (pc := 0) (j := 0) dJ0_indexOf_0f7a4_0 rfl rfl) ?_
  refine ev_step (st_iload_n (pc := 1) (j := 1) dJ0_indexOf_0f7a4_1 rfl rfl) ?_
  refine ev_step (st_iconst (pc := 2) dJ0_indexOf_0f7a4_2 ni_0) ?_
  refine ev_cks (fun hj => ?_)
  refine ev_callI (iv_VS (As := [.int v1, .int ((0 : Int32))]) (st := []) (pc := 3) m_J0_indexOf_7cf53 l_J0_633 i_J0_indexOf_7cf53 e_J0_indexOf_7cf53 hj rfl (Nat.le_of_ble_eq_true rfl) rfl dJ0_indexOf_0f7a4_3) (tJ0_indexOf_7cf53 G fu v0 v1 ((0 : Int32)) h) (by decide) (by decide) (fun x2 h1 => ?_)
  exact ev_iret (pc := 6) dJ0_indexOf_0f7a4_6
set_option maxRecDepth 100000 in
set_option maxHeartbeats 4000000 in
theorem tJ1_charAt_3b067 (G : gx) (fu : Nat) (v0 : Nat) (v1 : Int32) (h : mh) : Ct lI G yJ1_charAt_3b067 cJ1_charAt_3b067 2 (some .char) 3 [.ref (gV G v0), .int v1] h (fJ1_charAt_3b067 fu v0 v1 h) := by
  refine ct_ls (ls := [(0, .ref (gV G v0)), (1, .int v1)]) rfl (by decide) (Nat.le_of_ble_eq_true rfl) ?_
  unfold fJ1_charAt_3b067
  refine ev_step (st_iload_n (pc := 0) (j := 1) dJ1_charAt_3b067_0 rfl rfl) ?_
  refine ev_step (st_aload_n (pc := 1) (j := 0) dJ1_charAt_3b067_1 rfl rfl) ?_
  refine ev_lenS (pc := 2) dJ1_charAt_3b067_2 (fun x1 => ?_)
  refine ev_callV (iv_S (As := [.int v1, .int x1]) (st := []) (pc := 3) m_J0_checkIndex_df160 l_J1_9 z_J0_checkIndex_df160 rfl (Nat.le_of_ble_eq_true rfl) rfl dJ1_charAt_3b067_3) (tJ0_checkIndex_df160 G fu v1 x1 h) (by decide) (by decide) (fun h2 => ?_)
  refine ev_step (st_aload_n (pc := 6) (j := 0) dJ1_charAt_3b067_6 rfl rfl) ?_
  refine ev_step (st_iload_n (pc := 7) (j := 1) dJ1_charAt_3b067_7 rfl rfl) ?_
  refine ev_ldS (pc := 8) dJ1_charAt_3b067_8 (fun x3 => ?_)
  refine ev_step (st_sipush (pc := 9) dJ1_charAt_3b067_9 ns_255) ?_
  refine ev_step (st_iand (pc := 12) dJ1_charAt_3b067_12) ?_
  refine ev_step (st_i2c (pc := 13) dJ1_charAt_3b067_13) ?_
  exact ev_nret (pc := 14) rfl dJ1_charAt_3b067_14
set_option maxRecDepth 100000 in
set_option maxHeartbeats 4000000 in
theorem tJ0_charAt_5068e (G : gx) (fu : Nat) (v0 : Nat) (v1 : Int32) (h : mh) : Ct lI G yJ0_charAt_5068e cJ0_charAt_5068e 2 (some .char) 4 [.ref (gK G v0), .int v1] h (fJ0_charAt_5068e fu v0 v1 h) := by
  refine ct_ls (ls := [(0, .ref (gK G v0)), (1, .int v1)]) rfl (by decide) (Nat.le_of_ble_eq_true rfl) ?_
  unfold fJ0_charAt_5068e
  refine ev_step (st_aload_n (pc := 0) (j := 0) dJ0_charAt_5068e_0 rfl rfl) ?_
  refine ev_cks (fun hj => ?_)
  refine ev_callI (iv_VS (As := []) (st := []) (pc := 1) m_J0_isLatin1_aae02 l_J0_492 i_J0_isLatin1_aae02 e_J0_isLatin1_aae02 hj rfl (Nat.le_of_ble_eq_true rfl) rfl dJ0_charAt_5068e_1) (tJ0_isLatin1_aae02 G fu v0 h) (by decide) (by decide) (fun x2 h1 => ?_)
  refine ev_br (br_if_eq (tgt := 16) (pc := 4) dJ0_charAt_5068e_4 (by decide)) (fun _ => ?_) (fun _ => ?_)
  · exact ev_none
  · refine ev_step (st_aload_n (pc := 7) (j := 0) dJ0_charAt_5068e_7 rfl rfl) ?_
    refine ev_cks (fun hj => ?_)
    refine ev_step (st_sval (pc := 8) hj g_J0_9 dJ0_charAt_5068e_8) ?_
    refine ev_step (st_iload_n (pc := 11) (j := 1) dJ0_charAt_5068e_11 rfl rfl) ?_
    refine ev_callI (iv_S (As := [.ref (gV G v0), .int v1]) (st := []) (pc := 12) m_J1_charAt_3b067 l_J0_495 z_J1_charAt_3b067 rfl (Nat.le_of_ble_eq_true rfl) rfl dJ0_charAt_5068e_12) (tJ1_charAt_3b067 G fu v0 v1 h1) (by decide) (by decide) (fun x4 h3 => ?_)
    exact ev_nret (pc := 15) rfl dJ0_charAt_5068e_15
set_option maxRecDepth 100000 in
set_option maxHeartbeats 4000000 in
theorem tX4_reaches_24 (G : gx) (fu : Nat) (dd : Nat) (hdd : 5 ≤ dd) (rc : Nat × Int32 × Nat × Nat × Int32 × Int32 × mh → Option (Int32 × mh)) (hrc : ∀ (v0 : Nat) (v1 : Int32) (v2 : Nat) (v3 : Nat) (v4 : Int32) (v5 : Int32) (h : mh), Ct lI G yX4_reaches cX4_reaches 9 (some .boolean) dd [.ref (gB G + v0), .int v1, .ref (gB G + v2), .ref (gB G + v3), .int v4, .int v5] h (rc (v0, v1, v2, v3, v4, v5, h))) (h0 : mh) (v0 : Nat) (v1 : Int32) (v2 : Nat) (v3 : Nat) (v4 : Int32) (v5 : Int32) (v6 : Int32) (h : mh) : Ev lI G yX4_reaches cX4_reaches 9 (some .boolean) (dd + 1) h0 24 [(0, .ref (gB G + v0)), (1, .int v1), (2, .ref (gB G + v2)), (3, .ref (gB G + v3)), (4, .int v4), (5, .int v5), (6, .int v6)] [] h (fX4_reaches_24 fu rc v0 v1 v2 v3 v4 v5 v6 h) := by
  unfold fX4_reaches_24
  refine ev_step (st_iload (pc := 24) (j := 6) dX4_reaches_24 rfl) ?_
  refine ev_br (br_if_ne (tgt := 33) (pc := 26) dX4_reaches_26 (by decide)) (fun _ => ?_) (fun _ => ?_)
  · refine ev_step (st_iconst (pc := 29) dX4_reaches_29 ni_1) ?_
    refine ev_step (st_goto (pc := 30) (tgt := 34) dX4_reaches_30 (by decide)) ?_
    exact ev_zret (pc := 34) dX4_reaches_34
  · refine ev_step (st_iconst (pc := 33) dX4_reaches_33 ni_0) ?_
    exact ev_zret (pc := 34) dX4_reaches_34
set_option maxRecDepth 100000 in
set_option maxHeartbeats 4000000 in
theorem tX4_reaches_146 (G : gx) (fu : Nat) (dd : Nat) (hdd : 5 ≤ dd) (rc : Nat × Int32 × Nat × Nat × Int32 × Int32 × mh → Option (Int32 × mh)) (hrc : ∀ (v0 : Nat) (v1 : Int32) (v2 : Nat) (v3 : Nat) (v4 : Int32) (v5 : Int32) (h : mh), Ct lI G yX4_reaches cX4_reaches 9 (some .boolean) dd [.ref (gB G + v0), .int v1, .ref (gB G + v2), .ref (gB G + v3), .int v4, .int v5] h (rc (v0, v1, v2, v3, v4, v5, h))) (h0 : mh) (v0 : Nat) (v1 : Int32) (v2 : Nat) (v3 : Nat) (v4 : Int32) (v5 : Int32) (v6 : Int32) (v7 : Int32) (v8 : Int32) (k54 : Int32 × mh → Option (Int32 × mh)) (hk54 : ∀ (v8 : Int32) (h : mh), Ev lI G yX4_reaches cX4_reaches 9 (some .boolean) (dd + 1) h0 54 [(0, .ref (gB G + v0)), (1, .int v1), (2, .ref (gB G + v2)), (3, .ref (gB G + v3)), (4, .int v4), (5, .int v5), (6, .int v6), (7, .int v7), (8, .int v8)] [] h (k54 (v8, h))) (h : mh) : Ev lI G yX4_reaches cX4_reaches 9 (some .boolean) (dd + 1) h0 146 [(0, .ref (gB G + v0)), (1, .int v1), (2, .ref (gB G + v2)), (3, .ref (gB G + v3)), (4, .int v4), (5, .int v5), (6, .int v6), (7, .int v7), (8, .int v8)] [] h (fX4_reaches_146 fu rc k54 v0 v1 v2 v3 v4 v5 v6 v7 v8 h) := by
  unfold fX4_reaches_146
  refine ev_step (st_inc (pc := 146) (j := 8) (ls' := [(8, .int (v8 + (1 : Int32))), (0, .ref (gB G + v0)), (1, .int v1), (2, .ref (gB G + v2)), (3, .ref (gB G + v3)), (4, .int v4), (5, .int v5), (6, .int v6), (7, .int v7)]) dX4_reaches_146 rfl ni_1 (by decide) rfl) ?_
  refine ev_step (st_goto (pc := 149) (tgt := 54) dX4_reaches_149 (by decide)) ?_
  refine ev_sub (ls' := [(0, .ref (gB G + v0)), (1, .int v1), (2, .ref (gB G + v2)), (3, .ref (gB G + v3)), (4, .int v4), (5, .int v5), (6, .int v6), (7, .int v7), (8, .int (v8 + (1 : Int32)))]) [1, 2, 3, 4, 5, 6, 7, 8, 0] rfl ?_
  exact hk54 (v8 + (1 : Int32)) h
set_option maxRecDepth 100000 in
set_option maxHeartbeats 4000000 in
theorem tX4_reaches_96 (G : gx) (fu : Nat) (dd : Nat) (hdd : 5 ≤ dd) (rc : Nat × Int32 × Nat × Nat × Int32 × Int32 × mh → Option (Int32 × mh)) (hrc : ∀ (v0 : Nat) (v1 : Int32) (v2 : Nat) (v3 : Nat) (v4 : Int32) (v5 : Int32) (h : mh), Ct lI G yX4_reaches cX4_reaches 9 (some .boolean) dd [.ref (gB G + v0), .int v1, .ref (gB G + v2), .ref (gB G + v3), .int v4, .int v5] h (rc (v0, v1, v2, v3, v4, v5, h))) (h0 : mh) (v0 : Nat) (v1 : Int32) (v2 : Nat) (v3 : Nat) (v4 : Int32) (v5 : Int32) (v6 : Int32) (v7 : Int32) (v8 : Int32) (k54 : Int32 × mh → Option (Int32 × mh)) (hk54 : ∀ (v8 : Int32) (h : mh), Ev lI G yX4_reaches cX4_reaches 9 (some .boolean) (dd + 1) h0 54 [(0, .ref (gB G + v0)), (1, .int v1), (2, .ref (gB G + v2)), (3, .ref (gB G + v3)), (4, .int v4), (5, .int v5), (6, .int v6), (7, .int v7), (8, .int v8)] [] h (k54 (v8, h))) (h : mh) : Ev lI G yX4_reaches cX4_reaches 9 (some .boolean) (dd + 1) h0 96 [(0, .ref (gB G + v0)), (1, .int v1), (2, .ref (gB G + v2)), (3, .ref (gB G + v3)), (4, .int v4), (5, .int v5), (6, .int v6), (7, .int v7), (8, .int v8)] [] h (fX4_reaches_96 fu rc k54 v0 v1 v2 v3 v4 v5 v6 v7 v8 h) := by
  unfold fX4_reaches_96
  refine ev_step (st_aload_n (pc := 96) (j := 3) dX4_reaches_96 rfl rfl) ?_
  refine ev_step (st_iload (pc := 97) (j := 4) dX4_reaches_97 rfl) ?_
  refine ev_step (st_iload (pc := 99) (j := 8) dX4_reaches_99 rfl) ?_
  refine ev_sti (pc := 101) dX4_reaches_101 (fun h1 => ?_)
  refine ev_step (st_aload_n (pc := 102) (j := 2) dX4_reaches_102 rfl rfl) ?_
  refine ev_step (st_iload (pc := 103) (j := 4) dX4_reaches_103 rfl) ?_
  refine ev_step (st_iconst (pc := 105) dX4_reaches_105 ni_1) ?_
  refine ev_step (st_iadd (pc := 106) dX4_reaches_106) ?_
  refine ev_ldq (pc := 107) dX4_reaches_107 (fun a2 => ?_)
  refine ev_step (st_aload_n (pc := 108) (j := 2) dX4_reaches_108 rfl rfl) ?_
  refine ev_step (st_iload (pc := 109) (j := 4) dX4_reaches_109 rfl) ?_
  refine ev_ldq (pc := 111) dX4_reaches_111 (fun a3 => ?_)
  refine ev_ck (fun ha hS => ?_)
  refine ev_callV (iv_V (As := [.ref (gB G + a3)]) (st := []) (pc := 112) rfl m_X3_become l_X4_32 i_X3_become e_X3_become ha hS rfl (Nat.le_of_ble_eq_true rfl) rfl dX4_reaches_112) (tX3_become G fu a2 a3 h1) (by omega) (by decide) (fun h4 => ?_)
  refine ev_step (st_aload_n (pc := 115) (j := 0) dX4_reaches_115 rfl rfl) ?_
  refine ev_step (st_aload_n (pc := 116) (j := 2) dX4_reaches_116 rfl rfl) ?_
  refine ev_step (st_iload (pc := 117) (j := 4) dX4_reaches_117 rfl) ?_
  refine ev_step (st_iconst (pc := 119) dX4_reaches_119 ni_1) ?_
  refine ev_step (st_iadd (pc := 120) dX4_reaches_120) ?_
  refine ev_ldq (pc := 121) dX4_reaches_121 (fun a5 => ?_)
  refine ev_step (st_iload (pc := 122) (j := 8) dX4_reaches_122 rfl) ?_
  refine ev_step (st_iconst (pc := 124) dX4_reaches_124 ni_0) ?_
  refine ev_ck (fun ha hS => ?_)
  refine ev_callV (iv_V (As := [.ref (gB G + a5), .int v8, .int ((0 : Int32))]) (st := []) (pc := 125) rfl m_X6_passEvening l_X4_52 i_X6_passEvening e_X6_passEvening ha hS rfl (Nat.le_of_ble_eq_true rfl) rfl dX4_reaches_125) (tX6_passEvening G fu v0 a5 v8 ((0 : Int32)) h4) (by omega) (by decide) (fun h6 => ?_)
  refine ev_step (st_aload_n (pc := 128) (j := 0) dX4_reaches_128 rfl rfl) ?_
  refine ev_step (st_iload_n (pc := 129) (j := 1) dX4_reaches_129 rfl rfl) ?_
  refine ev_step (st_aload_n (pc := 130) (j := 2) dX4_reaches_130 rfl rfl) ?_
  refine ev_step (st_aload_n (pc := 131) (j := 3) dX4_reaches_131 rfl rfl) ?_
  refine ev_step (st_iload (pc := 132) (j := 4) dX4_reaches_132 rfl) ?_
  refine ev_step (st_iconst (pc := 134) dX4_reaches_134 ni_1) ?_
  refine ev_step (st_iadd (pc := 135) dX4_reaches_135) ?_
  refine ev_step (st_iload (pc := 136) (j := 5) dX4_reaches_136 rfl) ?_
  refine ev_callI (iv_S (As := [.ref (gB G + v0), .int v1, .ref (gB G + v2), .ref (gB G + v3), .int (v4 + ((1 : Int32))), .int v5]) (st := []) (pc := 138) m_X4_reaches l_X4_36 z_X4_reaches rfl (Nat.le_of_ble_eq_true rfl) rfl dX4_reaches_138) (hrc v0 v1 v2 v3 (v4 + ((1 : Int32))) v5 h6) (by omega) (by decide) (fun x8 h7 => ?_)
  refine ev_br (br_if_eq (tgt := 146) (pc := 141) dX4_reaches_141 (by decide)) (fun _ => ?_) (fun _ => ?_)
  · refine ev_sub (ls' := [(0, .ref (gB G + v0)), (1, .int v1), (2, .ref (gB G + v2)), (3, .ref (gB G + v3)), (4, .int v4), (5, .int v5), (6, .int v6), (7, .int v7), (8, .int v8)]) [0, 1, 2, 3, 4, 5, 6, 7, 8] rfl ?_
    exact tX4_reaches_146 G fu dd hdd rc hrc h0 v0 v1 v2 v3 v4 v5 v6 v7 v8 k54 hk54 h7
  · refine ev_step (st_iconst (pc := 144) dX4_reaches_144 ni_1) ?_
    exact ev_zret (pc := 145) dX4_reaches_145
set_option maxRecDepth 100000 in
set_option maxHeartbeats 4000000 in
theorem tX4_reaches_54 (G : gx) (fu : Nat) (dd : Nat) (hdd : 5 ≤ dd) (rc : Nat × Int32 × Nat × Nat × Int32 × Int32 × mh → Option (Int32 × mh)) (hrc : ∀ (v0 : Nat) (v1 : Int32) (v2 : Nat) (v3 : Nat) (v4 : Int32) (v5 : Int32) (h : mh), Ct lI G yX4_reaches cX4_reaches 9 (some .boolean) dd [.ref (gB G + v0), .int v1, .ref (gB G + v2), .ref (gB G + v3), .int v4, .int v5] h (rc (v0, v1, v2, v3, v4, v5, h))) (h0 : mh) (v0 : Nat) (v1 : Int32) (v2 : Nat) (v3 : Nat) (v4 : Int32) (v5 : Int32) (v6 : Int32) (v7 : Int32) (n : Nat) (v8 : Int32) (h : mh) : Ev lI G yX4_reaches cX4_reaches 9 (some .boolean) (dd + 1) h0 54 [(0, .ref (gB G + v0)), (1, .int v1), (2, .ref (gB G + v2)), (3, .ref (gB G + v3)), (4, .int v4), (5, .int v5), (6, .int v6), (7, .int v7), (8, .int v8)] [] h (itr (bX4_reaches_54 fu rc v0 v1 v2 v3 v4 v5 v6 v7) n (v8, h)) := by
  refine ev_itr (P := fun (q : Int32 × mh) (R9 : Option (Int32 × mh)) => Ev lI G yX4_reaches cX4_reaches 9 (some .boolean) (dd + 1) h0 54 [(0, .ref (gB G + v0)), (1, .int v1), (2, .ref (gB G + v2)), (3, .ref (gB G + v3)), (4, .int v4), (5, .int v5), (6, .int v6), (7, .int v7), (8, .int q.1)] [] q.2 R9) (fun _ => ev_none) (fun k54 hk9 q => ?_) n (v8, h)
  obtain ⟨v8, h⟩ := q
  have hk54 : ∀ (v8 : Int32) (h : mh), Ev lI G yX4_reaches cX4_reaches 9 (some .boolean) (dd + 1) h0 54 [(0, .ref (gB G + v0)), (1, .int v1), (2, .ref (gB G + v2)), (3, .ref (gB G + v3)), (4, .int v4), (5, .int v5), (6, .int v6), (7, .int v7), (8, .int v8)] [] h (k54 (v8, h)) := fun v8 h => hk9 (v8, h)
  show Ev lI G yX4_reaches cX4_reaches 9 (some .boolean) (dd + 1) h0 54 [(0, .ref (gB G + v0)), (1, .int v1), (2, .ref (gB G + v2)), (3, .ref (gB G + v3)), (4, .int v4), (5, .int v5), (6, .int v6), (7, .int v7), (8, .int v8)] [] h (bX4_reaches_54 fu rc v0 v1 v2 v3 v4 v5 v6 v7 k54 (v8, h))
  unfold bX4_reaches_54
  refine ev_step (st_iload (pc := 54) (j := 8) dX4_reaches_54 rfl) ?_
  refine ev_step (st_aload_n (pc := 56) (j := 0) dX4_reaches_56 rfl rfl) ?_
  refine ev_getI (pc := 57) k_X4_44 rfl dX4_reaches_57 (fun x1 => ?_)
  refine ev_br (br_icmp_ge (tgt := 152) (pc := 60) dX4_reaches_60 (by decide)) (fun _ => ?_) (fun _ => ?_)
  · refine ev_step (st_iconst (pc := 152) dX4_reaches_152 ni_0) ?_
    exact ev_zret (pc := 153) dX4_reaches_153
  · refine ev_step (st_aload_n (pc := 63) (j := 2) dX4_reaches_63 rfl rfl) ?_
    refine ev_step (st_iload (pc := 64) (j := 4) dX4_reaches_64 rfl) ?_
    refine ev_ldq (pc := 66) dX4_reaches_66 (fun a2 => ?_)
    refine ev_getR (pc := 67) k_X4_46 rfl dX4_reaches_67 (fun a3 => ?_)
    refine ev_step (st_iload (pc := 70) (j := 8) dX4_reaches_70 rfl) ?_
    refine ev_ldi (pc := 72) dX4_reaches_72 (fun x4 => ?_)
    refine ev_br (br_if_ne (tgt := 146) (pc := 73) dX4_reaches_73 (by decide)) (fun _ => ?_) (fun _ => ?_)
    · refine ev_step (st_iload (pc := 76) (j := 7) dX4_reaches_76 rfl) ?_
      refine ev_br (br_if_eq (tgt := 96) (pc := 78) dX4_reaches_78 (by decide)) (fun _ => ?_) (fun _ => ?_)
      · refine ev_sub (ls' := [(0, .ref (gB G + v0)), (1, .int v1), (2, .ref (gB G + v2)), (3, .ref (gB G + v3)), (4, .int v4), (5, .int v5), (6, .int v6), (7, .int v7), (8, .int v8)]) [0, 1, 2, 3, 4, 5, 6, 7, 8] rfl ?_
        exact tX4_reaches_96 G fu dd hdd rc hrc h0 v0 v1 v2 v3 v4 v5 v6 v7 v8 k54 hk54 h
      · refine ev_step (st_iload (pc := 81) (j := 6) dX4_reaches_81 rfl) ?_
        refine ev_step (st_aload_n (pc := 83) (j := 0) dX4_reaches_83 rfl rfl) ?_
        refine ev_getR (pc := 84) k_X4_49 rfl dX4_reaches_84 (fun a5 => ?_)
        refine ev_step (st_iload (pc := 87) (j := 8) dX4_reaches_87 rfl) ?_
        refine ev_ldi (pc := 89) dX4_reaches_89 (fun x6 => ?_)
        refine ev_step (st_iconst (pc := 90) dX4_reaches_90 ni_m1) ?_
        refine ev_step (st_ixor (pc := 91) dX4_reaches_91) ?_
        refine ev_step (st_iand (pc := 92) dX4_reaches_92) ?_
        refine ev_br (br_if_ne (tgt := 146) (pc := 93) dX4_reaches_93 (by decide)) (fun _ => ?_) (fun _ => ?_)
        · refine ev_sub (ls' := [(0, .ref (gB G + v0)), (1, .int v1), (2, .ref (gB G + v2)), (3, .ref (gB G + v3)), (4, .int v4), (5, .int v5), (6, .int v6), (7, .int v7), (8, .int v8)]) [0, 1, 2, 3, 4, 5, 6, 7, 8] rfl ?_
          exact tX4_reaches_96 G fu dd hdd rc hrc h0 v0 v1 v2 v3 v4 v5 v6 v7 v8 k54 hk54 h
        · refine ev_sub (ls' := [(0, .ref (gB G + v0)), (1, .int v1), (2, .ref (gB G + v2)), (3, .ref (gB G + v3)), (4, .int v4), (5, .int v5), (6, .int v6), (7, .int v7), (8, .int v8)]) [0, 1, 2, 3, 4, 5, 6, 7, 8] rfl ?_
          exact tX4_reaches_146 G fu dd hdd rc hrc h0 v0 v1 v2 v3 v4 v5 v6 v7 v8 k54 hk54 h
    · refine ev_sub (ls' := [(0, .ref (gB G + v0)), (1, .int v1), (2, .ref (gB G + v2)), (3, .ref (gB G + v3)), (4, .int v4), (5, .int v5), (6, .int v6), (7, .int v7), (8, .int v8)]) [0, 1, 2, 3, 4, 5, 6, 7, 8] rfl ?_
      exact tX4_reaches_146 G fu dd hdd rc hrc h0 v0 v1 v2 v3 v4 v5 v6 v7 v8 k54 hk54 h
set_option maxRecDepth 100000 in
set_option maxHeartbeats 4000000 in
theorem tX4_reaches_49 (G : gx) (fu : Nat) (dd : Nat) (hdd : 5 ≤ dd) (rc : Nat × Int32 × Nat × Nat × Int32 × Int32 × mh → Option (Int32 × mh)) (hrc : ∀ (v0 : Nat) (v1 : Int32) (v2 : Nat) (v3 : Nat) (v4 : Int32) (v5 : Int32) (h : mh), Ct lI G yX4_reaches cX4_reaches 9 (some .boolean) dd [.ref (gB G + v0), .int v1, .ref (gB G + v2), .ref (gB G + v3), .int v4, .int v5] h (rc (v0, v1, v2, v3, v4, v5, h))) (h0 : mh) (v0 : Nat) (v1 : Int32) (v2 : Nat) (v3 : Nat) (v4 : Int32) (v5 : Int32) (v6 : Int32) (s0 : Int32) (h : mh) : Ev lI G yX4_reaches cX4_reaches 9 (some .boolean) (dd + 1) h0 49 [(0, .ref (gB G + v0)), (1, .int v1), (2, .ref (gB G + v2)), (3, .ref (gB G + v3)), (4, .int v4), (5, .int v5), (6, .int v6)] [.int s0] h (fX4_reaches_49 fu rc v0 v1 v2 v3 v4 v5 v6 s0 h) := by
  unfold fX4_reaches_49
  refine ev_step (st_istore (pc := 49) (ls' := [(7, .int s0), (0, .ref (gB G + v0)), (1, .int v1), (2, .ref (gB G + v2)), (3, .ref (gB G + v3)), (4, .int v4), (5, .int v5), (6, .int v6)]) dX4_reaches_49 (by decide) rfl) ?_
  refine ev_step (st_iconst (pc := 51) dX4_reaches_51 ni_0) ?_
  refine ev_step (st_istore (pc := 52) (ls' := [(8, .int ((0 : Int32))), (7, .int s0), (0, .ref (gB G + v0)), (1, .int v1), (2, .ref (gB G + v2)), (3, .ref (gB G + v3)), (4, .int v4), (5, .int v5), (6, .int v6)]) dX4_reaches_52 (by decide) rfl) ?_
  refine ev_sub (ls' := [(0, .ref (gB G + v0)), (1, .int v1), (2, .ref (gB G + v2)), (3, .ref (gB G + v3)), (4, .int v4), (5, .int v5), (6, .int v6), (7, .int s0), (8, .int ((0 : Int32)))]) [2, 3, 4, 5, 6, 7, 8, 1, 0] rfl ?_
  exact tX4_reaches_54 G fu dd hdd rc hrc h0 v0 v1 v2 v3 v4 v5 v6 s0 fu ((0 : Int32)) h
set_option maxRecDepth 100000 in
set_option maxHeartbeats 4000000 in
theorem tX4_reaches_b (G : gx) (fu : Nat) (dd : Nat) (hdd : 5 ≤ dd) (rc : Nat × Int32 × Nat × Nat × Int32 × Int32 × mh → Option (Int32 × mh)) (hrc : ∀ (v0 : Nat) (v1 : Int32) (v2 : Nat) (v3 : Nat) (v4 : Int32) (v5 : Int32) (h : mh), Ct lI G yX4_reaches cX4_reaches 9 (some .boolean) dd [.ref (gB G + v0), .int v1, .ref (gB G + v2), .ref (gB G + v3), .int v4, .int v5] h (rc (v0, v1, v2, v3, v4, v5, h))) (v0 : Nat) (v1 : Int32) (v2 : Nat) (v3 : Nat) (v4 : Int32) (v5 : Int32) (h : mh) : Ct lI G yX4_reaches cX4_reaches 9 (some .boolean) (dd + 1) [.ref (gB G + v0), .int v1, .ref (gB G + v2), .ref (gB G + v3), .int v4, .int v5] h (bX4_reaches fu rc (v0, v1, v2, v3, v4, v5, h)) := by
  refine ct_ls (ls := [(0, .ref (gB G + v0)), (1, .int v1), (2, .ref (gB G + v2)), (3, .ref (gB G + v3)), (4, .int v4), (5, .int v5)]) rfl (by decide) (Nat.le_of_ble_eq_true rfl) ?_
  unfold bX4_reaches
  refine ev_step (st_aload_n (pc := 0) (j := 0) dX4_reaches_0 rfl rfl) ?_
  refine ev_step (st_aload_n (pc := 1) (j := 2) dX4_reaches_1 rfl rfl) ?_
  refine ev_step (st_iload (pc := 2) (j := 4) dX4_reaches_2 rfl) ?_
  refine ev_ldq (pc := 4) dX4_reaches_4 (fun a1 => ?_)
  refine ev_step (st_iload_n (pc := 5) (j := 1) dX4_reaches_5 rfl rfl) ?_
  refine ev_ck (fun ha hS => ?_)
  refine ev_callI (iv_V (As := [.ref (gB G + a1), .int v1]) (st := []) (pc := 6) rfl m_X6_lackedByAny l_X4_40 i_X6_lackedByAny e_X6_lackedByAny ha hS rfl (Nat.le_of_ble_eq_true rfl) rfl dX4_reaches_6) (tX6_lackedByAny G fu v0 a1 v1 h) (by omega) (by decide) (fun x3 h2 => ?_)
  refine ev_step (st_istore (pc := 9) (ls' := [(6, .int x3), (0, .ref (gB G + v0)), (1, .int v1), (2, .ref (gB G + v2)), (3, .ref (gB G + v3)), (4, .int v4), (5, .int v5)]) dX4_reaches_9 (by decide) rfl) ?_
  refine ev_step (st_iload (pc := 11) (j := 5) dX4_reaches_11 rfl) ?_
  refine ev_step (st_iload (pc := 13) (j := 6) dX4_reaches_13 rfl) ?_
  refine ev_br (br_icmp_ge (tgt := 24) (pc := 15) dX4_reaches_15 (by decide)) (fun _ => ?_) (fun _ => ?_)
  · refine ev_sub (ls' := [(0, .ref (gB G + v0)), (1, .int v1), (2, .ref (gB G + v2)), (3, .ref (gB G + v3)), (4, .int v4), (5, .int v5), (6, .int x3)]) [1, 2, 3, 4, 5, 6, 0] rfl ?_
    exact tX4_reaches_24 G fu dd hdd rc hrc h v0 v1 v2 v3 v4 v5 x3 h2
  · refine ev_step (st_iload (pc := 18) (j := 5) dX4_reaches_18 rfl) ?_
    refine ev_step (st_iconst (pc := 20) dX4_reaches_20 ni_4) ?_
    refine ev_br (br_icmp_lt (tgt := 35) (pc := 21) dX4_reaches_21 (by decide)) (fun _ => ?_) (fun _ => ?_)
    · refine ev_step (st_iload (pc := 35) (j := 5) dX4_reaches_35 rfl) ?_
      refine ev_step (st_iconst (pc := 37) dX4_reaches_37 ni_1) ?_
      refine ev_step (st_iadd (pc := 38) dX4_reaches_38) ?_
      refine ev_step (st_iload (pc := 39) (j := 6) dX4_reaches_39 rfl) ?_
      refine ev_br (br_icmp_ne (tgt := 48) (pc := 41) dX4_reaches_41 (by decide)) (fun _ => ?_) (fun _ => ?_)
      · refine ev_step (st_iconst (pc := 44) dX4_reaches_44 ni_1) ?_
        refine ev_step (st_goto (pc := 45) (tgt := 49) dX4_reaches_45 (by decide)) ?_
        refine ev_sub (ls' := [(0, .ref (gB G + v0)), (1, .int v1), (2, .ref (gB G + v2)), (3, .ref (gB G + v3)), (4, .int v4), (5, .int v5), (6, .int x3)]) [1, 2, 3, 4, 5, 6, 0] rfl ?_
        exact tX4_reaches_49 G fu dd hdd rc hrc h v0 v1 v2 v3 v4 v5 x3 ((1 : Int32)) h2
      · refine ev_step (st_iconst (pc := 48) dX4_reaches_48 ni_0) ?_
        refine ev_sub (ls' := [(0, .ref (gB G + v0)), (1, .int v1), (2, .ref (gB G + v2)), (3, .ref (gB G + v3)), (4, .int v4), (5, .int v5), (6, .int x3)]) [1, 2, 3, 4, 5, 6, 0] rfl ?_
        exact tX4_reaches_49 G fu dd hdd rc hrc h v0 v1 v2 v3 v4 v5 x3 ((0 : Int32)) h2
    · refine ev_sub (ls' := [(0, .ref (gB G + v0)), (1, .int v1), (2, .ref (gB G + v2)), (3, .ref (gB G + v3)), (4, .int v4), (5, .int v5), (6, .int x3)]) [1, 2, 3, 4, 5, 6, 0] rfl ?_
      exact tX4_reaches_24 G fu dd hdd rc hrc h v0 v1 v2 v3 v4 v5 x3 h2
theorem tX4_reaches_n (G : gx) (fu : Nat) (n : Nat) (v0 : Nat) (v1 : Int32) (v2 : Nat) (v3 : Nat) (v4 : Int32) (v5 : Int32) (h : mh) : Ct lI G yX4_reaches cX4_reaches 9 (some .boolean) (5 + n) [.ref (gB G + v0), .int v1, .ref (gB G + v2), .ref (gB G + v3), .int v4, .int v5] h (itr (bX4_reaches fu) n (v0, v1, v2, v3, v4, v5, h)) := by
  induction n generalizing v0 v1 v2 v3 v4 v5 h with
  | zero => exact fun _ _ hq => by cases hq
  | succ n ih => exact tX4_reaches_b G fu (5 + n) (by omega) (itr (bX4_reaches fu) n) (fun v0 v1 v2 v3 v4 v5 h => ih v0 v1 v2 v3 v4 v5 h) v0 v1 v2 v3 v4 v5 h
theorem tX4_reaches (G : gx) (fu : Nat) (v0 : Nat) (v1 : Int32) (v2 : Nat) (v3 : Nat) (v4 : Int32) (v5 : Int32) (h : mh) : Ct lI G yX4_reaches cX4_reaches 9 (some .boolean) (5 + 6) [.ref (gB G + v0), .int v1, .ref (gB G + v2), .ref (gB G + v3), .int v4, .int v5] h (fX4_reaches fu v0 v1 v2 v3 v4 v5 h) := tX4_reaches_n G fu 6 v0 v1 v2 v3 v4 v5 h
set_option maxRecDepth 100000 in
set_option maxHeartbeats 4000000 in
theorem tX5_formOf (G : gx) (fu : Nat) (v0 : Int32) (h : mh) : Ct (lS G) G yX5_formOf cX5_formOf 1 (some (.object "java/lang/String")) 1 [.int v0] h (fX5_formOf fu v0 h) := by
  refine ct_ls (ls := [(0, .int v0)]) rfl (by decide) (Nat.le_of_ble_eq_true rfl) ?_
  unfold fX5_formOf
  refine ev_step (st_iload_n (pc := 0) (j := 0) dX5_formOf_0 rfl rfl) ?_
  refine ev_case (n := 0) (c := (0 : Int32)) (off := 27) (tgt := 28) (pc := 1) (swn_0 _ _) dX5_formOf_1 (by decide) (by decide) (by decide) (by decide) (by decide) (fun _ => ?_) (fun q1 => ?_)
  · refine ev_step (st_ldcs (pc := 28) (j := 2) dX5_formOf_28 (List.mem_of_getElem? (i := 2) rfl)) ?_
    exact ev_sret (pc := 30) (Or.inl ⟨_, rfl⟩) dX5_formOf_30
  refine ev_case (n := 1) (c := (1 : Int32)) (off := 30) (tgt := 31) (pc := 1) q1 dX5_formOf_1 (by decide) (by decide) (by decide) (by decide) (by decide) (fun _ => ?_) (fun q2 => ?_)
  · refine ev_step (st_ldcs (pc := 31) (j := 3) dX5_formOf_31 (List.mem_of_getElem? (i := 3) rfl)) ?_
    exact ev_sret (pc := 33) (Or.inl ⟨_, rfl⟩) dX5_formOf_33
  refine ev_case (n := 2) (c := (2 : Int32)) (off := 33) (tgt := 34) (pc := 1) q2 dX5_formOf_1 (by decide) (by decide) (by decide) (by decide) (by decide) (fun _ => ?_) (fun q3 => ?_)
  · refine ev_step (st_ldcs (pc := 34) (j := 4) dX5_formOf_34 (List.mem_of_getElem? (i := 4) rfl)) ?_
    exact ev_sret (pc := 36) (Or.inl ⟨_, rfl⟩) dX5_formOf_36
  refine ev_dflt (n := 3) (tgt := 37) (pc := 1) q3 dX5_formOf_1 (by decide) (by decide) ?_
  refine ev_step (st_ldcs (pc := 37) (j := 5) dX5_formOf_37 (List.mem_of_getElem? (i := 5) rfl)) ?_
  exact ev_sret (pc := 39) (Or.inl ⟨_, rfl⟩) dX5_formOf_39
set_option maxRecDepth 100000 in
set_option maxHeartbeats 4000000 in
theorem tX5_takeInForm_113 (G : gx) (fu : Nat) (h0 : mh) (v0 : Nat) (v1 : Nat) (v2 : Nat) (v3 : Int32) (v4 : Int32) (h : mh) : Ev lI G yX5_takeInForm cX5_takeInForm 5 (some .int) 5 h0 113 [(0, .ref (gB G + v0)), (1, .ref (gB G + v1)), (2, .ref (gK G v2)), (3, .int v3), (4, .int v4)] [] h (fX5_takeInForm_113 fu v0 v1 v2 v3 v4 h) := by
  unfold fX5_takeInForm_113
  refine ev_step (st_aload_n (pc := 113) (j := 0) dX5_takeInForm_113 rfl rfl) ?_
  refine ev_step (st_dup (pc := 114) dX5_takeInForm_114 rfl) ?_
  refine ev_getI (pc := 115) k_X5_29 rfl dX5_takeInForm_115 (fun x1 => ?_)
  refine ev_step (st_iconst (pc := 118) dX5_takeInForm_118 ni_1) ?_
  refine ev_step (st_iadd (pc := 119) dX5_takeInForm_119) ?_
  refine ev_putI (pc := 120) (p_X5_29 _ rfl) rfl dX5_takeInForm_120 (fun h2 => ?_)
  refine ev_step (st_iconst (pc := 123) dX5_takeInForm_123 ni_0) ?_
  exact ev_iret (pc := 124) dX5_takeInForm_124
set_option maxRecDepth 100000 in
set_option maxHeartbeats 4000000 in
theorem tX5_takeInForm_57 (G : gx) (fu : Nat) (h0 : mh) (v0 : Nat) (v1 : Nat) (v2 : Nat) (v3 : Int32) (s0 : Int32) (h : mh) : Ev lI G yX5_takeInForm cX5_takeInForm 5 (some .int) 5 h0 57 [(0, .ref (gB G + v0)), (1, .ref (gB G + v1)), (2, .ref (gK G v2)), (3, .int v3)] [.int s0] h (fX5_takeInForm_57 fu v0 v1 v2 v3 s0 h) := by
  unfold fX5_takeInForm_57
  refine ev_step (st_istore (pc := 57) (ls' := [(4, .int s0), (0, .ref (gB G + v0)), (1, .ref (gB G + v1)), (2, .ref (gK G v2)), (3, .int v3)]) dX5_takeInForm_57 (by decide) rfl) ?_
  refine ev_step (st_aload_n (pc := 59) (j := 1) dX5_takeInForm_59 rfl rfl) ?_
  refine ev_getR (pc := 60) k_X5_12 rfl dX5_takeInForm_60 (fun a1 => ?_)
  refine ev_getI (pc := 63) k_X5_84 rfl dX5_takeInForm_63 (fun x2 => ?_)
  refine ev_step (st_iload (pc := 66) (j := 0) dX5_takeInForm_66 rfl) ?_
  refine ev_br (br_icmp_eq (tgt := 73) (pc := 68) dX5_takeInForm_68 (by decide)) (fun _ => ?_) (fun _ => ?_)
  · refine ev_step (st_iload_n (pc := 73) (j := 4) dX5_takeInForm_73 rfl rfl) ?_
    refine ev_step (st_bipush (pc := 74) dX5_takeInForm_74 nb_110) ?_
    refine ev_br (br_icmp_ne (tgt := 87) (pc := 76) dX5_takeInForm_76 (by decide)) (fun _ => ?_) (fun _ => ?_)
    · refine ev_step (st_aload_n (pc := 79) (j := 1) dX5_takeInForm_79 rfl rfl) ?_
      refine ev_step (st_aload_n (pc := 80) (j := 2) dX5_takeInForm_80 rfl rfl) ?_
      refine ev_ck (fun ha hS => ?_)
      refine ev_callV (iv_V (As := [.ref (gB G + v1)]) (st := []) (pc := 81) rfl m_X5_takeName l_X5_126 i_X5_takeName e_X5_takeName ha hS rfl (Nat.le_of_ble_eq_true rfl) rfl dX5_takeInForm_81) (tX5_takeName G fu v0 v1 h) (by decide) (by decide) (fun h3 => ?_)
      refine ev_step (st_goto (pc := 84) (tgt := 113) dX5_takeInForm_84 (by decide)) ?_
      refine ev_sub (ls' := [(0, .ref (gB G + v0)), (1, .ref (gB G + v1)), (2, .ref (gK G v2)), (3, .int v3), (4, .int s0)]) [1, 2, 3, 4, 0] rfl ?_
      exact tX5_takeInForm_113 G fu h0 v0 v1 v2 v3 s0 h3
    · refine ev_step (st_iload_n (pc := 87) (j := 4) dX5_takeInForm_87 rfl rfl) ?_
      refine ev_step (st_bipush (pc := 88) dX5_takeInForm_88 nb_105) ?_
      refine ev_br (br_icmp_ne (tgt := 108) (pc := 90) dX5_takeInForm_90 (by decide)) (fun _ => ?_) (fun _ => ?_)
      · refine ev_step (st_aload_n (pc := 93) (j := 1) dX5_takeInForm_93 rfl rfl) ?_
        refine ev_step (st_aload_n (pc := 94) (j := 2) dX5_takeInForm_94 rfl rfl) ?_
        refine ev_step (st_aload_n (pc := 95) (j := 1) dX5_takeInForm_95 rfl rfl) ?_
        refine ev_getR (pc := 96) k_X5_12 rfl dX5_takeInForm_96 (fun a4 => ?_)
        refine ev_getI (pc := 99) k_X5_130 rfl dX5_takeInForm_99 (fun x5 => ?_)
        refine ev_ck (fun ha hS => ?_)
        refine ev_callV (iv_V (As := [.ref (gB G + v1), .int x5]) (st := []) (pc := 102) rfl m_X5_takeNumber l_X5_133 i_X5_takeNumber e_X5_takeNumber ha hS rfl (Nat.le_of_ble_eq_true rfl) rfl dX5_takeInForm_102) (tX5_takeNumber G fu v0 v1 x5 h) (by decide) (by decide) (fun h6 => ?_)
        refine ev_step (st_goto (pc := 105) (tgt := 113) dX5_takeInForm_105 (by decide)) ?_
        refine ev_sub (ls' := [(0, .ref (gB G + v0)), (1, .ref (gB G + v1)), (2, .ref (gK G v2)), (3, .int v3), (4, .int s0)]) [1, 2, 3, 4, 0] rfl ?_
        exact tX5_takeInForm_113 G fu h0 v0 v1 v2 v3 s0 h6
      · refine ev_step (st_aload_n (pc := 108) (j := 1) dX5_takeInForm_108 rfl rfl) ?_
        refine ev_step (st_iconst (pc := 109) dX5_takeInForm_109 ni_m1) ?_
        refine ev_putI (pc := 110) (p_X5_25 _ rfl) rfl dX5_takeInForm_110 (fun h7 => ?_)
        refine ev_sub (ls' := [(0, .ref (gB G + v0)), (1, .ref (gB G + v1)), (2, .ref (gK G v2)), (3, .int v3), (4, .int s0)]) [1, 2, 3, 4, 0] rfl ?_
        exact tX5_takeInForm_113 G fu h0 v0 v1 v2 v3 s0 h7
  · refine ev_step (st_iconst (pc := 71) dX5_takeInForm_71 ni_1) ?_
    exact ev_iret (pc := 72) dX5_takeInForm_72
set_option maxRecDepth 100000 in
set_option maxHeartbeats 4000000 in
theorem tX5_takeInForm_32 (G : gx) (fu : Nat) (h0 : mh) (v0 : Nat) (v1 : Nat) (v2 : Nat) (s0 : Int32) (h : mh) : Ev lI G yX5_takeInForm cX5_takeInForm 5 (some .int) 5 h0 32 [(0, .ref (gB G + v0)), (1, .ref (gB G + v1)), (2, .ref (gK G v2))] [.int s0] h (fX5_takeInForm_32 fu v0 v1 v2 s0 h) := by
  unfold fX5_takeInForm_32
  refine ev_step (st_istore_n (pc := 32) (ls' := [(3, .int s0), (0, .ref (gB G + v0)), (1, .ref (gB G + v1)), (2, .ref (gK G v2))]) dX5_takeInForm_32 rfl (by decide) rfl) ?_
  refine ev_step (st_iload_n (pc := 33) (j := 0) dX5_takeInForm_33 rfl rfl) ?_
  refine ev_step (st_bipush (pc := 34) dX5_takeInForm_34 nb_110) ?_
  refine ev_br (br_icmp_ne (tgt := 44) (pc := 36) dX5_takeInForm_36 (by decide)) (fun _ => ?_) (fun _ => ?_)
  · refine ev_step (st_bipush (pc := 39) dX5_takeInForm_39 nb_22) ?_
    refine ev_step (st_goto (pc := 41) (tgt := 57) dX5_takeInForm_41 (by decide)) ?_
    refine ev_sub (ls' := [(0, .ref (gB G + v0)), (1, .ref (gB G + v1)), (2, .ref (gK G v2)), (3, .int s0)]) [1, 2, 3, 0] rfl ?_
    exact tX5_takeInForm_57 G fu h0 v0 v1 v2 s0 ((22 : Int32)) h
  · refine ev_step (st_iload_n (pc := 44) (j := 0) dX5_takeInForm_44 rfl rfl) ?_
    refine ev_step (st_bipush (pc := 45) dX5_takeInForm_45 nb_105) ?_
    refine ev_br (br_icmp_ne (tgt := 55) (pc := 47) dX5_takeInForm_47 (by decide)) (fun _ => ?_) (fun _ => ?_)
    · refine ev_step (st_bipush (pc := 50) dX5_takeInForm_50 nb_23) ?_
      refine ev_step (st_goto (pc := 52) (tgt := 57) dX5_takeInForm_52 (by decide)) ?_
      refine ev_sub (ls' := [(0, .ref (gB G + v0)), (1, .ref (gB G + v1)), (2, .ref (gK G v2)), (3, .int s0)]) [1, 2, 3, 0] rfl ?_
      exact tX5_takeInForm_57 G fu h0 v0 v1 v2 s0 ((23 : Int32)) h
    · refine ev_step (st_bipush (pc := 55) dX5_takeInForm_55 nb_59) ?_
      refine ev_sub (ls' := [(0, .ref (gB G + v0)), (1, .ref (gB G + v1)), (2, .ref (gK G v2)), (3, .int s0)]) [1, 2, 3, 0] rfl ?_
      exact tX5_takeInForm_57 G fu h0 v0 v1 v2 s0 ((59 : Int32)) h
set_option maxRecDepth 100000 in
set_option maxHeartbeats 4000000 in
theorem tX5_takeInForm (G : gx) (fu : Nat) (v0 : Nat) (v1 : Nat) (h : mh) : Ct lI G yX5_takeInForm cX5_takeInForm 5 (some .int) 5 [.ref (gB G + v0), .ref (gB G + v1)] h (fX5_takeInForm fu v0 v1 h) := by
  refine ct_ls (ls := [(0, .ref (gB G + v0)), (1, .ref (gB G + v1))]) rfl (by decide) (Nat.le_of_ble_eq_true rfl) ?_
  unfold fX5_takeInForm
  refine ev_step (st_aload_n (pc := 0) (j := 0) dX5_takeInForm_0 rfl rfl) ?_
  refine ev_getI (pc := 1) k_X5_25 rfl dX5_takeInForm_1 (fun x1 => ?_)
  refine ev_callS (iv_S (As := [.int x1]) (st := []) (pc := 4) m_X5_formOf l_X5_112 z_X5_formOf rfl (Nat.le_of_ble_eq_true rfl) rfl dX5_takeInForm_4) (tX5_formOf G fu x1 h) (by decide) (by decide) (fun a3 h2 => ?_)
  refine ev_step (st_astore_n (pc := 7) (ls' := [(2, .ref (gK G a3)), (0, .ref (gB G + v0)), (1, .ref (gB G + v1))]) dX5_takeInForm_7 rfl (by decide) rfl) ?_
  refine ev_step (st_aload_n (pc := 8) (j := 1) dX5_takeInForm_8 rfl rfl) ?_
  refine ev_getI (pc := 9) k_X5_29 rfl dX5_takeInForm_9 (fun x4 => ?_)
  refine ev_step (st_aload_n (pc := 12) (j := 0) dX5_takeInForm_12 rfl rfl) ?_
  refine ev_cks (fun hj => ?_)
  refine ev_callI (iv_VS (As := []) (st := [.int x4]) (pc := 13) m_J0_length_8abf5 l_X5_116 i_J0_length_8abf5 e_J0_length_8abf5 hj rfl (Nat.le_of_ble_eq_true rfl) rfl dX5_takeInForm_13) (tJ0_length_8abf5 G fu a3 h2) (by decide) (by decide) (fun x6 h5 => ?_)
  refine ev_br (br_icmp_ge (tgt := 30) (pc := 16) dX5_takeInForm_16 (by decide)) (fun _ => ?_) (fun _ => ?_)
  · refine ev_step (st_bipush (pc := 30) dX5_takeInForm_30 nb_59) ?_
    refine ev_sub (ls' := [(0, .ref (gB G + v0)), (1, .ref (gB G + v1)), (2, .ref (gK G a3))]) [1, 2, 0] rfl ?_
    exact tX5_takeInForm_32 G fu h v0 v1 a3 ((59 : Int32)) h5
  · refine ev_step (st_aload_n (pc := 19) (j := 0) dX5_takeInForm_19 rfl rfl) ?_
    refine ev_step (st_aload_n (pc := 20) (j := 1) dX5_takeInForm_20 rfl rfl) ?_
    refine ev_getI (pc := 21) k_X5_29 rfl dX5_takeInForm_21 (fun x7 => ?_)
    refine ev_cks (fun hj => ?_)
    refine ev_callI (iv_VS (As := [.int x7]) (st := []) (pc := 24) m_J0_charAt_5068e l_X5_122 i_J0_charAt_5068e e_J0_charAt_5068e hj rfl (Nat.le_of_ble_eq_true rfl) rfl dX5_takeInForm_24) (tJ0_charAt_5068e G fu a3 x7 h5) (by decide) (by decide) (fun x9 h8 => ?_)
    refine ev_step (st_goto (pc := 27) (tgt := 32) dX5_takeInForm_27 (by decide)) ?_
    refine ev_sub (ls' := [(0, .ref (gB G + v0)), (1, .ref (gB G + v1)), (2, .ref (gK G a3))]) [1, 2, 0] rfl ?_
    exact tX5_takeInForm_32 G fu h v0 v1 a3 x9 h8
set_option maxRecDepth 100000 in
set_option maxHeartbeats 4000000 in
theorem tX7_wordCodes_63 (G : gx) (fu : Nat) (h0 : mh) (v0 : Nat) (v1 : Int64) (v3 : Int32) (v4 : Int32) (v5 : Int32) (k12 : Int64 × Int32 × Int32 × mh → Option (Nat × mh)) (hk12 : ∀ (v1 : Int64) (v3 : Int32) (v4 : Int32) (h : mh), Ev (lR G) G yX7_wordCodes cX7_wordCodes 6 (some (.array .long)) 5 h0 12 [(0, .ref (gB G + v0)), (1, .long v1), (3, .int v3), (4, .int v4)] [] h (k12 (v1, v3, v4, h))) (h : mh) : Ev (lR G) G yX7_wordCodes cX7_wordCodes 6 (some (.array .long)) 5 h0 63 [(0, .ref (gB G + v0)), (1, .long v1), (3, .int v3), (4, .int v4), (5, .int v5)] [] h (fX7_wordCodes_63 fu k12 v0 v1 v3 v4 v5 h) := by
  unfold fX7_wordCodes_63
  refine ev_step (st_inc (pc := 63) (j := 3) (ls' := [(4, .int (v4 + (1 : Int32))), (0, .ref (gB G + v0)), (1, .long v1), (3, .int v3), (5, .int v5)]) dX7_wordCodes_63 rfl ni_1 (by decide) rfl) ?_
  refine ev_step (st_goto (pc := 66) (tgt := 12) dX7_wordCodes_66 (by decide)) ?_
  refine ev_sub (ls' := [(0, .ref (gB G + v0)), (1, .long v1), (3, .int v3), (4, .int (v4 + (1 : Int32)))]) [1, 2, 3, 0] rfl ?_
  exact hk12 v1 v3 (v4 + (1 : Int32)) h
set_option maxRecDepth 100000 in
set_option maxHeartbeats 4000000 in
theorem tX7_wordCodes_12 (G : gx) (fu : Nat) (h0 : mh) (v0 : Nat) (n : Nat) (v1 : Int64) (v3 : Int32) (v4 : Int32) (h : mh) : Ev (lR G) G yX7_wordCodes cX7_wordCodes 6 (some (.array .long)) 5 h0 12 [(0, .ref (gB G + v0)), (1, .long v1), (3, .int v3), (4, .int v4)] [] h (itr (bX7_wordCodes_12 fu v0) n (v1, v3, v4, h)) := by
  refine ev_itr (P := fun (q : Int64 × Int32 × Int32 × mh) (R9 : Option (Nat × mh)) => Ev (lR G) G yX7_wordCodes cX7_wordCodes 6 (some (.array .long)) 5 h0 12 [(0, .ref (gB G + v0)), (1, .long q.1), (3, .int q.2.1), (4, .int q.2.2.1)] [] q.2.2.2 R9) (fun _ => ev_none) (fun k12 hk9 q => ?_) n (v1, v3, v4, h)
  obtain ⟨v1, v3, v4, h⟩ := q
  have hk12 : ∀ (v1 : Int64) (v3 : Int32) (v4 : Int32) (h : mh), Ev (lR G) G yX7_wordCodes cX7_wordCodes 6 (some (.array .long)) 5 h0 12 [(0, .ref (gB G + v0)), (1, .long v1), (3, .int v3), (4, .int v4)] [] h (k12 (v1, v3, v4, h)) := fun v1 v3 v4 h => hk9 (v1, v3, v4, h)
  show Ev (lR G) G yX7_wordCodes cX7_wordCodes 6 (some (.array .long)) 5 h0 12 [(0, .ref (gB G + v0)), (1, .long v1), (3, .int v3), (4, .int v4)] [] h (bX7_wordCodes_12 fu v0 k12 (v1, v3, v4, h))
  unfold bX7_wordCodes_12
  refine ev_step (st_iload (pc := 12) (j := 3) dX7_wordCodes_12 rfl) ?_
  refine ev_step (st_ldcs (pc := 14) (j := 0) dX7_wordCodes_14 (List.mem_of_getElem? (i := 0) rfl)) ?_
  refine ev_cks (fun hj => ?_)
  refine ev_callI (iv_VS (As := []) (st := [.int v4]) (pc := 16) m_J0_length_8abf5 l_X7_38 i_J0_length_8abf5 e_J0_length_8abf5 hj rfl (Nat.le_of_ble_eq_true rfl) rfl dX7_wordCodes_16) (tJ0_length_8abf5 G fu 0 h) (by decide) (by decide) (fun x2 h1 => ?_)
  refine ev_br (br_icmp_ge (tgt := 69) (pc := 19) dX7_wordCodes_19 (by decide)) (fun _ => ?_) (fun _ => ?_)
  · refine ev_step (st_aload_n (pc := 69) (j := 0) dX7_wordCodes_69 rfl rfl) ?_
    exact ev_aret (pc := 70) (Or.inr ⟨_, rfl⟩) dX7_wordCodes_70
  · refine ev_step (st_iload_n (pc := 22) (j := 2) dX7_wordCodes_22 rfl rfl) ?_
    refine ev_step (st_bipush (pc := 23) dX7_wordCodes_23 nb_22) ?_
    refine ev_br (br_icmp_ge (tgt := 69) (pc := 25) dX7_wordCodes_25 (by decide)) (fun _ => ?_) (fun _ => ?_)
    · refine ev_step (st_aload_n (pc := 69) (j := 0) dX7_wordCodes_69 rfl rfl) ?_
      exact ev_aret (pc := 70) (Or.inr ⟨_, rfl⟩) dX7_wordCodes_70
    · refine ev_step (st_ldcs (pc := 28) (j := 0) dX7_wordCodes_28 (List.mem_of_getElem? (i := 0) rfl)) ?_
      refine ev_step (st_iload (pc := 30) (j := 3) dX7_wordCodes_30 rfl) ?_
      refine ev_cks (fun hj => ?_)
      refine ev_callI (iv_VS (As := [.int v4]) (st := []) (pc := 32) m_J0_charAt_5068e l_X7_44 i_J0_charAt_5068e e_J0_charAt_5068e hj rfl (Nat.le_of_ble_eq_true rfl) rfl dX7_wordCodes_32) (tJ0_charAt_5068e G fu 0 v4 h1) (by decide) (by decide) (fun x4 h3 => ?_)
      refine ev_step (st_istore (pc := 35) (ls' := [(5, .int x4), (0, .ref (gB G + v0)), (1, .long v1), (3, .int v3), (4, .int v4)]) dX7_wordCodes_35 (by decide) rfl) ?_
      refine ev_step (st_iload (pc := 37) (j := 0) dX7_wordCodes_37 rfl) ?_
      refine ev_step (st_bipush (pc := 39) dX7_wordCodes_39 nb_32) ?_
      refine ev_br (br_icmp_ne (tgt := 56) (pc := 41) dX7_wordCodes_41 (by decide)) (fun _ => ?_) (fun _ => ?_)
      · refine ev_step (st_aload_n (pc := 44) (j := 1) dX7_wordCodes_44 rfl rfl) ?_
        refine ev_step (st_iload_n (pc := 45) (j := 3) dX7_wordCodes_45 rfl rfl) ?_
        refine ev_step (st_lload_n (pc := 46) (j := 2) dX7_wordCodes_46 rfl rfl) ?_
        refine ev_stj (pc := 47) dX7_wordCodes_47 (fun h5 => ?_)
        refine ev_step (st_inc (pc := 48) (j := 3) (ls' := [(3, .int (v3 + (1 : Int32))), (5, .int x4), (0, .ref (gB G + v0)), (1, .long v1), (4, .int v4)]) dX7_wordCodes_48 rfl ni_1 (by decide) rfl) ?_
        refine ev_step (st_lconst (pc := 51) (v := 0) dX7_wordCodes_51 rfl) ?_
        refine ev_step (st_lstore_n (pc := 52) (ls' := [(1, .long ((0 : Int64))), (3, .int (v3 + (1 : Int32))), (5, .int x4), (0, .ref (gB G + v0)), (4, .int v4)]) dX7_wordCodes_52 rfl (by decide) rfl) ?_
        refine ev_step (st_goto (pc := 53) (tgt := 63) dX7_wordCodes_53 (by decide)) ?_
        refine ev_sub (ls' := [(0, .ref (gB G + v0)), (1, .long ((0 : Int64))), (3, .int (v3 + (1 : Int32))), (4, .int v4), (5, .int x4)]) [3, 0, 1, 4, 2] rfl ?_
        exact tX7_wordCodes_63 G fu h0 v0 ((0 : Int64)) (v3 + (1 : Int32)) v4 x4 k12 hk12 h5
      · refine ev_step (st_lload_n (pc := 56) (j := 2) dX7_wordCodes_56 rfl rfl) ?_
        refine ev_step (st_iload (pc := 57) (j := 0) dX7_wordCodes_57 rfl) ?_
        refine ev_callL (iv_S (As := [.long v1, .int x4]) (st := []) (pc := 59) m_X7_withLetter l_X7_48 z_X7_withLetter rfl (Nat.le_of_ble_eq_true rfl) rfl dX7_wordCodes_59) (tX7_withLetter G fu v1 x4 h3) (by decide) (by decide) (fun x7 h6 => ?_)
        refine ev_step (st_lstore_n (pc := 62) (ls' := [(1, .long x7), (5, .int x4), (0, .ref (gB G + v0)), (3, .int v3), (4, .int v4)]) dX7_wordCodes_62 rfl (by decide) rfl) ?_
        refine ev_sub (ls' := [(0, .ref (gB G + v0)), (1, .long x7), (3, .int v3), (4, .int v4), (5, .int x4)]) [2, 0, 3, 4, 1] rfl ?_
        exact tX7_wordCodes_63 G fu h0 v0 x7 v3 v4 x4 k12 hk12 h6
set_option maxRecDepth 100000 in
set_option maxHeartbeats 4000000 in
theorem tX7_wordCodes (G : gx) (fu : Nat) (h : mh) : Ct (lR G) G yX7_wordCodes cX7_wordCodes 6 (some (.array .long)) 5 [] h (fX7_wordCodes fu h) := by
  refine ct_ls (ls := []) rfl (by decide) (Nat.le_of_ble_eq_true rfl) ?_
  unfold fX7_wordCodes
  refine ev_step (st_bipush (pc := 0) dX7_wordCodes_0 nb_22) ?_
  refine ev_newa (pc := 2) (t := 4) (ty := .long) ac_long rfl (Or.inr (Or.inr (Or.inr rfl))) dX7_wordCodes_2 (fun a1 h2 => ?_)
  refine ev_step (st_astore_n (pc := 4) (ls' := [(0, .ref (gB G + a1))]) dX7_wordCodes_4 rfl (by decide) rfl) ?_
  refine ev_step (st_lconst (pc := 5) (v := 0) dX7_wordCodes_5 rfl) ?_
  refine ev_step (st_lstore_n (pc := 6) (ls' := [(1, .long ((0 : Int64))), (0, .ref (gB G + a1))]) dX7_wordCodes_6 rfl (by decide) rfl) ?_
  refine ev_step (st_iconst (pc := 7) dX7_wordCodes_7 ni_0) ?_
  refine ev_step (st_istore_n (pc := 8) (ls' := [(3, .int ((0 : Int32))), (1, .long ((0 : Int64))), (0, .ref (gB G + a1))]) dX7_wordCodes_8 rfl (by decide) rfl) ?_
  refine ev_step (st_iconst (pc := 9) dX7_wordCodes_9 ni_0) ?_
  refine ev_step (st_istore (pc := 10) (ls' := [(4, .int ((0 : Int32))), (3, .int ((0 : Int32))), (1, .long ((0 : Int64))), (0, .ref (gB G + a1))]) dX7_wordCodes_10 (by decide) rfl) ?_
  refine ev_sub (ls' := [(0, .ref (gB G + a1)), (1, .long ((0 : Int64))), (3, .int ((0 : Int32))), (4, .int ((0 : Int32)))]) [3, 2, 1, 0] rfl ?_
  exact tX7_wordCodes_12 G fu h a1 fu ((0 : Int64)) ((0 : Int32)) ((0 : Int32)) h2
set_option maxRecDepth 100000 in
set_option maxHeartbeats 4000000 in
theorem tX7_next_120 (G : gx) (fu : Nat) (h0 : mh) (v0 : Nat) (v1 : Nat) (v2 : Int32) (v3 : Int32) (s0 : Nat) (s1 : Int32) (h : mh) : Ev lI G yX7_next cX7_next 4 (some .boolean) 5 h0 120 [(0, .ref (gB G + v0)), (1, .ref (gB G + v1)), (2, .int v2), (3, .int v3)] [.int s1, .ref (gB G + s0)] h (fX7_next_120 fu v0 v1 v2 v3 s0 s1 h) := by
  unfold fX7_next_120
  refine ev_putI (pc := 120) (p_X7_26 _ rfl) rfl dX7_next_120 (fun h1 => ?_)
  refine ev_step (st_aload_n (pc := 123) (j := 0) dX7_next_123 rfl rfl) ?_
  refine ev_step (st_dup (pc := 124) dX7_next_124 rfl) ?_
  refine ev_getI (pc := 125) k_X7_19 rfl dX7_next_125 (fun x2 => ?_)
  refine ev_step (st_iconst (pc := 128) dX7_next_128 ni_1) ?_
  refine ev_step (st_iadd (pc := 129) dX7_next_129) ?_
  refine ev_putI (pc := 130) (p_X7_19 _ rfl) rfl dX7_next_130 (fun h3 => ?_)
  refine ev_step (st_iconst (pc := 133) dX7_next_133 ni_1) ?_
  exact ev_zret (pc := 134) dX7_next_134
set_option maxRecDepth 100000 in
set_option maxHeartbeats 4000000 in
theorem tX7_next_33 (G : gx) (fu : Nat) (h0 : mh) (v0 : Nat) (v1 : Nat) (v2 : Int32) (h : mh) : Ev lI G yX7_next cX7_next 4 (some .boolean) 5 h0 33 [(0, .ref (gB G + v0)), (1, .ref (gB G + v1)), (2, .int v2)] [] h (fX7_next_33 fu v0 v1 v2 h) := by
  unfold fX7_next_33
  refine ev_step (st_aload_n (pc := 33) (j := 0) dX7_next_33 rfl rfl) ?_
  refine ev_step (st_aload_n (pc := 34) (j := 0) dX7_next_34 rfl rfl) ?_
  refine ev_getI (pc := 35) k_X7_19 rfl dX7_next_35 (fun x1 => ?_)
  refine ev_putI (pc := 38) (p_X7_23 _ rfl) rfl dX7_next_38 (fun h2 => ?_)
  refine ev_step (st_aload_n (pc := 41) (j := 0) dX7_next_41 rfl rfl) ?_
  refine ev_getI (pc := 42) k_X7_19 rfl dX7_next_42 (fun x3 => ?_)
  refine ev_step (st_iload_n (pc := 45) (j := 2) dX7_next_45 rfl rfl) ?_
  refine ev_br (br_icmp_lt (tgt := 51) (pc := 46) dX7_next_46 (by decide)) (fun _ => ?_) (fun _ => ?_)
  · refine ev_step (st_aload_n (pc := 51) (j := 1) dX7_next_51 rfl rfl) ?_
    refine ev_step (st_aload_n (pc := 52) (j := 0) dX7_next_52 rfl rfl) ?_
    refine ev_getI (pc := 53) k_X7_19 rfl dX7_next_53 (fun x4 => ?_)
    refine ev_ldb (pc := 56) dX7_next_56 (fun x5 => ?_)
    refine ev_callI (iv_S (As := [.int x5]) (st := []) (pc := 57) m_X7_isLetter l_X7_58 z_X7_isLetter rfl (Nat.le_of_ble_eq_true rfl) rfl dX7_next_57) (tX7_isLetter G fu x5 h2) (by decide) (by decide) (fun x7 h6 => ?_)
    refine ev_br (br_if_eq (tgt := 72) (pc := 60) dX7_next_60 (by decide)) (fun _ => ?_) (fun _ => ?_)
    · refine ev_step (st_aload_n (pc := 72) (j := 1) dX7_next_72 rfl rfl) ?_
      refine ev_step (st_aload_n (pc := 73) (j := 0) dX7_next_73 rfl rfl) ?_
      refine ev_getI (pc := 74) k_X7_19 rfl dX7_next_74 (fun x8 => ?_)
      refine ev_ldb (pc := 77) dX7_next_77 (fun x9 => ?_)
      refine ev_callI (iv_S (As := [.int x9]) (st := []) (pc := 78) m_X7_isDigit l_X7_65 z_X7_isDigit rfl (Nat.le_of_ble_eq_true rfl) rfl dX7_next_78) (tX7_isDigit G fu x9 h6) (by decide) (by decide) (fun x11 h10 => ?_)
      refine ev_br (br_if_eq (tgt := 93) (pc := 81) dX7_next_81 (by decide)) (fun _ => ?_) (fun _ => ?_)
      · refine ev_step (st_aload_n (pc := 93) (j := 1) dX7_next_93 rfl rfl) ?_
        refine ev_step (st_aload_n (pc := 94) (j := 0) dX7_next_94 rfl rfl) ?_
        refine ev_getI (pc := 95) k_X7_19 rfl dX7_next_95 (fun x12 => ?_)
        refine ev_ldb (pc := 98) dX7_next_98 (fun x13 => ?_)
        refine ev_step (st_sipush (pc := 99) dX7_next_99 ns_255) ?_
        refine ev_step (st_iand (pc := 102) dX7_next_102) ?_
        refine ev_top (fun x14 => ?_)
        refine ev_step (st_istore_n (pc := 103) (ls' := [(3, .int x14), (0, .ref (gB G + v0)), (1, .ref (gB G + v1)), (2, .int v2)]) dX7_next_103 rfl (by decide) rfl) ?_
        refine ev_step (st_aload_n (pc := 104) (j := 1) dX7_next_104 rfl rfl) ?_
        refine ev_step (st_ldcs (pc := 105) (j := 1) dX7_next_105 (List.mem_of_getElem? (i := 1) rfl)) ?_
        refine ev_step (st_iload_n (pc := 107) (j := 0) dX7_next_107 rfl rfl) ?_
        refine ev_step (st_i2c (pc := 108) dX7_next_108) ?_
        refine ev_cks (fun hj => ?_)
        refine ev_callI (iv_VS (As := [.int ((x14.toUInt32 % 65536).toInt32)]) (st := [.ref (gB G + v0)]) (pc := 109) m_J0_indexOf_0f7a4 l_X7_73 i_J0_indexOf_0f7a4 e_J0_indexOf_0f7a4 hj rfl (Nat.le_of_ble_eq_true rfl) rfl dX7_next_109) (tJ0_indexOf_0f7a4 G fu 1 ((x14.toUInt32 % 65536).toInt32) h10) (by decide) (by decide) (fun x16 h15 => ?_)
        refine ev_br (br_if_lt (tgt := 119) (pc := 112) dX7_next_112 (by decide)) (fun _ => ?_) (fun _ => ?_)
        · refine ev_step (st_iconst (pc := 119) dX7_next_119 ni_m1) ?_
          refine ev_sub (ls' := [(0, .ref (gB G + v0)), (1, .ref (gB G + v1)), (2, .int v2), (3, .int x14)]) [1, 2, 3, 0] rfl ?_
          exact tX7_next_120 G fu h0 v0 v1 v2 x14 v0 ((-1 : Int32)) h15
        · refine ev_step (st_iload_n (pc := 115) (j := 0) dX7_next_115 rfl rfl) ?_
          refine ev_step (st_goto (pc := 116) (tgt := 120) dX7_next_116 (by decide)) ?_
          refine ev_sub (ls' := [(0, .ref (gB G + v0)), (1, .ref (gB G + v1)), (2, .int v2), (3, .int x14)]) [1, 2, 3, 0] rfl ?_
          exact tX7_next_120 G fu h0 v0 v1 v2 x14 v0 x14 h15
      · refine ev_step (st_aload_n (pc := 84) (j := 0) dX7_next_84 rfl rfl) ?_
        refine ev_step (st_aload_n (pc := 85) (j := 1) dX7_next_85 rfl rfl) ?_
        refine ev_step (st_iload_n (pc := 86) (j := 2) dX7_next_86 rfl rfl) ?_
        refine ev_ck (fun ha hS => ?_)
        refine ev_callV (iv_V (As := [.ref (gB G + v1), .int v2]) (st := []) (pc := 87) rfl m_X7_takeDigits l_X7_68 i_X7_takeDigits e_X7_takeDigits ha hS rfl (Nat.le_of_ble_eq_true rfl) rfl dX7_next_87) (tX7_takeDigits G fu v0 v1 v2 h10) (by decide) (by decide) (fun h17 => ?_)
        refine ev_step (st_goto (pc := 90) (tgt := 133) dX7_next_90 (by decide)) ?_
        refine ev_step (st_iconst (pc := 133) dX7_next_133 ni_1) ?_
        exact ev_zret (pc := 134) dX7_next_134
    · refine ev_step (st_aload_n (pc := 63) (j := 0) dX7_next_63 rfl rfl) ?_
      refine ev_step (st_aload_n (pc := 64) (j := 1) dX7_next_64 rfl rfl) ?_
      refine ev_step (st_iload_n (pc := 65) (j := 2) dX7_next_65 rfl rfl) ?_
      refine ev_ck (fun ha hS => ?_)
      refine ev_callV (iv_V (As := [.ref (gB G + v1), .int v2]) (st := []) (pc := 66) rfl m_X7_takeLetters l_X7_61 i_X7_takeLetters e_X7_takeLetters ha hS rfl (Nat.le_of_ble_eq_true rfl) rfl dX7_next_66) (tX7_takeLetters G fu v0 v1 v2 h6) (by decide) (by decide) (fun h18 => ?_)
      refine ev_step (st_goto (pc := 69) (tgt := 133) dX7_next_69 (by decide)) ?_
      refine ev_step (st_iconst (pc := 133) dX7_next_133 ni_1) ?_
      exact ev_zret (pc := 134) dX7_next_134
  · refine ev_step (st_iconst (pc := 49) dX7_next_49 ni_0) ?_
    exact ev_zret (pc := 50) dX7_next_50
set_option maxRecDepth 100000 in
set_option maxHeartbeats 4000000 in
theorem tX7_next_0 (G : gx) (fu : Nat) (h0 : mh) (v0 : Nat) (v1 : Nat) (v2 : Int32) (n : Nat) (h : mh) : Ev lI G yX7_next cX7_next 4 (some .boolean) 5 h0 0 [(0, .ref (gB G + v0)), (1, .ref (gB G + v1)), (2, .int v2)] [] h (itr (bX7_next_0 fu v0 v1 v2) n (h)) := by
  refine ev_itr (P := fun (q : mh) (R9 : Option (Int32 × mh)) => Ev lI G yX7_next cX7_next 4 (some .boolean) 5 h0 0 [(0, .ref (gB G + v0)), (1, .ref (gB G + v1)), (2, .int v2)] [] q R9) (fun _ => ev_none) (fun k0 hk9 h => ?_) n (h)
  have hk0 : ∀ (h : mh), Ev lI G yX7_next cX7_next 4 (some .boolean) 5 h0 0 [(0, .ref (gB G + v0)), (1, .ref (gB G + v1)), (2, .int v2)] [] h (k0 (h)) := fun h => hk9 (h)
  show Ev lI G yX7_next cX7_next 4 (some .boolean) 5 h0 0 [(0, .ref (gB G + v0)), (1, .ref (gB G + v1)), (2, .int v2)] [] h (bX7_next_0 fu v0 v1 v2 k0 (h))
  unfold bX7_next_0
  refine ev_step (st_aload_n (pc := 0) (j := 0) dX7_next_0 rfl rfl) ?_
  refine ev_getI (pc := 1) k_X7_19 rfl dX7_next_1 (fun x1 => ?_)
  refine ev_step (st_iload_n (pc := 4) (j := 2) dX7_next_4 rfl rfl) ?_
  refine ev_br (br_icmp_ge (tgt := 33) (pc := 5) dX7_next_5 (by decide)) (fun _ => ?_) (fun _ => ?_)
  · refine ev_sub (ls' := [(0, .ref (gB G + v0)), (1, .ref (gB G + v1)), (2, .int v2)]) [0, 1, 2] rfl ?_
    exact tX7_next_33 G fu h0 v0 v1 v2 h
  · refine ev_step (st_aload_n (pc := 8) (j := 1) dX7_next_8 rfl rfl) ?_
    refine ev_step (st_aload_n (pc := 9) (j := 0) dX7_next_9 rfl rfl) ?_
    refine ev_getI (pc := 10) k_X7_19 rfl dX7_next_10 (fun x2 => ?_)
    refine ev_ldb (pc := 13) dX7_next_13 (fun x3 => ?_)
    refine ev_callI (iv_S (As := [.int x3]) (st := []) (pc := 14) m_X7_isBlank l_X7_54 z_X7_isBlank rfl (Nat.le_of_ble_eq_true rfl) rfl dX7_next_14) (tX7_isBlank G fu x3 h) (by decide) (by decide) (fun x5 h4 => ?_)
    refine ev_br (br_if_eq (tgt := 33) (pc := 17) dX7_next_17 (by decide)) (fun _ => ?_) (fun _ => ?_)
    · refine ev_sub (ls' := [(0, .ref (gB G + v0)), (1, .ref (gB G + v1)), (2, .int v2)]) [0, 1, 2] rfl ?_
      exact tX7_next_33 G fu h0 v0 v1 v2 h4
    · refine ev_step (st_aload_n (pc := 20) (j := 0) dX7_next_20 rfl rfl) ?_
      refine ev_step (st_dup (pc := 21) dX7_next_21 rfl) ?_
      refine ev_getI (pc := 22) k_X7_19 rfl dX7_next_22 (fun x6 => ?_)
      refine ev_step (st_iconst (pc := 25) dX7_next_25 ni_1) ?_
      refine ev_step (st_iadd (pc := 26) dX7_next_26) ?_
      refine ev_putI (pc := 27) (p_X7_19 _ rfl) rfl dX7_next_27 (fun h7 => ?_)
      refine ev_step (st_goto (pc := 30) (tgt := 0) dX7_next_30 (by decide)) ?_
      refine ev_sub (ls' := [(0, .ref (gB G + v0)), (1, .ref (gB G + v1)), (2, .int v2)]) [0, 1, 2] rfl ?_
      exact hk0  h7
set_option maxRecDepth 100000 in
set_option maxHeartbeats 4000000 in
theorem tX7_next (G : gx) (fu : Nat) (v0 : Nat) (v1 : Nat) (v2 : Int32) (h : mh) : Ct lI G yX7_next cX7_next 4 (some .boolean) 5 [.ref (gB G + v0), .ref (gB G + v1), .int v2] h (fX7_next fu v0 v1 v2 h) := by
  refine ct_ls (ls := [(0, .ref (gB G + v0)), (1, .ref (gB G + v1)), (2, .int v2)]) rfl (by decide) (Nat.le_of_ble_eq_true rfl) ?_
  unfold fX7_next
  refine ev_sub (ls' := [(0, .ref (gB G + v0)), (1, .ref (gB G + v1)), (2, .int v2)]) [0, 1, 2] rfl ?_
  exact tX7_next_0 G fu h v0 v1 v2 fu  h
set_option maxRecDepth 100000 in
set_option maxHeartbeats 4000000 in
theorem tX4_fewest_48 (G : gx) (fu : Nat) (h0 : mh) (v0 : Nat) (v1 : Nat) (v2 : Nat) (v3 : Int32) (v4 : Int32) (n : Nat) (v5 : Int32) (h : mh) : Ev lI G yX4_fewest cX4_fewest 6 (some .int) 12 h0 48 [(0, .ref (gB G + v0)), (1, .ref (gB G + v1)), (2, .ref (gB G + v2)), (3, .int v3), (4, .int v4), (5, .int v5)] [] h (itr (bX4_fewest_48 fu v0 v1 v2 v3 v4) n (v5, h)) := by
  refine ev_itr (P := fun (q : Int32 × mh) (R9 : Option (Int32 × mh)) => Ev lI G yX4_fewest cX4_fewest 6 (some .int) 12 h0 48 [(0, .ref (gB G + v0)), (1, .ref (gB G + v1)), (2, .ref (gB G + v2)), (3, .int v3), (4, .int v4), (5, .int q.1)] [] q.2 R9) (fun _ => ev_none) (fun k48 hk9 q => ?_) n (v5, h)
  obtain ⟨v5, h⟩ := q
  have hk48 : ∀ (v5 : Int32) (h : mh), Ev lI G yX4_fewest cX4_fewest 6 (some .int) 12 h0 48 [(0, .ref (gB G + v0)), (1, .ref (gB G + v1)), (2, .ref (gB G + v2)), (3, .int v3), (4, .int v4), (5, .int v5)] [] h (k48 (v5, h)) := fun v5 h => hk9 (v5, h)
  show Ev lI G yX4_fewest cX4_fewest 6 (some .int) 12 h0 48 [(0, .ref (gB G + v0)), (1, .ref (gB G + v1)), (2, .ref (gB G + v2)), (3, .int v3), (4, .int v4), (5, .int v5)] [] h (bX4_fewest_48 fu v0 v1 v2 v3 v4 k48 (v5, h))
  unfold bX4_fewest_48
  refine ev_step (st_iload (pc := 48) (j := 5) dX4_fewest_48 rfl) ?_
  refine ev_step (st_iconst (pc := 50) dX4_fewest_50 ni_4) ?_
  refine ev_br (br_icmp_gt (tgt := 83) (pc := 51) dX4_fewest_51 (by decide)) (fun _ => ?_) (fun _ => ?_)
  · refine ev_step (st_bipush (pc := 83) dX4_fewest_83 nb_m2) ?_
    exact ev_iret (pc := 85) dX4_fewest_85
  · refine ev_step (st_aload_n (pc := 54) (j := 1) dX4_fewest_54 rfl rfl) ?_
    refine ev_step (st_iload (pc := 55) (j := 4) dX4_fewest_55 rfl) ?_
    refine ev_step (st_aload_n (pc := 57) (j := 0) dX4_fewest_57 rfl rfl) ?_
    refine ev_getR (pc := 58) k_X4_11 rfl dX4_fewest_58 (fun a1 => ?_)
    refine ev_step (st_aload_n (pc := 61) (j := 0) dX4_fewest_61 rfl rfl) ?_
    refine ev_getR (pc := 62) k_X4_17 rfl dX4_fewest_62 (fun a2 => ?_)
    refine ev_step (st_iconst (pc := 65) dX4_fewest_65 ni_0) ?_
    refine ev_step (st_iload (pc := 66) (j := 5) dX4_fewest_66 rfl) ?_
    refine ev_callI (iv_S (As := [.ref (gB G + v1), .int v4, .ref (gB G + a1), .ref (gB G + a2), .int ((0 : Int32)), .int v5]) (st := []) (pc := 68) m_X4_reaches l_X4_36 z_X4_reaches rfl (Nat.le_of_ble_eq_true rfl) rfl dX4_fewest_68) (tX4_reaches G fu v1 v4 a1 a2 ((0 : Int32)) v5 h) (by decide) (by decide) (fun x4 h3 => ?_)
    refine ev_br (br_if_eq (tgt := 77) (pc := 71) dX4_fewest_71 (by decide)) (fun _ => ?_) (fun _ => ?_)
    · refine ev_step (st_inc (pc := 77) (j := 5) (ls' := [(5, .int (v5 + (1 : Int32))), (0, .ref (gB G + v0)), (1, .ref (gB G + v1)), (2, .ref (gB G + v2)), (3, .int v3), (4, .int v4)]) dX4_fewest_77 rfl ni_1 (by decide) rfl) ?_
      refine ev_step (st_goto (pc := 80) (tgt := 48) dX4_fewest_80 (by decide)) ?_
      refine ev_sub (ls' := [(0, .ref (gB G + v0)), (1, .ref (gB G + v1)), (2, .ref (gB G + v2)), (3, .int v3), (4, .int v4), (5, .int (v5 + (1 : Int32)))]) [1, 2, 3, 4, 5, 0] rfl ?_
      exact hk48 (v5 + (1 : Int32)) h3
    · refine ev_step (st_iload (pc := 74) (j := 5) dX4_fewest_74 rfl) ?_
      exact ev_iret (pc := 76) dX4_fewest_76
set_option maxRecDepth 100000 in
set_option maxHeartbeats 4000000 in
theorem tX4_fewest_19 (G : gx) (fu : Nat) (h0 : mh) (v0 : Nat) (v1 : Nat) (v2 : Nat) (v3 : Int32) (s0 : Int32) (h : mh) : Ev lI G yX4_fewest cX4_fewest 6 (some .int) 12 h0 19 [(0, .ref (gB G + v0)), (1, .ref (gB G + v1)), (2, .ref (gB G + v2)), (3, .int v3)] [.int s0] h (fX4_fewest_19 fu v0 v1 v2 v3 s0 h) := by
  unfold fX4_fewest_19
  refine ev_step (st_istore (pc := 19) (ls' := [(4, .int s0), (0, .ref (gB G + v0)), (1, .ref (gB G + v1)), (2, .ref (gB G + v2)), (3, .int v3)]) dX4_fewest_19 (by decide) rfl) ?_
  refine ev_step (st_aload_n (pc := 21) (j := 2) dX4_fewest_21 rfl rfl) ?_
  refine ev_step (st_aload_n (pc := 22) (j := 3) dX4_fewest_22 rfl rfl) ?_
  refine ev_ck (fun ha hS => ?_)
  refine ev_callI (iv_V (As := [.ref (gB G + v2)]) (st := []) (pc := 23) rfl m_X6_hopelessIn l_X4_28 i_X6_hopelessIn e_X6_hopelessIn ha hS rfl (Nat.le_of_ble_eq_true rfl) rfl dX4_fewest_23) (tX6_hopelessIn G fu v1 v2 h) (by decide) (by decide) (fun x2 h1 => ?_)
  refine ev_step (st_iload (pc := 26) (j := 0) dX4_fewest_26 rfl) ?_
  refine ev_step (st_iand (pc := 28) dX4_fewest_28) ?_
  refine ev_br (br_if_eq (tgt := 35) (pc := 29) dX4_fewest_29 (by decide)) (fun _ => ?_) (fun _ => ?_)
  · refine ev_step (st_aload_n (pc := 35) (j := 1) dX4_fewest_35 rfl rfl) ?_
    refine ev_getR (pc := 36) k_X4_11 rfl dX4_fewest_36 (fun a3 => ?_)
    refine ev_step (st_iconst (pc := 39) dX4_fewest_39 ni_0) ?_
    refine ev_ldq (pc := 40) dX4_fewest_40 (fun a4 => ?_)
    refine ev_step (st_aload_n (pc := 41) (j := 3) dX4_fewest_41 rfl rfl) ?_
    refine ev_ck (fun ha hS => ?_)
    refine ev_callV (iv_V (As := [.ref (gB G + v2)]) (st := []) (pc := 42) rfl m_X3_become l_X4_32 i_X3_become e_X3_become ha hS rfl (Nat.le_of_ble_eq_true rfl) rfl dX4_fewest_42) (tX3_become G fu a4 v2 h1) (by decide) (by decide) (fun h5 => ?_)
    refine ev_step (st_iconst (pc := 45) dX4_fewest_45 ni_0) ?_
    refine ev_step (st_istore (pc := 46) (ls' := [(5, .int ((0 : Int32))), (4, .int s0), (0, .ref (gB G + v0)), (1, .ref (gB G + v1)), (2, .ref (gB G + v2)), (3, .int v3)]) dX4_fewest_46 (by decide) rfl) ?_
    refine ev_sub (ls' := [(0, .ref (gB G + v0)), (1, .ref (gB G + v1)), (2, .ref (gB G + v2)), (3, .int v3), (4, .int s0), (5, .int ((0 : Int32)))]) [2, 3, 4, 5, 1, 0] rfl ?_
    exact tX4_fewest_48 G fu h0 v0 v1 v2 v3 s0 fu ((0 : Int32)) h5
  · refine ev_step (st_bipush (pc := 32) dX4_fewest_32 nb_m2) ?_
    exact ev_iret (pc := 34) dX4_fewest_34
set_option maxRecDepth 100000 in
set_option maxHeartbeats 4000000 in
theorem tX4_fewest (G : gx) (fu : Nat) (v0 : Nat) (v1 : Nat) (v2 : Nat) (v3 : Int32) (h : mh) : Ct lI G yX4_fewest cX4_fewest 6 (some .int) 12 [.ref (gB G + v0), .ref (gB G + v1), .ref (gB G + v2), .int v3] h (fX4_fewest fu v0 v1 v2 v3 h) := by
  refine ct_ls (ls := [(0, .ref (gB G + v0)), (1, .ref (gB G + v1)), (2, .ref (gB G + v2)), (3, .int v3)]) rfl (by decide) (Nat.le_of_ble_eq_true rfl) ?_
  unfold fX4_fewest
  refine ev_step (st_iload_n (pc := 0) (j := 3) dX4_fewest_0 rfl rfl) ?_
  refine ev_step (st_iconst (pc := 1) dX4_fewest_1 ni_m1) ?_
  refine ev_br (br_icmp_ne (tgt := 16) (pc := 2) dX4_fewest_2 (by decide)) (fun _ => ?_) (fun _ => ?_)
  · refine ev_step (st_iconst (pc := 5) dX4_fewest_5 ni_1) ?_
    refine ev_step (st_aload_n (pc := 6) (j := 1) dX4_fewest_6 rfl rfl) ?_
    refine ev_getI (pc := 7) k_X4_22 rfl dX4_fewest_7 (fun x1 => ?_)
    refine ev_step (st_ishl (pc := 10) dX4_fewest_10) ?_
    refine ev_step (st_iconst (pc := 11) dX4_fewest_11 ni_1) ?_
    refine ev_step (st_isub (pc := 12) dX4_fewest_12) ?_
    refine ev_step (st_goto (pc := 13) (tgt := 19) dX4_fewest_13 (by decide)) ?_
    refine ev_sub (ls' := [(0, .ref (gB G + v0)), (1, .ref (gB G + v1)), (2, .ref (gB G + v2)), (3, .int v3)]) [0, 1, 2, 3] rfl ?_
    exact tX4_fewest_19 G fu h v0 v1 v2 v3 ((((1 : Int32)) <<< (x1 &&& 31)) - ((1 : Int32))) h
  · refine ev_step (st_iconst (pc := 16) dX4_fewest_16 ni_1) ?_
    refine ev_step (st_iload_n (pc := 17) (j := 3) dX4_fewest_17 rfl rfl) ?_
    refine ev_step (st_ishl (pc := 18) dX4_fewest_18) ?_
    refine ev_sub (ls' := [(0, .ref (gB G + v0)), (1, .ref (gB G + v1)), (2, .ref (gB G + v2)), (3, .int v3)]) [0, 1, 2, 3] rfl ?_
    exact tX4_fewest_19 G fu h v0 v1 v2 v3 (((1 : Int32)) <<< (v3 &&& 31)) h
set_option maxRecDepth 100000 in
set_option maxHeartbeats 4000000 in
theorem tX5_take (G : gx) (fu : Nat) (v0 : Nat) (v1 : Nat) (h : mh) : Ct lI G yX5_take cX5_take 3 (some .int) 6 [.ref (gB G + v0), .ref (gB G + v1)] h (fX5_take fu v0 v1 h) := by
  refine ct_ls (ls := [(0, .ref (gB G + v0)), (1, .ref (gB G + v1))]) rfl (by decide) (Nat.le_of_ble_eq_true rfl) ?_
  unfold fX5_take
  refine ev_step (st_aload_n (pc := 0) (j := 0) dX5_take_0 rfl rfl) ?_
  refine ev_getI (pc := 1) k_X5_25 rfl dX5_take_1 (fun x1 => ?_)
  refine ev_step (st_iconst (pc := 4) dX5_take_4 ni_m1) ?_
  refine ev_br (br_icmp_ne (tgt := 14) (pc := 5) dX5_take_5 (by decide)) (fun _ => ?_) (fun _ => ?_)
  · refine ev_step (st_aload_n (pc := 8) (j := 0) dX5_take_8 rfl rfl) ?_
    refine ev_step (st_aload_n (pc := 9) (j := 1) dX5_take_9 rfl rfl) ?_
    refine ev_ck (fun ha hS => ?_)
    refine ev_callI (iv_V (As := [.ref (gB G + v1)]) (st := []) (pc := 10) rfl m_X5_openTell l_X5_63 i_X5_openTell e_X5_openTell ha hS rfl (Nat.le_of_ble_eq_true rfl) rfl dX5_take_10) (tX5_openTell G fu v0 v1 h) (by decide) (by decide) (fun x3 h2 => ?_)
    exact ev_iret (pc := 13) dX5_take_13
  · refine ev_step (st_aload_n (pc := 14) (j := 0) dX5_take_14 rfl rfl) ?_
    refine ev_getI (pc := 15) k_X5_25 rfl dX5_take_15 (fun x4 => ?_)
    refine ev_callI (iv_S (As := [.int x4]) (st := []) (pc := 18) m_X5_isLaw l_X5_66 z_X5_isLaw rfl (Nat.le_of_ble_eq_true rfl) rfl dX5_take_18) (tX5_isLaw G fu x4 h) (by decide) (by decide) (fun x6 h5 => ?_)
    refine ev_br (br_if_eq (tgt := 57) (pc := 21) dX5_take_21 (by decide)) (fun _ => ?_) (fun _ => ?_)
    · refine ev_step (st_aload_n (pc := 57) (j := 0) dX5_take_57 rfl rfl) ?_
      refine ev_step (st_aload_n (pc := 58) (j := 1) dX5_take_58 rfl rfl) ?_
      refine ev_ck (fun ha hS => ?_)
      refine ev_callI (iv_V (As := [.ref (gB G + v1)]) (st := []) (pc := 59) rfl m_X5_takeInForm l_X5_81 i_X5_takeInForm e_X5_takeInForm ha hS rfl (Nat.le_of_ble_eq_true rfl) rfl dX5_take_59) (tX5_takeInForm G fu v0 v1 h5) (by decide) (by decide) (fun x8 h7 => ?_)
      exact ev_iret (pc := 62) dX5_take_62
    · refine ev_step (st_aload_n (pc := 24) (j := 0) dX5_take_24 rfl rfl) ?_
      refine ev_getR (pc := 25) k_X5_21 rfl dX5_take_25 (fun a9 => ?_)
      refine ev_step (st_aload_n (pc := 28) (j := 0) dX5_take_28 rfl rfl) ?_
      refine ev_getR (pc := 29) k_X5_12 rfl dX5_take_29 (fun a10 => ?_)
      refine ev_step (st_aload_n (pc := 32) (j := 1) dX5_take_32 rfl rfl) ?_
      refine ev_getR (pc := 33) k_X5_70 rfl dX5_take_33 (fun a11 => ?_)
      refine ev_ck (fun ha hS => ?_)
      refine ev_callI (iv_V (As := [.ref (gB G + a10), .ref (gB G + a11)]) (st := []) (pc := 36) rfl m_X0_take l_X5_74 i_X0_take e_X0_take ha hS rfl (Nat.le_of_ble_eq_true rfl) rfl dX5_take_36) (tX0_take G fu a9 a10 a11 h5) (by decide) (by decide) (fun x13 h12 => ?_)
      refine ev_step (st_istore_n (pc := 39) (ls' := [(2, .int x13), (0, .ref (gB G + v0)), (1, .ref (gB G + v1))]) dX5_take_39 rfl (by decide) rfl) ?_
      refine ev_step (st_aload_n (pc := 40) (j := 1) dX5_take_40 rfl rfl) ?_
      refine ev_getR (pc := 41) k_X5_21 rfl dX5_take_41 (fun a14 => ?_)
      refine ev_getI (pc := 44) k_X5_77 rfl dX5_take_44 (fun x15 => ?_)
      refine ev_br (br_if_eq (tgt := 55) (pc := 47) dX5_take_47 (by decide)) (fun _ => ?_) (fun _ => ?_)
      · refine ev_step (st_iload_n (pc := 55) (j := 0) dX5_take_55 rfl rfl) ?_
        exact ev_iret (pc := 56) dX5_take_56
      · refine ev_step (st_aload_n (pc := 50) (j := 1) dX5_take_50 rfl rfl) ?_
        refine ev_step (st_iconst (pc := 51) dX5_take_51 ni_m1) ?_
        refine ev_putI (pc := 52) (p_X5_25 _ rfl) rfl dX5_take_52 (fun h16 => ?_)
        refine ev_step (st_iload_n (pc := 55) (j := 0) dX5_take_55 rfl rfl) ?_
        exact ev_iret (pc := 56) dX5_take_56
set_option maxRecDepth 100000 in
set_option maxHeartbeats 4000000 in
theorem tX7_init (G : gx) (fu : Nat) (v0 : Nat) (h : mh) : Ct lV G yX7_init cX7_init 1 (none) 6 [.ref (gB G + v0)] h (fX7_init fu v0 h) := by
  refine ct_ls (ls := [(0, .ref (gB G + v0))]) rfl (by decide) (Nat.le_of_ble_eq_true rfl) ?_
  unfold fX7_init
  refine ev_step (st_aload_n (pc := 0) (j := 0) dX7_init_0 rfl rfl) ?_
  refine ev_step (st_objinit (pc := 1) o_X7_5 (by decide) (Nat.le_of_ble_eq_true rfl) dX7_init_1) ?_
  refine ev_step (st_aload_n (pc := 4) (j := 0) dX7_init_4 rfl rfl) ?_
  refine ev_callR (iv_S (As := []) (st := [.ref (gB G + v0)]) (pc := 5) m_X7_wordCodes l_X7_11 z_X7_wordCodes rfl (Nat.le_of_ble_eq_true rfl) rfl dX7_init_5) (tX7_wordCodes G fu h) (by decide) (by decide) (fun a2 h1 => ?_)
  refine ev_putR (pc := 8) (p_X7_15 _ rfl rfl) (Or.inr ⟨_, rfl⟩) dX7_init_8 (fun h3 => ?_)
  refine ev_step (st_aload_n (pc := 11) (j := 0) dX7_init_11 rfl rfl) ?_
  refine ev_step (st_iconst (pc := 12) dX7_init_12 ni_0) ?_
  refine ev_putI (pc := 13) (p_X7_19 _ rfl) rfl dX7_init_13 (fun h4 => ?_)
  refine ev_step (st_aload_n (pc := 16) (j := 0) dX7_init_16 rfl rfl) ?_
  refine ev_step (st_iconst (pc := 17) dX7_init_17 ni_0) ?_
  refine ev_putI (pc := 18) (p_X7_23 _ rfl) rfl dX7_init_18 (fun h5 => ?_)
  refine ev_step (st_aload_n (pc := 21) (j := 0) dX7_init_21 rfl rfl) ?_
  refine ev_step (st_iconst (pc := 22) dX7_init_22 ni_m1) ?_
  refine ev_putI (pc := 23) (p_X7_26 _ rfl) rfl dX7_init_23 (fun h6 => ?_)
  refine ev_step (st_aload_n (pc := 26) (j := 0) dX7_init_26 rfl rfl) ?_
  refine ev_step (st_iconst (pc := 27) dX7_init_27 ni_0) ?_
  refine ev_putI (pc := 28) (p_X7_29 _ rfl) rfl dX7_init_28 (fun h7 => ?_)
  refine ev_step (st_aload_n (pc := 31) (j := 0) dX7_init_31 rfl rfl) ?_
  refine ev_step (st_lconst (pc := 32) (v := 0) dX7_init_32 rfl) ?_
  refine ev_putL (pc := 33) (p_X7_32 _ rfl) rfl dX7_init_33 (fun h8 => ?_)
  exact ev_vret (pc := 36) dX7_init_36
set_option maxRecDepth 100000 in
set_option maxHeartbeats 4000000 in
theorem tX9_plan_26 (G : gx) (fu : Nat) (h0 : mh) (v0 : Nat) (v1 : Int32) (v2 : Int32) (v3 : Int32) (h : mh) : Ev lI G yX9_plan cX9_plan 5 (some .int) 13 h0 26 [(0, .ref (gB G + v0)), (1, .int v1), (2, .int v2), (3, .int v3)] [] h (fX9_plan_26 fu v0 v1 v2 v3 h) := by
  unfold fX9_plan_26
  refine ev_step (st_iload_n (pc := 26) (j := 2) dX9_plan_26 rfl rfl) ?_
  refine ev_step (st_iconst (pc := 27) dX9_plan_27 ni_m1) ?_
  refine ev_br (br_icmp_lt (tgt := 36) (pc := 28) dX9_plan_28 (by decide)) (fun _ => ?_) (fun _ => ?_)
  · refine ev_step (st_iconst (pc := 36) dX9_plan_36 ni_m1) ?_
    exact ev_iret (pc := 37) dX9_plan_37
  · refine ev_step (st_iload_n (pc := 31) (j := 2) dX9_plan_31 rfl rfl) ?_
    refine ev_step (st_iconst (pc := 32) dX9_plan_32 ni_4) ?_
    refine ev_br (br_icmp_lt (tgt := 38) (pc := 33) dX9_plan_33 (by decide)) (fun _ => ?_) (fun _ => ?_)
    · refine ev_step (st_aload_n (pc := 38) (j := 0) dX9_plan_38 rfl rfl) ?_
      refine ev_getR (pc := 39) k_X9_50 rfl dX9_plan_39 (fun a1 => ?_)
      refine ev_step (st_aload_n (pc := 42) (j := 0) dX9_plan_42 rfl rfl) ?_
      refine ev_getR (pc := 43) k_X9_30 rfl dX9_plan_43 (fun a2 => ?_)
      refine ev_step (st_aload_n (pc := 46) (j := 0) dX9_plan_46 rfl rfl) ?_
      refine ev_getR (pc := 47) k_X9_40 rfl dX9_plan_47 (fun a3 => ?_)
      refine ev_step (st_iload_n (pc := 50) (j := 1) dX9_plan_50 rfl rfl) ?_
      refine ev_ck (fun ha hS => ?_)
      refine ev_callI (iv_V (As := [.ref (gB G + a2), .ref (gB G + a3), .int v1]) (st := []) (pc := 51) rfl m_X4_fewest l_X9_258 i_X4_fewest e_X4_fewest ha hS rfl (Nat.le_of_ble_eq_true rfl) rfl dX9_plan_51) (tX4_fewest G fu a1 a2 a3 v1 h) (by decide) (by decide) (fun x5 h4 => ?_)
      refine ev_step (st_istore (pc := 54) (ls' := [(4, .int x5), (0, .ref (gB G + v0)), (1, .int v1), (2, .int v2), (3, .int v3)]) dX9_plan_54 (by decide) rfl) ?_
      refine ev_step (st_iload (pc := 56) (j := 0) dX9_plan_56 rfl) ?_
      refine ev_step (st_bipush (pc := 58) dX9_plan_58 nb_m2) ?_
      refine ev_br (br_icmp_eq (tgt := 68) (pc := 60) dX9_plan_60 (by decide)) (fun _ => ?_) (fun _ => ?_)
      · refine ev_step (st_iload (pc := 68) (j := 0) dX9_plan_68 rfl) ?_
        exact ev_iret (pc := 70) dX9_plan_70
      · refine ev_step (st_iload_n (pc := 63) (j := 3) dX9_plan_63 rfl rfl) ?_
        refine ev_step (st_iconst (pc := 64) dX9_plan_64 ni_m1) ?_
        refine ev_br (br_icmp_ne (tgt := 71) (pc := 65) dX9_plan_65 (by decide)) (fun _ => ?_) (fun _ => ?_)
        · refine ev_step (st_iload (pc := 68) (j := 0) dX9_plan_68 rfl) ?_
          exact ev_iret (pc := 70) dX9_plan_70
        · refine ev_step (st_iload_n (pc := 71) (j := 3) dX9_plan_71 rfl rfl) ?_
          refine ev_step (st_iload (pc := 72) (j := 0) dX9_plan_72 rfl) ?_
          refine ev_br (br_icmp_ge (tgt := 89) (pc := 74) dX9_plan_74 (by decide)) (fun _ => ?_) (fun _ => ?_)
          · refine ev_step (st_iconst (pc := 89) dX9_plan_89 ni_m1) ?_
            exact ev_iret (pc := 90) dX9_plan_90
          · refine ev_step (st_aload_n (pc := 77) (j := 1) dX9_plan_77 rfl rfl) ?_
            refine ev_getR (pc := 78) k_X9_50 rfl dX9_plan_78 (fun a6 => ?_)
            refine ev_getR (pc := 81) k_X9_262 rfl dX9_plan_81 (fun a7 => ?_)
            refine ev_step (st_iload_n (pc := 84) (j := 3) dX9_plan_84 rfl rfl) ?_
            refine ev_ldi (pc := 85) dX9_plan_85 (fun x8 => ?_)
            refine ev_step (st_goto (pc := 86) (tgt := 90) dX9_plan_86 (by decide)) ?_
            exact ev_iret (pc := 90) dX9_plan_90
    · refine ev_step (st_iconst (pc := 36) dX9_plan_36 ni_m1) ?_
      exact ev_iret (pc := 37) dX9_plan_37
set_option maxRecDepth 100000 in
set_option maxHeartbeats 4000000 in
theorem tX9_plan_10 (G : gx) (fu : Nat) (h0 : mh) (v0 : Nat) (v1 : Int32) (v2 : Int32) (s0 : Int32) (h : mh) : Ev lI G yX9_plan cX9_plan 5 (some .int) 13 h0 10 [(0, .ref (gB G + v0)), (1, .int v1), (2, .int v2)] [.int s0] h (fX9_plan_10 fu v0 v1 v2 s0 h) := by
  unfold fX9_plan_10
  refine ev_step (st_istore_n (pc := 10) (ls' := [(3, .int s0), (0, .ref (gB G + v0)), (1, .int v1), (2, .int v2)]) dX9_plan_10 rfl (by decide) rfl) ?_
  refine ev_step (st_iload_n (pc := 11) (j := 0) dX9_plan_11 rfl rfl) ?_
  refine ev_br (br_if_ne (tgt := 26) (pc := 12) dX9_plan_12 (by decide)) (fun _ => ?_) (fun _ => ?_)
  · refine ev_step (st_aload_n (pc := 15) (j := 1) dX9_plan_15 rfl rfl) ?_
    refine ev_getR (pc := 16) k_X9_30 rfl dX9_plan_16 (fun a1 => ?_)
    refine ev_step (st_iload_n (pc := 19) (j := 2) dX9_plan_19 rfl rfl) ?_
    refine ev_ck (fun ha hS => ?_)
    refine ev_callI (iv_V (As := [.int v1]) (st := []) (pc := 20) rfl m_X6_hasListener l_X9_112 i_X6_hasListener e_X6_hasListener ha hS rfl (Nat.le_of_ble_eq_true rfl) rfl dX9_plan_20) (tX6_hasListener G fu a1 v1 h) (by decide) (by decide) (fun x3 h2 => ?_)
    refine ev_br (br_if_eq (tgt := 36) (pc := 23) dX9_plan_23 (by decide)) (fun _ => ?_) (fun _ => ?_)
    · refine ev_step (st_iconst (pc := 36) dX9_plan_36 ni_m1) ?_
      exact ev_iret (pc := 37) dX9_plan_37
    · refine ev_sub (ls' := [(0, .ref (gB G + v0)), (1, .int v1), (2, .int v2), (3, .int s0)]) [1, 2, 3, 0] rfl ?_
      exact tX9_plan_26 G fu h0 v0 v1 v2 s0 h2
  · refine ev_sub (ls' := [(0, .ref (gB G + v0)), (1, .int v1), (2, .int v2), (3, .int s0)]) [1, 2, 3, 0] rfl ?_
    exact tX9_plan_26 G fu h0 v0 v1 v2 s0 h
set_option maxRecDepth 100000 in
set_option maxHeartbeats 4000000 in
theorem tX9_plan (G : gx) (fu : Nat) (v0 : Nat) (v1 : Int32) (v2 : Int32) (h : mh) : Ct lI G yX9_plan cX9_plan 5 (some .int) 13 [.ref (gB G + v0), .int v1, .int v2] h (fX9_plan fu v0 v1 v2 h) := by
  refine ct_ls (ls := [(0, .ref (gB G + v0)), (1, .int v1), (2, .int v2)]) rfl (by decide) (Nat.le_of_ble_eq_true rfl) ?_
  unfold fX9_plan
  refine ev_step (st_iload_n (pc := 0) (j := 1) dX9_plan_0 rfl rfl) ?_
  refine ev_step (st_iconst (pc := 1) dX9_plan_1 ni_m1) ?_
  refine ev_br (br_icmp_ne (tgt := 9) (pc := 2) dX9_plan_2 (by decide)) (fun _ => ?_) (fun _ => ?_)
  · refine ev_step (st_iconst (pc := 5) dX9_plan_5 ni_1) ?_
    refine ev_step (st_goto (pc := 6) (tgt := 10) dX9_plan_6 (by decide)) ?_
    refine ev_sub (ls' := [(0, .ref (gB G + v0)), (1, .int v1), (2, .int v2)]) [0, 1, 2] rfl ?_
    exact tX9_plan_10 G fu h v0 v1 v2 ((1 : Int32)) h
  · refine ev_step (st_iconst (pc := 9) dX9_plan_9 ni_0) ?_
    refine ev_sub (ls' := [(0, .ref (gB G + v0)), (1, .int v1), (2, .int v2)]) [0, 1, 2] rfl ?_
    exact tX9_plan_10 G fu h v0 v1 v2 ((0 : Int32)) h
set_option maxRecDepth 100000 in
set_option maxHeartbeats 4000000 in
theorem tX5_init (G : gx) (fu : Nat) (v0 : Nat) (h : mh) : Ct lV G yX5_init cX5_init 1 (none) 7 [.ref (gB G + v0)] h (fX5_init fu v0 h) := by
  refine ct_ls (ls := [(0, .ref (gB G + v0))]) rfl (by decide) (Nat.le_of_ble_eq_true rfl) ?_
  unfold fX5_init
  refine ev_step (st_aload_n (pc := 0) (j := 0) dX5_init_0 rfl rfl) ?_
  refine ev_step (st_objinit (pc := 1) o_X5_3 (by decide) (Nat.le_of_ble_eq_true rfl) dX5_init_1) ?_
  refine ev_step (st_aload_n (pc := 4) (j := 0) dX5_init_4 rfl rfl) ?_
  refine ev_new (pc := 5) n_X5_9 dX5_init_5 (fun a1 h2 => ?_)
  refine ev_step (st_dup (pc := 8) dX5_init_8 rfl) ?_
  refine ev_callV (iv_I (As := []) (st := [.ref (gB G + a1), .ref (gB G + v0)]) (pc := 9) m_X7_init l_X5_11 i_X7_init rfl rfl (Nat.le_of_ble_eq_true rfl) rfl dX5_init_9) (tX7_init G fu a1 h2) (by decide) (by decide) (fun h3 => ?_)
  refine ev_putR (pc := 12) (p_X5_12 _ rfl rfl) (Or.inl ⟨_, rfl⟩) dX5_init_12 (fun h4 => ?_)
  refine ev_step (st_aload_n (pc := 15) (j := 0) dX5_init_15 rfl rfl) ?_
  refine ev_new (pc := 16) n_X5_18 dX5_init_16 (fun a5 h6 => ?_)
  refine ev_step (st_dup (pc := 19) dX5_init_19 rfl) ?_
  refine ev_callV (iv_I (As := []) (st := [.ref (gB G + a5), .ref (gB G + v0)]) (pc := 20) m_X0_init l_X5_20 i_X0_init rfl rfl (Nat.le_of_ble_eq_true rfl) rfl dX5_init_20) (tX0_init G fu a5 h6) (by decide) (by decide) (fun h7 => ?_)
  refine ev_putR (pc := 23) (p_X5_21 _ rfl rfl) (Or.inl ⟨_, rfl⟩) dX5_init_23 (fun h8 => ?_)
  refine ev_step (st_aload_n (pc := 26) (j := 0) dX5_init_26 rfl rfl) ?_
  refine ev_step (st_iconst (pc := 27) dX5_init_27 ni_m1) ?_
  refine ev_putI (pc := 28) (p_X5_25 _ rfl) rfl dX5_init_28 (fun h9 => ?_)
  refine ev_step (st_aload_n (pc := 31) (j := 0) dX5_init_31 rfl rfl) ?_
  refine ev_step (st_iconst (pc := 32) dX5_init_32 ni_0) ?_
  refine ev_putI (pc := 33) (p_X5_29 _ rfl) rfl dX5_init_33 (fun h10 => ?_)
  refine ev_step (st_aload_n (pc := 36) (j := 0) dX5_init_36 rfl rfl) ?_
  refine ev_step (st_iconst (pc := 37) dX5_init_37 ni_m1) ?_
  refine ev_putI (pc := 38) (p_X5_32 _ rfl) rfl dX5_init_38 (fun h11 => ?_)
  refine ev_step (st_aload_n (pc := 41) (j := 0) dX5_init_41 rfl rfl) ?_
  refine ev_step (st_iconst (pc := 42) dX5_init_42 ni_0) ?_
  refine ev_putI (pc := 43) (p_X5_35 _ rfl) rfl dX5_init_43 (fun h12 => ?_)
  refine ev_step (st_aload_n (pc := 46) (j := 0) dX5_init_46 rfl rfl) ?_
  refine ev_step (st_iconst (pc := 47) dX5_init_47 ni_m1) ?_
  refine ev_putI (pc := 48) (p_X5_38 _ rfl) rfl dX5_init_48 (fun h13 => ?_)
  refine ev_step (st_aload_n (pc := 51) (j := 0) dX5_init_51 rfl rfl) ?_
  refine ev_step (st_iconst (pc := 52) dX5_init_52 ni_m1) ?_
  refine ev_putI (pc := 53) (p_X5_41 _ rfl) rfl dX5_init_53 (fun h14 => ?_)
  exact ev_vret (pc := 56) dX5_init_56
set_option maxRecDepth 100000 in
set_option maxHeartbeats 4000000 in
theorem tX5_readInto_75 (G : gx) (fu : Nat) (h0 : mh) (v0 : Nat) (v1 : Nat) (v2 : Nat) (v3 : Int32) (v4 : Int32) (v5 : Int32) (h : mh) : Ev lI G yX5_readInto cX5_readInto 6 (some .int) 7 h0 75 [(0, .ref (gB G + v0)), (1, .ref (gB G + v1)), (2, .ref (gB G + v2)), (3, .int v3), (4, .int v4), (5, .int v5)] [] h (fX5_readInto_75 fu v0 v1 v2 v3 v4 v5 h) := by
  unfold fX5_readInto_75
  refine ev_step (st_aload_n (pc := 75) (j := 0) dX5_readInto_75 rfl rfl) ?_
  refine ev_step (st_aload_n (pc := 76) (j := 0) dX5_readInto_76 rfl rfl) ?_
  refine ev_getR (pc := 77) k_X5_12 rfl dX5_readInto_77 (fun a1 => ?_)
  refine ev_getI (pc := 80) k_X5_60 rfl dX5_readInto_80 (fun x2 => ?_)
  refine ev_putI (pc := 83) (p_X5_41 _ rfl) rfl dX5_readInto_83 (fun h3 => ?_)
  refine ev_step (st_iload (pc := 86) (j := 5) dX5_readInto_86 rfl) ?_
  exact ev_iret (pc := 88) dX5_readInto_88
set_option maxRecDepth 100000 in
set_option maxHeartbeats 4000000 in
theorem tX5_readInto_70 (G : gx) (fu : Nat) (h0 : mh) (v0 : Nat) (v1 : Nat) (v2 : Nat) (v3 : Int32) (v4 : Int32) (v5 : Int32) (k29 : Int32 × mh → Option (Int32 × mh)) (hk29 : ∀ (v4 : Int32) (h : mh), Ev lI G yX5_readInto cX5_readInto 6 (some .int) 7 h0 29 [(0, .ref (gB G + v0)), (1, .ref (gB G + v1)), (2, .ref (gB G + v2)), (3, .int v3), (4, .int v4)] [] h (k29 (v4, h))) (h : mh) : Ev lI G yX5_readInto cX5_readInto 6 (some .int) 7 h0 70 [(0, .ref (gB G + v0)), (1, .ref (gB G + v1)), (2, .ref (gB G + v2)), (3, .int v3), (4, .int v4), (5, .int v5)] [] h (fX5_readInto_70 fu k29 v0 v1 v2 v3 v4 v5 h) := by
  unfold fX5_readInto_70
  refine ev_step (st_iload (pc := 70) (j := 5) dX5_readInto_70 rfl) ?_
  refine ev_br (br_if_eq (tgt := 89) (pc := 72) dX5_readInto_72 (by decide)) (fun _ => ?_) (fun _ => ?_)
  · refine ev_step (st_inc (pc := 89) (j := 4) (ls' := [(4, .int (v4 + (1 : Int32))), (0, .ref (gB G + v0)), (1, .ref (gB G + v1)), (2, .ref (gB G + v2)), (3, .int v3), (5, .int v5)]) dX5_readInto_89 rfl ni_1 (by decide) rfl) ?_
    refine ev_step (st_goto (pc := 92) (tgt := 29) dX5_readInto_92 (by decide)) ?_
    refine ev_sub (ls' := [(0, .ref (gB G + v0)), (1, .ref (gB G + v1)), (2, .ref (gB G + v2)), (3, .int v3), (4, .int (v4 + (1 : Int32)))]) [1, 2, 3, 4, 0] rfl ?_
    exact hk29 (v4 + (1 : Int32)) h
  · refine ev_sub (ls' := [(0, .ref (gB G + v0)), (1, .ref (gB G + v1)), (2, .ref (gB G + v2)), (3, .int v3), (4, .int v4), (5, .int v5)]) [0, 1, 2, 3, 4, 5] rfl ?_
    exact tX5_readInto_75 G fu h0 v0 v1 v2 v3 v4 v5 h
set_option maxRecDepth 100000 in
set_option maxHeartbeats 4000000 in
theorem tX5_readInto_124 (G : gx) (fu : Nat) (h0 : mh) (v0 : Nat) (v1 : Nat) (v2 : Nat) (v3 : Int32) (v4 : Int32) (s0 : Nat) (s1 : Int32) (h : mh) : Ev lI G yX5_readInto cX5_readInto 6 (some .int) 7 h0 124 [(0, .ref (gB G + v0)), (1, .ref (gB G + v1)), (2, .ref (gB G + v2)), (3, .int v3), (4, .int v4)] [.int s1, .ref (gB G + s0)] h (fX5_readInto_124 fu v0 v1 v2 v3 v4 s0 s1 h) := by
  unfold fX5_readInto_124
  refine ev_putI (pc := 124) (p_X5_41 _ rfl) rfl dX5_readInto_124 (fun h1 => ?_)
  refine ev_step (st_iload (pc := 127) (j := 4) dX5_readInto_127 rfl) ?_
  refine ev_br (br_if_eq (tgt := 136) (pc := 129) dX5_readInto_129 (by decide)) (fun _ => ?_) (fun _ => ?_)
  · refine ev_step (st_aload_n (pc := 136) (j := 0) dX5_readInto_136 rfl rfl) ?_
    refine ev_getI (pc := 137) k_X5_35 rfl dX5_readInto_137 (fun x2 => ?_)
    exact ev_iret (pc := 140) dX5_readInto_140
  · refine ev_step (st_iconst (pc := 132) dX5_readInto_132 ni_1) ?_
    refine ev_step (st_goto (pc := 133) (tgt := 140) dX5_readInto_133 (by decide)) ?_
    exact ev_iret (pc := 140) dX5_readInto_140
set_option maxRecDepth 100000 in
set_option maxHeartbeats 4000000 in
theorem tX5_readInto_108 (G : gx) (fu : Nat) (h0 : mh) (v0 : Nat) (v1 : Nat) (v2 : Nat) (v3 : Int32) (v4 : Int32) (s0 : Int32) (h : mh) : Ev lI G yX5_readInto cX5_readInto 6 (some .int) 7 h0 108 [(0, .ref (gB G + v0)), (1, .ref (gB G + v1)), (2, .ref (gB G + v2)), (3, .int v3), (4, .int v4)] [.int s0] h (fX5_readInto_108 fu v0 v1 v2 v3 v4 s0 h) := by
  unfold fX5_readInto_108
  refine ev_step (st_istore (pc := 108) (ls' := [(4, .int s0), (0, .ref (gB G + v0)), (1, .ref (gB G + v1)), (2, .ref (gB G + v2)), (3, .int v3)]) dX5_readInto_108 (by decide) rfl) ?_
  refine ev_step (st_aload_n (pc := 110) (j := 1) dX5_readInto_110 rfl rfl) ?_
  refine ev_step (st_iload (pc := 111) (j := 0) dX5_readInto_111 rfl) ?_
  refine ev_br (br_if_eq (tgt := 120) (pc := 113) dX5_readInto_113 (by decide)) (fun _ => ?_) (fun _ => ?_)
  · refine ev_step (st_aload_n (pc := 120) (j := 1) dX5_readInto_120 rfl rfl) ?_
    refine ev_getI (pc := 121) k_X5_38 rfl dX5_readInto_121 (fun x1 => ?_)
    refine ev_sub (ls' := [(0, .ref (gB G + v0)), (1, .ref (gB G + v1)), (2, .ref (gB G + v2)), (3, .int v3), (4, .int s0)]) [1, 2, 3, 4, 0] rfl ?_
    exact tX5_readInto_124 G fu h0 v0 v1 v2 v3 s0 v0 x1 h
  · refine ev_step (st_iload_n (pc := 116) (j := 4) dX5_readInto_116 rfl rfl) ?_
    refine ev_step (st_goto (pc := 117) (tgt := 124) dX5_readInto_117 (by decide)) ?_
    refine ev_sub (ls' := [(0, .ref (gB G + v0)), (1, .ref (gB G + v1)), (2, .ref (gB G + v2)), (3, .int v3), (4, .int s0)]) [1, 2, 3, 4, 0] rfl ?_
    exact tX5_readInto_124 G fu h0 v0 v1 v2 v3 s0 v0 v3 h
set_option maxRecDepth 100000 in
set_option maxHeartbeats 4000000 in
theorem tX5_readInto_95 (G : gx) (fu : Nat) (h0 : mh) (v0 : Nat) (v1 : Nat) (v2 : Nat) (v3 : Int32) (v4 : Int32) (h : mh) : Ev lI G yX5_readInto cX5_readInto 6 (some .int) 7 h0 95 [(0, .ref (gB G + v0)), (1, .ref (gB G + v1)), (2, .ref (gB G + v2)), (3, .int v3), (4, .int v4)] [] h (fX5_readInto_95 fu v0 v1 v2 v3 v4 h) := by
  unfold fX5_readInto_95
  refine ev_step (st_aload_n (pc := 95) (j := 0) dX5_readInto_95 rfl rfl) ?_
  refine ev_getI (pc := 96) k_X5_25 rfl dX5_readInto_96 (fun x1 => ?_)
  refine ev_step (st_iconst (pc := 99) dX5_readInto_99 ni_m1) ?_
  refine ev_br (br_icmp_eq (tgt := 107) (pc := 100) dX5_readInto_100 (by decide)) (fun _ => ?_) (fun _ => ?_)
  · refine ev_step (st_iconst (pc := 107) dX5_readInto_107 ni_0) ?_
    refine ev_sub (ls' := [(0, .ref (gB G + v0)), (1, .ref (gB G + v1)), (2, .ref (gB G + v2)), (3, .int v3), (4, .int v4)]) [0, 1, 2, 3, 4] rfl ?_
    exact tX5_readInto_108 G fu h0 v0 v1 v2 v3 v4 ((0 : Int32)) h
  · refine ev_step (st_iconst (pc := 103) dX5_readInto_103 ni_1) ?_
    refine ev_step (st_goto (pc := 104) (tgt := 108) dX5_readInto_104 (by decide)) ?_
    refine ev_sub (ls' := [(0, .ref (gB G + v0)), (1, .ref (gB G + v1)), (2, .ref (gB G + v2)), (3, .int v3), (4, .int v4)]) [0, 1, 2, 3, 4] rfl ?_
    exact tX5_readInto_108 G fu h0 v0 v1 v2 v3 v4 ((1 : Int32)) h
set_option maxRecDepth 100000 in
set_option maxHeartbeats 4000000 in
theorem tX5_readInto_29 (G : gx) (fu : Nat) (h0 : mh) (v0 : Nat) (v1 : Nat) (v2 : Nat) (v3 : Int32) (n : Nat) (v4 : Int32) (h : mh) : Ev lI G yX5_readInto cX5_readInto 6 (some .int) 7 h0 29 [(0, .ref (gB G + v0)), (1, .ref (gB G + v1)), (2, .ref (gB G + v2)), (3, .int v3), (4, .int v4)] [] h (itr (bX5_readInto_29 fu v0 v1 v2 v3) n (v4, h)) := by
  refine ev_itr (P := fun (q : Int32 × mh) (R9 : Option (Int32 × mh)) => Ev lI G yX5_readInto cX5_readInto 6 (some .int) 7 h0 29 [(0, .ref (gB G + v0)), (1, .ref (gB G + v1)), (2, .ref (gB G + v2)), (3, .int v3), (4, .int q.1)] [] q.2 R9) (fun _ => ev_none) (fun k29 hk9 q => ?_) n (v4, h)
  obtain ⟨v4, h⟩ := q
  have hk29 : ∀ (v4 : Int32) (h : mh), Ev lI G yX5_readInto cX5_readInto 6 (some .int) 7 h0 29 [(0, .ref (gB G + v0)), (1, .ref (gB G + v1)), (2, .ref (gB G + v2)), (3, .int v3), (4, .int v4)] [] h (k29 (v4, h)) := fun v4 h => hk9 (v4, h)
  show Ev lI G yX5_readInto cX5_readInto 6 (some .int) 7 h0 29 [(0, .ref (gB G + v0)), (1, .ref (gB G + v1)), (2, .ref (gB G + v2)), (3, .int v3), (4, .int v4)] [] h (bX5_readInto_29 fu v0 v1 v2 v3 k29 (v4, h))
  unfold bX5_readInto_29
  refine ev_step (st_iload (pc := 29) (j := 4) dX5_readInto_29 rfl) ?_
  refine ev_step (st_iload_n (pc := 31) (j := 3) dX5_readInto_31 rfl rfl) ?_
  refine ev_br (br_icmp_gt (tgt := 95) (pc := 32) dX5_readInto_32 (by decide)) (fun _ => ?_) (fun _ => ?_)
  · refine ev_sub (ls' := [(0, .ref (gB G + v0)), (1, .ref (gB G + v1)), (2, .ref (gB G + v2)), (3, .int v3), (4, .int v4)]) [0, 1, 2, 3, 4] rfl ?_
    exact tX5_readInto_95 G fu h0 v0 v1 v2 v3 v4 h
  · refine ev_step (st_aload_n (pc := 35) (j := 0) dX5_readInto_35 rfl rfl) ?_
    refine ev_getR (pc := 36) k_X5_12 rfl dX5_readInto_36 (fun a1 => ?_)
    refine ev_step (st_aload_n (pc := 39) (j := 2) dX5_readInto_39 rfl rfl) ?_
    refine ev_step (st_iload_n (pc := 40) (j := 3) dX5_readInto_40 rfl rfl) ?_
    refine ev_ck (fun ha hS => ?_)
    refine ev_callI (iv_V (As := [.ref (gB G + v2), .int v3]) (st := []) (pc := 41) rfl m_X7_next l_X5_52 i_X7_next e_X7_next ha hS rfl (Nat.le_of_ble_eq_true rfl) rfl dX5_readInto_41) (tX7_next G fu a1 v2 v3 h) (by decide) (by decide) (fun x3 h2 => ?_)
    refine ev_br (br_if_eq (tgt := 95) (pc := 44) dX5_readInto_44 (by decide)) (fun _ => ?_) (fun _ => ?_)
    · refine ev_sub (ls' := [(0, .ref (gB G + v0)), (1, .ref (gB G + v1)), (2, .ref (gB G + v2)), (3, .int v3), (4, .int v4)]) [0, 1, 2, 3, 4] rfl ?_
      exact tX5_readInto_95 G fu h0 v0 v1 v2 v3 v4 h2
    · refine ev_step (st_aload_n (pc := 47) (j := 0) dX5_readInto_47 rfl rfl) ?_
      refine ev_step (st_aload_n (pc := 48) (j := 1) dX5_readInto_48 rfl rfl) ?_
      refine ev_ck (fun ha hS => ?_)
      refine ev_callI (iv_V (As := [.ref (gB G + v1)]) (st := []) (pc := 49) rfl m_X5_take l_X5_56 i_X5_take e_X5_take ha hS rfl (Nat.le_of_ble_eq_true rfl) rfl dX5_readInto_49) (tX5_take G fu v0 v1 h2) (by decide) (by decide) (fun x5 h4 => ?_)
      refine ev_step (st_istore (pc := 52) (ls' := [(5, .int x5), (0, .ref (gB G + v0)), (1, .ref (gB G + v1)), (2, .ref (gB G + v2)), (3, .int v3), (4, .int v4)]) dX5_readInto_52 (by decide) rfl) ?_
      refine ev_step (st_iload (pc := 54) (j := 0) dX5_readInto_54 rfl) ?_
      refine ev_br (br_if_ne (tgt := 70) (pc := 56) dX5_readInto_56 (by decide)) (fun _ => ?_) (fun _ => ?_)
      · refine ev_step (st_iload (pc := 59) (j := 5) dX5_readInto_59 rfl) ?_
        refine ev_step (st_sipush (pc := 61) dX5_readInto_61 ns_400) ?_
        refine ev_br (br_icmp_le (tgt := 70) (pc := 64) dX5_readInto_64 (by decide)) (fun _ => ?_) (fun _ => ?_)
        · refine ev_sub (ls' := [(0, .ref (gB G + v0)), (1, .ref (gB G + v1)), (2, .ref (gB G + v2)), (3, .int v3), (4, .int v4), (5, .int x5)]) [1, 2, 3, 4, 5, 0] rfl ?_
          exact tX5_readInto_70 G fu h0 v0 v1 v2 v3 v4 x5 k29 hk29 h4
        · refine ev_step (st_iconst (pc := 67) dX5_readInto_67 ni_2) ?_
          refine ev_step (st_istore (pc := 68) (ls' := [(5, .int ((2 : Int32))), (0, .ref (gB G + v0)), (1, .ref (gB G + v1)), (2, .ref (gB G + v2)), (3, .int v3), (4, .int v4)]) dX5_readInto_68 (by decide) rfl) ?_
          refine ev_sub (ls' := [(0, .ref (gB G + v0)), (1, .ref (gB G + v1)), (2, .ref (gB G + v2)), (3, .int v3), (4, .int v4), (5, .int ((2 : Int32)))]) [1, 2, 3, 4, 5, 0] rfl ?_
          exact tX5_readInto_70 G fu h0 v0 v1 v2 v3 v4 ((2 : Int32)) k29 hk29 h4
      · refine ev_sub (ls' := [(0, .ref (gB G + v0)), (1, .ref (gB G + v1)), (2, .ref (gB G + v2)), (3, .int v3), (4, .int v4), (5, .int x5)]) [1, 2, 3, 4, 5, 0] rfl ?_
        exact tX5_readInto_70 G fu h0 v0 v1 v2 v3 v4 x5 k29 hk29 h4
set_option maxRecDepth 100000 in
set_option maxHeartbeats 4000000 in
theorem tX5_readInto (G : gx) (fu : Nat) (v0 : Nat) (v1 : Nat) (v2 : Nat) (v3 : Int32) (h : mh) : Ct lI G yX5_readInto cX5_readInto 6 (some .int) 7 [.ref (gB G + v0), .ref (gB G + v1), .ref (gB G + v2), .int v3] h (fX5_readInto fu v0 v1 v2 v3 h) := by
  refine ct_ls (ls := [(0, .ref (gB G + v0)), (1, .ref (gB G + v1)), (2, .ref (gB G + v2)), (3, .int v3)]) rfl (by decide) (Nat.le_of_ble_eq_true rfl) ?_
  unfold fX5_readInto
  refine ev_step (st_aload_n (pc := 0) (j := 1) dX5_readInto_0 rfl rfl) ?_
  refine ev_ck (fun ha hS => ?_)
  refine ev_callV (iv_V (As := []) (st := []) (pc := 1) rfl m_X6_clear l_X5_44 i_X6_clear e_X6_clear ha hS rfl (Nat.le_of_ble_eq_true rfl) rfl dX5_readInto_1) (tX6_clear G fu v1 h) (by decide) (by decide) (fun h1 => ?_)
  refine ev_step (st_aload_n (pc := 4) (j := 0) dX5_readInto_4 rfl rfl) ?_
  refine ev_getR (pc := 5) k_X5_12 rfl dX5_readInto_5 (fun a2 => ?_)
  refine ev_ck (fun ha hS => ?_)
  refine ev_callV (iv_V (As := []) (st := []) (pc := 8) rfl m_X7_rewind l_X5_49 i_X7_rewind e_X7_rewind ha hS rfl (Nat.le_of_ble_eq_true rfl) rfl dX5_readInto_8) (tX7_rewind G fu a2 h1) (by decide) (by decide) (fun h3 => ?_)
  refine ev_step (st_aload_n (pc := 11) (j := 0) dX5_readInto_11 rfl rfl) ?_
  refine ev_step (st_iconst (pc := 12) dX5_readInto_12 ni_m1) ?_
  refine ev_putI (pc := 13) (p_X5_25 _ rfl) rfl dX5_readInto_13 (fun h4 => ?_)
  refine ev_step (st_aload_n (pc := 16) (j := 0) dX5_readInto_16 rfl rfl) ?_
  refine ev_step (st_iconst (pc := 17) dX5_readInto_17 ni_0) ?_
  refine ev_putI (pc := 18) (p_X5_35 _ rfl) rfl dX5_readInto_18 (fun h5 => ?_)
  refine ev_step (st_aload_n (pc := 21) (j := 0) dX5_readInto_21 rfl rfl) ?_
  refine ev_step (st_iconst (pc := 22) dX5_readInto_22 ni_m1) ?_
  refine ev_putI (pc := 23) (p_X5_38 _ rfl) rfl dX5_readInto_23 (fun h6 => ?_)
  refine ev_step (st_iconst (pc := 26) dX5_readInto_26 ni_1) ?_
  refine ev_step (st_istore (pc := 27) (ls' := [(4, .int ((1 : Int32))), (0, .ref (gB G + v0)), (1, .ref (gB G + v1)), (2, .ref (gB G + v2)), (3, .int v3)]) dX5_readInto_27 (by decide) rfl) ?_
  refine ev_sub (ls' := [(0, .ref (gB G + v0)), (1, .ref (gB G + v1)), (2, .ref (gB G + v2)), (3, .int v3), (4, .int ((1 : Int32)))]) [1, 2, 3, 4, 0] rfl ?_
  exact tX5_readInto_29 G fu h v0 v1 v2 v3 fu ((1 : Int32)) h6
set_option maxRecDepth 100000 in
set_option maxHeartbeats 4000000 in
theorem tX9_init (G : gx) (fu : Nat) (v0 : Nat) (h : mh) : Ct lV G yX9_init cX9_init 1 (none) 8 [.ref (gB G + v0)] h (fX9_init fu v0 h) := by
  refine ct_ls (ls := [(0, .ref (gB G + v0))]) rfl (by decide) (Nat.le_of_ble_eq_true rfl) ?_
  unfold fX9_init
  refine ev_step (st_aload_n (pc := 0) (j := 0) dX9_init_0 rfl rfl) ?_
  refine ev_step (st_objinit (pc := 1) o_X9_1 (by decide) (Nat.le_of_ble_eq_true rfl) dX9_init_1) ?_
  refine ev_step (st_aload_n (pc := 4) (j := 0) dX9_init_4 rfl rfl) ?_
  refine ev_step (st_sipush (pc := 5) dX9_init_5 ns_2000) ?_
  refine ev_newa (pc := 8) (t := 2) (ty := .byte) ac_byte rfl (Or.inr (Or.inl rfl)) dX9_init_8 (fun a1 h2 => ?_)
  refine ev_putR (pc := 10) (p_X9_9 _ rfl rfl) (Or.inr ⟨_, rfl⟩) dX9_init_10 (fun h3 => ?_)
  refine ev_step (st_aload_n (pc := 13) (j := 0) dX9_init_13 rfl rfl) ?_
  refine ev_step (st_iconst (pc := 14) dX9_init_14 ni_0) ?_
  refine ev_putI (pc := 15) (p_X9_13 _ rfl) rfl dX9_init_15 (fun h4 => ?_)
  refine ev_step (st_aload_n (pc := 18) (j := 0) dX9_init_18 rfl rfl) ?_
  refine ev_step (st_iconst (pc := 19) dX9_init_19 ni_m1) ?_
  refine ev_putI (pc := 20) (p_X9_17 _ rfl) rfl dX9_init_20 (fun h5 => ?_)
  refine ev_step (st_aload_n (pc := 23) (j := 0) dX9_init_23 rfl rfl) ?_
  refine ev_new (pc := 24) n_X9_20 dX9_init_24 (fun a6 h7 => ?_)
  refine ev_step (st_dup (pc := 27) dX9_init_27 rfl) ?_
  refine ev_callV (iv_I (As := []) (st := [.ref (gB G + a6), .ref (gB G + v0)]) (pc := 28) m_X5_init l_X9_22 i_X5_init rfl rfl (Nat.le_of_ble_eq_true rfl) rfl dX9_init_28) (tX5_init G fu a6 h7) (by decide) (by decide) (fun h8 => ?_)
  refine ev_putR (pc := 31) (p_X9_23 _ rfl rfl) (Or.inl ⟨_, rfl⟩) dX9_init_31 (fun h9 => ?_)
  refine ev_step (st_aload_n (pc := 34) (j := 0) dX9_init_34 rfl rfl) ?_
  refine ev_new (pc := 35) n_X9_27 dX9_init_35 (fun a10 h11 => ?_)
  refine ev_step (st_dup (pc := 38) dX9_init_38 rfl) ?_
  refine ev_callV (iv_I (As := []) (st := [.ref (gB G + a10), .ref (gB G + v0)]) (pc := 39) m_X6_init l_X9_29 i_X6_init rfl rfl (Nat.le_of_ble_eq_true rfl) rfl dX9_init_39) (tX6_init G fu a10 h11) (by decide) (by decide) (fun h12 => ?_)
  refine ev_putR (pc := 42) (p_X9_30 _ rfl) (Or.inl ⟨_, rfl⟩) dX9_init_42 (fun h13 => ?_)
  refine ev_step (st_aload_n (pc := 45) (j := 0) dX9_init_45 rfl rfl) ?_
  refine ev_new (pc := 46) n_X9_27 dX9_init_46 (fun a14 h15 => ?_)
  refine ev_step (st_dup (pc := 49) dX9_init_49 rfl) ?_
  refine ev_callV (iv_I (As := []) (st := [.ref (gB G + a14), .ref (gB G + v0)]) (pc := 50) m_X6_init l_X9_29 i_X6_init rfl rfl (Nat.le_of_ble_eq_true rfl) rfl dX9_init_50) (tX6_init G fu a14 h15) (by decide) (by decide) (fun h16 => ?_)
  refine ev_putR (pc := 53) (p_X9_34 _ rfl) (Or.inl ⟨_, rfl⟩) dX9_init_53 (fun h17 => ?_)
  refine ev_step (st_aload_n (pc := 56) (j := 0) dX9_init_56 rfl rfl) ?_
  refine ev_new (pc := 57) n_X9_37 dX9_init_57 (fun a18 h19 => ?_)
  refine ev_step (st_dup (pc := 60) dX9_init_60 rfl) ?_
  refine ev_callV (iv_I (As := []) (st := [.ref (gB G + a18), .ref (gB G + v0)]) (pc := 61) m_X3_init l_X9_39 i_X3_init rfl rfl (Nat.le_of_ble_eq_true rfl) rfl dX9_init_61) (tX3_init G fu a18 h19) (by decide) (by decide) (fun h20 => ?_)
  refine ev_putR (pc := 64) (p_X9_40 _ rfl rfl) (Or.inl ⟨_, rfl⟩) dX9_init_64 (fun h21 => ?_)
  refine ev_step (st_aload_n (pc := 67) (j := 0) dX9_init_67 rfl rfl) ?_
  refine ev_new (pc := 68) n_X9_37 dX9_init_68 (fun a22 h23 => ?_)
  refine ev_step (st_dup (pc := 71) dX9_init_71 rfl) ?_
  refine ev_callV (iv_I (As := []) (st := [.ref (gB G + a22), .ref (gB G + v0)]) (pc := 72) m_X3_init l_X9_39 i_X3_init rfl rfl (Nat.le_of_ble_eq_true rfl) rfl dX9_init_72) (tX3_init G fu a22 h23) (by decide) (by decide) (fun h24 => ?_)
  refine ev_putR (pc := 75) (p_X9_44 _ rfl rfl) (Or.inl ⟨_, rfl⟩) dX9_init_75 (fun h25 => ?_)
  refine ev_step (st_aload_n (pc := 78) (j := 0) dX9_init_78 rfl rfl) ?_
  refine ev_new (pc := 79) n_X9_47 dX9_init_79 (fun a26 h27 => ?_)
  refine ev_step (st_dup (pc := 82) dX9_init_82 rfl) ?_
  refine ev_callV (iv_I (As := []) (st := [.ref (gB G + a26), .ref (gB G + v0)]) (pc := 83) m_X4_init l_X9_49 i_X4_init rfl rfl (Nat.le_of_ble_eq_true rfl) rfl dX9_init_83) (tX4_init G fu a26 h27) (by decide) (by decide) (fun h28 => ?_)
  refine ev_putR (pc := 86) (p_X9_50 _ rfl rfl) (Or.inl ⟨_, rfl⟩) dX9_init_86 (fun h29 => ?_)
  refine ev_step (st_aload_n (pc := 89) (j := 0) dX9_init_89 rfl rfl) ?_
  refine ev_new (pc := 90) n_X9_54 dX9_init_90 (fun a30 h31 => ?_)
  refine ev_step (st_dup (pc := 93) dX9_init_93 rfl) ?_
  refine ev_callV (iv_I (As := []) (st := [.ref (gB G + a30), .ref (gB G + v0)]) (pc := 94) m_X2_init l_X9_56 i_X2_init rfl rfl (Nat.le_of_ble_eq_true rfl) rfl dX9_init_94) (tX2_init G fu a30 h31) (by decide) (by decide) (fun h32 => ?_)
  refine ev_putR (pc := 97) (p_X9_57 _ rfl rfl) (Or.inl ⟨_, rfl⟩) dX9_init_97 (fun h33 => ?_)
  refine ev_step (st_aload_n (pc := 100) (j := 0) dX9_init_100 rfl rfl) ?_
  refine ev_new (pc := 101) n_X9_61 dX9_init_101 (fun a34 h35 => ?_)
  refine ev_step (st_dup (pc := 104) dX9_init_104 rfl) ?_
  refine ev_callV (iv_I (As := []) (st := [.ref (gB G + a34), .ref (gB G + v0)]) (pc := 105) m_X8_init l_X9_63 i_X8_init rfl rfl (Nat.le_of_ble_eq_true rfl) rfl dX9_init_105) (tX8_init G fu a34 h35) (by decide) (by decide) (fun h36 => ?_)
  refine ev_putR (pc := 108) (p_X9_64 _ rfl rfl) (Or.inl ⟨_, rfl⟩) dX9_init_108 (fun h37 => ?_)
  exact ev_vret (pc := 111) dX9_init_111
set_option maxRecDepth 100000 in
set_option maxHeartbeats 4000000 in
theorem tX9_read (G : gx) (fu : Nat) (v0 : Nat) (h : mh) : Ct lI G yX9_read cX9_read 3 (some .int) 8 [.ref (gB G + v0)] h (fX9_read fu v0 h) := by
  refine ct_ls (ls := [(0, .ref (gB G + v0))]) rfl (by decide) (Nat.le_of_ble_eq_true rfl) ?_
  unfold fX9_read
  refine ev_step (st_aload_n (pc := 0) (j := 0) dX9_read_0 rfl rfl) ?_
  refine ev_getR (pc := 1) k_X9_23 rfl dX9_read_1 (fun a1 => ?_)
  refine ev_step (st_aload_n (pc := 4) (j := 0) dX9_read_4 rfl rfl) ?_
  refine ev_getR (pc := 5) k_X9_34 rfl dX9_read_5 (fun a2 => ?_)
  refine ev_step (st_aload_n (pc := 8) (j := 0) dX9_read_8 rfl rfl) ?_
  refine ev_getR (pc := 9) k_X9_9 rfl dX9_read_9 (fun a3 => ?_)
  refine ev_step (st_aload_n (pc := 12) (j := 0) dX9_read_12 rfl rfl) ?_
  refine ev_getI (pc := 13) k_X9_13 rfl dX9_read_13 (fun x4 => ?_)
  refine ev_ck (fun ha hS => ?_)
  refine ev_callI (iv_V (As := [.ref (gB G + a2), .ref (gB G + a3), .int x4]) (st := []) (pc := 16) rfl m_X5_readInto l_X9_72 i_X5_readInto e_X5_readInto ha hS rfl (Nat.le_of_ble_eq_true rfl) rfl dX9_read_16) (tX5_readInto G fu a1 a2 a3 x4 h) (by decide) (by decide) (fun x6 h5 => ?_)
  refine ev_step (st_istore_n (pc := 19) (ls' := [(1, .int x6), (0, .ref (gB G + v0))]) dX9_read_19 rfl (by decide) rfl) ?_
  refine ev_step (st_aload_n (pc := 20) (j := 1) dX9_read_20 rfl rfl) ?_
  refine ev_step (st_iconst (pc := 21) dX9_read_21 ni_0) ?_
  refine ev_putI (pc := 22) (p_X9_13 _ rfl) rfl dX9_read_22 (fun h7 => ?_)
  refine ev_step (st_aload_n (pc := 25) (j := 1) dX9_read_25 rfl rfl) ?_
  refine ev_step (st_aload_n (pc := 26) (j := 1) dX9_read_26 rfl rfl) ?_
  refine ev_getR (pc := 27) k_X9_23 rfl dX9_read_27 (fun a8 => ?_)
  refine ev_getI (pc := 30) k_X9_76 rfl dX9_read_30 (fun x9 => ?_)
  refine ev_putI (pc := 33) (p_X9_17 _ rfl) rfl dX9_read_33 (fun h10 => ?_)
  refine ev_step (st_iload_n (pc := 36) (j := 0) dX9_read_36 rfl rfl) ?_
  refine ev_br (br_if_ne (tgt := 84) (pc := 37) dX9_read_37 (by decide)) (fun _ => ?_) (fun _ => ?_)
  · refine ev_step (st_aload_n (pc := 40) (j := 1) dX9_read_40 rfl rfl) ?_
    refine ev_getR (pc := 41) k_X9_30 rfl dX9_read_41 (fun a11 => ?_)
    refine ev_step (st_astore_n (pc := 44) (ls' := [(2, .ref (gB G + a11)), (1, .int x6), (0, .ref (gB G + v0))]) dX9_read_44 rfl (by decide) rfl) ?_
    refine ev_step (st_aload_n (pc := 45) (j := 2) dX9_read_45 rfl rfl) ?_
    refine ev_step (st_aload_n (pc := 46) (j := 2) dX9_read_46 rfl rfl) ?_
    refine ev_getR (pc := 47) k_X9_34 rfl dX9_read_47 (fun a12 => ?_)
    refine ev_putR (pc := 50) (p_X9_30 _ rfl) (Or.inl ⟨_, rfl⟩) dX9_read_50 (fun h13 => ?_)
    refine ev_step (st_aload_n (pc := 53) (j := 2) dX9_read_53 rfl rfl) ?_
    refine ev_step (st_aload_n (pc := 54) (j := 0) dX9_read_54 rfl rfl) ?_
    refine ev_putR (pc := 55) (p_X9_34 _ rfl) (Or.inl ⟨_, rfl⟩) dX9_read_55 (fun h14 => ?_)
    refine ev_step (st_aload_n (pc := 58) (j := 2) dX9_read_58 rfl rfl) ?_
    refine ev_getR (pc := 59) k_X9_30 rfl dX9_read_59 (fun a15 => ?_)
    refine ev_step (st_aload_n (pc := 62) (j := 2) dX9_read_62 rfl rfl) ?_
    refine ev_getR (pc := 63) k_X9_40 rfl dX9_read_63 (fun a16 => ?_)
    refine ev_ck (fun ha hS => ?_)
    refine ev_callV (iv_V (As := [.ref (gB G + a16)]) (st := []) (pc := 66) rfl m_X6_begin l_X9_77 i_X6_begin e_X6_begin ha hS rfl (Nat.le_of_ble_eq_true rfl) rfl dX9_read_66) (tX6_begin G fu a15 a16 h14) (by decide) (by decide) (fun h17 => ?_)
    refine ev_step (st_aload_n (pc := 69) (j := 2) dX9_read_69 rfl rfl) ?_
    refine ev_getR (pc := 70) k_X9_57 rfl dX9_read_70 (fun a18 => ?_)
    refine ev_ck (fun ha hS => ?_)
    refine ev_callV (iv_V (As := []) (st := []) (pc := 73) rfl m_X2_forgetAll l_X9_81 i_X2_forgetAll e_X2_forgetAll ha hS rfl (Nat.le_of_ble_eq_true rfl) rfl dX9_read_73) (tX2_forgetAll G fu a18 h17) (by decide) (by decide) (fun h19 => ?_)
    refine ev_step (st_aload_n (pc := 76) (j := 2) dX9_read_76 rfl rfl) ?_
    refine ev_getR (pc := 77) k_X9_64 rfl dX9_read_77 (fun a20 => ?_)
    refine ev_step (st_iconst (pc := 80) dX9_read_80 ni_0) ?_
    refine ev_putI (pc := 81) (p_X9_84 _ rfl) rfl dX9_read_81 (fun h21 => ?_)
    refine ev_step (st_iload_n (pc := 84) (j := 1) dX9_read_84 rfl rfl) ?_
    exact ev_iret (pc := 85) dX9_read_85
  · refine ev_step (st_iload_n (pc := 84) (j := 0) dX9_read_84 rfl rfl) ?_
    exact ev_iret (pc := 85) dX9_read_85
