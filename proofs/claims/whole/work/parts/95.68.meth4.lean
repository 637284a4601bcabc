theorem dX10_missing_0 : decode cX10_missing 0 = .ok (.aload_n 0, 1) := by decide +kernel
theorem dX10_missing_1 : decode cX10_missing 1 = .ok (.iload_n 1, 1) := by decide +kernel
theorem dX10_missing_2 : decode cX10_missing 2 = .ok (.invokevirtual 384, 3) := by decide +kernel
theorem dX10_missing_5 : decode cX10_missing 5 = .ok (.ifCond .eq 32, 3) := by decide +kernel
theorem dX10_missing_8 : decode cX10_missing 8 = .ok (.aload_n 0, 1) := by decide +kernel
theorem dX10_missing_9 : decode cX10_missing 9 = .ok (.getfield 61, 3) := by decide +kernel
theorem dX10_missing_12 : decode cX10_missing 12 = .ok (.bipush 6, 2) := by decide +kernel
theorem dX10_missing_14 : decode cX10_missing 14 = .ok (.aload_n 0, 1) := by decide +kernel
theorem dX10_missing_15 : decode cX10_missing 15 = .ok (.getfield 230, 3) := by decide +kernel
theorem dX10_missing_18 : decode cX10_missing 18 = .ok (.imul, 1) := by decide +kernel
theorem dX10_missing_19 : decode cX10_missing 19 = .ok (.iload_n 1, 1) := by decide +kernel
theorem dX10_missing_20 : decode cX10_missing 20 = .ok (.iadd, 1) := by decide +kernel
theorem dX10_missing_21 : decode cX10_missing 21 = .ok (.iaload, 1) := by decide +kernel
theorem dX10_missing_22 : decode cX10_missing 22 = .ok (.aload_n 0, 1) := by decide +kernel
theorem dX10_missing_23 : decode cX10_missing 23 = .ok (.getfield 119, 3) := by decide +kernel
theorem dX10_missing_26 : decode cX10_missing 26 = .ok (.bipush 12, 2) := by decide +kernel
theorem dX10_missing_28 : decode cX10_missing 28 = .ok (.iload_n 1, 1) := by decide +kernel
theorem dX10_missing_29 : decode cX10_missing 29 = .ok (.iadd, 1) := by decide +kernel
theorem dX10_missing_30 : decode cX10_missing 30 = .ok (.iaload, 1) := by decide +kernel
theorem dX10_missing_31 : decode cX10_missing 31 = .ok (.iconst (-1), 1) := by decide +kernel
theorem dX10_missing_32 : decode cX10_missing 32 = .ok (.ixor, 1) := by decide +kernel
theorem dX10_missing_33 : decode cX10_missing 33 = .ok (.iand, 1) := by decide +kernel
theorem dX10_missing_34 : decode cX10_missing 34 = .ok (.goto 4, 3) := by decide +kernel
theorem dX10_missing_37 : decode cX10_missing 37 = .ok (.iconst (-1), 1) := by decide +kernel
theorem dX10_missing_38 : decode cX10_missing 38 = .ok (.ireturn, 1) := by decide +kernel
theorem dX10_holderBits_0 : decode cX10_holderBits 0 = .ok (.iconst 0, 1) := by decide +kernel
theorem dX10_holderBits_1 : decode cX10_holderBits 1 = .ok (.istore_n 2, 1) := by decide +kernel
theorem dX10_holderBits_2 : decode cX10_holderBits 2 = .ok (.iconst 0, 1) := by decide +kernel
theorem dX10_holderBits_3 : decode cX10_holderBits 3 = .ok (.istore_n 3, 1) := by decide +kernel
theorem dX10_holderBits_4 : decode cX10_holderBits 4 = .ok (.iload_n 3, 1) := by decide +kernel
theorem dX10_holderBits_5 : decode cX10_holderBits 5 = .ok (.aload_n 0, 1) := by decide +kernel
theorem dX10_holderBits_6 : decode cX10_holderBits 6 = .ok (.getfield 55, 3) := by decide +kernel
theorem dX10_holderBits_9 : decode cX10_holderBits 9 = .ok (.aload_n 0, 1) := by decide +kernel
theorem dX10_holderBits_10 : decode cX10_holderBits 10 = .ok (.getfield 230, 3) := by decide +kernel
theorem dX10_holderBits_13 : decode cX10_holderBits 13 = .ok (.iaload, 1) := by decide +kernel
theorem dX10_holderBits_14 : decode cX10_holderBits 14 = .ok (.if_icmp .ge 27, 3) := by decide +kernel
theorem dX10_holderBits_17 : decode cX10_holderBits 17 = .ok (.iload_n 2, 1) := by decide +kernel
theorem dX10_holderBits_18 : decode cX10_holderBits 18 = .ok (.aload_n 0, 1) := by decide +kernel
theorem dX10_holderBits_19 : decode cX10_holderBits 19 = .ok (.getfield 119, 3) := by decide +kernel
theorem dX10_holderBits_22 : decode cX10_holderBits 22 = .ok (.bipush 12, 2) := by decide +kernel
theorem dX10_holderBits_24 : decode cX10_holderBits 24 = .ok (.iload_n 3, 1) := by decide +kernel
theorem dX10_holderBits_25 : decode cX10_holderBits 25 = .ok (.iadd, 1) := by decide +kernel
theorem dX10_holderBits_26 : decode cX10_holderBits 26 = .ok (.iaload, 1) := by decide +kernel
theorem dX10_holderBits_27 : decode cX10_holderBits 27 = .ok (.iload_n 1, 1) := by decide +kernel
theorem dX10_holderBits_28 : decode cX10_holderBits 28 = .ok (.ishr, 1) := by decide +kernel
theorem dX10_holderBits_29 : decode cX10_holderBits 29 = .ok (.iconst 1, 1) := by decide +kernel
theorem dX10_holderBits_30 : decode cX10_holderBits 30 = .ok (.iand, 1) := by decide +kernel
theorem dX10_holderBits_31 : decode cX10_holderBits 31 = .ok (.iload_n 3, 1) := by decide +kernel
theorem dX10_holderBits_32 : decode cX10_holderBits 32 = .ok (.ishl, 1) := by decide +kernel
theorem dX10_holderBits_33 : decode cX10_holderBits 33 = .ok (.ior, 1) := by decide +kernel
theorem dX10_holderBits_34 : decode cX10_holderBits 34 = .ok (.istore_n 2, 1) := by decide +kernel
theorem dX10_holderBits_35 : decode cX10_holderBits 35 = .ok (.iinc 3 1, 3) := by decide +kernel
theorem dX10_holderBits_38 : decode cX10_holderBits 38 = .ok (.goto (-34), 3) := by decide +kernel
theorem dX10_holderBits_41 : decode cX10_holderBits 41 = .ok (.iload_n 2, 1) := by decide +kernel
theorem dX10_holderBits_42 : decode cX10_holderBits 42 = .ok (.ireturn, 1) := by decide +kernel
theorem dX10_holders_0 : decode cX10_holders 0 = .ok (.iload_n 1, 1) := by decide +kernel
theorem dX10_holders_1 : decode cX10_holders 1 = .ok (.invokestatic 390, 3) := by decide +kernel
theorem dX10_holders_4 : decode cX10_holders 4 = .ok (.ifCond .eq 11, 3) := by decide +kernel
theorem dX10_holders_7 : decode cX10_holders 7 = .ok (.aload_n 0, 1) := by decide +kernel
theorem dX10_holders_8 : decode cX10_holders 8 = .ok (.iload_n 1, 1) := by decide +kernel
theorem dX10_holders_9 : decode cX10_holders 9 = .ok (.invokevirtual 435, 3) := by decide +kernel
theorem dX10_holders_12 : decode cX10_holders 12 = .ok (.goto 4, 3) := by decide +kernel
theorem dX10_holders_15 : decode cX10_holders 15 = .ok (.iconst (-1), 1) := by decide +kernel
theorem dX10_holders_16 : decode cX10_holders 16 = .ok (.ireturn, 1) := by decide +kernel
theorem dX10_rarest_0 : decode cX10_rarest 0 = .ok (.iload_n 1, 1) := by decide +kernel
theorem dX10_rarest_1 : decode cX10_rarest 1 = .ok (.iconst 0, 1) := by decide +kernel
theorem dX10_rarest_2 : decode cX10_rarest 2 = .ok (.iconst 1, 1) := by decide +kernel
theorem dX10_rarest_3 : decode cX10_rarest 3 = .ok (.invokestatic 310, 3) := by decide +kernel
theorem dX10_rarest_6 : decode cX10_rarest 6 = .ok (.ifCond .ne 5, 3) := by decide +kernel
theorem dX10_rarest_9 : decode cX10_rarest 9 = .ok (.iconst (-1), 1) := by decide +kernel
theorem dX10_rarest_10 : decode cX10_rarest 10 = .ok (.ireturn, 1) := by decide +kernel
theorem dX10_rarest_11 : decode cX10_rarest 11 = .ok (.iconst 0, 1) := by decide +kernel
theorem dX10_rarest_12 : decode cX10_rarest 12 = .ok (.istore_n 2, 1) := by decide +kernel
theorem dX10_rarest_13 : decode cX10_rarest 13 = .ok (.iconst 1, 1) := by decide +kernel
theorem dX10_rarest_14 : decode cX10_rarest 14 = .ok (.istore_n 3, 1) := by decide +kernel
theorem dX10_rarest_15 : decode cX10_rarest 15 = .ok (.iload_n 3, 1) := by decide +kernel
theorem dX10_rarest_16 : decode cX10_rarest 16 = .ok (.bipush 8, 2) := by decide +kernel
theorem dX10_rarest_18 : decode cX10_rarest 18 = .ok (.if_icmp .ge 30, 3) := by decide +kernel
theorem dX10_rarest_21 : decode cX10_rarest 21 = .ok (.aload_n 0, 1) := by decide +kernel
theorem dX10_rarest_22 : decode cX10_rarest 22 = .ok (.iload_n 3, 1) := by decide +kernel
theorem dX10_rarest_23 : decode cX10_rarest 23 = .ok (.invokevirtual 435, 3) := by decide +kernel
theorem dX10_rarest_26 : decode cX10_rarest 26 = .ok (.invokestatic 336, 3) := by decide +kernel
theorem dX10_rarest_29 : decode cX10_rarest 29 = .ok (.aload_n 0, 1) := by decide +kernel
theorem dX10_rarest_30 : decode cX10_rarest 30 = .ok (.iload_n 2, 1) := by decide +kernel
theorem dX10_rarest_31 : decode cX10_rarest 31 = .ok (.invokevirtual 435, 3) := by decide +kernel
theorem dX10_rarest_34 : decode cX10_rarest 34 = .ok (.invokestatic 336, 3) := by decide +kernel
theorem dX10_rarest_37 : decode cX10_rarest 37 = .ok (.if_icmp .ge 5, 3) := by decide +kernel
theorem dX10_rarest_40 : decode cX10_rarest 40 = .ok (.iload_n 3, 1) := by decide +kernel
theorem dX10_rarest_41 : decode cX10_rarest 41 = .ok (.istore_n 2, 1) := by decide +kernel
theorem dX10_rarest_42 : decode cX10_rarest 42 = .ok (.iinc 3 1, 3) := by decide +kernel
theorem dX10_rarest_45 : decode cX10_rarest 45 = .ok (.goto (-30), 3) := by decide +kernel
theorem dX10_rarest_48 : decode cX10_rarest 48 = .ok (.iload_n 1, 1) := by decide +kernel
theorem dX10_rarest_49 : decode cX10_rarest 49 = .ok (.ifCond .ne 7, 3) := by decide +kernel
theorem dX10_rarest_52 : decode cX10_rarest 52 = .ok (.iload_n 2, 1) := by decide +kernel
theorem dX10_rarest_53 : decode cX10_rarest 53 = .ok (.goto 11, 3) := by decide +kernel
theorem dX10_rarest_56 : decode cX10_rarest 56 = .ok (.aload_n 0, 1) := by decide +kernel
theorem dX10_rarest_57 : decode cX10_rarest 57 = .ok (.iload_n 2, 1) := by decide +kernel
theorem dX10_rarest_58 : decode cX10_rarest 58 = .ok (.invokevirtual 435, 3) := by decide +kernel
theorem dX10_rarest_61 : decode cX10_rarest 61 = .ok (.invokestatic 336, 3) := by decide +kernel
theorem dX10_rarest_64 : decode cX10_rarest 64 = .ok (.ireturn, 1) := by decide +kernel
theorem dX10_series_0 : decode cX10_series 0 = .ok (.aload_n 0, 1) := by decide +kernel
theorem dX10_series_1 : decode cX10_series 1 = .ok (.iload_n 1, 1) := by decide +kernel
theorem dX10_series_2 : decode cX10_series 2 = .ok (.invokevirtual 381, 3) := by decide +kernel
theorem dX10_series_5 : decode cX10_series 5 = .ok (.ifCond .eq 13, 3) := by decide +kernel
theorem dX10_series_8 : decode cX10_series 8 = .ok (.iload_n 2, 1) := by decide +kernel
theorem dX10_series_9 : decode cX10_series 9 = .ok (.iconst 1, 1) := by decide +kernel
theorem dX10_series_10 : decode cX10_series 10 = .ok (.bipush 30, 2) := by decide +kernel
theorem dX10_series_12 : decode cX10_series 12 = .ok (.invokestatic 310, 3) := by decide +kernel
theorem dX10_series_15 : decode cX10_series 15 = .ok (.ifCond .ne 5, 3) := by decide +kernel
theorem dX10_series_18 : decode cX10_series 18 = .ok (.iconst (-1), 1) := by decide +kernel
theorem dX10_series_19 : decode cX10_series 19 = .ok (.ireturn, 1) := by decide +kernel
theorem dX10_series_20 : decode cX10_series 20 = .ok (.aload_n 0, 1) := by decide +kernel
theorem dX10_series_21 : decode cX10_series 21 = .ok (.invokevirtual 402, 3) := by decide +kernel
theorem dX10_series_24 : decode cX10_series 24 = .ok (.aload_n 0, 1) := by decide +kernel
theorem dX10_series_25 : decode cX10_series 25 = .ok (.invokevirtual 405, 3) := by decide +kernel
theorem dX10_series_28 : decode cX10_series 28 = .ok (.istore_n 3, 1) := by decide +kernel
theorem dX10_series_29 : decode cX10_series 29 = .ok (.iconst 0, 1) := by decide +kernel
theorem dX10_series_30 : decode cX10_series 30 = .ok (.istore 4, 2) := by decide +kernel
theorem dX10_series_32 : decode cX10_series 32 = .ok (.iload 4, 2) := by decide +kernel
theorem dX10_series_34 : decode cX10_series 34 = .ok (.iload_n 2, 1) := by decide +kernel
theorem dX10_series_35 : decode cX10_series 35 = .ok (.if_icmp .ge 14, 3) := by decide +kernel
theorem dX10_series_38 : decode cX10_series 38 = .ok (.aload_n 0, 1) := by decide +kernel
theorem dX10_series_39 : decode cX10_series 39 = .ok (.iload_n 1, 1) := by decide +kernel
theorem dX10_series_40 : decode cX10_series 40 = .ok (.invokevirtual 438, 3) := by decide +kernel
theorem dX10_series_43 : decode cX10_series 43 = .ok (.iinc 4 1, 3) := by decide +kernel
theorem dX10_series_46 : decode cX10_series 46 = .ok (.goto (-14), 3) := by decide +kernel
theorem dX10_series_49 : decode cX10_series 49 = .ok (.aload_n 0, 1) := by decide +kernel
theorem dX10_series_50 : decode cX10_series 50 = .ok (.invokevirtual 405, 3) := by decide +kernel
theorem dX10_series_53 : decode cX10_series 53 = .ok (.iload_n 3, 1) := by decide +kernel
theorem dX10_series_54 : decode cX10_series 54 = .ok (.isub, 1) := by decide +kernel
theorem dX10_series_55 : decode cX10_series 55 = .ok (.ireturn, 1) := by decide +kernel
theorem dX10_longOf_0 : decode cX10_longOf 0 = .ok (.aload_n 0, 1) := by decide +kernel
theorem dX10_longOf_1 : decode cX10_longOf 1 = .ok (.iload_n 1, 1) := by decide +kernel
theorem dX10_longOf_2 : decode cX10_longOf 2 = .ok (.invokevirtual 384, 3) := by decide +kernel
theorem dX10_longOf_5 : decode cX10_longOf 5 = .ok (.ifCond .eq 11, 3) := by decide +kernel
theorem dX10_longOf_8 : decode cX10_longOf 8 = .ok (.aload_n 0, 1) := by decide +kernel
theorem dX10_longOf_9 : decode cX10_longOf 9 = .ok (.iload_n 2, 1) := by decide +kernel
theorem dX10_longOf_10 : decode cX10_longOf 10 = .ok (.invokevirtual 381, 3) := by decide +kernel
theorem dX10_longOf_13 : decode cX10_longOf 13 = .ok (.ifCond .ne 5, 3) := by decide +kernel
theorem dX10_longOf_16 : decode cX10_longOf 16 = .ok (.iconst (-1), 1) := by decide +kernel
theorem dX10_longOf_17 : decode cX10_longOf 17 = .ok (.ireturn, 1) := by decide +kernel
theorem dX10_longOf_18 : decode cX10_longOf 18 = .ok (.aload_n 0, 1) := by decide +kernel
theorem dX10_longOf_19 : decode cX10_longOf 19 = .ok (.invokevirtual 402, 3) := by decide +kernel
theorem dX10_longOf_22 : decode cX10_longOf 22 = .ok (.iconst 0, 1) := by decide +kernel
theorem dX10_longOf_23 : decode cX10_longOf 23 = .ok (.istore_n 3, 1) := by decide +kernel
theorem dX10_longOf_24 : decode cX10_longOf 24 = .ok (.iload_n 3, 1) := by decide +kernel
theorem dX10_longOf_25 : decode cX10_longOf 25 = .ok (.bipush 30, 2) := by decide +kernel
theorem dX10_longOf_27 : decode cX10_longOf 27 = .ok (.if_icmp .gt 24, 3) := by decide +kernel
theorem dX10_longOf_30 : decode cX10_longOf 30 = .ok (.aload_n 0, 1) := by decide +kernel
theorem dX10_longOf_31 : decode cX10_longOf 31 = .ok (.iload_n 1, 1) := by decide +kernel
theorem dX10_longOf_32 : decode cX10_longOf 32 = .ok (.invokevirtual 350, 3) := by decide +kernel
theorem dX10_longOf_35 : decode cX10_longOf 35 = .ok (.ifCond .eq 5, 3) := by decide +kernel
theorem dX10_longOf_38 : decode cX10_longOf 38 = .ok (.iload_n 3, 1) := by decide +kernel
theorem dX10_longOf_39 : decode cX10_longOf 39 = .ok (.ireturn, 1) := by decide +kernel
theorem dX10_longOf_40 : decode cX10_longOf 40 = .ok (.aload_n 0, 1) := by decide +kernel
theorem dX10_longOf_41 : decode cX10_longOf 41 = .ok (.iload_n 2, 1) := by decide +kernel
theorem dX10_longOf_42 : decode cX10_longOf 42 = .ok (.invokevirtual 438, 3) := by decide +kernel
theorem dX10_longOf_45 : decode cX10_longOf 45 = .ok (.iinc 3 1, 3) := by decide +kernel
theorem dX10_longOf_48 : decode cX10_longOf 48 = .ok (.goto (-24), 3) := by decide +kernel
theorem dX10_longOf_51 : decode cX10_longOf 51 = .ok (.bipush (-2), 2) := by decide +kernel
theorem dX10_longOf_53 : decode cX10_longOf 53 = .ok (.ireturn, 1) := by decide +kernel
theorem dX10_callers_0 : decode cX10_callers 0 = .ok (.aload_n 0, 1) := by decide +kernel
theorem dX10_callers_1 : decode cX10_callers 1 = .ok (.iload_n 1, 1) := by decide +kernel
theorem dX10_callers_2 : decode cX10_callers 2 = .ok (.invokevirtual 381, 3) := by decide +kernel
theorem dX10_callers_5 : decode cX10_callers 5 = .ok (.ifCond .ne 5, 3) := by decide +kernel
theorem dX10_callers_8 : decode cX10_callers 8 = .ok (.iconst (-1), 1) := by decide +kernel
theorem dX10_callers_9 : decode cX10_callers 9 = .ok (.ireturn, 1) := by decide +kernel
theorem dX10_callers_10 : decode cX10_callers 10 = .ok (.aload_n 0, 1) := by decide +kernel
theorem dX10_callers_11 : decode cX10_callers 11 = .ok (.invokevirtual 320, 3) := by decide +kernel
theorem dX10_callers_14 : decode cX10_callers 14 = .ok (.aload_n 0, 1) := by decide +kernel
theorem dX10_callers_15 : decode cX10_callers 15 = .ok (.iload_n 1, 1) := by decide +kernel
theorem dX10_callers_16 : decode cX10_callers 16 = .ok (.invokevirtual 353, 3) := by decide +kernel
theorem dX10_callers_19 : decode cX10_callers 19 = .ok (.istore_n 2, 1) := by decide +kernel
theorem dX10_callers_20 : decode cX10_callers 20 = .ok (.iconst 0, 1) := by decide +kernel
theorem dX10_callers_21 : decode cX10_callers 21 = .ok (.istore_n 3, 1) := by decide +kernel
theorem dX10_callers_22 : decode cX10_callers 22 = .ok (.iconst 0, 1) := by decide +kernel
theorem dX10_callers_23 : decode cX10_callers 23 = .ok (.istore 4, 2) := by decide +kernel
theorem dX10_callers_25 : decode cX10_callers 25 = .ok (.iload 4, 2) := by decide +kernel
theorem dX10_callers_27 : decode cX10_callers 27 = .ok (.aload_n 0, 1) := by decide +kernel
theorem dX10_callers_28 : decode cX10_callers 28 = .ok (.getfield 55, 3) := by decide +kernel
theorem dX10_callers_31 : decode cX10_callers 31 = .ok (.aload_n 0, 1) := by decide +kernel
theorem dX10_callers_32 : decode cX10_callers 32 = .ok (.getfield 230, 3) := by decide +kernel
theorem dX10_callers_35 : decode cX10_callers 35 = .ok (.iaload, 1) := by decide +kernel
theorem dX10_callers_36 : decode cX10_callers 36 = .ok (.if_icmp .ge 46, 3) := by decide +kernel
theorem dX10_callers_39 : decode cX10_callers 39 = .ok (.aload_n 0, 1) := by decide +kernel
theorem dX10_callers_40 : decode cX10_callers 40 = .ok (.iload 4, 2) := by decide +kernel
theorem dX10_callers_42 : decode cX10_callers 42 = .ok (.iload_n 1, 1) := by decide +kernel
theorem dX10_callers_43 : decode cX10_callers 43 = .ok (.invokevirtual 339, 3) := by decide +kernel
theorem dX10_callers_46 : decode cX10_callers 46 = .ok (.ifCond .eq 30, 3) := by decide +kernel
theorem dX10_callers_49 : decode cX10_callers 49 = .ok (.aload_n 0, 1) := by decide +kernel
theorem dX10_callers_50 : decode cX10_callers 50 = .ok (.iload 4, 2) := by decide +kernel
theorem dX10_callers_52 : decode cX10_callers 52 = .ok (.invokevirtual 365, 3) := by decide +kernel
theorem dX10_callers_55 : decode cX10_callers 55 = .ok (.ifCond .eq 21, 3) := by decide +kernel
theorem dX10_callers_58 : decode cX10_callers 58 = .ok (.aload_n 0, 1) := by decide +kernel
theorem dX10_callers_59 : decode cX10_callers 59 = .ok (.iload 4, 2) := by decide +kernel
theorem dX10_callers_61 : decode cX10_callers 61 = .ok (.iload_n 1, 1) := by decide +kernel
theorem dX10_callers_62 : decode cX10_callers 62 = .ok (.iload_n 2, 1) := by decide +kernel
theorem dX10_callers_63 : decode cX10_callers 63 = .ok (.invokevirtual 368, 3) := by decide +kernel
theorem dX10_callers_66 : decode cX10_callers 66 = .ok (.ifCond .eq 10, 3) := by decide +kernel
theorem dX10_callers_69 : decode cX10_callers 69 = .ok (.iload_n 3, 1) := by decide +kernel
theorem dX10_callers_70 : decode cX10_callers 70 = .ok (.iconst 1, 1) := by decide +kernel
theorem dX10_callers_71 : decode cX10_callers 71 = .ok (.iload 4, 2) := by decide +kernel
theorem dX10_callers_73 : decode cX10_callers 73 = .ok (.ishl, 1) := by decide +kernel
theorem dX10_callers_74 : decode cX10_callers 74 = .ok (.ior, 1) := by decide +kernel
theorem dX10_callers_75 : decode cX10_callers 75 = .ok (.istore_n 3, 1) := by decide +kernel
theorem dX10_callers_76 : decode cX10_callers 76 = .ok (.iinc 4 1, 3) := by decide +kernel
theorem dX10_callers_79 : decode cX10_callers 79 = .ok (.goto (-54), 3) := by decide +kernel
theorem dX10_callers_82 : decode cX10_callers 82 = .ok (.iload_n 3, 1) := by decide +kernel
theorem dX10_callers_83 : decode cX10_callers 83 = .ok (.ireturn, 1) := by decide +kernel
theorem dX10_sway_0 : decode cX10_sway 0 = .ok (.aload_n 0, 1) := by decide +kernel
theorem dX10_sway_1 : decode cX10_sway 1 = .ok (.iload_n 1, 1) := by decide +kernel
theorem dX10_sway_2 : decode cX10_sway 2 = .ok (.invokevirtual 381, 3) := by decide +kernel
theorem dX10_sway_5 : decode cX10_sway 5 = .ok (.ifCond .ne 7, 3) := by decide +kernel
theorem dX10_sway_8 : decode cX10_sway 8 = .ok (.ldc_w 441, 3) := by decide +kernel
theorem dX10_sway_11 : decode cX10_sway 11 = .ok (.ireturn, 1) := by decide +kernel
theorem dX10_sway_12 : decode cX10_sway 12 = .ok (.aload_n 0, 1) := by decide +kernel
theorem dX10_sway_13 : decode cX10_sway 13 = .ok (.invokevirtual 320, 3) := by decide +kernel
theorem dX10_sway_16 : decode cX10_sway 16 = .ok (.aload_n 0, 1) := by decide +kernel
theorem dX10_sway_17 : decode cX10_sway 17 = .ok (.bipush 18, 2) := by decide +kernel
theorem dX10_sway_19 : decode cX10_sway 19 = .ok (.invokevirtual 442, 3) := by decide +kernel
theorem dX10_sway_22 : decode cX10_sway 22 = .ok (.istore_n 2, 1) := by decide +kernel
theorem dX10_sway_23 : decode cX10_sway 23 = .ok (.aload_n 0, 1) := by decide +kernel
theorem dX10_sway_24 : decode cX10_sway 24 = .ok (.iload_n 1, 1) := by decide +kernel
theorem dX10_sway_25 : decode cX10_sway 25 = .ok (.invokevirtual 411, 3) := by decide +kernel
theorem dX10_sway_28 : decode cX10_sway 28 = .ok (.pop, 1) := by decide +kernel
theorem dX10_sway_29 : decode cX10_sway 29 = .ok (.aload_n 0, 1) := by decide +kernel
theorem dX10_sway_30 : decode cX10_sway 30 = .ok (.bipush 18, 2) := by decide +kernel
theorem dX10_sway_32 : decode cX10_sway 32 = .ok (.invokevirtual 442, 3) := by decide +kernel
theorem dX10_sway_35 : decode cX10_sway 35 = .ok (.iload_n 2, 1) := by decide +kernel
theorem dX10_sway_36 : decode cX10_sway 36 = .ok (.isub, 1) := by decide +kernel
theorem dX10_sway_37 : decode cX10_sway 37 = .ok (.ireturn, 1) := by decide +kernel
theorem dX10_circle_0 : decode cX10_circle 0 = .ok (.aload_n 0, 1) := by decide +kernel
theorem dX10_circle_1 : decode cX10_circle 1 = .ok (.iload_n 1, 1) := by decide +kernel
theorem dX10_circle_2 : decode cX10_circle 2 = .ok (.invokevirtual 384, 3) := by decide +kernel
theorem dX10_circle_5 : decode cX10_circle 5 = .ok (.ifCond .eq 12, 3) := by decide +kernel
theorem dX10_circle_8 : decode cX10_circle 8 = .ok (.iload_n 2, 1) := by decide +kernel
theorem dX10_circle_9 : decode cX10_circle 9 = .ok (.iconst 0, 1) := by decide +kernel
theorem dX10_circle_10 : decode cX10_circle 10 = .ok (.iconst 1, 1) := by decide +kernel
theorem dX10_circle_11 : decode cX10_circle 11 = .ok (.invokestatic 310, 3) := by decide +kernel
theorem dX10_circle_14 : decode cX10_circle 14 = .ok (.ifCond .ne 5, 3) := by decide +kernel
theorem dX10_circle_17 : decode cX10_circle 17 = .ok (.iconst (-1), 1) := by decide +kernel
theorem dX10_circle_18 : decode cX10_circle 18 = .ok (.ireturn, 1) := by decide +kernel
theorem dX10_circle_19 : decode cX10_circle 19 = .ok (.bipush (-2), 2) := by decide +kernel
theorem dX10_circle_21 : decode cX10_circle 21 = .ok (.istore_n 3, 1) := by decide +kernel
theorem dX10_circle_22 : decode cX10_circle 22 = .ok (.iconst 0, 1) := by decide +kernel
theorem dX10_circle_23 : decode cX10_circle 23 = .ok (.istore 4, 2) := by decide +kernel
theorem dX10_circle_25 : decode cX10_circle 25 = .ok (.iload 4, 2) := by decide +kernel
theorem dX10_circle_27 : decode cX10_circle 27 = .ok (.iconst 1, 1) := by decide +kernel
theorem dX10_circle_28 : decode cX10_circle 28 = .ok (.aload_n 0, 1) := by decide +kernel
theorem dX10_circle_29 : decode cX10_circle 29 = .ok (.getfield 55, 3) := by decide +kernel
theorem dX10_circle_32 : decode cX10_circle 32 = .ok (.aload_n 0, 1) := by decide +kernel
theorem dX10_circle_33 : decode cX10_circle 33 = .ok (.getfield 230, 3) := by decide +kernel
theorem dX10_circle_36 : decode cX10_circle 36 = .ok (.iaload, 1) := by decide +kernel
theorem dX10_circle_37 : decode cX10_circle 37 = .ok (.ishl, 1) := by decide +kernel
theorem dX10_circle_38 : decode cX10_circle 38 = .ok (.if_icmp .ge 123, 3) := by decide +kernel
theorem dX10_circle_41 : decode cX10_circle 41 = .ok (.iload 4, 2) := by decide +kernel
theorem dX10_circle_43 : decode cX10_circle 43 = .ok (.iload_n 1, 1) := by decide +kernel
theorem dX10_circle_44 : decode cX10_circle 44 = .ok (.ishr, 1) := by decide +kernel
theorem dX10_circle_45 : decode cX10_circle 45 = .ok (.iconst 1, 1) := by decide +kernel
theorem dX10_circle_46 : decode cX10_circle 46 = .ok (.iand, 1) := by decide +kernel
theorem dX10_circle_47 : decode cX10_circle 47 = .ok (.iconst 1, 1) := by decide +kernel
theorem dX10_circle_48 : decode cX10_circle 48 = .ok (.if_icmp .eq 107, 3) := by decide +kernel
theorem dX10_circle_51 : decode cX10_circle 51 = .ok (.iload_n 3, 1) := by decide +kernel
theorem dX10_circle_52 : decode cX10_circle 52 = .ok (.ifCond .lt 18, 3) := by decide +kernel
theorem dX10_circle_55 : decode cX10_circle 55 = .ok (.iload 4, 2) := by decide +kernel
theorem dX10_circle_57 : decode cX10_circle 57 = .ok (.invokestatic 336, 3) := by decide +kernel
theorem dX10_circle_60 : decode cX10_circle 60 = .ok (.iload_n 3, 1) := by decide +kernel
theorem dX10_circle_61 : decode cX10_circle 61 = .ok (.invokestatic 336, 3) := by decide +kernel
theorem dX10_circle_64 : decode cX10_circle 64 = .ok (.if_icmp .lt 6, 3) := by decide +kernel
theorem dX10_circle_67 : decode cX10_circle 67 = .ok (.goto 88, 3) := by decide +kernel
theorem dX10_circle_70 : decode cX10_circle 70 = .ok (.aload_n 0, 1) := by decide +kernel
theorem dX10_circle_71 : decode cX10_circle 71 = .ok (.getfield 119, 3) := by decide +kernel
theorem dX10_circle_74 : decode cX10_circle 74 = .ok (.bipush 12, 2) := by decide +kernel
theorem dX10_circle_76 : decode cX10_circle 76 = .ok (.iload_n 1, 1) := by decide +kernel
theorem dX10_circle_77 : decode cX10_circle 77 = .ok (.iadd, 1) := by decide +kernel
theorem dX10_circle_78 : decode cX10_circle 78 = .ok (.iaload, 1) := by decide +kernel
theorem dX10_circle_79 : decode cX10_circle 79 = .ok (.istore 5, 2) := by decide +kernel
theorem dX10_circle_81 : decode cX10_circle 81 = .ok (.iconst 0, 1) := by decide +kernel
theorem dX10_circle_82 : decode cX10_circle 82 = .ok (.istore 6, 2) := by decide +kernel
theorem dX10_circle_84 : decode cX10_circle 84 = .ok (.iload 6, 2) := by decide +kernel
theorem dX10_circle_86 : decode cX10_circle 86 = .ok (.aload_n 0, 1) := by decide +kernel
theorem dX10_circle_87 : decode cX10_circle 87 = .ok (.getfield 55, 3) := by decide +kernel
theorem dX10_circle_90 : decode cX10_circle 90 = .ok (.aload_n 0, 1) := by decide +kernel
theorem dX10_circle_91 : decode cX10_circle 91 = .ok (.getfield 230, 3) := by decide +kernel
theorem dX10_circle_94 : decode cX10_circle 94 = .ok (.iaload, 1) := by decide +kernel
theorem dX10_circle_95 : decode cX10_circle 95 = .ok (.if_icmp .ge 35, 3) := by decide +kernel
theorem dX10_circle_98 : decode cX10_circle 98 = .ok (.iload 4, 2) := by decide +kernel
theorem dX10_circle_100 : decode cX10_circle 100 = .ok (.iload 6, 2) := by decide +kernel
theorem dX10_circle_102 : decode cX10_circle 102 = .ok (.ishr, 1) := by decide +kernel
theorem dX10_circle_103 : decode cX10_circle 103 = .ok (.iconst 1, 1) := by decide +kernel
theorem dX10_circle_104 : decode cX10_circle 104 = .ok (.iand, 1) := by decide +kernel
theorem dX10_circle_105 : decode cX10_circle 105 = .ok (.iconst 1, 1) := by decide +kernel
theorem dX10_circle_106 : decode cX10_circle 106 = .ok (.if_icmp .ne 18, 3) := by decide +kernel
theorem dX10_circle_109 : decode cX10_circle 109 = .ok (.iload 5, 2) := by decide +kernel
theorem dX10_circle_111 : decode cX10_circle 111 = .ok (.aload_n 0, 1) := by decide +kernel
theorem dX10_circle_112 : decode cX10_circle 112 = .ok (.getfield 119, 3) := by decide +kernel
theorem dX10_circle_115 : decode cX10_circle 115 = .ok (.bipush 12, 2) := by decide +kernel
theorem dX10_circle_117 : decode cX10_circle 117 = .ok (.iload 6, 2) := by decide +kernel
theorem dX10_circle_119 : decode cX10_circle 119 = .ok (.iadd, 1) := by decide +kernel
theorem dX10_circle_120 : decode cX10_circle 120 = .ok (.iaload, 1) := by decide +kernel
theorem dX10_circle_121 : decode cX10_circle 121 = .ok (.ior, 1) := by decide +kernel
theorem dX10_circle_122 : decode cX10_circle 122 = .ok (.istore 5, 2) := by decide +kernel
theorem dX10_circle_124 : decode cX10_circle 124 = .ok (.iinc 6 1, 3) := by decide +kernel
theorem dX10_circle_127 : decode cX10_circle 127 = .ok (.goto (-43), 3) := by decide +kernel
theorem dX10_circle_130 : decode cX10_circle 130 = .ok (.aload_n 0, 1) := by decide +kernel
theorem dX10_circle_131 : decode cX10_circle 131 = .ok (.getfield 61, 3) := by decide +kernel
theorem dX10_circle_134 : decode cX10_circle 134 = .ok (.bipush 6, 2) := by decide +kernel
theorem dX10_circle_136 : decode cX10_circle 136 = .ok (.aload_n 0, 1) := by decide +kernel
theorem dX10_circle_137 : decode cX10_circle 137 = .ok (.getfield 230, 3) := by decide +kernel
theorem dX10_circle_140 : decode cX10_circle 140 = .ok (.imul, 1) := by decide +kernel
theorem dX10_circle_141 : decode cX10_circle 141 = .ok (.iload_n 1, 1) := by decide +kernel
theorem dX10_circle_142 : decode cX10_circle 142 = .ok (.iadd, 1) := by decide +kernel
theorem dX10_circle_143 : decode cX10_circle 143 = .ok (.iaload, 1) := by decide +kernel
theorem dX10_circle_144 : decode cX10_circle 144 = .ok (.iload 5, 2) := by decide +kernel
theorem dX10_circle_146 : decode cX10_circle 146 = .ok (.iconst (-1), 1) := by decide +kernel
theorem dX10_circle_147 : decode cX10_circle 147 = .ok (.ixor, 1) := by decide +kernel
theorem dX10_circle_148 : decode cX10_circle 148 = .ok (.iand, 1) := by decide +kernel
theorem dX10_circle_149 : decode cX10_circle 149 = .ok (.ifCond .ne 6, 3) := by decide +kernel
theorem dX10_circle_152 : decode cX10_circle 152 = .ok (.iload 4, 2) := by decide +kernel
theorem dX10_circle_154 : decode cX10_circle 154 = .ok (.istore_n 3, 1) := by decide +kernel
theorem dX10_circle_155 : decode cX10_circle 155 = .ok (.iinc 4 1, 3) := by decide +kernel
theorem dX10_circle_158 : decode cX10_circle 158 = .ok (.goto (-133), 3) := by decide +kernel
theorem dX10_circle_161 : decode cX10_circle 161 = .ok (.iload_n 3, 1) := by decide +kernel
theorem dX10_circle_162 : decode cX10_circle 162 = .ok (.ifCond .lt 8, 3) := by decide +kernel
theorem dX10_circle_165 : decode cX10_circle 165 = .ok (.iload_n 2, 1) := by decide +kernel
theorem dX10_circle_166 : decode cX10_circle 166 = .ok (.iconst 1, 1) := by decide +kernel
theorem dX10_circle_167 : decode cX10_circle 167 = .ok (.if_icmp .ne 7, 3) := by decide +kernel
theorem dX10_circle_170 : decode cX10_circle 170 = .ok (.iload_n 3, 1) := by decide +kernel
theorem dX10_circle_171 : decode cX10_circle 171 = .ok (.goto 7, 3) := by decide +kernel
theorem dX10_circle_174 : decode cX10_circle 174 = .ok (.iload_n 3, 1) := by decide +kernel
theorem dX10_circle_175 : decode cX10_circle 175 = .ok (.invokestatic 336, 3) := by decide +kernel
theorem dX10_circle_178 : decode cX10_circle 178 = .ok (.ireturn, 1) := by decide +kernel
theorem dX10_doubles_0 : decode cX10_doubles 0 = .ok (.iconst 0, 1) := by decide +kernel
theorem dX10_doubles_1 : decode cX10_doubles 1 = .ok (.istore_n 1, 1) := by decide +kernel
theorem dX10_doubles_2 : decode cX10_doubles 2 = .ok (.iconst 0, 1) := by decide +kernel
theorem dX10_doubles_3 : decode cX10_doubles 3 = .ok (.istore_n 2, 1) := by decide +kernel
theorem dX10_doubles_4 : decode cX10_doubles 4 = .ok (.iload_n 2, 1) := by decide +kernel
theorem dX10_doubles_5 : decode cX10_doubles 5 = .ok (.aload_n 0, 1) := by decide +kernel
theorem dX10_doubles_6 : decode cX10_doubles 6 = .ok (.getfield 46, 3) := by decide +kernel
theorem dX10_doubles_9 : decode cX10_doubles 9 = .ok (.aload_n 0, 1) := by decide +kernel
theorem dX10_doubles_10 : decode cX10_doubles 10 = .ok (.getfield 230, 3) := by decide +kernel
theorem dX10_doubles_13 : decode cX10_doubles 13 = .ok (.iaload, 1) := by decide +kernel
theorem dX10_doubles_14 : decode cX10_doubles 14 = .ok (.if_icmp .ge 89, 3) := by decide +kernel
theorem dX10_doubles_17 : decode cX10_doubles 17 = .ok (.iload_n 2, 1) := by decide +kernel
theorem dX10_doubles_18 : decode cX10_doubles 18 = .ok (.iconst 1, 1) := by decide +kernel
theorem dX10_doubles_19 : decode cX10_doubles 19 = .ok (.iadd, 1) := by decide +kernel
theorem dX10_doubles_20 : decode cX10_doubles 20 = .ok (.istore_n 3, 1) := by decide +kernel
theorem dX10_doubles_21 : decode cX10_doubles 21 = .ok (.iload_n 3, 1) := by decide +kernel
theorem dX10_doubles_22 : decode cX10_doubles 22 = .ok (.aload_n 0, 1) := by decide +kernel
theorem dX10_doubles_23 : decode cX10_doubles 23 = .ok (.getfield 46, 3) := by decide +kernel
theorem dX10_doubles_26 : decode cX10_doubles 26 = .ok (.aload_n 0, 1) := by decide +kernel
theorem dX10_doubles_27 : decode cX10_doubles 27 = .ok (.getfield 230, 3) := by decide +kernel
theorem dX10_doubles_30 : decode cX10_doubles 30 = .ok (.iaload, 1) := by decide +kernel
theorem dX10_doubles_31 : decode cX10_doubles 31 = .ok (.if_icmp .ge 66, 3) := by decide +kernel
theorem dX10_doubles_34 : decode cX10_doubles 34 = .ok (.iconst 0, 1) := by decide +kernel
theorem dX10_doubles_35 : decode cX10_doubles 35 = .ok (.istore 4, 2) := by decide +kernel
theorem dX10_doubles_37 : decode cX10_doubles 37 = .ok (.iconst 0, 1) := by decide +kernel
theorem dX10_doubles_38 : decode cX10_doubles 38 = .ok (.istore 5, 2) := by decide +kernel
theorem dX10_doubles_40 : decode cX10_doubles 40 = .ok (.iload 5, 2) := by decide +kernel
theorem dX10_doubles_42 : decode cX10_doubles 42 = .ok (.aload_n 0, 1) := by decide +kernel
theorem dX10_doubles_43 : decode cX10_doubles 43 = .ok (.getfield 55, 3) := by decide +kernel
theorem dX10_doubles_46 : decode cX10_doubles 46 = .ok (.aload_n 0, 1) := by decide +kernel
theorem dX10_doubles_47 : decode cX10_doubles 47 = .ok (.getfield 230, 3) := by decide +kernel
theorem dX10_doubles_50 : decode cX10_doubles 50 = .ok (.iaload, 1) := by decide +kernel
theorem dX10_doubles_51 : decode cX10_doubles 51 = .ok (.if_icmp .ge 32, 3) := by decide +kernel
theorem dX10_doubles_54 : decode cX10_doubles 54 = .ok (.aload_n 0, 1) := by decide +kernel
theorem dX10_doubles_55 : decode cX10_doubles 55 = .ok (.iload 5, 2) := by decide +kernel
theorem dX10_doubles_57 : decode cX10_doubles 57 = .ok (.iload_n 2, 1) := by decide +kernel
theorem dX10_doubles_58 : decode cX10_doubles 58 = .ok (.invokevirtual 339, 3) := by decide +kernel
theorem dX10_doubles_61 : decode cX10_doubles 61 = .ok (.ifCond .eq 16, 3) := by decide +kernel
theorem dX10_doubles_64 : decode cX10_doubles 64 = .ok (.aload_n 0, 1) := by decide +kernel
theorem dX10_doubles_65 : decode cX10_doubles 65 = .ok (.iload 5, 2) := by decide +kernel
theorem dX10_doubles_67 : decode cX10_doubles 67 = .ok (.iload_n 3, 1) := by decide +kernel
theorem dX10_doubles_68 : decode cX10_doubles 68 = .ok (.invokevirtual 339, 3) := by decide +kernel
theorem dX10_doubles_71 : decode cX10_doubles 71 = .ok (.ifCond .eq 6, 3) := by decide +kernel
theorem dX10_doubles_74 : decode cX10_doubles 74 = .ok (.iconst 1, 1) := by decide +kernel
theorem dX10_doubles_75 : decode cX10_doubles 75 = .ok (.istore 4, 2) := by decide +kernel
theorem dX10_doubles_77 : decode cX10_doubles 77 = .ok (.iinc 5 1, 3) := by decide +kernel
theorem dX10_doubles_80 : decode cX10_doubles 80 = .ok (.goto (-40), 3) := by decide +kernel
theorem dX10_doubles_83 : decode cX10_doubles 83 = .ok (.iload 4, 2) := by decide +kernel
theorem dX10_doubles_85 : decode cX10_doubles 85 = .ok (.ifCond .eq 6, 3) := by decide +kernel
theorem dX10_doubles_88 : decode cX10_doubles 88 = .ok (.iinc 1 1, 3) := by decide +kernel
theorem dX10_doubles_91 : decode cX10_doubles 91 = .ok (.iinc 3 1, 3) := by decide +kernel
theorem dX10_doubles_94 : decode cX10_doubles 94 = .ok (.goto (-73), 3) := by decide +kernel
theorem dX10_doubles_97 : decode cX10_doubles 97 = .ok (.iinc 2 1, 3) := by decide +kernel
theorem dX10_doubles_100 : decode cX10_doubles 100 = .ok (.goto (-96), 3) := by decide +kernel
theorem dX10_doubles_103 : decode cX10_doubles 103 = .ok (.iload_n 1, 1) := by decide +kernel
theorem dX10_doubles_104 : decode cX10_doubles 104 = .ok (.ireturn, 1) := by decide +kernel
theorem dX10_faith_0 : decode cX10_faith 0 = .ok (.iload_n 1, 1) := by decide +kernel
theorem dX10_faith_1 : decode cX10_faith 1 = .ok (.invokestatic 396, 3) := by decide +kernel
theorem dX10_faith_4 : decode cX10_faith 4 = .ok (.ifCond .ne 5, 3) := by decide +kernel
theorem dX10_faith_7 : decode cX10_faith 7 = .ok (.iconst (-1), 1) := by decide +kernel
theorem dX10_faith_8 : decode cX10_faith 8 = .ok (.ireturn, 1) := by decide +kernel
theorem dX10_faith_9 : decode cX10_faith 9 = .ok (.aload_n 0, 1) := by decide +kernel
theorem dX10_faith_10 : decode cX10_faith 10 = .ok (.invokevirtual 320, 3) := by decide +kernel
theorem dX10_faith_13 : decode cX10_faith 13 = .ok (.aload_n 0, 1) := by decide +kernel
theorem dX10_faith_14 : decode cX10_faith 14 = .ok (.iload_n 1, 1) := by decide +kernel
theorem dX10_faith_15 : decode cX10_faith 15 = .ok (.invokevirtual 399, 3) := by decide +kernel
theorem dX10_faith_18 : decode cX10_faith 18 = .ok (.aload_n 0, 1) := by decide +kernel
theorem dX10_faith_19 : decode cX10_faith 19 = .ok (.bipush 18, 2) := by decide +kernel
theorem dX10_faith_21 : decode cX10_faith 21 = .ok (.invokevirtual 442, 3) := by decide +kernel
theorem dX10_faith_24 : decode cX10_faith 24 = .ok (.ireturn, 1) := by decide +kernel
theorem dX10_never_0 : decode cX10_never 0 = .ok (.aload_n 0, 1) := by decide +kernel
theorem dX10_never_1 : decode cX10_never 1 = .ok (.iload_n 1, 1) := by decide +kernel
theorem dX10_never_2 : decode cX10_never 2 = .ok (.invokevirtual 384, 3) := by decide +kernel
theorem dX10_never_5 : decode cX10_never 5 = .ok (.ifCond .ne 5, 3) := by decide +kernel
theorem dX10_never_8 : decode cX10_never 8 = .ok (.iconst (-1), 1) := by decide +kernel
theorem dX10_never_9 : decode cX10_never 9 = .ok (.ireturn, 1) := by decide +kernel
theorem dX10_never_10 : decode cX10_never 10 = .ok (.aload_n 0, 1) := by decide +kernel
theorem dX10_never_11 : decode cX10_never 11 = .ok (.getfield 61, 3) := by decide +kernel
theorem dX10_never_14 : decode cX10_never 14 = .ok (.bipush 6, 2) := by decide +kernel
theorem dX10_never_16 : decode cX10_never 16 = .ok (.aload_n 0, 1) := by decide +kernel
theorem dX10_never_17 : decode cX10_never 17 = .ok (.getfield 230, 3) := by decide +kernel
theorem dX10_never_20 : decode cX10_never 20 = .ok (.imul, 1) := by decide +kernel
theorem dX10_never_21 : decode cX10_never 21 = .ok (.iload_n 1, 1) := by decide +kernel
theorem dX10_never_22 : decode cX10_never 22 = .ok (.iadd, 1) := by decide +kernel
theorem dX10_never_23 : decode cX10_never 23 = .ok (.iaload, 1) := by decide +kernel
theorem dX10_never_24 : decode cX10_never 24 = .ok (.aload_n 0, 1) := by decide +kernel
theorem dX10_never_25 : decode cX10_never 25 = .ok (.getfield 119, 3) := by decide +kernel
theorem dX10_never_28 : decode cX10_never 28 = .ok (.bipush 12, 2) := by decide +kernel
theorem dX10_never_30 : decode cX10_never 30 = .ok (.iload_n 1, 1) := by decide +kernel
theorem dX10_never_31 : decode cX10_never 31 = .ok (.iadd, 1) := by decide +kernel
theorem dX10_never_32 : decode cX10_never 32 = .ok (.iaload, 1) := by decide +kernel
theorem dX10_never_33 : decode cX10_never 33 = .ok (.iconst (-1), 1) := by decide +kernel
theorem dX10_never_34 : decode cX10_never 34 = .ok (.ixor, 1) := by decide +kernel
theorem dX10_never_35 : decode cX10_never 35 = .ok (.iand, 1) := by decide +kernel
theorem dX10_never_36 : decode cX10_never 36 = .ok (.istore_n 2, 1) := by decide +kernel
theorem dX10_never_37 : decode cX10_never 37 = .ok (.iconst 0, 1) := by decide +kernel
theorem dX10_never_38 : decode cX10_never 38 = .ok (.istore_n 3, 1) := by decide +kernel
theorem dX10_never_39 : decode cX10_never 39 = .ok (.iload_n 3, 1) := by decide +kernel
theorem dX10_never_40 : decode cX10_never 40 = .ok (.aload_n 0, 1) := by decide +kernel
theorem dX10_never_41 : decode cX10_never 41 = .ok (.getfield 46, 3) := by decide +kernel
theorem dX10_never_44 : decode cX10_never 44 = .ok (.aload_n 0, 1) := by decide +kernel
theorem dX10_never_45 : decode cX10_never 45 = .ok (.getfield 230, 3) := by decide +kernel
theorem dX10_never_48 : decode cX10_never 48 = .ok (.iaload, 1) := by decide +kernel
theorem dX10_never_49 : decode cX10_never 49 = .ok (.if_icmp .ge 28, 3) := by decide +kernel
theorem dX10_never_52 : decode cX10_never 52 = .ok (.iload_n 2, 1) := by decide +kernel
theorem dX10_never_53 : decode cX10_never 53 = .ok (.aload_n 0, 1) := by decide +kernel
theorem dX10_never_54 : decode cX10_never 54 = .ok (.getfield 49, 3) := by decide +kernel
theorem dX10_never_57 : decode cX10_never 57 = .ok (.bipush 6, 2) := by decide +kernel
theorem dX10_never_59 : decode cX10_never 59 = .ok (.aload_n 0, 1) := by decide +kernel
theorem dX10_never_60 : decode cX10_never 60 = .ok (.getfield 230, 3) := by decide +kernel
theorem dX10_never_63 : decode cX10_never 63 = .ok (.imul, 1) := by decide +kernel
theorem dX10_never_64 : decode cX10_never 64 = .ok (.iload_n 3, 1) := by decide +kernel
theorem dX10_never_65 : decode cX10_never 65 = .ok (.iadd, 1) := by decide +kernel
theorem dX10_never_66 : decode cX10_never 66 = .ok (.iaload, 1) := by decide +kernel
theorem dX10_never_67 : decode cX10_never 67 = .ok (.iconst (-1), 1) := by decide +kernel
theorem dX10_never_68 : decode cX10_never 68 = .ok (.ixor, 1) := by decide +kernel
theorem dX10_never_69 : decode cX10_never 69 = .ok (.iand, 1) := by decide +kernel
theorem dX10_never_70 : decode cX10_never 70 = .ok (.istore_n 2, 1) := by decide +kernel
theorem dX10_never_71 : decode cX10_never 71 = .ok (.iinc 3 1, 3) := by decide +kernel
theorem dX10_never_74 : decode cX10_never 74 = .ok (.goto (-35), 3) := by decide +kernel
theorem dX10_never_77 : decode cX10_never 77 = .ok (.iload_n 2, 1) := by decide +kernel
theorem dX10_never_78 : decode cX10_never 78 = .ok (.ireturn, 1) := by decide +kernel
theorem dX10_tellsApart_0 : decode cX10_tellsApart 0 = .ok (.iconst 0, 1) := by decide +kernel
theorem dX10_tellsApart_1 : decode cX10_tellsApart 1 = .ok (.istore_n 2, 1) := by decide +kernel
theorem dX10_tellsApart_2 : decode cX10_tellsApart 2 = .ok (.iload_n 2, 1) := by decide +kernel
theorem dX10_tellsApart_3 : decode cX10_tellsApart 3 = .ok (.aload_n 0, 1) := by decide +kernel
theorem dX10_tellsApart_4 : decode cX10_tellsApart 4 = .ok (.getfield 46, 3) := by decide +kernel
theorem dX10_tellsApart_7 : decode cX10_tellsApart 7 = .ok (.aload_n 0, 1) := by decide +kernel
theorem dX10_tellsApart_8 : decode cX10_tellsApart 8 = .ok (.getfield 230, 3) := by decide +kernel
theorem dX10_tellsApart_11 : decode cX10_tellsApart 11 = .ok (.iaload, 1) := by decide +kernel
theorem dX10_tellsApart_12 : decode cX10_tellsApart 12 = .ok (.if_icmp .ge 69, 3) := by decide +kernel
theorem dX10_tellsApart_15 : decode cX10_tellsApart 15 = .ok (.iload_n 2, 1) := by decide +kernel
theorem dX10_tellsApart_16 : decode cX10_tellsApart 16 = .ok (.iconst 1, 1) := by decide +kernel
theorem dX10_tellsApart_17 : decode cX10_tellsApart 17 = .ok (.iadd, 1) := by decide +kernel
theorem dX10_tellsApart_18 : decode cX10_tellsApart 18 = .ok (.istore_n 3, 1) := by decide +kernel
theorem dX10_tellsApart_19 : decode cX10_tellsApart 19 = .ok (.iload_n 3, 1) := by decide +kernel
theorem dX10_tellsApart_20 : decode cX10_tellsApart 20 = .ok (.aload_n 0, 1) := by decide +kernel
theorem dX10_tellsApart_21 : decode cX10_tellsApart 21 = .ok (.getfield 46, 3) := by decide +kernel
theorem dX10_tellsApart_24 : decode cX10_tellsApart 24 = .ok (.aload_n 0, 1) := by decide +kernel
theorem dX10_tellsApart_25 : decode cX10_tellsApart 25 = .ok (.getfield 230, 3) := by decide +kernel
theorem dX10_tellsApart_28 : decode cX10_tellsApart 28 = .ok (.iaload, 1) := by decide +kernel
theorem dX10_tellsApart_29 : decode cX10_tellsApart 29 = .ok (.if_icmp .ge 46, 3) := by decide +kernel
theorem dX10_tellsApart_32 : decode cX10_tellsApart 32 = .ok (.aload_n 0, 1) := by decide +kernel
theorem dX10_tellsApart_33 : decode cX10_tellsApart 33 = .ok (.getfield 49, 3) := by decide +kernel
theorem dX10_tellsApart_36 : decode cX10_tellsApart 36 = .ok (.bipush 6, 2) := by decide +kernel
theorem dX10_tellsApart_38 : decode cX10_tellsApart 38 = .ok (.aload_n 0, 1) := by decide +kernel
theorem dX10_tellsApart_39 : decode cX10_tellsApart 39 = .ok (.getfield 230, 3) := by decide +kernel
theorem dX10_tellsApart_42 : decode cX10_tellsApart 42 = .ok (.imul, 1) := by decide +kernel
theorem dX10_tellsApart_43 : decode cX10_tellsApart 43 = .ok (.iload_n 2, 1) := by decide +kernel
theorem dX10_tellsApart_44 : decode cX10_tellsApart 44 = .ok (.iadd, 1) := by decide +kernel
theorem dX10_tellsApart_45 : decode cX10_tellsApart 45 = .ok (.iaload, 1) := by decide +kernel
theorem dX10_tellsApart_46 : decode cX10_tellsApart 46 = .ok (.iload_n 1, 1) := by decide +kernel
theorem dX10_tellsApart_47 : decode cX10_tellsApart 47 = .ok (.iand, 1) := by decide +kernel
theorem dX10_tellsApart_48 : decode cX10_tellsApart 48 = .ok (.aload_n 0, 1) := by decide +kernel
theorem dX10_tellsApart_49 : decode cX10_tellsApart 49 = .ok (.getfield 49, 3) := by decide +kernel
theorem dX10_tellsApart_52 : decode cX10_tellsApart 52 = .ok (.bipush 6, 2) := by decide +kernel
theorem dX10_tellsApart_54 : decode cX10_tellsApart 54 = .ok (.aload_n 0, 1) := by decide +kernel
theorem dX10_tellsApart_55 : decode cX10_tellsApart 55 = .ok (.getfield 230, 3) := by decide +kernel
theorem dX10_tellsApart_58 : decode cX10_tellsApart 58 = .ok (.imul, 1) := by decide +kernel
theorem dX10_tellsApart_59 : decode cX10_tellsApart 59 = .ok (.iload_n 3, 1) := by decide +kernel
theorem dX10_tellsApart_60 : decode cX10_tellsApart 60 = .ok (.iadd, 1) := by decide +kernel
theorem dX10_tellsApart_61 : decode cX10_tellsApart 61 = .ok (.iaload, 1) := by decide +kernel
theorem dX10_tellsApart_62 : decode cX10_tellsApart 62 = .ok (.iload_n 1, 1) := by decide +kernel
theorem dX10_tellsApart_63 : decode cX10_tellsApart 63 = .ok (.iand, 1) := by decide +kernel
theorem dX10_tellsApart_64 : decode cX10_tellsApart 64 = .ok (.if_icmp .ne 5, 3) := by decide +kernel
theorem dX10_tellsApart_67 : decode cX10_tellsApart 67 = .ok (.iconst 0, 1) := by decide +kernel
theorem dX10_tellsApart_68 : decode cX10_tellsApart 68 = .ok (.ireturn, 1) := by decide +kernel
theorem dX10_tellsApart_69 : decode cX10_tellsApart 69 = .ok (.iinc 3 1, 3) := by decide +kernel
theorem dX10_tellsApart_72 : decode cX10_tellsApart 72 = .ok (.goto (-53), 3) := by decide +kernel
theorem dX10_tellsApart_75 : decode cX10_tellsApart 75 = .ok (.iinc 2 1, 3) := by decide +kernel
theorem dX10_tellsApart_78 : decode cX10_tellsApart 78 = .ok (.goto (-76), 3) := by decide +kernel
theorem dX10_tellsApart_81 : decode cX10_tellsApart 81 = .ok (.iconst 1, 1) := by decide +kernel
theorem dX10_tellsApart_82 : decode cX10_tellsApart 82 = .ok (.ireturn, 1) := by decide +kernel
theorem dX10_apart_0 : decode cX10_apart 0 = .ok (.iload_n 1, 1) := by decide +kernel
theorem dX10_apart_1 : decode cX10_apart 1 = .ok (.iconst 0, 1) := by decide +kernel
theorem dX10_apart_2 : decode cX10_apart 2 = .ok (.iconst 1, 1) := by decide +kernel
theorem dX10_apart_3 : decode cX10_apart 3 = .ok (.invokestatic 310, 3) := by decide +kernel
theorem dX10_apart_6 : decode cX10_apart 6 = .ok (.ifCond .ne 5, 3) := by decide +kernel
theorem dX10_apart_9 : decode cX10_apart 9 = .ok (.iconst (-1), 1) := by decide +kernel
theorem dX10_apart_10 : decode cX10_apart 10 = .ok (.ireturn, 1) := by decide +kernel
theorem dX10_apart_11 : decode cX10_apart 11 = .ok (.bipush (-2), 2) := by decide +kernel
theorem dX10_apart_13 : decode cX10_apart 13 = .ok (.istore_n 2, 1) := by decide +kernel
theorem dX10_apart_14 : decode cX10_apart 14 = .ok (.iconst 0, 1) := by decide +kernel
theorem dX10_apart_15 : decode cX10_apart 15 = .ok (.istore_n 3, 1) := by decide +kernel
theorem dX10_apart_16 : decode cX10_apart 16 = .ok (.iload_n 3, 1) := by decide +kernel
theorem dX10_apart_17 : decode cX10_apart 17 = .ok (.sipush 256, 3) := by decide +kernel
theorem dX10_apart_20 : decode cX10_apart 20 = .ok (.if_icmp .ge 34, 3) := by decide +kernel
theorem dX10_apart_23 : decode cX10_apart 23 = .ok (.iload_n 2, 1) := by decide +kernel
theorem dX10_apart_24 : decode cX10_apart 24 = .ok (.ifCond .lt 14, 3) := by decide +kernel
theorem dX10_apart_27 : decode cX10_apart 27 = .ok (.iload_n 3, 1) := by decide +kernel
theorem dX10_apart_28 : decode cX10_apart 28 = .ok (.invokestatic 336, 3) := by decide +kernel
theorem dX10_apart_31 : decode cX10_apart 31 = .ok (.iload_n 2, 1) := by decide +kernel
theorem dX10_apart_32 : decode cX10_apart 32 = .ok (.invokestatic 336, 3) := by decide +kernel
theorem dX10_apart_35 : decode cX10_apart 35 = .ok (.if_icmp .ge 13, 3) := by decide +kernel
theorem dX10_apart_38 : decode cX10_apart 38 = .ok (.aload_n 0, 1) := by decide +kernel
theorem dX10_apart_39 : decode cX10_apart 39 = .ok (.iload_n 3, 1) := by decide +kernel
theorem dX10_apart_40 : decode cX10_apart 40 = .ok (.invokevirtual 445, 3) := by decide +kernel
theorem dX10_apart_43 : decode cX10_apart 43 = .ok (.ifCond .eq 5, 3) := by decide +kernel
theorem dX10_apart_46 : decode cX10_apart 46 = .ok (.iload_n 3, 1) := by decide +kernel
theorem dX10_apart_47 : decode cX10_apart 47 = .ok (.istore_n 2, 1) := by decide +kernel
theorem dX10_apart_48 : decode cX10_apart 48 = .ok (.iinc 3 1, 3) := by decide +kernel
theorem dX10_apart_51 : decode cX10_apart 51 = .ok (.goto (-35), 3) := by decide +kernel
theorem dX10_apart_54 : decode cX10_apart 54 = .ok (.iload_n 2, 1) := by decide +kernel
theorem dX10_apart_55 : decode cX10_apart 55 = .ok (.ifCond .lt 8, 3) := by decide +kernel
theorem dX10_apart_58 : decode cX10_apart 58 = .ok (.iload_n 1, 1) := by decide +kernel
theorem dX10_apart_59 : decode cX10_apart 59 = .ok (.iconst 1, 1) := by decide +kernel
theorem dX10_apart_60 : decode cX10_apart 60 = .ok (.if_icmp .ne 7, 3) := by decide +kernel
theorem dX10_apart_63 : decode cX10_apart 63 = .ok (.iload_n 2, 1) := by decide +kernel
theorem dX10_apart_64 : decode cX10_apart 64 = .ok (.goto 7, 3) := by decide +kernel
theorem dX10_apart_67 : decode cX10_apart 67 = .ok (.iload_n 2, 1) := by decide +kernel
theorem dX10_apart_68 : decode cX10_apart 68 = .ok (.invokestatic 336, 3) := by decide +kernel
theorem dX10_apart_71 : decode cX10_apart 71 = .ok (.ireturn, 1) := by decide +kernel
theorem dX10_unlike_0 : decode cX10_unlike 0 = .ok (.aload_n 0, 1) := by decide +kernel
theorem dX10_unlike_1 : decode cX10_unlike 1 = .ok (.iload_n 1, 1) := by decide +kernel
theorem dX10_unlike_2 : decode cX10_unlike 2 = .ok (.invokevirtual 381, 3) := by decide +kernel
theorem dX10_unlike_5 : decode cX10_unlike 5 = .ok (.ifCond .eq 48, 3) := by decide +kernel
theorem dX10_unlike_8 : decode cX10_unlike 8 = .ok (.aload_n 0, 1) := by decide +kernel
theorem dX10_unlike_9 : decode cX10_unlike 9 = .ok (.iload_n 2, 1) := by decide +kernel
theorem dX10_unlike_10 : decode cX10_unlike 10 = .ok (.invokevirtual 381, 3) := by decide +kernel
theorem dX10_unlike_13 : decode cX10_unlike 13 = .ok (.ifCond .eq 40, 3) := by decide +kernel
theorem dX10_unlike_16 : decode cX10_unlike 16 = .ok (.iload_n 1, 1) := by decide +kernel
theorem dX10_unlike_17 : decode cX10_unlike 17 = .ok (.iload_n 2, 1) := by decide +kernel
theorem dX10_unlike_18 : decode cX10_unlike 18 = .ok (.if_icmp .eq 35, 3) := by decide +kernel
theorem dX10_unlike_21 : decode cX10_unlike 21 = .ok (.aload_n 0, 1) := by decide +kernel
theorem dX10_unlike_22 : decode cX10_unlike 22 = .ok (.getfield 49, 3) := by decide +kernel
theorem dX10_unlike_25 : decode cX10_unlike 25 = .ok (.bipush 6, 2) := by decide +kernel
theorem dX10_unlike_27 : decode cX10_unlike 27 = .ok (.aload_n 0, 1) := by decide +kernel
theorem dX10_unlike_28 : decode cX10_unlike 28 = .ok (.getfield 230, 3) := by decide +kernel
theorem dX10_unlike_31 : decode cX10_unlike 31 = .ok (.imul, 1) := by decide +kernel
theorem dX10_unlike_32 : decode cX10_unlike 32 = .ok (.iload_n 1, 1) := by decide +kernel
theorem dX10_unlike_33 : decode cX10_unlike 33 = .ok (.iadd, 1) := by decide +kernel
theorem dX10_unlike_34 : decode cX10_unlike 34 = .ok (.iaload, 1) := by decide +kernel
theorem dX10_unlike_35 : decode cX10_unlike 35 = .ok (.aload_n 0, 1) := by decide +kernel
theorem dX10_unlike_36 : decode cX10_unlike 36 = .ok (.getfield 49, 3) := by decide +kernel
theorem dX10_unlike_39 : decode cX10_unlike 39 = .ok (.bipush 6, 2) := by decide +kernel
theorem dX10_unlike_41 : decode cX10_unlike 41 = .ok (.aload_n 0, 1) := by decide +kernel
theorem dX10_unlike_42 : decode cX10_unlike 42 = .ok (.getfield 230, 3) := by decide +kernel
theorem dX10_unlike_45 : decode cX10_unlike 45 = .ok (.imul, 1) := by decide +kernel
theorem dX10_unlike_46 : decode cX10_unlike 46 = .ok (.iload_n 2, 1) := by decide +kernel
theorem dX10_unlike_47 : decode cX10_unlike 47 = .ok (.iadd, 1) := by decide +kernel
theorem dX10_unlike_48 : decode cX10_unlike 48 = .ok (.iaload, 1) := by decide +kernel
theorem dX10_unlike_49 : decode cX10_unlike 49 = .ok (.ixor, 1) := by decide +kernel
theorem dX10_unlike_50 : decode cX10_unlike 50 = .ok (.goto 4, 3) := by decide +kernel
theorem dX10_unlike_53 : decode cX10_unlike 53 = .ok (.iconst (-1), 1) := by decide +kernel
theorem dX10_unlike_54 : decode cX10_unlike 54 = .ok (.ireturn, 1) := by decide +kernel
theorem dX10_rumour_0 : decode cX10_rumour 0 = .ok (.iload_n 1, 1) := by decide +kernel
theorem dX10_rumour_1 : decode cX10_rumour 1 = .ok (.iconst 0, 1) := by decide +kernel
theorem dX10_rumour_2 : decode cX10_rumour 2 = .ok (.iconst 1, 1) := by decide +kernel
theorem dX10_rumour_3 : decode cX10_rumour 3 = .ok (.invokestatic 310, 3) := by decide +kernel
theorem dX10_rumour_6 : decode cX10_rumour 6 = .ok (.ifCond .ne 5, 3) := by decide +kernel
theorem dX10_rumour_9 : decode cX10_rumour 9 = .ok (.iconst (-1), 1) := by decide +kernel
theorem dX10_rumour_10 : decode cX10_rumour 10 = .ok (.ireturn, 1) := by decide +kernel
theorem dX10_rumour_11 : decode cX10_rumour 11 = .ok (.bipush (-2), 2) := by decide +kernel
theorem dX10_rumour_13 : decode cX10_rumour 13 = .ok (.istore_n 2, 1) := by decide +kernel
theorem dX10_rumour_14 : decode cX10_rumour 14 = .ok (.iconst 0, 1) := by decide +kernel
theorem dX10_rumour_15 : decode cX10_rumour 15 = .ok (.istore_n 3, 1) := by decide +kernel
theorem dX10_rumour_16 : decode cX10_rumour 16 = .ok (.iconst 0, 1) := by decide +kernel
theorem dX10_rumour_17 : decode cX10_rumour 17 = .ok (.istore 4, 2) := by decide +kernel
theorem dX10_rumour_19 : decode cX10_rumour 19 = .ok (.iload 4, 2) := by decide +kernel
theorem dX10_rumour_21 : decode cX10_rumour 21 = .ok (.aload_n 0, 1) := by decide +kernel
theorem dX10_rumour_22 : decode cX10_rumour 22 = .ok (.getfield 55, 3) := by decide +kernel
theorem dX10_rumour_25 : decode cX10_rumour 25 = .ok (.aload_n 0, 1) := by decide +kernel
theorem dX10_rumour_26 : decode cX10_rumour 26 = .ok (.getfield 230, 3) := by decide +kernel
theorem dX10_rumour_29 : decode cX10_rumour 29 = .ok (.iaload, 1) := by decide +kernel
theorem dX10_rumour_30 : decode cX10_rumour 30 = .ok (.if_icmp .ge 68, 3) := by decide +kernel
theorem dX10_rumour_33 : decode cX10_rumour 33 = .ok (.iload 4, 2) := by decide +kernel
theorem dX10_rumour_35 : decode cX10_rumour 35 = .ok (.iconst 1, 1) := by decide +kernel
theorem dX10_rumour_36 : decode cX10_rumour 36 = .ok (.iadd, 1) := by decide +kernel
theorem dX10_rumour_37 : decode cX10_rumour 37 = .ok (.istore 5, 2) := by decide +kernel
theorem dX10_rumour_39 : decode cX10_rumour 39 = .ok (.iload 5, 2) := by decide +kernel
theorem dX10_rumour_41 : decode cX10_rumour 41 = .ok (.aload_n 0, 1) := by decide +kernel
theorem dX10_rumour_42 : decode cX10_rumour 42 = .ok (.getfield 55, 3) := by decide +kernel
theorem dX10_rumour_45 : decode cX10_rumour 45 = .ok (.aload_n 0, 1) := by decide +kernel
theorem dX10_rumour_46 : decode cX10_rumour 46 = .ok (.getfield 230, 3) := by decide +kernel
theorem dX10_rumour_49 : decode cX10_rumour 49 = .ok (.iaload, 1) := by decide +kernel
theorem dX10_rumour_50 : decode cX10_rumour 50 = .ok (.if_icmp .ge 42, 3) := by decide +kernel
theorem dX10_rumour_53 : decode cX10_rumour 53 = .ok (.aload_n 0, 1) := by decide +kernel
theorem dX10_rumour_54 : decode cX10_rumour 54 = .ok (.iload 4, 2) := by decide +kernel
theorem dX10_rumour_56 : decode cX10_rumour 56 = .ok (.iload 5, 2) := by decide +kernel
theorem dX10_rumour_58 : decode cX10_rumour 58 = .ok (.invokevirtual 393, 3) := by decide +kernel
theorem dX10_rumour_61 : decode cX10_rumour 61 = .ok (.iload_n 3, 1) := by decide +kernel
theorem dX10_rumour_62 : decode cX10_rumour 62 = .ok (.if_icmp .gt 6, 3) := by decide +kernel
theorem dX10_rumour_65 : decode cX10_rumour 65 = .ok (.goto 21, 3) := by decide +kernel
theorem dX10_rumour_68 : decode cX10_rumour 68 = .ok (.bipush 10, 2) := by decide +kernel
theorem dX10_rumour_70 : decode cX10_rumour 70 = .ok (.iload 4, 2) := by decide +kernel
theorem dX10_rumour_72 : decode cX10_rumour 72 = .ok (.imul, 1) := by decide +kernel
theorem dX10_rumour_73 : decode cX10_rumour 73 = .ok (.iload 5, 2) := by decide +kernel
theorem dX10_rumour_75 : decode cX10_rumour 75 = .ok (.iadd, 1) := by decide +kernel
theorem dX10_rumour_76 : decode cX10_rumour 76 = .ok (.istore_n 2, 1) := by decide +kernel
theorem dX10_rumour_77 : decode cX10_rumour 77 = .ok (.aload_n 0, 1) := by decide +kernel
theorem dX10_rumour_78 : decode cX10_rumour 78 = .ok (.iload 4, 2) := by decide +kernel
theorem dX10_rumour_80 : decode cX10_rumour 80 = .ok (.iload 5, 2) := by decide +kernel
theorem dX10_rumour_82 : decode cX10_rumour 82 = .ok (.invokevirtual 393, 3) := by decide +kernel
theorem dX10_rumour_85 : decode cX10_rumour 85 = .ok (.istore_n 3, 1) := by decide +kernel
theorem dX10_rumour_86 : decode cX10_rumour 86 = .ok (.iinc 5 1, 3) := by decide +kernel
theorem dX10_rumour_89 : decode cX10_rumour 89 = .ok (.goto (-50), 3) := by decide +kernel
theorem dX10_rumour_92 : decode cX10_rumour 92 = .ok (.iinc 4 1, 3) := by decide +kernel
theorem dX10_rumour_95 : decode cX10_rumour 95 = .ok (.goto (-76), 3) := by decide +kernel
theorem dX10_rumour_98 : decode cX10_rumour 98 = .ok (.iload_n 2, 1) := by decide +kernel
theorem dX10_rumour_99 : decode cX10_rumour 99 = .ok (.ifCond .lt 7, 3) := by decide +kernel
theorem dX10_rumour_102 : decode cX10_rumour 102 = .ok (.iload_n 1, 1) := by decide +kernel
theorem dX10_rumour_103 : decode cX10_rumour 103 = .ok (.ifCond .ne 7, 3) := by decide +kernel
theorem dX10_rumour_106 : decode cX10_rumour 106 = .ok (.iload_n 2, 1) := by decide +kernel
theorem dX10_rumour_107 : decode cX10_rumour 107 = .ok (.goto 4, 3) := by decide +kernel
theorem dX10_rumour_110 : decode cX10_rumour 110 = .ok (.iload_n 3, 1) := by decide +kernel
theorem dX10_rumour_111 : decode cX10_rumour 111 = .ok (.ireturn, 1) := by decide +kernel
theorem dX10_doTalks_0 : decode cX10_doTalks 0 = .ok (.iconst 0, 1) := by decide +kernel
theorem dX10_doTalks_1 : decode cX10_doTalks 1 = .ok (.istore 4, 2) := by decide +kernel
theorem dX10_doTalks_3 : decode cX10_doTalks 3 = .ok (.iload 4, 2) := by decide +kernel
theorem dX10_doTalks_5 : decode cX10_doTalks 5 = .ok (.bipush 6, 2) := by decide +kernel
theorem dX10_doTalks_7 : decode cX10_doTalks 7 = .ok (.if_icmp .ge 26, 3) := by decide +kernel
theorem dX10_doTalks_10 : decode cX10_doTalks 10 = .ok (.aload_n 0, 1) := by decide +kernel
theorem dX10_doTalks_11 : decode cX10_doTalks 11 = .ok (.getfield 134, 3) := by decide +kernel
theorem dX10_doTalks_14 : decode cX10_doTalks 14 = .ok (.iload 4, 2) := by decide +kernel
theorem dX10_doTalks_16 : decode cX10_doTalks 16 = .ok (.aload_n 0, 1) := by decide +kernel
theorem dX10_doTalks_17 : decode cX10_doTalks 17 = .ok (.getfield 119, 3) := by decide +kernel
theorem dX10_doTalks_20 : decode cX10_doTalks 20 = .ok (.bipush 12, 2) := by decide +kernel
theorem dX10_doTalks_22 : decode cX10_doTalks 22 = .ok (.iload 4, 2) := by decide +kernel
theorem dX10_doTalks_24 : decode cX10_doTalks 24 = .ok (.iadd, 1) := by decide +kernel
theorem dX10_doTalks_25 : decode cX10_doTalks 25 = .ok (.iaload, 1) := by decide +kernel
theorem dX10_doTalks_26 : decode cX10_doTalks 26 = .ok (.iastore, 1) := by decide +kernel
theorem dX10_doTalks_27 : decode cX10_doTalks 27 = .ok (.iinc 4 1, 3) := by decide +kernel
theorem dX10_doTalks_30 : decode cX10_doTalks 30 = .ok (.goto (-27), 3) := by decide +kernel
theorem dX10_doTalks_33 : decode cX10_doTalks 33 = .ok (.iload_n 3, 1) := by decide +kernel
theorem dX10_doTalks_34 : decode cX10_doTalks 34 = .ok (.iconst 1, 1) := by decide +kernel
theorem dX10_doTalks_35 : decode cX10_doTalks 35 = .ok (.isub, 1) := by decide +kernel
theorem dX10_doTalks_36 : decode cX10_doTalks 36 = .ok (.istore 4, 2) := by decide +kernel
theorem dX10_doTalks_38 : decode cX10_doTalks 38 = .ok (.iload 4, 2) := by decide +kernel
theorem dX10_doTalks_40 : decode cX10_doTalks 40 = .ok (.ifCond .lt 86, 3) := by decide +kernel
theorem dX10_doTalks_43 : decode cX10_doTalks 43 = .ok (.iload_n 2, 1) := by decide +kernel
theorem dX10_doTalks_44 : decode cX10_doTalks 44 = .ok (.bipush 36, 2) := by decide +kernel
theorem dX10_doTalks_46 : decode cX10_doTalks 46 = .ok (.iload 4, 2) := by decide +kernel
theorem dX10_doTalks_48 : decode cX10_doTalks 48 = .ok (.invokestatic 417, 3) := by decide +kernel
theorem dX10_doTalks_51 : decode cX10_doTalks 51 = .ok (.idiv, 1) := by decide +kernel
theorem dX10_doTalks_52 : decode cX10_doTalks 52 = .ok (.bipush 36, 2) := by decide +kernel
theorem dX10_doTalks_54 : decode cX10_doTalks 54 = .ok (.irem, 1) := by decide +kernel
theorem dX10_doTalks_55 : decode cX10_doTalks 55 = .ok (.istore 5, 2) := by decide +kernel
theorem dX10_doTalks_57 : decode cX10_doTalks 57 = .ok (.iload 5, 2) := by decide +kernel
theorem dX10_doTalks_59 : decode cX10_doTalks 59 = .ok (.bipush 6, 2) := by decide +kernel
theorem dX10_doTalks_61 : decode cX10_doTalks 61 = .ok (.idiv, 1) := by decide +kernel
theorem dX10_doTalks_62 : decode cX10_doTalks 62 = .ok (.istore 6, 2) := by decide +kernel
theorem dX10_doTalks_64 : decode cX10_doTalks 64 = .ok (.iload 5, 2) := by decide +kernel
theorem dX10_doTalks_66 : decode cX10_doTalks 66 = .ok (.bipush 6, 2) := by decide +kernel
theorem dX10_doTalks_68 : decode cX10_doTalks 68 = .ok (.irem, 1) := by decide +kernel
theorem dX10_doTalks_69 : decode cX10_doTalks 69 = .ok (.istore 7, 2) := by decide +kernel
theorem dX10_doTalks_71 : decode cX10_doTalks 71 = .ok (.iload 6, 2) := by decide +kernel
theorem dX10_doTalks_73 : decode cX10_doTalks 73 = .ok (.iload 7, 2) := by decide +kernel
theorem dX10_doTalks_75 : decode cX10_doTalks 75 = .ok (.if_icmp .ge 12, 3) := by decide +kernel
theorem dX10_doTalks_78 : decode cX10_doTalks 78 = .ok (.aload_n 0, 1) := by decide +kernel
theorem dX10_doTalks_79 : decode cX10_doTalks 79 = .ok (.iload 7, 2) := by decide +kernel
theorem dX10_doTalks_81 : decode cX10_doTalks 81 = .ok (.invokevirtual 384, 3) := by decide +kernel
theorem dX10_doTalks_84 : decode cX10_doTalks 84 = .ok (.ifCond .ne 5, 3) := by decide +kernel
theorem dX10_doTalks_87 : decode cX10_doTalks 87 = .ok (.iconst 0, 1) := by decide +kernel
theorem dX10_doTalks_88 : decode cX10_doTalks 88 = .ok (.ireturn, 1) := by decide +kernel
theorem dX10_doTalks_89 : decode cX10_doTalks 89 = .ok (.aload_n 0, 1) := by decide +kernel
theorem dX10_doTalks_90 : decode cX10_doTalks 90 = .ok (.getfield 134, 3) := by decide +kernel
theorem dX10_doTalks_93 : decode cX10_doTalks 93 = .ok (.iload 6, 2) := by decide +kernel
theorem dX10_doTalks_95 : decode cX10_doTalks 95 = .ok (.dup2, 1) := by decide +kernel
theorem dX10_doTalks_96 : decode cX10_doTalks 96 = .ok (.iaload, 1) := by decide +kernel
theorem dX10_doTalks_97 : decode cX10_doTalks 97 = .ok (.aload_n 0, 1) := by decide +kernel
theorem dX10_doTalks_98 : decode cX10_doTalks 98 = .ok (.getfield 134, 3) := by decide +kernel
theorem dX10_doTalks_101 : decode cX10_doTalks 101 = .ok (.iload 7, 2) := by decide +kernel
theorem dX10_doTalks_103 : decode cX10_doTalks 103 = .ok (.iaload, 1) := by decide +kernel
theorem dX10_doTalks_104 : decode cX10_doTalks 104 = .ok (.ior, 1) := by decide +kernel
theorem dX10_doTalks_105 : decode cX10_doTalks 105 = .ok (.iastore, 1) := by decide +kernel
theorem dX10_doTalks_106 : decode cX10_doTalks 106 = .ok (.aload_n 0, 1) := by decide +kernel
theorem dX10_doTalks_107 : decode cX10_doTalks 107 = .ok (.getfield 134, 3) := by decide +kernel
theorem dX10_doTalks_110 : decode cX10_doTalks 110 = .ok (.iload 7, 2) := by decide +kernel
theorem dX10_doTalks_112 : decode cX10_doTalks 112 = .ok (.aload_n 0, 1) := by decide +kernel
theorem dX10_doTalks_113 : decode cX10_doTalks 113 = .ok (.getfield 134, 3) := by decide +kernel
theorem dX10_doTalks_116 : decode cX10_doTalks 116 = .ok (.iload 6, 2) := by decide +kernel
theorem dX10_doTalks_118 : decode cX10_doTalks 118 = .ok (.iaload, 1) := by decide +kernel
theorem dX10_doTalks_119 : decode cX10_doTalks 119 = .ok (.iastore, 1) := by decide +kernel
theorem dX10_doTalks_120 : decode cX10_doTalks 120 = .ok (.iinc 4 (-1), 3) := by decide +kernel
theorem dX10_doTalks_123 : decode cX10_doTalks 123 = .ok (.goto (-85), 3) := by decide +kernel
theorem dX10_doTalks_126 : decode cX10_doTalks 126 = .ok (.aload_n 0, 1) := by decide +kernel
theorem dX10_doTalks_127 : decode cX10_doTalks 127 = .ok (.getfield 61, 3) := by decide +kernel
theorem dX10_doTalks_130 : decode cX10_doTalks 130 = .ok (.bipush 6, 2) := by decide +kernel
theorem dX10_doTalks_132 : decode cX10_doTalks 132 = .ok (.aload_n 0, 1) := by decide +kernel
theorem dX10_doTalks_133 : decode cX10_doTalks 133 = .ok (.getfield 230, 3) := by decide +kernel
theorem dX10_doTalks_136 : decode cX10_doTalks 136 = .ok (.imul, 1) := by decide +kernel
theorem dX10_doTalks_137 : decode cX10_doTalks 137 = .ok (.iload_n 1, 1) := by decide +kernel
theorem dX10_doTalks_138 : decode cX10_doTalks 138 = .ok (.iadd, 1) := by decide +kernel
theorem dX10_doTalks_139 : decode cX10_doTalks 139 = .ok (.iaload, 1) := by decide +kernel
theorem dX10_doTalks_140 : decode cX10_doTalks 140 = .ok (.aload_n 0, 1) := by decide +kernel
theorem dX10_doTalks_141 : decode cX10_doTalks 141 = .ok (.getfield 134, 3) := by decide +kernel
theorem dX10_doTalks_144 : decode cX10_doTalks 144 = .ok (.iload_n 1, 1) := by decide +kernel
theorem dX10_doTalks_145 : decode cX10_doTalks 145 = .ok (.iaload, 1) := by decide +kernel
theorem dX10_doTalks_146 : decode cX10_doTalks 146 = .ok (.iconst (-1), 1) := by decide +kernel
theorem dX10_doTalks_147 : decode cX10_doTalks 147 = .ok (.ixor, 1) := by decide +kernel
theorem dX10_doTalks_148 : decode cX10_doTalks 148 = .ok (.iand, 1) := by decide +kernel
theorem dX10_doTalks_149 : decode cX10_doTalks 149 = .ok (.ifCond .ne 7, 3) := by decide +kernel
theorem dX10_doTalks_152 : decode cX10_doTalks 152 = .ok (.iconst 1, 1) := by decide +kernel
theorem dX10_doTalks_153 : decode cX10_doTalks 153 = .ok (.goto 4, 3) := by decide +kernel
theorem dX10_doTalks_156 : decode cX10_doTalks 156 = .ok (.iconst 0, 1) := by decide +kernel
theorem dX10_doTalks_157 : decode cX10_doTalks 157 = .ok (.ireturn, 1) := by decide +kernel
theorem dX10_talks_0 : decode cX10_talks 0 = .ok (.aload_n 0, 1) := by decide +kernel
theorem dX10_talks_1 : decode cX10_talks 1 = .ok (.iload_n 1, 1) := by decide +kernel
theorem dX10_talks_2 : decode cX10_talks 2 = .ok (.invokevirtual 384, 3) := by decide +kernel
theorem dX10_talks_5 : decode cX10_talks 5 = .ok (.ifCond .ne 5, 3) := by decide +kernel
theorem dX10_talks_8 : decode cX10_talks 8 = .ok (.iconst (-1), 1) := by decide +kernel
theorem dX10_talks_9 : decode cX10_talks 9 = .ok (.ireturn, 1) := by decide +kernel
theorem dX10_talks_10 : decode cX10_talks 10 = .ok (.iconst 0, 1) := by decide +kernel
theorem dX10_talks_11 : decode cX10_talks 11 = .ok (.istore_n 2, 1) := by decide +kernel
theorem dX10_talks_12 : decode cX10_talks 12 = .ok (.iload_n 2, 1) := by decide +kernel
theorem dX10_talks_13 : decode cX10_talks 13 = .ok (.iconst 3, 1) := by decide +kernel
theorem dX10_talks_14 : decode cX10_talks 14 = .ok (.if_icmp .gt 39, 3) := by decide +kernel
theorem dX10_talks_17 : decode cX10_talks 17 = .ok (.iconst 0, 1) := by decide +kernel
theorem dX10_talks_18 : decode cX10_talks 18 = .ok (.istore_n 3, 1) := by decide +kernel
theorem dX10_talks_19 : decode cX10_talks 19 = .ok (.iload_n 3, 1) := by decide +kernel
theorem dX10_talks_20 : decode cX10_talks 20 = .ok (.bipush 36, 2) := by decide +kernel
theorem dX10_talks_22 : decode cX10_talks 22 = .ok (.iload_n 2, 1) := by decide +kernel
theorem dX10_talks_23 : decode cX10_talks 23 = .ok (.invokestatic 417, 3) := by decide +kernel
theorem dX10_talks_26 : decode cX10_talks 26 = .ok (.if_icmp .ge 21, 3) := by decide +kernel
theorem dX10_talks_29 : decode cX10_talks 29 = .ok (.aload_n 0, 1) := by decide +kernel
theorem dX10_talks_30 : decode cX10_talks 30 = .ok (.iload_n 1, 1) := by decide +kernel
theorem dX10_talks_31 : decode cX10_talks 31 = .ok (.iload_n 3, 1) := by decide +kernel
theorem dX10_talks_32 : decode cX10_talks 32 = .ok (.iload_n 2, 1) := by decide +kernel
theorem dX10_talks_33 : decode cX10_talks 33 = .ok (.invokevirtual 448, 3) := by decide +kernel
theorem dX10_talks_36 : decode cX10_talks 36 = .ok (.ifCond .eq 5, 3) := by decide +kernel
theorem dX10_talks_39 : decode cX10_talks 39 = .ok (.iload_n 2, 1) := by decide +kernel
theorem dX10_talks_40 : decode cX10_talks 40 = .ok (.ireturn, 1) := by decide +kernel
theorem dX10_talks_41 : decode cX10_talks 41 = .ok (.iinc 3 1, 3) := by decide +kernel
theorem dX10_talks_44 : decode cX10_talks 44 = .ok (.goto (-25), 3) := by decide +kernel
theorem dX10_talks_47 : decode cX10_talks 47 = .ok (.iinc 2 1, 3) := by decide +kernel
theorem dX10_talks_50 : decode cX10_talks 50 = .ok (.goto (-38), 3) := by decide +kernel
theorem dX10_talks_53 : decode cX10_talks 53 = .ok (.bipush (-2), 2) := by decide +kernel
theorem dX10_talks_55 : decode cX10_talks 55 = .ok (.ireturn, 1) := by decide +kernel
theorem dX10_then_0 : decode cX10_then 0 = .ok (.aload_n 0, 1) := by decide +kernel
theorem dX10_then_1 : decode cX10_then 1 = .ok (.iload_n 1, 1) := by decide +kernel
theorem dX10_then_2 : decode cX10_then 2 = .ok (.invokevirtual 384, 3) := by decide +kernel
theorem dX10_then_5 : decode cX10_then 5 = .ok (.ifCond .eq 19, 3) := by decide +kernel
theorem dX10_then_8 : decode cX10_then 8 = .ok (.iload_n 2, 1) := by decide +kernel
theorem dX10_then_9 : decode cX10_then 9 = .ok (.invokestatic 396, 3) := by decide +kernel
theorem dX10_then_12 : decode cX10_then 12 = .ok (.ifCond .eq 12, 3) := by decide +kernel
theorem dX10_then_15 : decode cX10_then 15 = .ok (.iload_n 3, 1) := by decide +kernel
theorem dX10_then_16 : decode cX10_then 16 = .ok (.iconst 0, 1) := by decide +kernel
theorem dX10_then_17 : decode cX10_then 17 = .ok (.iconst 1, 1) := by decide +kernel
theorem dX10_then_18 : decode cX10_then 18 = .ok (.invokestatic 310, 3) := by decide +kernel
theorem dX10_then_21 : decode cX10_then 21 = .ok (.ifCond .ne 5, 3) := by decide +kernel
theorem dX10_then_24 : decode cX10_then 24 = .ok (.iconst (-1), 1) := by decide +kernel
theorem dX10_then_25 : decode cX10_then 25 = .ok (.ireturn, 1) := by decide +kernel
theorem dX10_then_26 : decode cX10_then 26 = .ok (.aload_n 0, 1) := by decide +kernel
theorem dX10_then_27 : decode cX10_then 27 = .ok (.invokevirtual 320, 3) := by decide +kernel
theorem dX10_then_30 : decode cX10_then 30 = .ok (.aload_n 0, 1) := by decide +kernel
theorem dX10_then_31 : decode cX10_then 31 = .ok (.iload_n 2, 1) := by decide +kernel
theorem dX10_then_32 : decode cX10_then 32 = .ok (.invokevirtual 399, 3) := by decide +kernel
theorem dX10_then_35 : decode cX10_then 35 = .ok (.aload_n 0, 1) := by decide +kernel
theorem dX10_then_36 : decode cX10_then 36 = .ok (.getfield 122, 3) := by decide +kernel
theorem dX10_then_39 : decode cX10_then 39 = .ok (.bipush 12, 2) := by decide +kernel
theorem dX10_then_41 : decode cX10_then 41 = .ok (.bipush 6, 2) := by decide +kernel
theorem dX10_then_43 : decode cX10_then 43 = .ok (.iload_n 3, 1) := by decide +kernel
theorem dX10_then_44 : decode cX10_then 44 = .ok (.imul, 1) := by decide +kernel
theorem dX10_then_45 : decode cX10_then 45 = .ok (.iadd, 1) := by decide +kernel
theorem dX10_then_46 : decode cX10_then 46 = .ok (.iload_n 1, 1) := by decide +kernel
theorem dX10_then_47 : decode cX10_then 47 = .ok (.iadd, 1) := by decide +kernel
theorem dX10_then_48 : decode cX10_then 48 = .ok (.iaload, 1) := by decide +kernel
theorem dX10_then_49 : decode cX10_then 49 = .ok (.ireturn, 1) := by decide +kernel
theorem dX10_quietIn_0 : decode cX10_quietIn 0 = .ok (.aload_n 0, 1) := by decide +kernel
theorem dX10_quietIn_1 : decode cX10_quietIn 1 = .ok (.iload_n 1, 1) := by decide +kernel
theorem dX10_quietIn_2 : decode cX10_quietIn 2 = .ok (.invokevirtual 381, 3) := by decide +kernel
theorem dX10_quietIn_5 : decode cX10_quietIn 5 = .ok (.ifCond .eq 10, 3) := by decide +kernel
theorem dX10_quietIn_8 : decode cX10_quietIn 8 = .ok (.iload_n 2, 1) := by decide +kernel
theorem dX10_quietIn_9 : decode cX10_quietIn 9 = .ok (.invokestatic 396, 3) := by decide +kernel
theorem dX10_quietIn_12 : decode cX10_quietIn 12 = .ok (.ifCond .ne 5, 3) := by decide +kernel
theorem dX10_quietIn_15 : decode cX10_quietIn 15 = .ok (.iconst (-1), 1) := by decide +kernel
theorem dX10_quietIn_16 : decode cX10_quietIn 16 = .ok (.ireturn, 1) := by decide +kernel
theorem dX10_quietIn_17 : decode cX10_quietIn 17 = .ok (.aload_n 0, 1) := by decide +kernel
theorem dX10_quietIn_18 : decode cX10_quietIn 18 = .ok (.invokevirtual 320, 3) := by decide +kernel
theorem dX10_quietIn_21 : decode cX10_quietIn 21 = .ok (.aload_n 0, 1) := by decide +kernel
theorem dX10_quietIn_22 : decode cX10_quietIn 22 = .ok (.iload_n 2, 1) := by decide +kernel
theorem dX10_quietIn_23 : decode cX10_quietIn 23 = .ok (.invokevirtual 399, 3) := by decide +kernel
theorem dX10_quietIn_26 : decode cX10_quietIn 26 = .ok (.aload_n 0, 1) := by decide +kernel
theorem dX10_quietIn_27 : decode cX10_quietIn 27 = .ok (.getfield 122, 3) := by decide +kernel
theorem dX10_quietIn_30 : decode cX10_quietIn 30 = .ok (.bipush 6, 2) := by decide +kernel
theorem dX10_quietIn_32 : decode cX10_quietIn 32 = .ok (.iload_n 1, 1) := by decide +kernel
theorem dX10_quietIn_33 : decode cX10_quietIn 33 = .ok (.iadd, 1) := by decide +kernel
theorem dX10_quietIn_34 : decode cX10_quietIn 34 = .ok (.iaload, 1) := by decide +kernel
theorem dX10_quietIn_35 : decode cX10_quietIn 35 = .ok (.ireturn, 1) := by decide +kernel
theorem dX10_sure_0 : decode cX10_sure 0 = .ok (.aload_n 0, 1) := by decide +kernel
theorem dX10_sure_1 : decode cX10_sure 1 = .ok (.iload_n 1, 1) := by decide +kernel
theorem dX10_sure_2 : decode cX10_sure 2 = .ok (.invokevirtual 384, 3) := by decide +kernel
theorem dX10_sure_5 : decode cX10_sure 5 = .ok (.ifCond .eq 29, 3) := by decide +kernel
theorem dX10_sure_8 : decode cX10_sure 8 = .ok (.aload_n 0, 1) := by decide +kernel
theorem dX10_sure_9 : decode cX10_sure 9 = .ok (.iload_n 2, 1) := by decide +kernel
theorem dX10_sure_10 : decode cX10_sure 10 = .ok (.invokevirtual 381, 3) := by decide +kernel
theorem dX10_sure_13 : decode cX10_sure 13 = .ok (.ifCond .eq 21, 3) := by decide +kernel
theorem dX10_sure_16 : decode cX10_sure 16 = .ok (.iload_n 3, 1) := by decide +kernel
theorem dX10_sure_17 : decode cX10_sure 17 = .ok (.invokestatic 396, 3) := by decide +kernel
theorem dX10_sure_20 : decode cX10_sure 20 = .ok (.ifCond .eq 14, 3) := by decide +kernel
theorem dX10_sure_23 : decode cX10_sure 23 = .ok (.iload 4, 2) := by decide +kernel
theorem dX10_sure_25 : decode cX10_sure 25 = .ok (.iconst 1, 1) := by decide +kernel
theorem dX10_sure_26 : decode cX10_sure 26 = .ok (.bipush 20, 2) := by decide +kernel
theorem dX10_sure_28 : decode cX10_sure 28 = .ok (.invokestatic 310, 3) := by decide +kernel
theorem dX10_sure_31 : decode cX10_sure 31 = .ok (.ifCond .ne 5, 3) := by decide +kernel
theorem dX10_sure_34 : decode cX10_sure 34 = .ok (.iconst (-1), 1) := by decide +kernel
theorem dX10_sure_35 : decode cX10_sure 35 = .ok (.ireturn, 1) := by decide +kernel
theorem dX10_sure_36 : decode cX10_sure 36 = .ok (.iconst 0, 1) := by decide +kernel
theorem dX10_sure_37 : decode cX10_sure 37 = .ok (.istore 5, 2) := by decide +kernel
theorem dX10_sure_39 : decode cX10_sure 39 = .ok (.iconst 0, 1) := by decide +kernel
theorem dX10_sure_40 : decode cX10_sure 40 = .ok (.istore 6, 2) := by decide +kernel
theorem dX10_sure_42 : decode cX10_sure 42 = .ok (.iload 6, 2) := by decide +kernel
theorem dX10_sure_44 : decode cX10_sure 44 = .ok (.iload 4, 2) := by decide +kernel
theorem dX10_sure_46 : decode cX10_sure 46 = .ok (.if_icmp .ge 55, 3) := by decide +kernel
theorem dX10_sure_49 : decode cX10_sure 49 = .ok (.aload_n 0, 1) := by decide +kernel
theorem dX10_sure_50 : decode cX10_sure 50 = .ok (.invokevirtual 320, 3) := by decide +kernel
theorem dX10_sure_53 : decode cX10_sure 53 = .ok (.aload_n 0, 1) := by decide +kernel
theorem dX10_sure_54 : decode cX10_sure 54 = .ok (.dup, 1) := by decide +kernel
theorem dX10_sure_55 : decode cX10_sure 55 = .ok (.getfield 314, 3) := by decide +kernel
theorem dX10_sure_58 : decode cX10_sure 58 = .ok (.iload 6, 2) := by decide +kernel
theorem dX10_sure_60 : decode cX10_sure 60 = .ok (.iadd, 1) := by decide +kernel
theorem dX10_sure_61 : decode cX10_sure 61 = .ok (.putfield 314, 3) := by decide +kernel
theorem dX10_sure_64 : decode cX10_sure 64 = .ok (.iconst 0, 1) := by decide +kernel
theorem dX10_sure_65 : decode cX10_sure 65 = .ok (.istore 7, 2) := by decide +kernel
theorem dX10_sure_67 : decode cX10_sure 67 = .ok (.iload 7, 2) := by decide +kernel
theorem dX10_sure_69 : decode cX10_sure 69 = .ok (.iload_n 3, 1) := by decide +kernel
theorem dX10_sure_70 : decode cX10_sure 70 = .ok (.if_icmp .ge 14, 3) := by decide +kernel
theorem dX10_sure_73 : decode cX10_sure 73 = .ok (.aload_n 0, 1) := by decide +kernel
theorem dX10_sure_74 : decode cX10_sure 74 = .ok (.iload_n 2, 1) := by decide +kernel
theorem dX10_sure_75 : decode cX10_sure 75 = .ok (.invokevirtual 438, 3) := by decide +kernel
theorem dX10_sure_78 : decode cX10_sure 78 = .ok (.iinc 7 1, 3) := by decide +kernel
theorem dX10_sure_81 : decode cX10_sure 81 = .ok (.goto (-14), 3) := by decide +kernel
theorem dX10_sure_84 : decode cX10_sure 84 = .ok (.aload_n 0, 1) := by decide +kernel
theorem dX10_sure_85 : decode cX10_sure 85 = .ok (.iload_n 1, 1) := by decide +kernel
theorem dX10_sure_86 : decode cX10_sure 86 = .ok (.invokevirtual 350, 3) := by decide +kernel
theorem dX10_sure_89 : decode cX10_sure 89 = .ok (.ifCond .eq 6, 3) := by decide +kernel
theorem dX10_sure_92 : decode cX10_sure 92 = .ok (.iinc 5 1, 3) := by decide +kernel
theorem dX10_sure_95 : decode cX10_sure 95 = .ok (.iinc 6 1, 3) := by decide +kernel
theorem dX10_sure_98 : decode cX10_sure 98 = .ok (.goto (-56), 3) := by decide +kernel
theorem dX10_sure_101 : decode cX10_sure 101 = .ok (.iload 5, 2) := by decide +kernel
theorem dX10_sure_103 : decode cX10_sure 103 = .ok (.ireturn, 1) := by decide +kernel
theorem dX10_tellsOne_0 : decode cX10_tellsOne 0 = .ok (.aload_n 0, 1) := by decide +kernel
theorem dX10_tellsOne_1 : decode cX10_tellsOne 1 = .ok (.getfield 251, 3) := by decide +kernel
theorem dX10_tellsOne_4 : decode cX10_tellsOne 4 = .ok (.bipush 20, 2) := by decide +kernel
theorem dX10_tellsOne_6 : decode cX10_tellsOne 6 = .ok (.if_icmp .ne 5, 3) := by decide +kernel
theorem dX10_tellsOne_9 : decode cX10_tellsOne 9 = .ok (.iconst (-1), 1) := by decide +kernel
theorem dX10_tellsOne_10 : decode cX10_tellsOne 10 = .ok (.ireturn, 1) := by decide +kernel
theorem dX10_tellsOne_11 : decode cX10_tellsOne 11 = .ok (.aload_n 0, 1) := by decide +kernel
theorem dX10_tellsOne_12 : decode cX10_tellsOne 12 = .ok (.getfield 137, 3) := by decide +kernel
theorem dX10_tellsOne_15 : decode cX10_tellsOne 15 = .ok (.aload_n 0, 1) := by decide +kernel
theorem dX10_tellsOne_16 : decode cX10_tellsOne 16 = .ok (.getfield 251, 3) := by decide +kernel
theorem dX10_tellsOne_19 : decode cX10_tellsOne 19 = .ok (.iload_n 1, 1) := by decide +kernel
theorem dX10_tellsOne_20 : decode cX10_tellsOne 20 = .ok (.iastore, 1) := by decide +kernel
theorem dX10_tellsOne_21 : decode cX10_tellsOne 21 = .ok (.aload_n 0, 1) := by decide +kernel
theorem dX10_tellsOne_22 : decode cX10_tellsOne 22 = .ok (.getfield 140, 3) := by decide +kernel
theorem dX10_tellsOne_25 : decode cX10_tellsOne 25 = .ok (.aload_n 0, 1) := by decide +kernel
theorem dX10_tellsOne_26 : decode cX10_tellsOne 26 = .ok (.getfield 251, 3) := by decide +kernel
theorem dX10_tellsOne_29 : decode cX10_tellsOne 29 = .ok (.iload_n 2, 1) := by decide +kernel
theorem dX10_tellsOne_30 : decode cX10_tellsOne 30 = .ok (.ifCond .eq 7, 3) := by decide +kernel
theorem dX10_tellsOne_33 : decode cX10_tellsOne 33 = .ok (.iconst 1, 1) := by decide +kernel
theorem dX10_tellsOne_34 : decode cX10_tellsOne 34 = .ok (.goto 4, 3) := by decide +kernel
theorem dX10_tellsOne_37 : decode cX10_tellsOne 37 = .ok (.iconst 0, 1) := by decide +kernel
theorem dX10_tellsOne_38 : decode cX10_tellsOne 38 = .ok (.iastore, 1) := by decide +kernel
theorem dX10_tellsOne_39 : decode cX10_tellsOne 39 = .ok (.aload_n 0, 1) := by decide +kernel
theorem dX10_tellsOne_40 : decode cX10_tellsOne 40 = .ok (.dup, 1) := by decide +kernel
theorem dX10_tellsOne_41 : decode cX10_tellsOne 41 = .ok (.getfield 251, 3) := by decide +kernel
theorem dX10_tellsOne_44 : decode cX10_tellsOne 44 = .ok (.iconst 1, 1) := by decide +kernel
theorem dX10_tellsOne_45 : decode cX10_tellsOne 45 = .ok (.iadd, 1) := by decide +kernel
theorem dX10_tellsOne_46 : decode cX10_tellsOne 46 = .ok (.putfield 251, 3) := by decide +kernel
theorem dX10_tellsOne_49 : decode cX10_tellsOne 49 = .ok (.aload_n 0, 1) := by decide +kernel
theorem dX10_tellsOne_50 : decode cX10_tellsOne 50 = .ok (.getfield 251, 3) := by decide +kernel
theorem dX10_tellsOne_53 : decode cX10_tellsOne 53 = .ok (.iconst 1, 1) := by decide +kernel
theorem dX10_tellsOne_54 : decode cX10_tellsOne 54 = .ok (.isub, 1) := by decide +kernel
theorem dX10_tellsOne_55 : decode cX10_tellsOne 55 = .ok (.ireturn, 1) := by decide +kernel
theorem dX10_tellFact_0 : decode cX10_tellFact 0 = .ok (.iload_n 1, 1) := by decide +kernel
theorem dX10_tellFact_1 : decode cX10_tellFact 1 = .ok (.invokestatic 390, 3) := by decide +kernel
theorem dX10_tellFact_4 : decode cX10_tellFact 4 = .ok (.ifCond .eq 12, 3) := by decide +kernel
theorem dX10_tellFact_7 : decode cX10_tellFact 7 = .ok (.aload_n 0, 1) := by decide +kernel
theorem dX10_tellFact_8 : decode cX10_tellFact 8 = .ok (.iload_n 1, 1) := by decide +kernel
theorem dX10_tellFact_9 : decode cX10_tellFact 9 = .ok (.iload_n 2, 1) := by decide +kernel
theorem dX10_tellFact_10 : decode cX10_tellFact 10 = .ok (.invokevirtual 451, 3) := by decide +kernel
theorem dX10_tellFact_13 : decode cX10_tellFact 13 = .ok (.goto 4, 3) := by decide +kernel
theorem dX10_tellFact_16 : decode cX10_tellFact 16 = .ok (.iconst (-1), 1) := by decide +kernel
theorem dX10_tellFact_17 : decode cX10_tellFact 17 = .ok (.ireturn, 1) := by decide +kernel
set_option maxRecDepth 100000 in
set_option maxHeartbeats 4000000 in
theorem tX10_missing (G : gx) (fu : Nat) (v0 : Nat) (v1 : Int32) (h : mh) : Ct lI G yX10_missing cX10_missing 2 (some .int) 3 [.ref (gB G + v0), .int v1] h (fX10_missing fu v0 v1 h) := by
  refine ct_ls (ls := [(0, .ref (gB G + v0)), (1, .int v1)]) rfl (by decide) (Nat.le_of_ble_eq_true rfl) ?_
  unfold fX10_missing
  refine ev_step (st_aload_n (pc := 0) (j := 0) dX10_missing_0 rfl rfl) ?_
  refine ev_step (st_iload_n (pc := 1) (j := 1) dX10_missing_1 rfl rfl) ?_
  refine ev_ck (fun ha hS => ?_)
  refine ev_callI (iv_V (As := [.int v1]) (st := []) (pc := 2) rfl m_X10_isListener l_X10_384 i_X10_isListener e_X10_isListener ha hS rfl (Nat.le_of_ble_eq_true rfl) rfl dX10_missing_2) (tX10_isListener G fu v0 v1 h) (by decide) (by decide) (fun x2 h1 => ?_)
  refine ev_br (br_if_eq (tgt := 37) (pc := 5) dX10_missing_5 (by decide)) (fun _ => ?_) (fun _ => ?_)
  · refine ev_step (st_iconst (pc := 37) dX10_missing_37 ni_m1) ?_
    exact ev_iret (pc := 38) dX10_missing_38
  · refine ev_step (st_aload_n (pc := 8) (j := 0) dX10_missing_8 rfl rfl) ?_
    refine ev_getR (pc := 9) k_X10_61 rfl dX10_missing_9 (fun a3 => ?_)
    refine ev_step (st_bipush (pc := 12) dX10_missing_12 nb_6) ?_
    refine ev_step (st_aload_n (pc := 14) (j := 0) dX10_missing_14 rfl rfl) ?_
    refine ev_getI (pc := 15) k_X10_230 rfl dX10_missing_15 (fun x4 => ?_)
    refine ev_step (st_imul (pc := 18) dX10_missing_18) ?_
    refine ev_step (st_iload_n (pc := 19) (j := 1) dX10_missing_19 rfl rfl) ?_
    refine ev_step (st_iadd (pc := 20) dX10_missing_20) ?_
    refine ev_ldi (pc := 21) dX10_missing_21 (fun x5 => ?_)
    refine ev_step (st_aload_n (pc := 22) (j := 0) dX10_missing_22 rfl rfl) ?_
    refine ev_getR (pc := 23) k_X10_119 rfl dX10_missing_23 (fun a6 => ?_)
    refine ev_step (st_bipush (pc := 26) dX10_missing_26 nb_12) ?_
    refine ev_step (st_iload_n (pc := 28) (j := 1) dX10_missing_28 rfl rfl) ?_
    refine ev_step (st_iadd (pc := 29) dX10_missing_29) ?_
    refine ev_ldi (pc := 30) dX10_missing_30 (fun x7 => ?_)
    refine ev_step (st_iconst (pc := 31) dX10_missing_31 ni_m1) ?_
    refine ev_step (st_ixor (pc := 32) dX10_missing_32) ?_
    refine ev_step (st_iand (pc := 33) dX10_missing_33) ?_
    refine ev_step (st_goto (pc := 34) (tgt := 38) dX10_missing_34 (by decide)) ?_
    exact ev_iret (pc := 38) dX10_missing_38
set_option maxRecDepth 100000 in
set_option maxHeartbeats 4000000 in
theorem tX10_holderBits_4 (G : gx) (fu : Nat) (h0 : mh) (v0 : Nat) (v1 : Int32) (n : Nat) (v2 : Int32) (v3 : Int32) (h : mh) : Ev lI G yX10_holderBits cX10_holderBits 4 (some .int) 1 h0 4 [(0, .ref (gB G + v0)), (1, .int v1), (2, .int v2), (3, .int v3)] [] h (itr (bX10_holderBits_4 fu v0 v1) n (v2, v3, h)) := by
  refine ev_itr (P := fun (q : Int32 × Int32 × mh) (R9 : Option (Int32 × mh)) => Ev lI G yX10_holderBits cX10_holderBits 4 (some .int) 1 h0 4 [(0, .ref (gB G + v0)), (1, .int v1), (2, .int q.1), (3, .int q.2.1)] [] q.2.2 R9) (fun _ => ev_none) (fun k4 hk9 q => ?_) n (v2, v3, h)
  obtain ⟨v2, v3, h⟩ := q
  have hk4 : ∀ (v2 : Int32) (v3 : Int32) (h : mh), Ev lI G yX10_holderBits cX10_holderBits 4 (some .int) 1 h0 4 [(0, .ref (gB G + v0)), (1, .int v1), (2, .int v2), (3, .int v3)] [] h (k4 (v2, v3, h)) := fun v2 v3 h => hk9 (v2, v3, h)
  show Ev lI G yX10_holderBits cX10_holderBits 4 (some .int) 1 h0 4 [(0, .ref (gB G + v0)), (1, .int v1), (2, .int v2), (3, .int v3)] [] h (bX10_holderBits_4 fu v0 v1 k4 (v2, v3, h))
  unfold bX10_holderBits_4
  refine ev_step (st_iload_n (pc := 4) (j := 3) dX10_holderBits_4 rfl rfl) ?_
  refine ev_step (st_aload_n (pc := 5) (j := 0) dX10_holderBits_5 rfl rfl) ?_
  refine ev_getR (pc := 6) k_X10_55 rfl dX10_holderBits_6 (fun a1 => ?_)
  refine ev_step (st_aload_n (pc := 9) (j := 0) dX10_holderBits_9 rfl rfl) ?_
  refine ev_getI (pc := 10) k_X10_230 rfl dX10_holderBits_10 (fun x2 => ?_)
  refine ev_ldi (pc := 13) dX10_holderBits_13 (fun x3 => ?_)
  refine ev_br (br_icmp_ge (tgt := 41) (pc := 14) dX10_holderBits_14 (by decide)) (fun _ => ?_) (fun _ => ?_)
  · refine ev_step (st_iload_n (pc := 41) (j := 2) dX10_holderBits_41 rfl rfl) ?_
    exact ev_iret (pc := 42) dX10_holderBits_42
  · refine ev_step (st_iload_n (pc := 17) (j := 2) dX10_holderBits_17 rfl rfl) ?_
    refine ev_step (st_aload_n (pc := 18) (j := 0) dX10_holderBits_18 rfl rfl) ?_
    refine ev_getR (pc := 19) k_X10_119 rfl dX10_holderBits_19 (fun a4 => ?_)
    refine ev_step (st_bipush (pc := 22) dX10_holderBits_22 nb_12) ?_
    refine ev_step (st_iload_n (pc := 24) (j := 3) dX10_holderBits_24 rfl rfl) ?_
    refine ev_step (st_iadd (pc := 25) dX10_holderBits_25) ?_
    refine ev_ldi (pc := 26) dX10_holderBits_26 (fun x5 => ?_)
    refine ev_step (st_iload_n (pc := 27) (j := 1) dX10_holderBits_27 rfl rfl) ?_
    refine ev_step (st_ishr (pc := 28) dX10_holderBits_28) ?_
    refine ev_step (st_iconst (pc := 29) dX10_holderBits_29 ni_1) ?_
    refine ev_step (st_iand (pc := 30) dX10_holderBits_30) ?_
    refine ev_step (st_iload_n (pc := 31) (j := 3) dX10_holderBits_31 rfl rfl) ?_
    refine ev_step (st_ishl (pc := 32) dX10_holderBits_32) ?_
    refine ev_step (st_ior (pc := 33) dX10_holderBits_33) ?_
    refine ev_top (fun x6 => ?_)
    refine ev_step (st_istore_n (pc := 34) (ls' := [(2, .int x6), (0, .ref (gB G + v0)), (1, .int v1), (3, .int v3)]) dX10_holderBits_34 rfl (by decide) rfl) ?_
    refine ev_step (st_inc (pc := 35) (j := 3) (ls' := [(3, .int (v3 + (1 : Int32))), (2, .int x6), (0, .ref (gB G + v0)), (1, .int v1)]) dX10_holderBits_35 rfl ni_1 (by decide) rfl) ?_
    refine ev_step (st_goto (pc := 38) (tgt := 4) dX10_holderBits_38 (by decide)) ?_
    refine ev_sub (ls' := [(0, .ref (gB G + v0)), (1, .int v1), (2, .int x6), (3, .int (v3 + (1 : Int32)))]) [2, 3, 1, 0] rfl ?_
    exact hk4 x6 (v3 + (1 : Int32)) h
set_option maxRecDepth 100000 in
set_option maxHeartbeats 4000000 in
theorem tX10_holderBits (G : gx) (fu : Nat) (v0 : Nat) (v1 : Int32) (h : mh) : Ct lI G yX10_holderBits cX10_holderBits 4 (some .int) 1 [.ref (gB G + v0), .int v1] h (fX10_holderBits fu v0 v1 h) := by
  refine ct_ls (ls := [(0, .ref (gB G + v0)), (1, .int v1)]) rfl (by decide) (Nat.le_of_ble_eq_true rfl) ?_
  unfold fX10_holderBits
  refine ev_step (st_iconst (pc := 0) dX10_holderBits_0 ni_0) ?_
  refine ev_step (st_istore_n (pc := 1) (ls' := [(2, .int ((0 : Int32))), (0, .ref (gB G + v0)), (1, .int v1)]) dX10_holderBits_1 rfl (by decide) rfl) ?_
  refine ev_step (st_iconst (pc := 2) dX10_holderBits_2 ni_0) ?_
  refine ev_step (st_istore_n (pc := 3) (ls' := [(3, .int ((0 : Int32))), (2, .int ((0 : Int32))), (0, .ref (gB G + v0)), (1, .int v1)]) dX10_holderBits_3 rfl (by decide) rfl) ?_
  refine ev_sub (ls' := [(0, .ref (gB G + v0)), (1, .int v1), (2, .int ((0 : Int32))), (3, .int ((0 : Int32)))]) [2, 3, 1, 0] rfl ?_
  exact tX10_holderBits_4 G fu h v0 v1 fu ((0 : Int32)) ((0 : Int32)) h
set_option maxRecDepth 100000 in
set_option maxHeartbeats 4000000 in
theorem tX10_holders (G : gx) (fu : Nat) (v0 : Nat) (v1 : Int32) (h : mh) : Ct lI G yX10_holders cX10_holders 2 (some .int) 3 [.ref (gB G + v0), .int v1] h (fX10_holders fu v0 v1 h) := by
  refine ct_ls (ls := [(0, .ref (gB G + v0)), (1, .int v1)]) rfl (by decide) (Nat.le_of_ble_eq_true rfl) ?_
  unfold fX10_holders
  refine ev_step (st_iload_n (pc := 0) (j := 1) dX10_holders_0 rfl rfl) ?_
  refine ev_callI (iv_S (As := [.int v1]) (st := []) (pc := 1) m_X10_isFact l_X10_390 z_X10_isFact rfl (Nat.le_of_ble_eq_true rfl) rfl dX10_holders_1) (tX10_isFact G fu v1 h) (by decide) (by decide) (fun x2 h1 => ?_)
  refine ev_br (br_if_eq (tgt := 15) (pc := 4) dX10_holders_4 (by decide)) (fun _ => ?_) (fun _ => ?_)
  · refine ev_step (st_iconst (pc := 15) dX10_holders_15 ni_m1) ?_
    exact ev_iret (pc := 16) dX10_holders_16
  · refine ev_step (st_aload_n (pc := 7) (j := 0) dX10_holders_7 rfl rfl) ?_
    refine ev_step (st_iload_n (pc := 8) (j := 1) dX10_holders_8 rfl rfl) ?_
    refine ev_ck (fun ha hS => ?_)
    refine ev_callI (iv_V (As := [.int v1]) (st := []) (pc := 9) rfl m_X10_holderBits l_X10_435 i_X10_holderBits e_X10_holderBits ha hS rfl (Nat.le_of_ble_eq_true rfl) rfl dX10_holders_9) (tX10_holderBits G fu v0 v1 h1) (by decide) (by decide) (fun x4 h3 => ?_)
    refine ev_step (st_goto (pc := 12) (tgt := 16) dX10_holders_12 (by decide)) ?_
    exact ev_iret (pc := 16) dX10_holders_16
set_option maxRecDepth 100000 in
set_option maxHeartbeats 4000000 in
theorem tX10_rarest_42 (G : gx) (fu : Nat) (h0 : mh) (v0 : Nat) (v1 : Int32) (v2 : Int32) (v3 : Int32) (k15 : Int32 × Int32 × mh → Option (Int32 × mh)) (hk15 : ∀ (v2 : Int32) (v3 : Int32) (h : mh), Ev lI G yX10_rarest cX10_rarest 4 (some .int) 2 h0 15 [(0, .ref (gB G + v0)), (1, .int v1), (2, .int v2), (3, .int v3)] [] h (k15 (v2, v3, h))) (h : mh) : Ev lI G yX10_rarest cX10_rarest 4 (some .int) 2 h0 42 [(0, .ref (gB G + v0)), (1, .int v1), (2, .int v2), (3, .int v3)] [] h (fX10_rarest_42 fu k15 v0 v1 v2 v3 h) := by
  unfold fX10_rarest_42
  refine ev_step (st_inc (pc := 42) (j := 3) (ls' := [(3, .int (v3 + (1 : Int32))), (0, .ref (gB G + v0)), (1, .int v1), (2, .int v2)]) dX10_rarest_42 rfl ni_1 (by decide) rfl) ?_
  refine ev_step (st_goto (pc := 45) (tgt := 15) dX10_rarest_45 (by decide)) ?_
  refine ev_sub (ls' := [(0, .ref (gB G + v0)), (1, .int v1), (2, .int v2), (3, .int (v3 + (1 : Int32)))]) [1, 2, 3, 0] rfl ?_
  exact hk15 v2 (v3 + (1 : Int32)) h
set_option maxRecDepth 100000 in
set_option maxHeartbeats 4000000 in
theorem tX10_rarest_48 (G : gx) (fu : Nat) (h0 : mh) (v0 : Nat) (v1 : Int32) (v2 : Int32) (v3 : Int32) (h : mh) : Ev lI G yX10_rarest cX10_rarest 4 (some .int) 2 h0 48 [(0, .ref (gB G + v0)), (1, .int v1), (2, .int v2), (3, .int v3)] [] h (fX10_rarest_48 fu v0 v1 v2 v3 h) := by
  unfold fX10_rarest_48
  refine ev_step (st_iload_n (pc := 48) (j := 1) dX10_rarest_48 rfl rfl) ?_
  refine ev_br (br_if_ne (tgt := 56) (pc := 49) dX10_rarest_49 (by decide)) (fun _ => ?_) (fun _ => ?_)
  · refine ev_step (st_iload_n (pc := 52) (j := 2) dX10_rarest_52 rfl rfl) ?_
    refine ev_step (st_goto (pc := 53) (tgt := 64) dX10_rarest_53 (by decide)) ?_
    exact ev_iret (pc := 64) dX10_rarest_64
  · refine ev_step (st_aload_n (pc := 56) (j := 0) dX10_rarest_56 rfl rfl) ?_
    refine ev_step (st_iload_n (pc := 57) (j := 2) dX10_rarest_57 rfl rfl) ?_
    refine ev_ck (fun ha hS => ?_)
    refine ev_callI (iv_V (As := [.int v2]) (st := []) (pc := 58) rfl m_X10_holderBits l_X10_435 i_X10_holderBits e_X10_holderBits ha hS rfl (Nat.le_of_ble_eq_true rfl) rfl dX10_rarest_58) (tX10_holderBits G fu v0 v2 h) (by decide) (by decide) (fun x2 h1 => ?_)
    refine ev_callI (iv_S (As := [.int x2]) (st := []) (pc := 61) m_X10_bits l_X10_336 z_X10_bits rfl (Nat.le_of_ble_eq_true rfl) rfl dX10_rarest_61) (tX10_bits G fu x2 h1) (by decide) (by decide) (fun x4 h3 => ?_)
    exact ev_iret (pc := 64) dX10_rarest_64
set_option maxRecDepth 100000 in
set_option maxHeartbeats 4000000 in
theorem tX10_rarest_15 (G : gx) (fu : Nat) (h0 : mh) (v0 : Nat) (v1 : Int32) (n : Nat) (v2 : Int32) (v3 : Int32) (h : mh) : Ev lI G yX10_rarest cX10_rarest 4 (some .int) 2 h0 15 [(0, .ref (gB G + v0)), (1, .int v1), (2, .int v2), (3, .int v3)] [] h (itr (bX10_rarest_15 fu v0 v1) n (v2, v3, h)) := by
  refine ev_itr (P := fun (q : Int32 × Int32 × mh) (R9 : Option (Int32 × mh)) => Ev lI G yX10_rarest cX10_rarest 4 (some .int) 2 h0 15 [(0, .ref (gB G + v0)), (1, .int v1), (2, .int q.1), (3, .int q.2.1)] [] q.2.2 R9) (fun _ => ev_none) (fun k15 hk9 q => ?_) n (v2, v3, h)
  obtain ⟨v2, v3, h⟩ := q
  have hk15 : ∀ (v2 : Int32) (v3 : Int32) (h : mh), Ev lI G yX10_rarest cX10_rarest 4 (some .int) 2 h0 15 [(0, .ref (gB G + v0)), (1, .int v1), (2, .int v2), (3, .int v3)] [] h (k15 (v2, v3, h)) := fun v2 v3 h => hk9 (v2, v3, h)
  show Ev lI G yX10_rarest cX10_rarest 4 (some .int) 2 h0 15 [(0, .ref (gB G + v0)), (1, .int v1), (2, .int v2), (3, .int v3)] [] h (bX10_rarest_15 fu v0 v1 k15 (v2, v3, h))
  unfold bX10_rarest_15
  refine ev_step (st_iload_n (pc := 15) (j := 3) dX10_rarest_15 rfl rfl) ?_
  refine ev_step (st_bipush (pc := 16) dX10_rarest_16 nb_8) ?_
  refine ev_br (br_icmp_ge (tgt := 48) (pc := 18) dX10_rarest_18 (by decide)) (fun _ => ?_) (fun _ => ?_)
  · refine ev_sub (ls' := [(0, .ref (gB G + v0)), (1, .int v1), (2, .int v2), (3, .int v3)]) [0, 1, 2, 3] rfl ?_
    exact tX10_rarest_48 G fu h0 v0 v1 v2 v3 h
  · refine ev_step (st_aload_n (pc := 21) (j := 0) dX10_rarest_21 rfl rfl) ?_
    refine ev_step (st_iload_n (pc := 22) (j := 3) dX10_rarest_22 rfl rfl) ?_
    refine ev_ck (fun ha hS => ?_)
    refine ev_callI (iv_V (As := [.int v3]) (st := []) (pc := 23) rfl m_X10_holderBits l_X10_435 i_X10_holderBits e_X10_holderBits ha hS rfl (Nat.le_of_ble_eq_true rfl) rfl dX10_rarest_23) (tX10_holderBits G fu v0 v3 h) (by decide) (by decide) (fun x2 h1 => ?_)
    refine ev_callI (iv_S (As := [.int x2]) (st := []) (pc := 26) m_X10_bits l_X10_336 z_X10_bits rfl (Nat.le_of_ble_eq_true rfl) rfl dX10_rarest_26) (tX10_bits G fu x2 h1) (by decide) (by decide) (fun x4 h3 => ?_)
    refine ev_step (st_aload_n (pc := 29) (j := 0) dX10_rarest_29 rfl rfl) ?_
    refine ev_step (st_iload_n (pc := 30) (j := 2) dX10_rarest_30 rfl rfl) ?_
    refine ev_ck (fun ha hS => ?_)
    refine ev_callI (iv_V (As := [.int v2]) (st := [.int x4]) (pc := 31) rfl m_X10_holderBits l_X10_435 i_X10_holderBits e_X10_holderBits ha hS rfl (Nat.le_of_ble_eq_true rfl) rfl dX10_rarest_31) (tX10_holderBits G fu v0 v2 h3) (by decide) (by decide) (fun x6 h5 => ?_)
    refine ev_callI (iv_S (As := [.int x6]) (st := [.int x4]) (pc := 34) m_X10_bits l_X10_336 z_X10_bits rfl (Nat.le_of_ble_eq_true rfl) rfl dX10_rarest_34) (tX10_bits G fu x6 h5) (by decide) (by decide) (fun x8 h7 => ?_)
    refine ev_br (br_icmp_ge (tgt := 42) (pc := 37) dX10_rarest_37 (by decide)) (fun _ => ?_) (fun _ => ?_)
    · refine ev_sub (ls' := [(0, .ref (gB G + v0)), (1, .int v1), (2, .int v2), (3, .int v3)]) [0, 1, 2, 3] rfl ?_
      exact tX10_rarest_42 G fu h0 v0 v1 v2 v3 k15 hk15 h7
    · refine ev_step (st_iload_n (pc := 40) (j := 3) dX10_rarest_40 rfl rfl) ?_
      refine ev_step (st_istore_n (pc := 41) (ls' := [(2, .int v3), (0, .ref (gB G + v0)), (1, .int v1), (3, .int v3)]) dX10_rarest_41 rfl (by decide) rfl) ?_
      refine ev_sub (ls' := [(0, .ref (gB G + v0)), (1, .int v1), (2, .int v3), (3, .int v3)]) [1, 2, 0, 3] rfl ?_
      exact tX10_rarest_42 G fu h0 v0 v1 v3 v3 k15 hk15 h7
set_option maxRecDepth 100000 in
set_option maxHeartbeats 4000000 in
theorem tX10_rarest (G : gx) (fu : Nat) (v0 : Nat) (v1 : Int32) (h : mh) : Ct lI G yX10_rarest cX10_rarest 4 (some .int) 2 [.ref (gB G + v0), .int v1] h (fX10_rarest fu v0 v1 h) := by
  refine ct_ls (ls := [(0, .ref (gB G + v0)), (1, .int v1)]) rfl (by decide) (Nat.le_of_ble_eq_true rfl) ?_
  unfold fX10_rarest
  refine ev_step (st_iload_n (pc := 0) (j := 1) dX10_rarest_0 rfl rfl) ?_
  refine ev_step (st_iconst (pc := 1) dX10_rarest_1 ni_0) ?_
  refine ev_step (st_iconst (pc := 2) dX10_rarest_2 ni_1) ?_
  refine ev_callI (iv_S (As := [.int v1, .int ((0 : Int32)), .int ((1 : Int32))]) (st := []) (pc := 3) m_X10_in l_X10_310 z_X10_in rfl (Nat.le_of_ble_eq_true rfl) rfl dX10_rarest_3) (tX10_in G fu v1 ((0 : Int32)) ((1 : Int32)) h) (by decide) (by decide) (fun x2 h1 => ?_)
  refine ev_br (br_if_ne (tgt := 11) (pc := 6) dX10_rarest_6 (by decide)) (fun _ => ?_) (fun _ => ?_)
  · refine ev_step (st_iconst (pc := 9) dX10_rarest_9 ni_m1) ?_
    exact ev_iret (pc := 10) dX10_rarest_10
  · refine ev_step (st_iconst (pc := 11) dX10_rarest_11 ni_0) ?_
    refine ev_step (st_istore_n (pc := 12) (ls' := [(2, .int ((0 : Int32))), (0, .ref (gB G + v0)), (1, .int v1)]) dX10_rarest_12 rfl (by decide) rfl) ?_
    refine ev_step (st_iconst (pc := 13) dX10_rarest_13 ni_1) ?_
    refine ev_step (st_istore_n (pc := 14) (ls' := [(3, .int ((1 : Int32))), (2, .int ((0 : Int32))), (0, .ref (gB G + v0)), (1, .int v1)]) dX10_rarest_14 rfl (by decide) rfl) ?_
    refine ev_sub (ls' := [(0, .ref (gB G + v0)), (1, .int v1), (2, .int ((0 : Int32))), (3, .int ((1 : Int32)))]) [2, 3, 1, 0] rfl ?_
    exact tX10_rarest_15 G fu h v0 v1 fu ((0 : Int32)) ((1 : Int32)) h1
set_option maxRecDepth 100000 in
set_option maxHeartbeats 4000000 in
theorem tX10_series_49 (G : gx) (fu : Nat) (h0 : mh) (v0 : Nat) (v1 : Int32) (v2 : Int32) (v3 : Int32) (v4 : Int32) (h : mh) : Ev lI G yX10_series cX10_series 5 (some .int) 7 h0 49 [(0, .ref (gB G + v0)), (1, .int v1), (2, .int v2), (3, .int v3), (4, .int v4)] [] h (fX10_series_49 fu v0 v1 v2 v3 v4 h) := by
  unfold fX10_series_49
  refine ev_step (st_aload_n (pc := 49) (j := 0) dX10_series_49 rfl rfl) ?_
  refine ev_ck (fun ha hS => ?_)
  refine ev_callI (iv_V (As := []) (st := []) (pc := 50) rfl m_X10_knownMany l_X10_405 i_X10_knownMany e_X10_knownMany ha hS rfl (Nat.le_of_ble_eq_true rfl) rfl dX10_series_50) (tX10_knownMany G fu v0 h) (by decide) (by decide) (fun x2 h1 => ?_)
  refine ev_step (st_iload_n (pc := 53) (j := 3) dX10_series_53 rfl rfl) ?_
  refine ev_step (st_isub (pc := 54) dX10_series_54) ?_
  exact ev_iret (pc := 55) dX10_series_55
set_option maxRecDepth 100000 in
set_option maxHeartbeats 4000000 in
theorem tX10_series_32 (G : gx) (fu : Nat) (h0 : mh) (v0 : Nat) (v1 : Int32) (v2 : Int32) (v3 : Int32) (n : Nat) (v4 : Int32) (h : mh) : Ev lI G yX10_series cX10_series 5 (some .int) 7 h0 32 [(0, .ref (gB G + v0)), (1, .int v1), (2, .int v2), (3, .int v3), (4, .int v4)] [] h (itr (bX10_series_32 fu v0 v1 v2 v3) n (v4, h)) := by
  refine ev_itr (P := fun (q : Int32 × mh) (R9 : Option (Int32 × mh)) => Ev lI G yX10_series cX10_series 5 (some .int) 7 h0 32 [(0, .ref (gB G + v0)), (1, .int v1), (2, .int v2), (3, .int v3), (4, .int q.1)] [] q.2 R9) (fun _ => ev_none) (fun k32 hk9 q => ?_) n (v4, h)
  obtain ⟨v4, h⟩ := q
  have hk32 : ∀ (v4 : Int32) (h : mh), Ev lI G yX10_series cX10_series 5 (some .int) 7 h0 32 [(0, .ref (gB G + v0)), (1, .int v1), (2, .int v2), (3, .int v3), (4, .int v4)] [] h (k32 (v4, h)) := fun v4 h => hk9 (v4, h)
  show Ev lI G yX10_series cX10_series 5 (some .int) 7 h0 32 [(0, .ref (gB G + v0)), (1, .int v1), (2, .int v2), (3, .int v3), (4, .int v4)] [] h (bX10_series_32 fu v0 v1 v2 v3 k32 (v4, h))
  unfold bX10_series_32
  refine ev_step (st_iload (pc := 32) (j := 4) dX10_series_32 rfl) ?_
  refine ev_step (st_iload_n (pc := 34) (j := 2) dX10_series_34 rfl rfl) ?_
  refine ev_br (br_icmp_ge (tgt := 49) (pc := 35) dX10_series_35 (by decide)) (fun _ => ?_) (fun _ => ?_)
  · refine ev_sub (ls' := [(0, .ref (gB G + v0)), (1, .int v1), (2, .int v2), (3, .int v3), (4, .int v4)]) [0, 1, 2, 3, 4] rfl ?_
    exact tX10_series_49 G fu h0 v0 v1 v2 v3 v4 h
  · refine ev_step (st_aload_n (pc := 38) (j := 0) dX10_series_38 rfl rfl) ?_
    refine ev_step (st_iload_n (pc := 39) (j := 1) dX10_series_39 rfl rfl) ?_
    refine ev_ck (fun ha hS => ?_)
    refine ev_callV (iv_V (As := [.int v1]) (st := []) (pc := 40) rfl m_X10_goesWith l_X10_438 i_X10_goesWith e_X10_goesWith ha hS rfl (Nat.le_of_ble_eq_true rfl) rfl dX10_series_40) (tX10_goesWith G fu v0 v1 h) (by decide) (by decide) (fun h1 => ?_)
    refine ev_step (st_inc (pc := 43) (j := 4) (ls' := [(4, .int (v4 + (1 : Int32))), (0, .ref (gB G + v0)), (1, .int v1), (2, .int v2), (3, .int v3)]) dX10_series_43 rfl ni_1 (by decide) rfl) ?_
    refine ev_step (st_goto (pc := 46) (tgt := 32) dX10_series_46 (by decide)) ?_
    refine ev_sub (ls' := [(0, .ref (gB G + v0)), (1, .int v1), (2, .int v2), (3, .int v3), (4, .int (v4 + (1 : Int32)))]) [1, 2, 3, 4, 0] rfl ?_
    exact hk32 (v4 + (1 : Int32)) h1
set_option maxRecDepth 100000 in
set_option maxHeartbeats 4000000 in
theorem tX10_series (G : gx) (fu : Nat) (v0 : Nat) (v1 : Int32) (v2 : Int32) (h : mh) : Ct lI G yX10_series cX10_series 5 (some .int) 7 [.ref (gB G + v0), .int v1, .int v2] h (fX10_series fu v0 v1 v2 h) := by
  refine ct_ls (ls := [(0, .ref (gB G + v0)), (1, .int v1), (2, .int v2)]) rfl (by decide) (Nat.le_of_ble_eq_true rfl) ?_
  unfold fX10_series
  refine ev_step (st_aload_n (pc := 0) (j := 0) dX10_series_0 rfl rfl) ?_
  refine ev_step (st_iload_n (pc := 1) (j := 1) dX10_series_1 rfl rfl) ?_
  refine ev_ck (fun ha hS => ?_)
  refine ev_callI (iv_V (As := [.int v1]) (st := []) (pc := 2) rfl m_X10_isRole l_X10_381 i_X10_isRole e_X10_isRole ha hS rfl (Nat.le_of_ble_eq_true rfl) rfl dX10_series_2) (tX10_isRole G fu v0 v1 h) (by decide) (by decide) (fun x2 h1 => ?_)
  refine ev_br (br_if_eq (tgt := 18) (pc := 5) dX10_series_5 (by decide)) (fun _ => ?_) (fun _ => ?_)
  · refine ev_step (st_iconst (pc := 18) dX10_series_18 ni_m1) ?_
    exact ev_iret (pc := 19) dX10_series_19
  · refine ev_step (st_iload_n (pc := 8) (j := 2) dX10_series_8 rfl rfl) ?_
    refine ev_step (st_iconst (pc := 9) dX10_series_9 ni_1) ?_
    refine ev_step (st_bipush (pc := 10) dX10_series_10 nb_30) ?_
    refine ev_callI (iv_S (As := [.int v2, .int ((1 : Int32)), .int ((30 : Int32))]) (st := []) (pc := 12) m_X10_in l_X10_310 z_X10_in rfl (Nat.le_of_ble_eq_true rfl) rfl dX10_series_12) (tX10_in G fu v2 ((1 : Int32)) ((30 : Int32)) h1) (by decide) (by decide) (fun x4 h3 => ?_)
    refine ev_br (br_if_ne (tgt := 20) (pc := 15) dX10_series_15 (by decide)) (fun _ => ?_) (fun _ => ?_)
    · refine ev_step (st_iconst (pc := 18) dX10_series_18 ni_m1) ?_
      exact ev_iret (pc := 19) dX10_series_19
    · refine ev_step (st_aload_n (pc := 20) (j := 0) dX10_series_20 rfl rfl) ?_
      refine ev_ck (fun ha hS => ?_)
      refine ev_callV (iv_V (As := []) (st := []) (pc := 21) rfl m_X10_copiesStill l_X10_402 i_X10_copiesStill e_X10_copiesStill ha hS rfl (Nat.le_of_ble_eq_true rfl) rfl dX10_series_21) (tX10_copiesStill G fu v0 h3) (by decide) (by decide) (fun h5 => ?_)
      refine ev_step (st_aload_n (pc := 24) (j := 0) dX10_series_24 rfl rfl) ?_
      refine ev_ck (fun ha hS => ?_)
      refine ev_callI (iv_V (As := []) (st := []) (pc := 25) rfl m_X10_knownMany l_X10_405 i_X10_knownMany e_X10_knownMany ha hS rfl (Nat.le_of_ble_eq_true rfl) rfl dX10_series_25) (tX10_knownMany G fu v0 h5) (by decide) (by decide) (fun x7 h6 => ?_)
      refine ev_step (st_istore_n (pc := 28) (ls' := [(3, .int x7), (0, .ref (gB G + v0)), (1, .int v1), (2, .int v2)]) dX10_series_28 rfl (by decide) rfl) ?_
      refine ev_step (st_iconst (pc := 29) dX10_series_29 ni_0) ?_
      refine ev_step (st_istore (pc := 30) (ls' := [(4, .int ((0 : Int32))), (3, .int x7), (0, .ref (gB G + v0)), (1, .int v1), (2, .int v2)]) dX10_series_30 (by decide) rfl) ?_
      refine ev_sub (ls' := [(0, .ref (gB G + v0)), (1, .int v1), (2, .int v2), (3, .int x7), (4, .int ((0 : Int32)))]) [2, 3, 4, 1, 0] rfl ?_
      exact tX10_series_32 G fu h v0 v1 v2 x7 fu ((0 : Int32)) h6
set_option maxRecDepth 100000 in
set_option maxHeartbeats 4000000 in
theorem tX10_longOf_24 (G : gx) (fu : Nat) (h0 : mh) (v0 : Nat) (v1 : Int32) (v2 : Int32) (n : Nat) (v3 : Int32) (h : mh) : Ev lI G yX10_longOf cX10_longOf 4 (some .int) 7 h0 24 [(0, .ref (gB G + v0)), (1, .int v1), (2, .int v2), (3, .int v3)] [] h (itr (bX10_longOf_24 fu v0 v1 v2) n (v3, h)) := by
  refine ev_itr (P := fun (q : Int32 × mh) (R9 : Option (Int32 × mh)) => Ev lI G yX10_longOf cX10_longOf 4 (some .int) 7 h0 24 [(0, .ref (gB G + v0)), (1, .int v1), (2, .int v2), (3, .int q.1)] [] q.2 R9) (fun _ => ev_none) (fun k24 hk9 q => ?_) n (v3, h)
  obtain ⟨v3, h⟩ := q
  have hk24 : ∀ (v3 : Int32) (h : mh), Ev lI G yX10_longOf cX10_longOf 4 (some .int) 7 h0 24 [(0, .ref (gB G + v0)), (1, .int v1), (2, .int v2), (3, .int v3)] [] h (k24 (v3, h)) := fun v3 h => hk9 (v3, h)
  show Ev lI G yX10_longOf cX10_longOf 4 (some .int) 7 h0 24 [(0, .ref (gB G + v0)), (1, .int v1), (2, .int v2), (3, .int v3)] [] h (bX10_longOf_24 fu v0 v1 v2 k24 (v3, h))
  unfold bX10_longOf_24
  refine ev_step (st_iload_n (pc := 24) (j := 3) dX10_longOf_24 rfl rfl) ?_
  refine ev_step (st_bipush (pc := 25) dX10_longOf_25 nb_30) ?_
  refine ev_br (br_icmp_gt (tgt := 51) (pc := 27) dX10_longOf_27 (by decide)) (fun _ => ?_) (fun _ => ?_)
  · refine ev_step (st_bipush (pc := 51) dX10_longOf_51 nb_m2) ?_
    exact ev_iret (pc := 53) dX10_longOf_53
  · refine ev_step (st_aload_n (pc := 30) (j := 0) dX10_longOf_30 rfl rfl) ?_
    refine ev_step (st_iload_n (pc := 31) (j := 1) dX10_longOf_31 rfl rfl) ?_
    refine ev_ck (fun ha hS => ?_)
    refine ev_callI (iv_V (As := [.int v1]) (st := []) (pc := 32) rfl m_X10_hasDone l_X10_350 i_X10_hasDone e_X10_hasDone ha hS rfl (Nat.le_of_ble_eq_true rfl) rfl dX10_longOf_32) (tX10_hasDone G fu v0 v1 h) (by decide) (by decide) (fun x2 h1 => ?_)
    refine ev_br (br_if_eq (tgt := 40) (pc := 35) dX10_longOf_35 (by decide)) (fun _ => ?_) (fun _ => ?_)
    · refine ev_step (st_aload_n (pc := 40) (j := 0) dX10_longOf_40 rfl rfl) ?_
      refine ev_step (st_iload_n (pc := 41) (j := 2) dX10_longOf_41 rfl rfl) ?_
      refine ev_ck (fun ha hS => ?_)
      refine ev_callV (iv_V (As := [.int v2]) (st := []) (pc := 42) rfl m_X10_goesWith l_X10_438 i_X10_goesWith e_X10_goesWith ha hS rfl (Nat.le_of_ble_eq_true rfl) rfl dX10_longOf_42) (tX10_goesWith G fu v0 v2 h1) (by decide) (by decide) (fun h3 => ?_)
      refine ev_step (st_inc (pc := 45) (j := 3) (ls' := [(3, .int (v3 + (1 : Int32))), (0, .ref (gB G + v0)), (1, .int v1), (2, .int v2)]) dX10_longOf_45 rfl ni_1 (by decide) rfl) ?_
      refine ev_step (st_goto (pc := 48) (tgt := 24) dX10_longOf_48 (by decide)) ?_
      refine ev_sub (ls' := [(0, .ref (gB G + v0)), (1, .int v1), (2, .int v2), (3, .int (v3 + (1 : Int32)))]) [1, 2, 3, 0] rfl ?_
      exact hk24 (v3 + (1 : Int32)) h3
    · refine ev_step (st_iload_n (pc := 38) (j := 3) dX10_longOf_38 rfl rfl) ?_
      exact ev_iret (pc := 39) dX10_longOf_39
set_option maxRecDepth 100000 in
set_option maxHeartbeats 4000000 in
theorem tX10_longOf (G : gx) (fu : Nat) (v0 : Nat) (v1 : Int32) (v2 : Int32) (h : mh) : Ct lI G yX10_longOf cX10_longOf 4 (some .int) 7 [.ref (gB G + v0), .int v1, .int v2] h (fX10_longOf fu v0 v1 v2 h) := by
  refine ct_ls (ls := [(0, .ref (gB G + v0)), (1, .int v1), (2, .int v2)]) rfl (by decide) (Nat.le_of_ble_eq_true rfl) ?_
  unfold fX10_longOf
  refine ev_step (st_aload_n (pc := 0) (j := 0) dX10_longOf_0 rfl rfl) ?_
  refine ev_step (st_iload_n (pc := 1) (j := 1) dX10_longOf_1 rfl rfl) ?_
  refine ev_ck (fun ha hS => ?_)
  refine ev_callI (iv_V (As := [.int v1]) (st := []) (pc := 2) rfl m_X10_isListener l_X10_384 i_X10_isListener e_X10_isListener ha hS rfl (Nat.le_of_ble_eq_true rfl) rfl dX10_longOf_2) (tX10_isListener G fu v0 v1 h) (by decide) (by decide) (fun x2 h1 => ?_)
  refine ev_br (br_if_eq (tgt := 16) (pc := 5) dX10_longOf_5 (by decide)) (fun _ => ?_) (fun _ => ?_)
  · refine ev_step (st_iconst (pc := 16) dX10_longOf_16 ni_m1) ?_
    exact ev_iret (pc := 17) dX10_longOf_17
  · refine ev_step (st_aload_n (pc := 8) (j := 0) dX10_longOf_8 rfl rfl) ?_
    refine ev_step (st_iload_n (pc := 9) (j := 2) dX10_longOf_9 rfl rfl) ?_
    refine ev_ck (fun ha hS => ?_)
    refine ev_callI (iv_V (As := [.int v2]) (st := []) (pc := 10) rfl m_X10_isRole l_X10_381 i_X10_isRole e_X10_isRole ha hS rfl (Nat.le_of_ble_eq_true rfl) rfl dX10_longOf_10) (tX10_isRole G fu v0 v2 h1) (by decide) (by decide) (fun x4 h3 => ?_)
    refine ev_br (br_if_ne (tgt := 18) (pc := 13) dX10_longOf_13 (by decide)) (fun _ => ?_) (fun _ => ?_)
    · refine ev_step (st_iconst (pc := 16) dX10_longOf_16 ni_m1) ?_
      exact ev_iret (pc := 17) dX10_longOf_17
    · refine ev_step (st_aload_n (pc := 18) (j := 0) dX10_longOf_18 rfl rfl) ?_
      refine ev_ck (fun ha hS => ?_)
      refine ev_callV (iv_V (As := []) (st := []) (pc := 19) rfl m_X10_copiesStill l_X10_402 i_X10_copiesStill e_X10_copiesStill ha hS rfl (Nat.le_of_ble_eq_true rfl) rfl dX10_longOf_19) (tX10_copiesStill G fu v0 h3) (by decide) (by decide) (fun h5 => ?_)
      refine ev_step (st_iconst (pc := 22) dX10_longOf_22 ni_0) ?_
      refine ev_step (st_istore_n (pc := 23) (ls' := [(3, .int ((0 : Int32))), (0, .ref (gB G + v0)), (1, .int v1), (2, .int v2)]) dX10_longOf_23 rfl (by decide) rfl) ?_
      refine ev_sub (ls' := [(0, .ref (gB G + v0)), (1, .int v1), (2, .int v2), (3, .int ((0 : Int32)))]) [1, 2, 3, 0] rfl ?_
      exact tX10_longOf_24 G fu h v0 v1 v2 fu ((0 : Int32)) h5
set_option maxRecDepth 100000 in
set_option maxHeartbeats 4000000 in
theorem tX10_callers_76 (G : gx) (fu : Nat) (h0 : mh) (v0 : Nat) (v1 : Int32) (v2 : Int32) (v3 : Int32) (v4 : Int32) (k25 : Int32 × Int32 × mh → Option (Int32 × mh)) (hk25 : ∀ (v3 : Int32) (v4 : Int32) (h : mh), Ev lI G yX10_callers cX10_callers 5 (some .int) 4 h0 25 [(0, .ref (gB G + v0)), (1, .int v1), (2, .int v2), (3, .int v3), (4, .int v4)] [] h (k25 (v3, v4, h))) (h : mh) : Ev lI G yX10_callers cX10_callers 5 (some .int) 4 h0 76 [(0, .ref (gB G + v0)), (1, .int v1), (2, .int v2), (3, .int v3), (4, .int v4)] [] h (fX10_callers_76 fu k25 v0 v1 v2 v3 v4 h) := by
  unfold fX10_callers_76
  refine ev_step (st_inc (pc := 76) (j := 4) (ls' := [(4, .int (v4 + (1 : Int32))), (0, .ref (gB G + v0)), (1, .int v1), (2, .int v2), (3, .int v3)]) dX10_callers_76 rfl ni_1 (by decide) rfl) ?_
  refine ev_step (st_goto (pc := 79) (tgt := 25) dX10_callers_79 (by decide)) ?_
  refine ev_sub (ls' := [(0, .ref (gB G + v0)), (1, .int v1), (2, .int v2), (3, .int v3), (4, .int (v4 + (1 : Int32)))]) [1, 2, 3, 4, 0] rfl ?_
  exact hk25 v3 (v4 + (1 : Int32)) h
set_option maxRecDepth 100000 in
set_option maxHeartbeats 4000000 in
theorem tX10_callers_25 (G : gx) (fu : Nat) (h0 : mh) (v0 : Nat) (v1 : Int32) (v2 : Int32) (n : Nat) (v3 : Int32) (v4 : Int32) (h : mh) : Ev lI G yX10_callers cX10_callers 5 (some .int) 4 h0 25 [(0, .ref (gB G + v0)), (1, .int v1), (2, .int v2), (3, .int v3), (4, .int v4)] [] h (itr (bX10_callers_25 fu v0 v1 v2) n (v3, v4, h)) := by
  refine ev_itr (P := fun (q : Int32 × Int32 × mh) (R9 : Option (Int32 × mh)) => Ev lI G yX10_callers cX10_callers 5 (some .int) 4 h0 25 [(0, .ref (gB G + v0)), (1, .int v1), (2, .int v2), (3, .int q.1), (4, .int q.2.1)] [] q.2.2 R9) (fun _ => ev_none) (fun k25 hk9 q => ?_) n (v3, v4, h)
  obtain ⟨v3, v4, h⟩ := q
  have hk25 : ∀ (v3 : Int32) (v4 : Int32) (h : mh), Ev lI G yX10_callers cX10_callers 5 (some .int) 4 h0 25 [(0, .ref (gB G + v0)), (1, .int v1), (2, .int v2), (3, .int v3), (4, .int v4)] [] h (k25 (v3, v4, h)) := fun v3 v4 h => hk9 (v3, v4, h)
  show Ev lI G yX10_callers cX10_callers 5 (some .int) 4 h0 25 [(0, .ref (gB G + v0)), (1, .int v1), (2, .int v2), (3, .int v3), (4, .int v4)] [] h (bX10_callers_25 fu v0 v1 v2 k25 (v3, v4, h))
  unfold bX10_callers_25
  refine ev_step (st_iload (pc := 25) (j := 4) dX10_callers_25 rfl) ?_
  refine ev_step (st_aload_n (pc := 27) (j := 0) dX10_callers_27 rfl rfl) ?_
  refine ev_getR (pc := 28) k_X10_55 rfl dX10_callers_28 (fun a1 => ?_)
  refine ev_step (st_aload_n (pc := 31) (j := 0) dX10_callers_31 rfl rfl) ?_
  refine ev_getI (pc := 32) k_X10_230 rfl dX10_callers_32 (fun x2 => ?_)
  refine ev_ldi (pc := 35) dX10_callers_35 (fun x3 => ?_)
  refine ev_br (br_icmp_ge (tgt := 82) (pc := 36) dX10_callers_36 (by decide)) (fun _ => ?_) (fun _ => ?_)
  · refine ev_step (st_iload_n (pc := 82) (j := 3) dX10_callers_82 rfl rfl) ?_
    exact ev_iret (pc := 83) dX10_callers_83
  · refine ev_step (st_aload_n (pc := 39) (j := 0) dX10_callers_39 rfl rfl) ?_
    refine ev_step (st_iload (pc := 40) (j := 4) dX10_callers_40 rfl) ?_
    refine ev_step (st_iload_n (pc := 42) (j := 1) dX10_callers_42 rfl rfl) ?_
    refine ev_ck (fun ha hS => ?_)
    refine ev_callI (iv_V (As := [.int v4, .int v1]) (st := []) (pc := 43) rfl m_X10_isReally l_X10_339 i_X10_isReally e_X10_isReally ha hS rfl (Nat.le_of_ble_eq_true rfl) rfl dX10_callers_43) (tX10_isReally G fu v0 v4 v1 h) (by decide) (by decide) (fun x5 h4 => ?_)
    refine ev_br (br_if_eq (tgt := 76) (pc := 46) dX10_callers_46 (by decide)) (fun _ => ?_) (fun _ => ?_)
    · refine ev_sub (ls' := [(0, .ref (gB G + v0)), (1, .int v1), (2, .int v2), (3, .int v3), (4, .int v4)]) [0, 1, 2, 3, 4] rfl ?_
      exact tX10_callers_76 G fu h0 v0 v1 v2 v3 v4 k25 hk25 h4
    · refine ev_step (st_aload_n (pc := 49) (j := 0) dX10_callers_49 rfl rfl) ?_
      refine ev_step (st_iload (pc := 50) (j := 4) dX10_callers_50 rfl) ?_
      refine ev_ck (fun ha hS => ?_)
      refine ev_callI (iv_V (As := [.int v4]) (st := []) (pc := 52) rfl m_X10_isOn l_X10_365 i_X10_isOn e_X10_isOn ha hS rfl (Nat.le_of_ble_eq_true rfl) rfl dX10_callers_52) (tX10_isOn G fu v0 v4 h4) (by decide) (by decide) (fun x7 h6 => ?_)
      refine ev_br (br_if_eq (tgt := 76) (pc := 55) dX10_callers_55 (by decide)) (fun _ => ?_) (fun _ => ?_)
      · refine ev_sub (ls' := [(0, .ref (gB G + v0)), (1, .int v1), (2, .int v2), (3, .int v3), (4, .int v4)]) [0, 1, 2, 3, 4] rfl ?_
        exact tX10_callers_76 G fu h0 v0 v1 v2 v3 v4 k25 hk25 h6
      · refine ev_step (st_aload_n (pc := 58) (j := 0) dX10_callers_58 rfl rfl) ?_
        refine ev_step (st_iload (pc := 59) (j := 4) dX10_callers_59 rfl) ?_
        refine ev_step (st_iload_n (pc := 61) (j := 1) dX10_callers_61 rfl rfl) ?_
        refine ev_step (st_iload_n (pc := 62) (j := 2) dX10_callers_62 rfl rfl) ?_
        refine ev_ck (fun ha hS => ?_)
        refine ev_callI (iv_V (As := [.int v4, .int v1, .int v2]) (st := []) (pc := 63) rfl m_X10_doesRing l_X10_368 i_X10_doesRing e_X10_doesRing ha hS rfl (Nat.le_of_ble_eq_true rfl) rfl dX10_callers_63) (tX10_doesRing G fu v0 v4 v1 v2 h6) (by decide) (by decide) (fun x9 h8 => ?_)
        refine ev_br (br_if_eq (tgt := 76) (pc := 66) dX10_callers_66 (by decide)) (fun _ => ?_) (fun _ => ?_)
        · refine ev_sub (ls' := [(0, .ref (gB G + v0)), (1, .int v1), (2, .int v2), (3, .int v3), (4, .int v4)]) [0, 1, 2, 3, 4] rfl ?_
          exact tX10_callers_76 G fu h0 v0 v1 v2 v3 v4 k25 hk25 h8
        · refine ev_step (st_iload_n (pc := 69) (j := 3) dX10_callers_69 rfl rfl) ?_
          refine ev_step (st_iconst (pc := 70) dX10_callers_70 ni_1) ?_
          refine ev_step (st_iload (pc := 71) (j := 4) dX10_callers_71 rfl) ?_
          refine ev_step (st_ishl (pc := 73) dX10_callers_73) ?_
          refine ev_step (st_ior (pc := 74) dX10_callers_74) ?_
          refine ev_top (fun x10 => ?_)
          refine ev_step (st_istore_n (pc := 75) (ls' := [(3, .int x10), (0, .ref (gB G + v0)), (1, .int v1), (2, .int v2), (4, .int v4)]) dX10_callers_75 rfl (by decide) rfl) ?_
          refine ev_sub (ls' := [(0, .ref (gB G + v0)), (1, .int v1), (2, .int v2), (3, .int x10), (4, .int v4)]) [1, 2, 3, 0, 4] rfl ?_
          exact tX10_callers_76 G fu h0 v0 v1 v2 x10 v4 k25 hk25 h8
set_option maxRecDepth 100000 in
set_option maxHeartbeats 4000000 in
theorem tX10_callers (G : gx) (fu : Nat) (v0 : Nat) (v1 : Int32) (h : mh) : Ct lI G yX10_callers cX10_callers 5 (some .int) 4 [.ref (gB G + v0), .int v1] h (fX10_callers fu v0 v1 h) := by
  refine ct_ls (ls := [(0, .ref (gB G + v0)), (1, .int v1)]) rfl (by decide) (Nat.le_of_ble_eq_true rfl) ?_
  unfold fX10_callers
  refine ev_step (st_aload_n (pc := 0) (j := 0) dX10_callers_0 rfl rfl) ?_
  refine ev_step (st_iload_n (pc := 1) (j := 1) dX10_callers_1 rfl rfl) ?_
  refine ev_ck (fun ha hS => ?_)
  refine ev_callI (iv_V (As := [.int v1]) (st := []) (pc := 2) rfl m_X10_isRole l_X10_381 i_X10_isRole e_X10_isRole ha hS rfl (Nat.le_of_ble_eq_true rfl) rfl dX10_callers_2) (tX10_isRole G fu v0 v1 h) (by decide) (by decide) (fun x2 h1 => ?_)
  refine ev_br (br_if_ne (tgt := 10) (pc := 5) dX10_callers_5 (by decide)) (fun _ => ?_) (fun _ => ?_)
  · refine ev_step (st_iconst (pc := 8) dX10_callers_8 ni_m1) ?_
    exact ev_iret (pc := 9) dX10_callers_9
  · refine ev_step (st_aload_n (pc := 10) (j := 0) dX10_callers_10 rfl rfl) ?_
    refine ev_ck (fun ha hS => ?_)
    refine ev_callV (iv_V (As := []) (st := []) (pc := 11) rfl m_X10_copies l_X10_320 i_X10_copies e_X10_copies ha hS rfl (Nat.le_of_ble_eq_true rfl) rfl dX10_callers_11) (tX10_copies G fu v0 h1) (by decide) (by decide) (fun h3 => ?_)
    refine ev_step (st_aload_n (pc := 14) (j := 0) dX10_callers_14 rfl rfl) ?_
    refine ev_step (st_iload_n (pc := 15) (j := 1) dX10_callers_15 rfl rfl) ?_
    refine ev_ck (fun ha hS => ?_)
    refine ev_callI (iv_V (As := [.int v1]) (st := []) (pc := 16) rfl m_X10_saidBy l_X10_353 i_X10_saidBy e_X10_saidBy ha hS rfl (Nat.le_of_ble_eq_true rfl) rfl dX10_callers_16) (tX10_saidBy G fu v0 v1 h3) (by decide) (by decide) (fun x5 h4 => ?_)
    refine ev_step (st_istore_n (pc := 19) (ls' := [(2, .int x5), (0, .ref (gB G + v0)), (1, .int v1)]) dX10_callers_19 rfl (by decide) rfl) ?_
    refine ev_step (st_iconst (pc := 20) dX10_callers_20 ni_0) ?_
    refine ev_step (st_istore_n (pc := 21) (ls' := [(3, .int ((0 : Int32))), (2, .int x5), (0, .ref (gB G + v0)), (1, .int v1)]) dX10_callers_21 rfl (by decide) rfl) ?_
    refine ev_step (st_iconst (pc := 22) dX10_callers_22 ni_0) ?_
    refine ev_step (st_istore (pc := 23) (ls' := [(4, .int ((0 : Int32))), (3, .int ((0 : Int32))), (2, .int x5), (0, .ref (gB G + v0)), (1, .int v1)]) dX10_callers_23 (by decide) rfl) ?_
    refine ev_sub (ls' := [(0, .ref (gB G + v0)), (1, .int v1), (2, .int x5), (3, .int ((0 : Int32))), (4, .int ((0 : Int32)))]) [3, 4, 2, 1, 0] rfl ?_
    exact tX10_callers_25 G fu h v0 v1 x5 fu ((0 : Int32)) ((0 : Int32)) h4
set_option maxRecDepth 100000 in
set_option maxHeartbeats 4000000 in
theorem tX10_sway (G : gx) (fu : Nat) (v0 : Nat) (v1 : Int32) (h : mh) : Ct lI G yX10_sway cX10_sway 3 (some .int) 7 [.ref (gB G + v0), .int v1] h (fX10_sway fu v0 v1 h) := by
  refine ct_ls (ls := [(0, .ref (gB G + v0)), (1, .int v1)]) rfl (by decide) (Nat.le_of_ble_eq_true rfl) ?_
  unfold fX10_sway
  refine ev_step (st_aload_n (pc := 0) (j := 0) dX10_sway_0 rfl rfl) ?_
  refine ev_step (st_iload_n (pc := 1) (j := 1) dX10_sway_1 rfl rfl) ?_
  refine ev_ck (fun ha hS => ?_)
  refine ev_callI (iv_V (As := [.int v1]) (st := []) (pc := 2) rfl m_X10_isRole l_X10_381 i_X10_isRole e_X10_isRole ha hS rfl (Nat.le_of_ble_eq_true rfl) rfl dX10_sway_2) (tX10_isRole G fu v0 v1 h) (by decide) (by decide) (fun x2 h1 => ?_)
  refine ev_br (br_if_ne (tgt := 12) (pc := 5) dX10_sway_5 (by decide)) (fun _ => ?_) (fun _ => ?_)
  · refine ev_step (st_ldcw (pc := 8) dX10_sway_8 cc_X10_441) ?_
    exact ev_iret (pc := 11) dX10_sway_11
  · refine ev_step (st_aload_n (pc := 12) (j := 0) dX10_sway_12 rfl rfl) ?_
    refine ev_ck (fun ha hS => ?_)
    refine ev_callV (iv_V (As := []) (st := []) (pc := 13) rfl m_X10_copies l_X10_320 i_X10_copies e_X10_copies ha hS rfl (Nat.le_of_ble_eq_true rfl) rfl dX10_sway_13) (tX10_copies G fu v0 h1) (by decide) (by decide) (fun h3 => ?_)
    refine ev_step (st_aload_n (pc := 16) (j := 0) dX10_sway_16 rfl rfl) ?_
    refine ev_step (st_bipush (pc := 17) dX10_sway_17 nb_18) ?_
    refine ev_ck (fun ha hS => ?_)
    refine ev_callI (iv_V (As := [.int ((18 : Int32))]) (st := []) (pc := 19) rfl m_X10_sumOf l_X10_442 i_X10_sumOf e_X10_sumOf ha hS rfl (Nat.le_of_ble_eq_true rfl) rfl dX10_sway_19) (tX10_sumOf G fu v0 ((18 : Int32)) h3) (by decide) (by decide) (fun x5 h4 => ?_)
    refine ev_step (st_istore_n (pc := 22) (ls' := [(2, .int x5), (0, .ref (gB G + v0)), (1, .int v1)]) dX10_sway_22 rfl (by decide) rfl) ?_
    refine ev_step (st_aload_n (pc := 23) (j := 1) dX10_sway_23 rfl rfl) ?_
    refine ev_step (st_iload_n (pc := 24) (j := 2) dX10_sway_24 rfl rfl) ?_
    refine ev_ck (fun ha hS => ?_)
    refine ev_callI (iv_V (As := [.int v1]) (st := []) (pc := 25) rfl m_X10_isTonight l_X10_411 i_X10_isTonight e_X10_isTonight ha hS rfl (Nat.le_of_ble_eq_true rfl) rfl dX10_sway_25) (tX10_isTonight G fu v0 v1 h4) (by decide) (by decide) (fun x7 h6 => ?_)
    refine ev_step (st_pop (pc := 28) dX10_sway_28 rfl) ?_
    refine ev_step (st_aload_n (pc := 29) (j := 1) dX10_sway_29 rfl rfl) ?_
    refine ev_step (st_bipush (pc := 30) dX10_sway_30 nb_18) ?_
    refine ev_ck (fun ha hS => ?_)
    refine ev_callI (iv_V (As := [.int ((18 : Int32))]) (st := []) (pc := 32) rfl m_X10_sumOf l_X10_442 i_X10_sumOf e_X10_sumOf ha hS rfl (Nat.le_of_ble_eq_true rfl) rfl dX10_sway_32) (tX10_sumOf G fu v0 ((18 : Int32)) h6) (by decide) (by decide) (fun x9 h8 => ?_)
    refine ev_step (st_iload_n (pc := 35) (j := 0) dX10_sway_35 rfl rfl) ?_
    refine ev_step (st_isub (pc := 36) dX10_sway_36) ?_
    exact ev_iret (pc := 37) dX10_sway_37
set_option maxRecDepth 100000 in
set_option maxHeartbeats 4000000 in
theorem tX10_circle_155 (G : gx) (fu : Nat) (h0 : mh) (v0 : Nat) (v1 : Int32) (v2 : Int32) (v3 : Int32) (v4 : Int32) (k25 : Int32 × Int32 × mh → Option (Int32 × mh)) (hk25 : ∀ (v3 : Int32) (v4 : Int32) (h : mh), Ev lI G yX10_circle cX10_circle 7 (some .int) 3 h0 25 [(0, .ref (gB G + v0)), (1, .int v1), (2, .int v2), (3, .int v3), (4, .int v4)] [] h (k25 (v3, v4, h))) (h : mh) : Ev lI G yX10_circle cX10_circle 7 (some .int) 3 h0 155 [(0, .ref (gB G + v0)), (1, .int v1), (2, .int v2), (3, .int v3), (4, .int v4)] [] h (fX10_circle_155 fu k25 v0 v1 v2 v3 v4 h) := by
  unfold fX10_circle_155
  refine ev_step (st_inc (pc := 155) (j := 4) (ls' := [(4, .int (v4 + (1 : Int32))), (0, .ref (gB G + v0)), (1, .int v1), (2, .int v2), (3, .int v3)]) dX10_circle_155 rfl ni_1 (by decide) rfl) ?_
  refine ev_step (st_goto (pc := 158) (tgt := 25) dX10_circle_158 (by decide)) ?_
  refine ev_sub (ls' := [(0, .ref (gB G + v0)), (1, .int v1), (2, .int v2), (3, .int v3), (4, .int (v4 + (1 : Int32)))]) [1, 2, 3, 4, 0] rfl ?_
  exact hk25 v3 (v4 + (1 : Int32)) h
set_option maxRecDepth 100000 in
set_option maxHeartbeats 4000000 in
theorem tX10_circle_124 (G : gx) (fu : Nat) (h0 : mh) (v0 : Nat) (v1 : Int32) (v2 : Int32) (v3 : Int32) (v4 : Int32) (v5 : Int32) (v6 : Int32) (k25 : Int32 × Int32 × mh → Option (Int32 × mh)) (hk25 : ∀ (v3 : Int32) (v4 : Int32) (h : mh), Ev lI G yX10_circle cX10_circle 7 (some .int) 3 h0 25 [(0, .ref (gB G + v0)), (1, .int v1), (2, .int v2), (3, .int v3), (4, .int v4)] [] h (k25 (v3, v4, h))) (k84 : Int32 × Int32 × mh → Option (Int32 × mh)) (hk84 : ∀ (v5 : Int32) (v6 : Int32) (h : mh), Ev lI G yX10_circle cX10_circle 7 (some .int) 3 h0 84 [(0, .ref (gB G + v0)), (1, .int v1), (2, .int v2), (3, .int v3), (4, .int v4), (5, .int v5), (6, .int v6)] [] h (k84 (v5, v6, h))) (h : mh) : Ev lI G yX10_circle cX10_circle 7 (some .int) 3 h0 124 [(0, .ref (gB G + v0)), (1, .int v1), (2, .int v2), (3, .int v3), (4, .int v4), (5, .int v5), (6, .int v6)] [] h (fX10_circle_124 fu k25 k84 v0 v1 v2 v3 v4 v5 v6 h) := by
  unfold fX10_circle_124
  refine ev_step (st_inc (pc := 124) (j := 6) (ls' := [(6, .int (v6 + (1 : Int32))), (0, .ref (gB G + v0)), (1, .int v1), (2, .int v2), (3, .int v3), (4, .int v4), (5, .int v5)]) dX10_circle_124 rfl ni_1 (by decide) rfl) ?_
  refine ev_step (st_goto (pc := 127) (tgt := 84) dX10_circle_127 (by decide)) ?_
  refine ev_sub (ls' := [(0, .ref (gB G + v0)), (1, .int v1), (2, .int v2), (3, .int v3), (4, .int v4), (5, .int v5), (6, .int (v6 + (1 : Int32)))]) [1, 2, 3, 4, 5, 6, 0] rfl ?_
  exact hk84 v5 (v6 + (1 : Int32)) h
set_option maxRecDepth 100000 in
set_option maxHeartbeats 4000000 in
theorem tX10_circle_130 (G : gx) (fu : Nat) (h0 : mh) (v0 : Nat) (v1 : Int32) (v2 : Int32) (v3 : Int32) (v4 : Int32) (v5 : Int32) (v6 : Int32) (k25 : Int32 × Int32 × mh → Option (Int32 × mh)) (hk25 : ∀ (v3 : Int32) (v4 : Int32) (h : mh), Ev lI G yX10_circle cX10_circle 7 (some .int) 3 h0 25 [(0, .ref (gB G + v0)), (1, .int v1), (2, .int v2), (3, .int v3), (4, .int v4)] [] h (k25 (v3, v4, h))) (h : mh) : Ev lI G yX10_circle cX10_circle 7 (some .int) 3 h0 130 [(0, .ref (gB G + v0)), (1, .int v1), (2, .int v2), (3, .int v3), (4, .int v4), (5, .int v5), (6, .int v6)] [] h (fX10_circle_130 fu k25 v0 v1 v2 v3 v4 v5 v6 h) := by
  unfold fX10_circle_130
  refine ev_step (st_aload_n (pc := 130) (j := 0) dX10_circle_130 rfl rfl) ?_
  refine ev_getR (pc := 131) k_X10_61 rfl dX10_circle_131 (fun a1 => ?_)
  refine ev_step (st_bipush (pc := 134) dX10_circle_134 nb_6) ?_
  refine ev_step (st_aload_n (pc := 136) (j := 0) dX10_circle_136 rfl rfl) ?_
  refine ev_getI (pc := 137) k_X10_230 rfl dX10_circle_137 (fun x2 => ?_)
  refine ev_step (st_imul (pc := 140) dX10_circle_140) ?_
  refine ev_step (st_iload_n (pc := 141) (j := 1) dX10_circle_141 rfl rfl) ?_
  refine ev_step (st_iadd (pc := 142) dX10_circle_142) ?_
  refine ev_ldi (pc := 143) dX10_circle_143 (fun x3 => ?_)
  refine ev_step (st_iload (pc := 144) (j := 5) dX10_circle_144 rfl) ?_
  refine ev_step (st_iconst (pc := 146) dX10_circle_146 ni_m1) ?_
  refine ev_step (st_ixor (pc := 147) dX10_circle_147) ?_
  refine ev_step (st_iand (pc := 148) dX10_circle_148) ?_
  refine ev_br (br_if_ne (tgt := 155) (pc := 149) dX10_circle_149 (by decide)) (fun _ => ?_) (fun _ => ?_)
  · refine ev_step (st_iload (pc := 152) (j := 4) dX10_circle_152 rfl) ?_
    refine ev_step (st_istore_n (pc := 154) (ls' := [(3, .int v4), (0, .ref (gB G + v0)), (1, .int v1), (2, .int v2), (4, .int v4), (5, .int v5), (6, .int v6)]) dX10_circle_154 rfl (by decide) rfl) ?_
    refine ev_sub (ls' := [(0, .ref (gB G + v0)), (1, .int v1), (2, .int v2), (3, .int v4), (4, .int v4)]) [1, 2, 3, 0, 4] rfl ?_
    exact tX10_circle_155 G fu h0 v0 v1 v2 v4 v4 k25 hk25 h
  · refine ev_sub (ls' := [(0, .ref (gB G + v0)), (1, .int v1), (2, .int v2), (3, .int v3), (4, .int v4)]) [0, 1, 2, 3, 4] rfl ?_
    exact tX10_circle_155 G fu h0 v0 v1 v2 v3 v4 k25 hk25 h
set_option maxRecDepth 100000 in
set_option maxHeartbeats 4000000 in
theorem tX10_circle_84 (G : gx) (fu : Nat) (h0 : mh) (v0 : Nat) (v1 : Int32) (v2 : Int32) (v3 : Int32) (v4 : Int32) (k25 : Int32 × Int32 × mh → Option (Int32 × mh)) (hk25 : ∀ (v3 : Int32) (v4 : Int32) (h : mh), Ev lI G yX10_circle cX10_circle 7 (some .int) 3 h0 25 [(0, .ref (gB G + v0)), (1, .int v1), (2, .int v2), (3, .int v3), (4, .int v4)] [] h (k25 (v3, v4, h))) (n : Nat) (v5 : Int32) (v6 : Int32) (h : mh) : Ev lI G yX10_circle cX10_circle 7 (some .int) 3 h0 84 [(0, .ref (gB G + v0)), (1, .int v1), (2, .int v2), (3, .int v3), (4, .int v4), (5, .int v5), (6, .int v6)] [] h (itr (bX10_circle_84 fu k25 v0 v1 v2 v3 v4) n (v5, v6, h)) := by
  refine ev_itr (P := fun (q : Int32 × Int32 × mh) (R9 : Option (Int32 × mh)) => Ev lI G yX10_circle cX10_circle 7 (some .int) 3 h0 84 [(0, .ref (gB G + v0)), (1, .int v1), (2, .int v2), (3, .int v3), (4, .int v4), (5, .int q.1), (6, .int q.2.1)] [] q.2.2 R9) (fun _ => ev_none) (fun k84 hk9 q => ?_) n (v5, v6, h)
  obtain ⟨v5, v6, h⟩ := q
  have hk84 : ∀ (v5 : Int32) (v6 : Int32) (h : mh), Ev lI G yX10_circle cX10_circle 7 (some .int) 3 h0 84 [(0, .ref (gB G + v0)), (1, .int v1), (2, .int v2), (3, .int v3), (4, .int v4), (5, .int v5), (6, .int v6)] [] h (k84 (v5, v6, h)) := fun v5 v6 h => hk9 (v5, v6, h)
  show Ev lI G yX10_circle cX10_circle 7 (some .int) 3 h0 84 [(0, .ref (gB G + v0)), (1, .int v1), (2, .int v2), (3, .int v3), (4, .int v4), (5, .int v5), (6, .int v6)] [] h (bX10_circle_84 fu k25 v0 v1 v2 v3 v4 k84 (v5, v6, h))
  unfold bX10_circle_84
  refine ev_step (st_iload (pc := 84) (j := 6) dX10_circle_84 rfl) ?_
  refine ev_step (st_aload_n (pc := 86) (j := 0) dX10_circle_86 rfl rfl) ?_
  refine ev_getR (pc := 87) k_X10_55 rfl dX10_circle_87 (fun a1 => ?_)
  refine ev_step (st_aload_n (pc := 90) (j := 0) dX10_circle_90 rfl rfl) ?_
  refine ev_getI (pc := 91) k_X10_230 rfl dX10_circle_91 (fun x2 => ?_)
  refine ev_ldi (pc := 94) dX10_circle_94 (fun x3 => ?_)
  refine ev_br (br_icmp_ge (tgt := 130) (pc := 95) dX10_circle_95 (by decide)) (fun _ => ?_) (fun _ => ?_)
  · refine ev_sub (ls' := [(0, .ref (gB G + v0)), (1, .int v1), (2, .int v2), (3, .int v3), (4, .int v4), (5, .int v5), (6, .int v6)]) [0, 1, 2, 3, 4, 5, 6] rfl ?_
    exact tX10_circle_130 G fu h0 v0 v1 v2 v3 v4 v5 v6 k25 hk25 h
  · refine ev_step (st_iload (pc := 98) (j := 4) dX10_circle_98 rfl) ?_
    refine ev_step (st_iload (pc := 100) (j := 6) dX10_circle_100 rfl) ?_
    refine ev_step (st_ishr (pc := 102) dX10_circle_102) ?_
    refine ev_step (st_iconst (pc := 103) dX10_circle_103 ni_1) ?_
    refine ev_step (st_iand (pc := 104) dX10_circle_104) ?_
    refine ev_step (st_iconst (pc := 105) dX10_circle_105 ni_1) ?_
    refine ev_br (br_icmp_ne (tgt := 124) (pc := 106) dX10_circle_106 (by decide)) (fun _ => ?_) (fun _ => ?_)
    · refine ev_step (st_iload (pc := 109) (j := 5) dX10_circle_109 rfl) ?_
      refine ev_step (st_aload_n (pc := 111) (j := 0) dX10_circle_111 rfl rfl) ?_
      refine ev_getR (pc := 112) k_X10_119 rfl dX10_circle_112 (fun a4 => ?_)
      refine ev_step (st_bipush (pc := 115) dX10_circle_115 nb_12) ?_
      refine ev_step (st_iload (pc := 117) (j := 6) dX10_circle_117 rfl) ?_
      refine ev_step (st_iadd (pc := 119) dX10_circle_119) ?_
      refine ev_ldi (pc := 120) dX10_circle_120 (fun x5 => ?_)
      refine ev_step (st_ior (pc := 121) dX10_circle_121) ?_
      refine ev_top (fun x6 => ?_)
      refine ev_step (st_istore (pc := 122) (ls' := [(5, .int x6), (0, .ref (gB G + v0)), (1, .int v1), (2, .int v2), (3, .int v3), (4, .int v4), (6, .int v6)]) dX10_circle_122 (by decide) rfl) ?_
      refine ev_sub (ls' := [(0, .ref (gB G + v0)), (1, .int v1), (2, .int v2), (3, .int v3), (4, .int v4), (5, .int x6), (6, .int v6)]) [1, 2, 3, 4, 5, 0, 6] rfl ?_
      exact tX10_circle_124 G fu h0 v0 v1 v2 v3 v4 x6 v6 k25 hk25 k84 hk84 h
    · refine ev_sub (ls' := [(0, .ref (gB G + v0)), (1, .int v1), (2, .int v2), (3, .int v3), (4, .int v4), (5, .int v5), (6, .int v6)]) [0, 1, 2, 3, 4, 5, 6] rfl ?_
      exact tX10_circle_124 G fu h0 v0 v1 v2 v3 v4 v5 v6 k25 hk25 k84 hk84 h
set_option maxRecDepth 100000 in
set_option maxHeartbeats 4000000 in
theorem tX10_circle_70 (G : gx) (fu : Nat) (h0 : mh) (v0 : Nat) (v1 : Int32) (v2 : Int32) (v3 : Int32) (v4 : Int32) (k25 : Int32 × Int32 × mh → Option (Int32 × mh)) (hk25 : ∀ (v3 : Int32) (v4 : Int32) (h : mh), Ev lI G yX10_circle cX10_circle 7 (some .int) 3 h0 25 [(0, .ref (gB G + v0)), (1, .int v1), (2, .int v2), (3, .int v3), (4, .int v4)] [] h (k25 (v3, v4, h))) (h : mh) : Ev lI G yX10_circle cX10_circle 7 (some .int) 3 h0 70 [(0, .ref (gB G + v0)), (1, .int v1), (2, .int v2), (3, .int v3), (4, .int v4)] [] h (fX10_circle_70 fu k25 v0 v1 v2 v3 v4 h) := by
  unfold fX10_circle_70
  refine ev_step (st_aload_n (pc := 70) (j := 0) dX10_circle_70 rfl rfl) ?_
  refine ev_getR (pc := 71) k_X10_119 rfl dX10_circle_71 (fun a1 => ?_)
  refine ev_step (st_bipush (pc := 74) dX10_circle_74 nb_12) ?_
  refine ev_step (st_iload_n (pc := 76) (j := 1) dX10_circle_76 rfl rfl) ?_
  refine ev_step (st_iadd (pc := 77) dX10_circle_77) ?_
  refine ev_ldi (pc := 78) dX10_circle_78 (fun x2 => ?_)
  refine ev_step (st_istore (pc := 79) (ls' := [(5, .int x2), (0, .ref (gB G + v0)), (1, .int v1), (2, .int v2), (3, .int v3), (4, .int v4)]) dX10_circle_79 (by decide) rfl) ?_
  refine ev_step (st_iconst (pc := 81) dX10_circle_81 ni_0) ?_
  refine ev_step (st_istore (pc := 82) (ls' := [(6, .int ((0 : Int32))), (5, .int x2), (0, .ref (gB G + v0)), (1, .int v1), (2, .int v2), (3, .int v3), (4, .int v4)]) dX10_circle_82 (by decide) rfl) ?_
  refine ev_sub (ls' := [(0, .ref (gB G + v0)), (1, .int v1), (2, .int v2), (3, .int v3), (4, .int v4), (5, .int x2), (6, .int ((0 : Int32)))]) [2, 3, 4, 5, 6, 1, 0] rfl ?_
  exact tX10_circle_84 G fu h0 v0 v1 v2 v3 v4 k25 hk25 fu x2 ((0 : Int32)) h
set_option maxRecDepth 100000 in
set_option maxHeartbeats 4000000 in
theorem tX10_circle_161 (G : gx) (fu : Nat) (h0 : mh) (v0 : Nat) (v1 : Int32) (v2 : Int32) (v3 : Int32) (v4 : Int32) (h : mh) : Ev lI G yX10_circle cX10_circle 7 (some .int) 3 h0 161 [(0, .ref (gB G + v0)), (1, .int v1), (2, .int v2), (3, .int v3), (4, .int v4)] [] h (fX10_circle_161 fu v0 v1 v2 v3 v4 h) := by
  unfold fX10_circle_161
  refine ev_step (st_iload_n (pc := 161) (j := 3) dX10_circle_161 rfl rfl) ?_
  refine ev_br (br_if_lt (tgt := 170) (pc := 162) dX10_circle_162 (by decide)) (fun _ => ?_) (fun _ => ?_)
  · refine ev_step (st_iload_n (pc := 170) (j := 3) dX10_circle_170 rfl rfl) ?_
    refine ev_step (st_goto (pc := 171) (tgt := 178) dX10_circle_171 (by decide)) ?_
    exact ev_iret (pc := 178) dX10_circle_178
  · refine ev_step (st_iload_n (pc := 165) (j := 2) dX10_circle_165 rfl rfl) ?_
    refine ev_step (st_iconst (pc := 166) dX10_circle_166 ni_1) ?_
    refine ev_br (br_icmp_ne (tgt := 174) (pc := 167) dX10_circle_167 (by decide)) (fun _ => ?_) (fun _ => ?_)
    · refine ev_step (st_iload_n (pc := 170) (j := 3) dX10_circle_170 rfl rfl) ?_
      refine ev_step (st_goto (pc := 171) (tgt := 178) dX10_circle_171 (by decide)) ?_
      exact ev_iret (pc := 178) dX10_circle_178
    · refine ev_step (st_iload_n (pc := 174) (j := 3) dX10_circle_174 rfl rfl) ?_
      refine ev_callI (iv_S (As := [.int v3]) (st := []) (pc := 175) m_X10_bits l_X10_336 z_X10_bits rfl (Nat.le_of_ble_eq_true rfl) rfl dX10_circle_175) (tX10_bits G fu v3 h) (by decide) (by decide) (fun x2 h1 => ?_)
      exact ev_iret (pc := 178) dX10_circle_178
set_option maxRecDepth 100000 in
set_option maxHeartbeats 4000000 in
theorem tX10_circle_25 (G : gx) (fu : Nat) (h0 : mh) (v0 : Nat) (v1 : Int32) (v2 : Int32) (n : Nat) (v3 : Int32) (v4 : Int32) (h : mh) : Ev lI G yX10_circle cX10_circle 7 (some .int) 3 h0 25 [(0, .ref (gB G + v0)), (1, .int v1), (2, .int v2), (3, .int v3), (4, .int v4)] [] h (itr (bX10_circle_25 fu v0 v1 v2) n (v3, v4, h)) := by
  refine ev_itr (P := fun (q : Int32 × Int32 × mh) (R9 : Option (Int32 × mh)) => Ev lI G yX10_circle cX10_circle 7 (some .int) 3 h0 25 [(0, .ref (gB G + v0)), (1, .int v1), (2, .int v2), (3, .int q.1), (4, .int q.2.1)] [] q.2.2 R9) (fun _ => ev_none) (fun k25 hk9 q => ?_) n (v3, v4, h)
  obtain ⟨v3, v4, h⟩ := q
  have hk25 : ∀ (v3 : Int32) (v4 : Int32) (h : mh), Ev lI G yX10_circle cX10_circle 7 (some .int) 3 h0 25 [(0, .ref (gB G + v0)), (1, .int v1), (2, .int v2), (3, .int v3), (4, .int v4)] [] h (k25 (v3, v4, h)) := fun v3 v4 h => hk9 (v3, v4, h)
  show Ev lI G yX10_circle cX10_circle 7 (some .int) 3 h0 25 [(0, .ref (gB G + v0)), (1, .int v1), (2, .int v2), (3, .int v3), (4, .int v4)] [] h (bX10_circle_25 fu v0 v1 v2 k25 (v3, v4, h))
  unfold bX10_circle_25
  refine ev_step (st_iload (pc := 25) (j := 4) dX10_circle_25 rfl) ?_
  refine ev_step (st_iconst (pc := 27) dX10_circle_27 ni_1) ?_
  refine ev_step (st_aload_n (pc := 28) (j := 0) dX10_circle_28 rfl rfl) ?_
  refine ev_getR (pc := 29) k_X10_55 rfl dX10_circle_29 (fun a1 => ?_)
  refine ev_step (st_aload_n (pc := 32) (j := 0) dX10_circle_32 rfl rfl) ?_
  refine ev_getI (pc := 33) k_X10_230 rfl dX10_circle_33 (fun x2 => ?_)
  refine ev_ldi (pc := 36) dX10_circle_36 (fun x3 => ?_)
  refine ev_step (st_ishl (pc := 37) dX10_circle_37) ?_
  refine ev_br (br_icmp_ge (tgt := 161) (pc := 38) dX10_circle_38 (by decide)) (fun _ => ?_) (fun _ => ?_)
  · refine ev_sub (ls' := [(0, .ref (gB G + v0)), (1, .int v1), (2, .int v2), (3, .int v3), (4, .int v4)]) [0, 1, 2, 3, 4] rfl ?_
    exact tX10_circle_161 G fu h0 v0 v1 v2 v3 v4 h
  · refine ev_step (st_iload (pc := 41) (j := 4) dX10_circle_41 rfl) ?_
    refine ev_step (st_iload_n (pc := 43) (j := 1) dX10_circle_43 rfl rfl) ?_
    refine ev_step (st_ishr (pc := 44) dX10_circle_44) ?_
    refine ev_step (st_iconst (pc := 45) dX10_circle_45 ni_1) ?_
    refine ev_step (st_iand (pc := 46) dX10_circle_46) ?_
    refine ev_step (st_iconst (pc := 47) dX10_circle_47 ni_1) ?_
    refine ev_br (br_icmp_eq (tgt := 155) (pc := 48) dX10_circle_48 (by decide)) (fun _ => ?_) (fun _ => ?_)
    · refine ev_sub (ls' := [(0, .ref (gB G + v0)), (1, .int v1), (2, .int v2), (3, .int v3), (4, .int v4)]) [0, 1, 2, 3, 4] rfl ?_
      exact tX10_circle_155 G fu h0 v0 v1 v2 v3 v4 k25 hk25 h
    · refine ev_step (st_iload_n (pc := 51) (j := 3) dX10_circle_51 rfl rfl) ?_
      refine ev_br (br_if_lt (tgt := 70) (pc := 52) dX10_circle_52 (by decide)) (fun _ => ?_) (fun _ => ?_)
      · refine ev_sub (ls' := [(0, .ref (gB G + v0)), (1, .int v1), (2, .int v2), (3, .int v3), (4, .int v4)]) [0, 1, 2, 3, 4] rfl ?_
        exact tX10_circle_70 G fu h0 v0 v1 v2 v3 v4 k25 hk25 h
      · refine ev_step (st_iload (pc := 55) (j := 4) dX10_circle_55 rfl) ?_
        refine ev_callI (iv_S (As := [.int v4]) (st := []) (pc := 57) m_X10_bits l_X10_336 z_X10_bits rfl (Nat.le_of_ble_eq_true rfl) rfl dX10_circle_57) (tX10_bits G fu v4 h) (by decide) (by decide) (fun x5 h4 => ?_)
        refine ev_step (st_iload_n (pc := 60) (j := 3) dX10_circle_60 rfl rfl) ?_
        refine ev_callI (iv_S (As := [.int v3]) (st := [.int x5]) (pc := 61) m_X10_bits l_X10_336 z_X10_bits rfl (Nat.le_of_ble_eq_true rfl) rfl dX10_circle_61) (tX10_bits G fu v3 h4) (by decide) (by decide) (fun x7 h6 => ?_)
        refine ev_br (br_icmp_lt (tgt := 70) (pc := 64) dX10_circle_64 (by decide)) (fun _ => ?_) (fun _ => ?_)
        · refine ev_sub (ls' := [(0, .ref (gB G + v0)), (1, .int v1), (2, .int v2), (3, .int v3), (4, .int v4)]) [0, 1, 2, 3, 4] rfl ?_
          exact tX10_circle_70 G fu h0 v0 v1 v2 v3 v4 k25 hk25 h6
        · refine ev_step (st_goto (pc := 67) (tgt := 155) dX10_circle_67 (by decide)) ?_
          refine ev_sub (ls' := [(0, .ref (gB G + v0)), (1, .int v1), (2, .int v2), (3, .int v3), (4, .int v4)]) [0, 1, 2, 3, 4] rfl ?_
          exact tX10_circle_155 G fu h0 v0 v1 v2 v3 v4 k25 hk25 h6
set_option maxRecDepth 100000 in
set_option maxHeartbeats 4000000 in
theorem tX10_circle (G : gx) (fu : Nat) (v0 : Nat) (v1 : Int32) (v2 : Int32) (h : mh) : Ct lI G yX10_circle cX10_circle 7 (some .int) 3 [.ref (gB G + v0), .int v1, .int v2] h (fX10_circle fu v0 v1 v2 h) := by
  refine ct_ls (ls := [(0, .ref (gB G + v0)), (1, .int v1), (2, .int v2)]) rfl (by decide) (Nat.le_of_ble_eq_true rfl) ?_
  unfold fX10_circle
  refine ev_step (st_aload_n (pc := 0) (j := 0) dX10_circle_0 rfl rfl) ?_
  refine ev_step (st_iload_n (pc := 1) (j := 1) dX10_circle_1 rfl rfl) ?_
  refine ev_ck (fun ha hS => ?_)
  refine ev_callI (iv_V (As := [.int v1]) (st := []) (pc := 2) rfl m_X10_isListener l_X10_384 i_X10_isListener e_X10_isListener ha hS rfl (Nat.le_of_ble_eq_true rfl) rfl dX10_circle_2) (tX10_isListener G fu v0 v1 h) (by decide) (by decide) (fun x2 h1 => ?_)
  refine ev_br (br_if_eq (tgt := 17) (pc := 5) dX10_circle_5 (by decide)) (fun _ => ?_) (fun _ => ?_)
  · refine ev_step (st_iconst (pc := 17) dX10_circle_17 ni_m1) ?_
    exact ev_iret (pc := 18) dX10_circle_18
  · refine ev_step (st_iload_n (pc := 8) (j := 2) dX10_circle_8 rfl rfl) ?_
    refine ev_step (st_iconst (pc := 9) dX10_circle_9 ni_0) ?_
    refine ev_step (st_iconst (pc := 10) dX10_circle_10 ni_1) ?_
    refine ev_callI (iv_S (As := [.int v2, .int ((0 : Int32)), .int ((1 : Int32))]) (st := []) (pc := 11) m_X10_in l_X10_310 z_X10_in rfl (Nat.le_of_ble_eq_true rfl) rfl dX10_circle_11) (tX10_in G fu v2 ((0 : Int32)) ((1 : Int32)) h1) (by decide) (by decide) (fun x4 h3 => ?_)
    refine ev_br (br_if_ne (tgt := 19) (pc := 14) dX10_circle_14 (by decide)) (fun _ => ?_) (fun _ => ?_)
    · refine ev_step (st_iconst (pc := 17) dX10_circle_17 ni_m1) ?_
      exact ev_iret (pc := 18) dX10_circle_18
    · refine ev_step (st_bipush (pc := 19) dX10_circle_19 nb_m2) ?_
      refine ev_step (st_istore_n (pc := 21) (ls' := [(3, .int ((-2 : Int32))), (0, .ref (gB G + v0)), (1, .int v1), (2, .int v2)]) dX10_circle_21 rfl (by decide) rfl) ?_
      refine ev_step (st_iconst (pc := 22) dX10_circle_22 ni_0) ?_
      refine ev_step (st_istore (pc := 23) (ls' := [(4, .int ((0 : Int32))), (3, .int ((-2 : Int32))), (0, .ref (gB G + v0)), (1, .int v1), (2, .int v2)]) dX10_circle_23 (by decide) rfl) ?_
      refine ev_sub (ls' := [(0, .ref (gB G + v0)), (1, .int v1), (2, .int v2), (3, .int ((-2 : Int32))), (4, .int ((0 : Int32)))]) [2, 3, 4, 1, 0] rfl ?_
      exact tX10_circle_25 G fu h v0 v1 v2 fu ((-2 : Int32)) ((0 : Int32)) h3
set_option maxRecDepth 100000 in
set_option maxHeartbeats 4000000 in
theorem tX10_doubles_77 (G : gx) (fu : Nat) (h0 : mh) (v0 : Nat) (v1 : Int32) (v2 : Int32) (v3 : Int32) (v4 : Int32) (v5 : Int32) (k4 : Int32 × Int32 × mh → Option (Int32 × mh)) (hk4 : ∀ (v1 : Int32) (v2 : Int32) (h : mh), Ev lI G yX10_doubles cX10_doubles 6 (some .int) 2 h0 4 [(0, .ref (gB G + v0)), (1, .int v1), (2, .int v2)] [] h (k4 (v1, v2, h))) (k21 : Int32 × Int32 × mh → Option (Int32 × mh)) (hk21 : ∀ (v1 : Int32) (v3 : Int32) (h : mh), Ev lI G yX10_doubles cX10_doubles 6 (some .int) 2 h0 21 [(0, .ref (gB G + v0)), (1, .int v1), (2, .int v2), (3, .int v3)] [] h (k21 (v1, v3, h))) (k40 : Int32 × Int32 × mh → Option (Int32 × mh)) (hk40 : ∀ (v4 : Int32) (v5 : Int32) (h : mh), Ev lI G yX10_doubles cX10_doubles 6 (some .int) 2 h0 40 [(0, .ref (gB G + v0)), (1, .int v1), (2, .int v2), (3, .int v3), (4, .int v4), (5, .int v5)] [] h (k40 (v4, v5, h))) (h : mh) : Ev lI G yX10_doubles cX10_doubles 6 (some .int) 2 h0 77 [(0, .ref (gB G + v0)), (1, .int v1), (2, .int v2), (3, .int v3), (4, .int v4), (5, .int v5)] [] h (fX10_doubles_77 fu k4 k21 k40 v0 v1 v2 v3 v4 v5 h) := by
  unfold fX10_doubles_77
  refine ev_step (st_inc (pc := 77) (j := 5) (ls' := [(5, .int (v5 + (1 : Int32))), (0, .ref (gB G + v0)), (1, .int v1), (2, .int v2), (3, .int v3), (4, .int v4)]) dX10_doubles_77 rfl ni_1 (by decide) rfl) ?_
  refine ev_step (st_goto (pc := 80) (tgt := 40) dX10_doubles_80 (by decide)) ?_
  refine ev_sub (ls' := [(0, .ref (gB G + v0)), (1, .int v1), (2, .int v2), (3, .int v3), (4, .int v4), (5, .int (v5 + (1 : Int32)))]) [1, 2, 3, 4, 5, 0] rfl ?_
  exact hk40 v4 (v5 + (1 : Int32)) h
set_option maxRecDepth 100000 in
set_option maxHeartbeats 4000000 in
theorem tX10_doubles_91 (G : gx) (fu : Nat) (h0 : mh) (v0 : Nat) (v1 : Int32) (v2 : Int32) (v3 : Int32) (v4 : Int32) (v5 : Int32) (k4 : Int32 × Int32 × mh → Option (Int32 × mh)) (hk4 : ∀ (v1 : Int32) (v2 : Int32) (h : mh), Ev lI G yX10_doubles cX10_doubles 6 (some .int) 2 h0 4 [(0, .ref (gB G + v0)), (1, .int v1), (2, .int v2)] [] h (k4 (v1, v2, h))) (k21 : Int32 × Int32 × mh → Option (Int32 × mh)) (hk21 : ∀ (v1 : Int32) (v3 : Int32) (h : mh), Ev lI G yX10_doubles cX10_doubles 6 (some .int) 2 h0 21 [(0, .ref (gB G + v0)), (1, .int v1), (2, .int v2), (3, .int v3)] [] h (k21 (v1, v3, h))) (h : mh) : Ev lI G yX10_doubles cX10_doubles 6 (some .int) 2 h0 91 [(0, .ref (gB G + v0)), (1, .int v1), (2, .int v2), (3, .int v3), (4, .int v4), (5, .int v5)] [] h (fX10_doubles_91 fu k4 k21 v0 v1 v2 v3 v4 v5 h) := by
  unfold fX10_doubles_91
  refine ev_step (st_inc (pc := 91) (j := 3) (ls' := [(3, .int (v3 + (1 : Int32))), (0, .ref (gB G + v0)), (1, .int v1), (2, .int v2), (4, .int v4), (5, .int v5)]) dX10_doubles_91 rfl ni_1 (by decide) rfl) ?_
  refine ev_step (st_goto (pc := 94) (tgt := 21) dX10_doubles_94 (by decide)) ?_
  refine ev_sub (ls' := [(0, .ref (gB G + v0)), (1, .int v1), (2, .int v2), (3, .int (v3 + (1 : Int32)))]) [1, 2, 3, 0] rfl ?_
  exact hk21 v1 (v3 + (1 : Int32)) h
set_option maxRecDepth 100000 in
set_option maxHeartbeats 4000000 in
theorem tX10_doubles_83 (G : gx) (fu : Nat) (h0 : mh) (v0 : Nat) (v1 : Int32) (v2 : Int32) (v3 : Int32) (v4 : Int32) (v5 : Int32) (k4 : Int32 × Int32 × mh → Option (Int32 × mh)) (hk4 : ∀ (v1 : Int32) (v2 : Int32) (h : mh), Ev lI G yX10_doubles cX10_doubles 6 (some .int) 2 h0 4 [(0, .ref (gB G + v0)), (1, .int v1), (2, .int v2)] [] h (k4 (v1, v2, h))) (k21 : Int32 × Int32 × mh → Option (Int32 × mh)) (hk21 : ∀ (v1 : Int32) (v3 : Int32) (h : mh), Ev lI G yX10_doubles cX10_doubles 6 (some .int) 2 h0 21 [(0, .ref (gB G + v0)), (1, .int v1), (2, .int v2), (3, .int v3)] [] h (k21 (v1, v3, h))) (h : mh) : Ev lI G yX10_doubles cX10_doubles 6 (some .int) 2 h0 83 [(0, .ref (gB G + v0)), (1, .int v1), (2, .int v2), (3, .int v3), (4, .int v4), (5, .int v5)] [] h (fX10_doubles_83 fu k4 k21 v0 v1 v2 v3 v4 v5 h) := by
  unfold fX10_doubles_83
  refine ev_step (st_iload (pc := 83) (j := 4) dX10_doubles_83 rfl) ?_
  refine ev_br (br_if_eq (tgt := 91) (pc := 85) dX10_doubles_85 (by decide)) (fun _ => ?_) (fun _ => ?_)
  · refine ev_sub (ls' := [(0, .ref (gB G + v0)), (1, .int v1), (2, .int v2), (3, .int v3), (4, .int v4), (5, .int v5)]) [0, 1, 2, 3, 4, 5] rfl ?_
    exact tX10_doubles_91 G fu h0 v0 v1 v2 v3 v4 v5 k4 hk4 k21 hk21 h
  · refine ev_step (st_inc (pc := 88) (j := 1) (ls' := [(1, .int (v1 + (1 : Int32))), (0, .ref (gB G + v0)), (2, .int v2), (3, .int v3), (4, .int v4), (5, .int v5)]) dX10_doubles_88 rfl ni_1 (by decide) rfl) ?_
    refine ev_sub (ls' := [(0, .ref (gB G + v0)), (1, .int (v1 + (1 : Int32))), (2, .int v2), (3, .int v3), (4, .int v4), (5, .int v5)]) [1, 0, 2, 3, 4, 5] rfl ?_
    exact tX10_doubles_91 G fu h0 v0 (v1 + (1 : Int32)) v2 v3 v4 v5 k4 hk4 k21 hk21 h
set_option maxRecDepth 100000 in
set_option maxHeartbeats 4000000 in
theorem tX10_doubles_40 (G : gx) (fu : Nat) (h0 : mh) (v0 : Nat) (v1 : Int32) (v2 : Int32) (v3 : Int32) (k4 : Int32 × Int32 × mh → Option (Int32 × mh)) (hk4 : ∀ (v1 : Int32) (v2 : Int32) (h : mh), Ev lI G yX10_doubles cX10_doubles 6 (some .int) 2 h0 4 [(0, .ref (gB G + v0)), (1, .int v1), (2, .int v2)] [] h (k4 (v1, v2, h))) (k21 : Int32 × Int32 × mh → Option (Int32 × mh)) (hk21 : ∀ (v1 : Int32) (v3 : Int32) (h : mh), Ev lI G yX10_doubles cX10_doubles 6 (some .int) 2 h0 21 [(0, .ref (gB G + v0)), (1, .int v1), (2, .int v2), (3, .int v3)] [] h (k21 (v1, v3, h))) (n : Nat) (v4 : Int32) (v5 : Int32) (h : mh) : Ev lI G yX10_doubles cX10_doubles 6 (some .int) 2 h0 40 [(0, .ref (gB G + v0)), (1, .int v1), (2, .int v2), (3, .int v3), (4, .int v4), (5, .int v5)] [] h (itr (bX10_doubles_40 fu k4 k21 v0 v1 v2 v3) n (v4, v5, h)) := by
  refine ev_itr (P := fun (q : Int32 × Int32 × mh) (R9 : Option (Int32 × mh)) => Ev lI G yX10_doubles cX10_doubles 6 (some .int) 2 h0 40 [(0, .ref (gB G + v0)), (1, .int v1), (2, .int v2), (3, .int v3), (4, .int q.1), (5, .int q.2.1)] [] q.2.2 R9) (fun _ => ev_none) (fun k40 hk9 q => ?_) n (v4, v5, h)
  obtain ⟨v4, v5, h⟩ := q
  have hk40 : ∀ (v4 : Int32) (v5 : Int32) (h : mh), Ev lI G yX10_doubles cX10_doubles 6 (some .int) 2 h0 40 [(0, .ref (gB G + v0)), (1, .int v1), (2, .int v2), (3, .int v3), (4, .int v4), (5, .int v5)] [] h (k40 (v4, v5, h)) := fun v4 v5 h => hk9 (v4, v5, h)
  show Ev lI G yX10_doubles cX10_doubles 6 (some .int) 2 h0 40 [(0, .ref (gB G + v0)), (1, .int v1), (2, .int v2), (3, .int v3), (4, .int v4), (5, .int v5)] [] h (bX10_doubles_40 fu k4 k21 v0 v1 v2 v3 k40 (v4, v5, h))
  unfold bX10_doubles_40
  refine ev_step (st_iload (pc := 40) (j := 5) dX10_doubles_40 rfl) ?_
  refine ev_step (st_aload_n (pc := 42) (j := 0) dX10_doubles_42 rfl rfl) ?_
  refine ev_getR (pc := 43) k_X10_55 rfl dX10_doubles_43 (fun a1 => ?_)
  refine ev_step (st_aload_n (pc := 46) (j := 0) dX10_doubles_46 rfl rfl) ?_
  refine ev_getI (pc := 47) k_X10_230 rfl dX10_doubles_47 (fun x2 => ?_)
  refine ev_ldi (pc := 50) dX10_doubles_50 (fun x3 => ?_)
  refine ev_br (br_icmp_ge (tgt := 83) (pc := 51) dX10_doubles_51 (by decide)) (fun _ => ?_) (fun _ => ?_)
  · refine ev_sub (ls' := [(0, .ref (gB G + v0)), (1, .int v1), (2, .int v2), (3, .int v3), (4, .int v4), (5, .int v5)]) [0, 1, 2, 3, 4, 5] rfl ?_
    exact tX10_doubles_83 G fu h0 v0 v1 v2 v3 v4 v5 k4 hk4 k21 hk21 h
  · refine ev_step (st_aload_n (pc := 54) (j := 0) dX10_doubles_54 rfl rfl) ?_
    refine ev_step (st_iload (pc := 55) (j := 5) dX10_doubles_55 rfl) ?_
    refine ev_step (st_iload_n (pc := 57) (j := 2) dX10_doubles_57 rfl rfl) ?_
    refine ev_ck (fun ha hS => ?_)
    refine ev_callI (iv_V (As := [.int v5, .int v2]) (st := []) (pc := 58) rfl m_X10_isReally l_X10_339 i_X10_isReally e_X10_isReally ha hS rfl (Nat.le_of_ble_eq_true rfl) rfl dX10_doubles_58) (tX10_isReally G fu v0 v5 v2 h) (by decide) (by decide) (fun x5 h4 => ?_)
    refine ev_br (br_if_eq (tgt := 77) (pc := 61) dX10_doubles_61 (by decide)) (fun _ => ?_) (fun _ => ?_)
    · refine ev_sub (ls' := [(0, .ref (gB G + v0)), (1, .int v1), (2, .int v2), (3, .int v3), (4, .int v4), (5, .int v5)]) [0, 1, 2, 3, 4, 5] rfl ?_
      exact tX10_doubles_77 G fu h0 v0 v1 v2 v3 v4 v5 k4 hk4 k21 hk21 k40 hk40 h4
    · refine ev_step (st_aload_n (pc := 64) (j := 0) dX10_doubles_64 rfl rfl) ?_
      refine ev_step (st_iload (pc := 65) (j := 5) dX10_doubles_65 rfl) ?_
      refine ev_step (st_iload_n (pc := 67) (j := 3) dX10_doubles_67 rfl rfl) ?_
      refine ev_ck (fun ha hS => ?_)
      refine ev_callI (iv_V (As := [.int v5, .int v3]) (st := []) (pc := 68) rfl m_X10_isReally l_X10_339 i_X10_isReally e_X10_isReally ha hS rfl (Nat.le_of_ble_eq_true rfl) rfl dX10_doubles_68) (tX10_isReally G fu v0 v5 v3 h4) (by decide) (by decide) (fun x7 h6 => ?_)
      refine ev_br (br_if_eq (tgt := 77) (pc := 71) dX10_doubles_71 (by decide)) (fun _ => ?_) (fun _ => ?_)
      · refine ev_sub (ls' := [(0, .ref (gB G + v0)), (1, .int v1), (2, .int v2), (3, .int v3), (4, .int v4), (5, .int v5)]) [0, 1, 2, 3, 4, 5] rfl ?_
        exact tX10_doubles_77 G fu h0 v0 v1 v2 v3 v4 v5 k4 hk4 k21 hk21 k40 hk40 h6
      · refine ev_step (st_iconst (pc := 74) dX10_doubles_74 ni_1) ?_
        refine ev_step (st_istore (pc := 75) (ls' := [(4, .int ((1 : Int32))), (0, .ref (gB G + v0)), (1, .int v1), (2, .int v2), (3, .int v3), (5, .int v5)]) dX10_doubles_75 (by decide) rfl) ?_
        refine ev_sub (ls' := [(0, .ref (gB G + v0)), (1, .int v1), (2, .int v2), (3, .int v3), (4, .int ((1 : Int32))), (5, .int v5)]) [1, 2, 3, 4, 0, 5] rfl ?_
        exact tX10_doubles_77 G fu h0 v0 v1 v2 v3 ((1 : Int32)) v5 k4 hk4 k21 hk21 k40 hk40 h6
set_option maxRecDepth 100000 in
set_option maxHeartbeats 4000000 in
theorem tX10_doubles_97 (G : gx) (fu : Nat) (h0 : mh) (v0 : Nat) (v1 : Int32) (v2 : Int32) (v3 : Int32) (k4 : Int32 × Int32 × mh → Option (Int32 × mh)) (hk4 : ∀ (v1 : Int32) (v2 : Int32) (h : mh), Ev lI G yX10_doubles cX10_doubles 6 (some .int) 2 h0 4 [(0, .ref (gB G + v0)), (1, .int v1), (2, .int v2)] [] h (k4 (v1, v2, h))) (h : mh) : Ev lI G yX10_doubles cX10_doubles 6 (some .int) 2 h0 97 [(0, .ref (gB G + v0)), (1, .int v1), (2, .int v2), (3, .int v3)] [] h (fX10_doubles_97 fu k4 v0 v1 v2 v3 h) := by
  unfold fX10_doubles_97
  refine ev_step (st_inc (pc := 97) (j := 2) (ls' := [(2, .int (v2 + (1 : Int32))), (0, .ref (gB G + v0)), (1, .int v1), (3, .int v3)]) dX10_doubles_97 rfl ni_1 (by decide) rfl) ?_
  refine ev_step (st_goto (pc := 100) (tgt := 4) dX10_doubles_100 (by decide)) ?_
  refine ev_sub (ls' := [(0, .ref (gB G + v0)), (1, .int v1), (2, .int (v2 + (1 : Int32)))]) [1, 2, 0] rfl ?_
  exact hk4 v1 (v2 + (1 : Int32)) h
set_option maxRecDepth 100000 in
set_option maxHeartbeats 4000000 in
theorem tX10_doubles_21 (G : gx) (fu : Nat) (h0 : mh) (v0 : Nat) (v2 : Int32) (k4 : Int32 × Int32 × mh → Option (Int32 × mh)) (hk4 : ∀ (v1 : Int32) (v2 : Int32) (h : mh), Ev lI G yX10_doubles cX10_doubles 6 (some .int) 2 h0 4 [(0, .ref (gB G + v0)), (1, .int v1), (2, .int v2)] [] h (k4 (v1, v2, h))) (n : Nat) (v1 : Int32) (v3 : Int32) (h : mh) : Ev lI G yX10_doubles cX10_doubles 6 (some .int) 2 h0 21 [(0, .ref (gB G + v0)), (1, .int v1), (2, .int v2), (3, .int v3)] [] h (itr (bX10_doubles_21 fu k4 v0 v2) n (v1, v3, h)) := by
  refine ev_itr (P := fun (q : Int32 × Int32 × mh) (R9 : Option (Int32 × mh)) => Ev lI G yX10_doubles cX10_doubles 6 (some .int) 2 h0 21 [(0, .ref (gB G + v0)), (1, .int q.1), (2, .int v2), (3, .int q.2.1)] [] q.2.2 R9) (fun _ => ev_none) (fun k21 hk9 q => ?_) n (v1, v3, h)
  obtain ⟨v1, v3, h⟩ := q
  have hk21 : ∀ (v1 : Int32) (v3 : Int32) (h : mh), Ev lI G yX10_doubles cX10_doubles 6 (some .int) 2 h0 21 [(0, .ref (gB G + v0)), (1, .int v1), (2, .int v2), (3, .int v3)] [] h (k21 (v1, v3, h)) := fun v1 v3 h => hk9 (v1, v3, h)
  show Ev lI G yX10_doubles cX10_doubles 6 (some .int) 2 h0 21 [(0, .ref (gB G + v0)), (1, .int v1), (2, .int v2), (3, .int v3)] [] h (bX10_doubles_21 fu k4 v0 v2 k21 (v1, v3, h))
  unfold bX10_doubles_21
  refine ev_step (st_iload_n (pc := 21) (j := 3) dX10_doubles_21 rfl rfl) ?_
  refine ev_step (st_aload_n (pc := 22) (j := 0) dX10_doubles_22 rfl rfl) ?_
  refine ev_getR (pc := 23) k_X10_46 rfl dX10_doubles_23 (fun a1 => ?_)
  refine ev_step (st_aload_n (pc := 26) (j := 0) dX10_doubles_26 rfl rfl) ?_
  refine ev_getI (pc := 27) k_X10_230 rfl dX10_doubles_27 (fun x2 => ?_)
  refine ev_ldi (pc := 30) dX10_doubles_30 (fun x3 => ?_)
  refine ev_br (br_icmp_ge (tgt := 97) (pc := 31) dX10_doubles_31 (by decide)) (fun _ => ?_) (fun _ => ?_)
  · refine ev_sub (ls' := [(0, .ref (gB G + v0)), (1, .int v1), (2, .int v2), (3, .int v3)]) [0, 1, 2, 3] rfl ?_
    exact tX10_doubles_97 G fu h0 v0 v1 v2 v3 k4 hk4 h
  · refine ev_step (st_iconst (pc := 34) dX10_doubles_34 ni_0) ?_
    refine ev_step (st_istore (pc := 35) (ls' := [(4, .int ((0 : Int32))), (0, .ref (gB G + v0)), (1, .int v1), (2, .int v2), (3, .int v3)]) dX10_doubles_35 (by decide) rfl) ?_
    refine ev_step (st_iconst (pc := 37) dX10_doubles_37 ni_0) ?_
    refine ev_step (st_istore (pc := 38) (ls' := [(5, .int ((0 : Int32))), (4, .int ((0 : Int32))), (0, .ref (gB G + v0)), (1, .int v1), (2, .int v2), (3, .int v3)]) dX10_doubles_38 (by decide) rfl) ?_
    refine ev_sub (ls' := [(0, .ref (gB G + v0)), (1, .int v1), (2, .int v2), (3, .int v3), (4, .int ((0 : Int32))), (5, .int ((0 : Int32)))]) [2, 3, 4, 5, 1, 0] rfl ?_
    exact tX10_doubles_40 G fu h0 v0 v1 v2 v3 k4 hk4 k21 hk21 fu ((0 : Int32)) ((0 : Int32)) h
set_option maxRecDepth 100000 in
set_option maxHeartbeats 4000000 in
theorem tX10_doubles_4 (G : gx) (fu : Nat) (h0 : mh) (v0 : Nat) (n : Nat) (v1 : Int32) (v2 : Int32) (h : mh) : Ev lI G yX10_doubles cX10_doubles 6 (some .int) 2 h0 4 [(0, .ref (gB G + v0)), (1, .int v1), (2, .int v2)] [] h (itr (bX10_doubles_4 fu v0) n (v1, v2, h)) := by
  refine ev_itr (P := fun (q : Int32 × Int32 × mh) (R9 : Option (Int32 × mh)) => Ev lI G yX10_doubles cX10_doubles 6 (some .int) 2 h0 4 [(0, .ref (gB G + v0)), (1, .int q.1), (2, .int q.2.1)] [] q.2.2 R9) (fun _ => ev_none) (fun k4 hk9 q => ?_) n (v1, v2, h)
  obtain ⟨v1, v2, h⟩ := q
  have hk4 : ∀ (v1 : Int32) (v2 : Int32) (h : mh), Ev lI G yX10_doubles cX10_doubles 6 (some .int) 2 h0 4 [(0, .ref (gB G + v0)), (1, .int v1), (2, .int v2)] [] h (k4 (v1, v2, h)) := fun v1 v2 h => hk9 (v1, v2, h)
  show Ev lI G yX10_doubles cX10_doubles 6 (some .int) 2 h0 4 [(0, .ref (gB G + v0)), (1, .int v1), (2, .int v2)] [] h (bX10_doubles_4 fu v0 k4 (v1, v2, h))
  unfold bX10_doubles_4
  refine ev_step (st_iload_n (pc := 4) (j := 2) dX10_doubles_4 rfl rfl) ?_
  refine ev_step (st_aload_n (pc := 5) (j := 0) dX10_doubles_5 rfl rfl) ?_
  refine ev_getR (pc := 6) k_X10_46 rfl dX10_doubles_6 (fun a1 => ?_)
  refine ev_step (st_aload_n (pc := 9) (j := 0) dX10_doubles_9 rfl rfl) ?_
  refine ev_getI (pc := 10) k_X10_230 rfl dX10_doubles_10 (fun x2 => ?_)
  refine ev_ldi (pc := 13) dX10_doubles_13 (fun x3 => ?_)
  refine ev_br (br_icmp_ge (tgt := 103) (pc := 14) dX10_doubles_14 (by decide)) (fun _ => ?_) (fun _ => ?_)
  · refine ev_step (st_iload_n (pc := 103) (j := 1) dX10_doubles_103 rfl rfl) ?_
    exact ev_iret (pc := 104) dX10_doubles_104
  · refine ev_step (st_iload_n (pc := 17) (j := 2) dX10_doubles_17 rfl rfl) ?_
    refine ev_step (st_iconst (pc := 18) dX10_doubles_18 ni_1) ?_
    refine ev_step (st_iadd (pc := 19) dX10_doubles_19) ?_
    refine ev_top (fun x4 => ?_)
    refine ev_step (st_istore_n (pc := 20) (ls' := [(3, .int x4), (0, .ref (gB G + v0)), (1, .int v1), (2, .int v2)]) dX10_doubles_20 rfl (by decide) rfl) ?_
    refine ev_sub (ls' := [(0, .ref (gB G + v0)), (1, .int v1), (2, .int v2), (3, .int x4)]) [1, 2, 3, 0] rfl ?_
    exact tX10_doubles_21 G fu h0 v0 v2 k4 hk4 fu v1 x4 h
set_option maxRecDepth 100000 in
set_option maxHeartbeats 4000000 in
theorem tX10_doubles (G : gx) (fu : Nat) (v0 : Nat) (h : mh) : Ct lI G yX10_doubles cX10_doubles 6 (some .int) 2 [.ref (gB G + v0)] h (fX10_doubles fu v0 h) := by
  refine ct_ls (ls := [(0, .ref (gB G + v0))]) rfl (by decide) (Nat.le_of_ble_eq_true rfl) ?_
  unfold fX10_doubles
  refine ev_step (st_iconst (pc := 0) dX10_doubles_0 ni_0) ?_
  refine ev_step (st_istore_n (pc := 1) (ls' := [(1, .int ((0 : Int32))), (0, .ref (gB G + v0))]) dX10_doubles_1 rfl (by decide) rfl) ?_
  refine ev_step (st_iconst (pc := 2) dX10_doubles_2 ni_0) ?_
  refine ev_step (st_istore_n (pc := 3) (ls' := [(2, .int ((0 : Int32))), (1, .int ((0 : Int32))), (0, .ref (gB G + v0))]) dX10_doubles_3 rfl (by decide) rfl) ?_
  refine ev_sub (ls' := [(0, .ref (gB G + v0)), (1, .int ((0 : Int32))), (2, .int ((0 : Int32)))]) [2, 1, 0] rfl ?_
  exact tX10_doubles_4 G fu h v0 fu ((0 : Int32)) ((0 : Int32)) h
set_option maxRecDepth 100000 in
set_option maxHeartbeats 4000000 in
theorem tX10_faith (G : gx) (fu : Nat) (v0 : Nat) (v1 : Int32) (h : mh) : Ct lI G yX10_faith cX10_faith 2 (some .int) 7 [.ref (gB G + v0), .int v1] h (fX10_faith fu v0 v1 h) := by
  refine ct_ls (ls := [(0, .ref (gB G + v0)), (1, .int v1)]) rfl (by decide) (Nat.le_of_ble_eq_true rfl) ?_
  unfold fX10_faith
  refine ev_step (st_iload_n (pc := 0) (j := 1) dX10_faith_0 rfl rfl) ?_
  refine ev_callI (iv_S (As := [.int v1]) (st := []) (pc := 1) m_X10_isLong l_X10_396 z_X10_isLong rfl (Nat.le_of_ble_eq_true rfl) rfl dX10_faith_1) (tX10_isLong G fu v1 h) (by decide) (by decide) (fun x2 h1 => ?_)
  refine ev_br (br_if_ne (tgt := 9) (pc := 4) dX10_faith_4 (by decide)) (fun _ => ?_) (fun _ => ?_)
  · refine ev_step (st_iconst (pc := 7) dX10_faith_7 ni_m1) ?_
    exact ev_iret (pc := 8) dX10_faith_8
  · refine ev_step (st_aload_n (pc := 9) (j := 0) dX10_faith_9 rfl rfl) ?_
    refine ev_ck (fun ha hS => ?_)
    refine ev_callV (iv_V (As := []) (st := []) (pc := 10) rfl m_X10_copies l_X10_320 i_X10_copies e_X10_copies ha hS rfl (Nat.le_of_ble_eq_true rfl) rfl dX10_faith_10) (tX10_copies G fu v0 h1) (by decide) (by decide) (fun h3 => ?_)
    refine ev_step (st_aload_n (pc := 13) (j := 0) dX10_faith_13 rfl rfl) ?_
    refine ev_step (st_iload_n (pc := 14) (j := 1) dX10_faith_14 rfl rfl) ?_
    refine ev_ck (fun ha hS => ?_)
    refine ev_callV (iv_V (As := [.int v1]) (st := []) (pc := 15) rfl m_X10_goes l_X10_399 i_X10_goes e_X10_goes ha hS rfl (Nat.le_of_ble_eq_true rfl) rfl dX10_faith_15) (tX10_goes G fu v0 v1 h3) (by decide) (by decide) (fun h4 => ?_)
    refine ev_step (st_aload_n (pc := 18) (j := 0) dX10_faith_18 rfl rfl) ?_
    refine ev_step (st_bipush (pc := 19) dX10_faith_19 nb_18) ?_
    refine ev_ck (fun ha hS => ?_)
    refine ev_callI (iv_V (As := [.int ((18 : Int32))]) (st := []) (pc := 21) rfl m_X10_sumOf l_X10_442 i_X10_sumOf e_X10_sumOf ha hS rfl (Nat.le_of_ble_eq_true rfl) rfl dX10_faith_21) (tX10_sumOf G fu v0 ((18 : Int32)) h4) (by decide) (by decide) (fun x6 h5 => ?_)
    exact ev_iret (pc := 24) dX10_faith_24
set_option maxRecDepth 100000 in
set_option maxHeartbeats 4000000 in
theorem tX10_never_39 (G : gx) (fu : Nat) (h0 : mh) (v0 : Nat) (v1 : Int32) (n : Nat) (v2 : Int32) (v3 : Int32) (h : mh) : Ev lI G yX10_never cX10_never 4 (some .int) 3 h0 39 [(0, .ref (gB G + v0)), (1, .int v1), (2, .int v2), (3, .int v3)] [] h (itr (bX10_never_39 fu v0 v1) n (v2, v3, h)) := by
  refine ev_itr (P := fun (q : Int32 × Int32 × mh) (R9 : Option (Int32 × mh)) => Ev lI G yX10_never cX10_never 4 (some .int) 3 h0 39 [(0, .ref (gB G + v0)), (1, .int v1), (2, .int q.1), (3, .int q.2.1)] [] q.2.2 R9) (fun _ => ev_none) (fun k39 hk9 q => ?_) n (v2, v3, h)
  obtain ⟨v2, v3, h⟩ := q
  have hk39 : ∀ (v2 : Int32) (v3 : Int32) (h : mh), Ev lI G yX10_never cX10_never 4 (some .int) 3 h0 39 [(0, .ref (gB G + v0)), (1, .int v1), (2, .int v2), (3, .int v3)] [] h (k39 (v2, v3, h)) := fun v2 v3 h => hk9 (v2, v3, h)
  show Ev lI G yX10_never cX10_never 4 (some .int) 3 h0 39 [(0, .ref (gB G + v0)), (1, .int v1), (2, .int v2), (3, .int v3)] [] h (bX10_never_39 fu v0 v1 k39 (v2, v3, h))
  unfold bX10_never_39
  refine ev_step (st_iload_n (pc := 39) (j := 3) dX10_never_39 rfl rfl) ?_
  refine ev_step (st_aload_n (pc := 40) (j := 0) dX10_never_40 rfl rfl) ?_
  refine ev_getR (pc := 41) k_X10_46 rfl dX10_never_41 (fun a1 => ?_)
  refine ev_step (st_aload_n (pc := 44) (j := 0) dX10_never_44 rfl rfl) ?_
  refine ev_getI (pc := 45) k_X10_230 rfl dX10_never_45 (fun x2 => ?_)
  refine ev_ldi (pc := 48) dX10_never_48 (fun x3 => ?_)
  refine ev_br (br_icmp_ge (tgt := 77) (pc := 49) dX10_never_49 (by decide)) (fun _ => ?_) (fun _ => ?_)
  · refine ev_step (st_iload_n (pc := 77) (j := 2) dX10_never_77 rfl rfl) ?_
    exact ev_iret (pc := 78) dX10_never_78
  · refine ev_step (st_iload_n (pc := 52) (j := 2) dX10_never_52 rfl rfl) ?_
    refine ev_step (st_aload_n (pc := 53) (j := 0) dX10_never_53 rfl rfl) ?_
    refine ev_getR (pc := 54) k_X10_49 rfl dX10_never_54 (fun a4 => ?_)
    refine ev_step (st_bipush (pc := 57) dX10_never_57 nb_6) ?_
    refine ev_step (st_aload_n (pc := 59) (j := 0) dX10_never_59 rfl rfl) ?_
    refine ev_getI (pc := 60) k_X10_230 rfl dX10_never_60 (fun x5 => ?_)
    refine ev_step (st_imul (pc := 63) dX10_never_63) ?_
    refine ev_step (st_iload_n (pc := 64) (j := 3) dX10_never_64 rfl rfl) ?_
    refine ev_step (st_iadd (pc := 65) dX10_never_65) ?_
    refine ev_ldi (pc := 66) dX10_never_66 (fun x6 => ?_)
    refine ev_step (st_iconst (pc := 67) dX10_never_67 ni_m1) ?_
    refine ev_step (st_ixor (pc := 68) dX10_never_68) ?_
    refine ev_step (st_iand (pc := 69) dX10_never_69) ?_
    refine ev_top (fun x7 => ?_)
    refine ev_step (st_istore_n (pc := 70) (ls' := [(2, .int x7), (0, .ref (gB G + v0)), (1, .int v1), (3, .int v3)]) dX10_never_70 rfl (by decide) rfl) ?_
    refine ev_step (st_inc (pc := 71) (j := 3) (ls' := [(3, .int (v3 + (1 : Int32))), (2, .int x7), (0, .ref (gB G + v0)), (1, .int v1)]) dX10_never_71 rfl ni_1 (by decide) rfl) ?_
    refine ev_step (st_goto (pc := 74) (tgt := 39) dX10_never_74 (by decide)) ?_
    refine ev_sub (ls' := [(0, .ref (gB G + v0)), (1, .int v1), (2, .int x7), (3, .int (v3 + (1 : Int32)))]) [2, 3, 1, 0] rfl ?_
    exact hk39 x7 (v3 + (1 : Int32)) h
set_option maxRecDepth 100000 in
set_option maxHeartbeats 4000000 in
theorem tX10_never (G : gx) (fu : Nat) (v0 : Nat) (v1 : Int32) (h : mh) : Ct lI G yX10_never cX10_never 4 (some .int) 3 [.ref (gB G + v0), .int v1] h (fX10_never fu v0 v1 h) := by
  refine ct_ls (ls := [(0, .ref (gB G + v0)), (1, .int v1)]) rfl (by decide) (Nat.le_of_ble_eq_true rfl) ?_
  unfold fX10_never
  refine ev_step (st_aload_n (pc := 0) (j := 0) dX10_never_0 rfl rfl) ?_
  refine ev_step (st_iload_n (pc := 1) (j := 1) dX10_never_1 rfl rfl) ?_
  refine ev_ck (fun ha hS => ?_)
  refine ev_callI (iv_V (As := [.int v1]) (st := []) (pc := 2) rfl m_X10_isListener l_X10_384 i_X10_isListener e_X10_isListener ha hS rfl (Nat.le_of_ble_eq_true rfl) rfl dX10_never_2) (tX10_isListener G fu v0 v1 h) (by decide) (by decide) (fun x2 h1 => ?_)
  refine ev_br (br_if_ne (tgt := 10) (pc := 5) dX10_never_5 (by decide)) (fun _ => ?_) (fun _ => ?_)
  · refine ev_step (st_iconst (pc := 8) dX10_never_8 ni_m1) ?_
    exact ev_iret (pc := 9) dX10_never_9
  · refine ev_step (st_aload_n (pc := 10) (j := 0) dX10_never_10 rfl rfl) ?_
    refine ev_getR (pc := 11) k_X10_61 rfl dX10_never_11 (fun a3 => ?_)
    refine ev_step (st_bipush (pc := 14) dX10_never_14 nb_6) ?_
    refine ev_step (st_aload_n (pc := 16) (j := 0) dX10_never_16 rfl rfl) ?_
    refine ev_getI (pc := 17) k_X10_230 rfl dX10_never_17 (fun x4 => ?_)
    refine ev_step (st_imul (pc := 20) dX10_never_20) ?_
    refine ev_step (st_iload_n (pc := 21) (j := 1) dX10_never_21 rfl rfl) ?_
    refine ev_step (st_iadd (pc := 22) dX10_never_22) ?_
    refine ev_ldi (pc := 23) dX10_never_23 (fun x5 => ?_)
    refine ev_step (st_aload_n (pc := 24) (j := 0) dX10_never_24 rfl rfl) ?_
    refine ev_getR (pc := 25) k_X10_119 rfl dX10_never_25 (fun a6 => ?_)
    refine ev_step (st_bipush (pc := 28) dX10_never_28 nb_12) ?_
    refine ev_step (st_iload_n (pc := 30) (j := 1) dX10_never_30 rfl rfl) ?_
    refine ev_step (st_iadd (pc := 31) dX10_never_31) ?_
    refine ev_ldi (pc := 32) dX10_never_32 (fun x7 => ?_)
    refine ev_step (st_iconst (pc := 33) dX10_never_33 ni_m1) ?_
    refine ev_step (st_ixor (pc := 34) dX10_never_34) ?_
    refine ev_step (st_iand (pc := 35) dX10_never_35) ?_
    refine ev_top (fun x8 => ?_)
    refine ev_step (st_istore_n (pc := 36) (ls' := [(2, .int x8), (0, .ref (gB G + v0)), (1, .int v1)]) dX10_never_36 rfl (by decide) rfl) ?_
    refine ev_step (st_iconst (pc := 37) dX10_never_37 ni_0) ?_
    refine ev_step (st_istore_n (pc := 38) (ls' := [(3, .int ((0 : Int32))), (2, .int x8), (0, .ref (gB G + v0)), (1, .int v1)]) dX10_never_38 rfl (by decide) rfl) ?_
    refine ev_sub (ls' := [(0, .ref (gB G + v0)), (1, .int v1), (2, .int x8), (3, .int ((0 : Int32)))]) [2, 3, 1, 0] rfl ?_
    exact tX10_never_39 G fu h v0 v1 fu x8 ((0 : Int32)) h1
set_option maxRecDepth 100000 in
set_option maxHeartbeats 4000000 in
theorem tX10_tellsApart_75 (G : gx) (fu : Nat) (h0 : mh) (v0 : Nat) (v1 : Int32) (v2 : Int32) (v3 : Int32) (k2 : Int32 × mh → Option (Int32 × mh)) (hk2 : ∀ (v2 : Int32) (h : mh), Ev lI G yX10_tellsApart cX10_tellsApart 4 (some .boolean) 1 h0 2 [(0, .ref (gB G + v0)), (1, .int v1), (2, .int v2)] [] h (k2 (v2, h))) (h : mh) : Ev lI G yX10_tellsApart cX10_tellsApart 4 (some .boolean) 1 h0 75 [(0, .ref (gB G + v0)), (1, .int v1), (2, .int v2), (3, .int v3)] [] h (fX10_tellsApart_75 fu k2 v0 v1 v2 v3 h) := by
  unfold fX10_tellsApart_75
  refine ev_step (st_inc (pc := 75) (j := 2) (ls' := [(2, .int (v2 + (1 : Int32))), (0, .ref (gB G + v0)), (1, .int v1), (3, .int v3)]) dX10_tellsApart_75 rfl ni_1 (by decide) rfl) ?_
  refine ev_step (st_goto (pc := 78) (tgt := 2) dX10_tellsApart_78 (by decide)) ?_
  refine ev_sub (ls' := [(0, .ref (gB G + v0)), (1, .int v1), (2, .int (v2 + (1 : Int32)))]) [1, 2, 0] rfl ?_
  exact hk2 (v2 + (1 : Int32)) h
set_option maxRecDepth 100000 in
set_option maxHeartbeats 4000000 in
theorem tX10_tellsApart_19 (G : gx) (fu : Nat) (h0 : mh) (v0 : Nat) (v1 : Int32) (v2 : Int32) (k2 : Int32 × mh → Option (Int32 × mh)) (hk2 : ∀ (v2 : Int32) (h : mh), Ev lI G yX10_tellsApart cX10_tellsApart 4 (some .boolean) 1 h0 2 [(0, .ref (gB G + v0)), (1, .int v1), (2, .int v2)] [] h (k2 (v2, h))) (n : Nat) (v3 : Int32) (h : mh) : Ev lI G yX10_tellsApart cX10_tellsApart 4 (some .boolean) 1 h0 19 [(0, .ref (gB G + v0)), (1, .int v1), (2, .int v2), (3, .int v3)] [] h (itr (bX10_tellsApart_19 fu k2 v0 v1 v2) n (v3, h)) := by
  refine ev_itr (P := fun (q : Int32 × mh) (R9 : Option (Int32 × mh)) => Ev lI G yX10_tellsApart cX10_tellsApart 4 (some .boolean) 1 h0 19 [(0, .ref (gB G + v0)), (1, .int v1), (2, .int v2), (3, .int q.1)] [] q.2 R9) (fun _ => ev_none) (fun k19 hk9 q => ?_) n (v3, h)
  obtain ⟨v3, h⟩ := q
  have hk19 : ∀ (v3 : Int32) (h : mh), Ev lI G yX10_tellsApart cX10_tellsApart 4 (some .boolean) 1 h0 19 [(0, .ref (gB G + v0)), (1, .int v1), (2, .int v2), (3, .int v3)] [] h (k19 (v3, h)) := fun v3 h => hk9 (v3, h)
  show Ev lI G yX10_tellsApart cX10_tellsApart 4 (some .boolean) 1 h0 19 [(0, .ref (gB G + v0)), (1, .int v1), (2, .int v2), (3, .int v3)] [] h (bX10_tellsApart_19 fu k2 v0 v1 v2 k19 (v3, h))
  unfold bX10_tellsApart_19
  refine ev_step (st_iload_n (pc := 19) (j := 3) dX10_tellsApart_19 rfl rfl) ?_
  refine ev_step (st_aload_n (pc := 20) (j := 0) dX10_tellsApart_20 rfl rfl) ?_
  refine ev_getR (pc := 21) k_X10_46 rfl dX10_tellsApart_21 (fun a1 => ?_)
  refine ev_step (st_aload_n (pc := 24) (j := 0) dX10_tellsApart_24 rfl rfl) ?_
  refine ev_getI (pc := 25) k_X10_230 rfl dX10_tellsApart_25 (fun x2 => ?_)
  refine ev_ldi (pc := 28) dX10_tellsApart_28 (fun x3 => ?_)
  refine ev_br (br_icmp_ge (tgt := 75) (pc := 29) dX10_tellsApart_29 (by decide)) (fun _ => ?_) (fun _ => ?_)
  · refine ev_sub (ls' := [(0, .ref (gB G + v0)), (1, .int v1), (2, .int v2), (3, .int v3)]) [0, 1, 2, 3] rfl ?_
    exact tX10_tellsApart_75 G fu h0 v0 v1 v2 v3 k2 hk2 h
  · refine ev_step (st_aload_n (pc := 32) (j := 0) dX10_tellsApart_32 rfl rfl) ?_
    refine ev_getR (pc := 33) k_X10_49 rfl dX10_tellsApart_33 (fun a4 => ?_)
    refine ev_step (st_bipush (pc := 36) dX10_tellsApart_36 nb_6) ?_
    refine ev_step (st_aload_n (pc := 38) (j := 0) dX10_tellsApart_38 rfl rfl) ?_
    refine ev_getI (pc := 39) k_X10_230 rfl dX10_tellsApart_39 (fun x5 => ?_)
    refine ev_step (st_imul (pc := 42) dX10_tellsApart_42) ?_
    refine ev_step (st_iload_n (pc := 43) (j := 2) dX10_tellsApart_43 rfl rfl) ?_
    refine ev_step (st_iadd (pc := 44) dX10_tellsApart_44) ?_
    refine ev_ldi (pc := 45) dX10_tellsApart_45 (fun x6 => ?_)
    refine ev_step (st_iload_n (pc := 46) (j := 1) dX10_tellsApart_46 rfl rfl) ?_
    refine ev_step (st_iand (pc := 47) dX10_tellsApart_47) ?_
    refine ev_step (st_aload_n (pc := 48) (j := 0) dX10_tellsApart_48 rfl rfl) ?_
    refine ev_getR (pc := 49) k_X10_49 rfl dX10_tellsApart_49 (fun a7 => ?_)
    refine ev_step (st_bipush (pc := 52) dX10_tellsApart_52 nb_6) ?_
    refine ev_step (st_aload_n (pc := 54) (j := 0) dX10_tellsApart_54 rfl rfl) ?_
    refine ev_getI (pc := 55) k_X10_230 rfl dX10_tellsApart_55 (fun x8 => ?_)
    refine ev_step (st_imul (pc := 58) dX10_tellsApart_58) ?_
    refine ev_step (st_iload_n (pc := 59) (j := 3) dX10_tellsApart_59 rfl rfl) ?_
    refine ev_step (st_iadd (pc := 60) dX10_tellsApart_60) ?_
    refine ev_ldi (pc := 61) dX10_tellsApart_61 (fun x9 => ?_)
    refine ev_step (st_iload_n (pc := 62) (j := 1) dX10_tellsApart_62 rfl rfl) ?_
    refine ev_step (st_iand (pc := 63) dX10_tellsApart_63) ?_
    refine ev_br (br_icmp_ne (tgt := 69) (pc := 64) dX10_tellsApart_64 (by decide)) (fun _ => ?_) (fun _ => ?_)
    · refine ev_step (st_iconst (pc := 67) dX10_tellsApart_67 ni_0) ?_
      exact ev_zret (pc := 68) dX10_tellsApart_68
    · refine ev_step (st_inc (pc := 69) (j := 3) (ls' := [(3, .int (v3 + (1 : Int32))), (0, .ref (gB G + v0)), (1, .int v1), (2, .int v2)]) dX10_tellsApart_69 rfl ni_1 (by decide) rfl) ?_
      refine ev_step (st_goto (pc := 72) (tgt := 19) dX10_tellsApart_72 (by decide)) ?_
      refine ev_sub (ls' := [(0, .ref (gB G + v0)), (1, .int v1), (2, .int v2), (3, .int (v3 + (1 : Int32)))]) [1, 2, 3, 0] rfl ?_
      exact hk19 (v3 + (1 : Int32)) h
set_option maxRecDepth 100000 in
set_option maxHeartbeats 4000000 in
theorem tX10_tellsApart_2 (G : gx) (fu : Nat) (h0 : mh) (v0 : Nat) (v1 : Int32) (n : Nat) (v2 : Int32) (h : mh) : Ev lI G yX10_tellsApart cX10_tellsApart 4 (some .boolean) 1 h0 2 [(0, .ref (gB G + v0)), (1, .int v1), (2, .int v2)] [] h (itr (bX10_tellsApart_2 fu v0 v1) n (v2, h)) := by
  refine ev_itr (P := fun (q : Int32 × mh) (R9 : Option (Int32 × mh)) => Ev lI G yX10_tellsApart cX10_tellsApart 4 (some .boolean) 1 h0 2 [(0, .ref (gB G + v0)), (1, .int v1), (2, .int q.1)] [] q.2 R9) (fun _ => ev_none) (fun k2 hk9 q => ?_) n (v2, h)
  obtain ⟨v2, h⟩ := q
  have hk2 : ∀ (v2 : Int32) (h : mh), Ev lI G yX10_tellsApart cX10_tellsApart 4 (some .boolean) 1 h0 2 [(0, .ref (gB G + v0)), (1, .int v1), (2, .int v2)] [] h (k2 (v2, h)) := fun v2 h => hk9 (v2, h)
  show Ev lI G yX10_tellsApart cX10_tellsApart 4 (some .boolean) 1 h0 2 [(0, .ref (gB G + v0)), (1, .int v1), (2, .int v2)] [] h (bX10_tellsApart_2 fu v0 v1 k2 (v2, h))
  unfold bX10_tellsApart_2
  refine ev_step (st_iload_n (pc := 2) (j := 2) dX10_tellsApart_2 rfl rfl) ?_
  refine ev_step (st_aload_n (pc := 3) (j := 0) dX10_tellsApart_3 rfl rfl) ?_
  refine ev_getR (pc := 4) k_X10_46 rfl dX10_tellsApart_4 (fun a1 => ?_)
  refine ev_step (st_aload_n (pc := 7) (j := 0) dX10_tellsApart_7 rfl rfl) ?_
  refine ev_getI (pc := 8) k_X10_230 rfl dX10_tellsApart_8 (fun x2 => ?_)
  refine ev_ldi (pc := 11) dX10_tellsApart_11 (fun x3 => ?_)
  refine ev_br (br_icmp_ge (tgt := 81) (pc := 12) dX10_tellsApart_12 (by decide)) (fun _ => ?_) (fun _ => ?_)
  · refine ev_step (st_iconst (pc := 81) dX10_tellsApart_81 ni_1) ?_
    exact ev_zret (pc := 82) dX10_tellsApart_82
  · refine ev_step (st_iload_n (pc := 15) (j := 2) dX10_tellsApart_15 rfl rfl) ?_
    refine ev_step (st_iconst (pc := 16) dX10_tellsApart_16 ni_1) ?_
    refine ev_step (st_iadd (pc := 17) dX10_tellsApart_17) ?_
    refine ev_top (fun x4 => ?_)
    refine ev_step (st_istore_n (pc := 18) (ls' := [(3, .int x4), (0, .ref (gB G + v0)), (1, .int v1), (2, .int v2)]) dX10_tellsApart_18 rfl (by decide) rfl) ?_
    refine ev_sub (ls' := [(0, .ref (gB G + v0)), (1, .int v1), (2, .int v2), (3, .int x4)]) [1, 2, 3, 0] rfl ?_
    exact tX10_tellsApart_19 G fu h0 v0 v1 v2 k2 hk2 fu x4 h
set_option maxRecDepth 100000 in
set_option maxHeartbeats 4000000 in
theorem tX10_tellsApart (G : gx) (fu : Nat) (v0 : Nat) (v1 : Int32) (h : mh) : Ct lI G yX10_tellsApart cX10_tellsApart 4 (some .boolean) 1 [.ref (gB G + v0), .int v1] h (fX10_tellsApart fu v0 v1 h) := by
  refine ct_ls (ls := [(0, .ref (gB G + v0)), (1, .int v1)]) rfl (by decide) (Nat.le_of_ble_eq_true rfl) ?_
  unfold fX10_tellsApart
  refine ev_step (st_iconst (pc := 0) dX10_tellsApart_0 ni_0) ?_
  refine ev_step (st_istore_n (pc := 1) (ls' := [(2, .int ((0 : Int32))), (0, .ref (gB G + v0)), (1, .int v1)]) dX10_tellsApart_1 rfl (by decide) rfl) ?_
  refine ev_sub (ls' := [(0, .ref (gB G + v0)), (1, .int v1), (2, .int ((0 : Int32)))]) [1, 2, 0] rfl ?_
  exact tX10_tellsApart_2 G fu h v0 v1 fu ((0 : Int32)) h
set_option maxRecDepth 100000 in
set_option maxHeartbeats 4000000 in
theorem tX10_apart_48 (G : gx) (fu : Nat) (h0 : mh) (v0 : Nat) (v1 : Int32) (v2 : Int32) (v3 : Int32) (k16 : Int32 × Int32 × mh → Option (Int32 × mh)) (hk16 : ∀ (v2 : Int32) (v3 : Int32) (h : mh), Ev lI G yX10_apart cX10_apart 4 (some .int) 2 h0 16 [(0, .ref (gB G + v0)), (1, .int v1), (2, .int v2), (3, .int v3)] [] h (k16 (v2, v3, h))) (h : mh) : Ev lI G yX10_apart cX10_apart 4 (some .int) 2 h0 48 [(0, .ref (gB G + v0)), (1, .int v1), (2, .int v2), (3, .int v3)] [] h (fX10_apart_48 fu k16 v0 v1 v2 v3 h) := by
  unfold fX10_apart_48
  refine ev_step (st_inc (pc := 48) (j := 3) (ls' := [(3, .int (v3 + (1 : Int32))), (0, .ref (gB G + v0)), (1, .int v1), (2, .int v2)]) dX10_apart_48 rfl ni_1 (by decide) rfl) ?_
  refine ev_step (st_goto (pc := 51) (tgt := 16) dX10_apart_51 (by decide)) ?_
  refine ev_sub (ls' := [(0, .ref (gB G + v0)), (1, .int v1), (2, .int v2), (3, .int (v3 + (1 : Int32)))]) [1, 2, 3, 0] rfl ?_
  exact hk16 v2 (v3 + (1 : Int32)) h
set_option maxRecDepth 100000 in
set_option maxHeartbeats 4000000 in
theorem tX10_apart_38 (G : gx) (fu : Nat) (h0 : mh) (v0 : Nat) (v1 : Int32) (v2 : Int32) (v3 : Int32) (k16 : Int32 × Int32 × mh → Option (Int32 × mh)) (hk16 : ∀ (v2 : Int32) (v3 : Int32) (h : mh), Ev lI G yX10_apart cX10_apart 4 (some .int) 2 h0 16 [(0, .ref (gB G + v0)), (1, .int v1), (2, .int v2), (3, .int v3)] [] h (k16 (v2, v3, h))) (h : mh) : Ev lI G yX10_apart cX10_apart 4 (some .int) 2 h0 38 [(0, .ref (gB G + v0)), (1, .int v1), (2, .int v2), (3, .int v3)] [] h (fX10_apart_38 fu k16 v0 v1 v2 v3 h) := by
  unfold fX10_apart_38
  refine ev_step (st_aload_n (pc := 38) (j := 0) dX10_apart_38 rfl rfl) ?_
  refine ev_step (st_iload_n (pc := 39) (j := 3) dX10_apart_39 rfl rfl) ?_
  refine ev_ck (fun ha hS => ?_)
  refine ev_callI (iv_V (As := [.int v3]) (st := []) (pc := 40) rfl m_X10_tellsApart l_X10_445 i_X10_tellsApart e_X10_tellsApart ha hS rfl (Nat.le_of_ble_eq_true rfl) rfl dX10_apart_40) (tX10_tellsApart G fu v0 v3 h) (by decide) (by decide) (fun x2 h1 => ?_)
  refine ev_br (br_if_eq (tgt := 48) (pc := 43) dX10_apart_43 (by decide)) (fun _ => ?_) (fun _ => ?_)
  · refine ev_sub (ls' := [(0, .ref (gB G + v0)), (1, .int v1), (2, .int v2), (3, .int v3)]) [0, 1, 2, 3] rfl ?_
    exact tX10_apart_48 G fu h0 v0 v1 v2 v3 k16 hk16 h1
  · refine ev_step (st_iload_n (pc := 46) (j := 3) dX10_apart_46 rfl rfl) ?_
    refine ev_step (st_istore_n (pc := 47) (ls' := [(2, .int v3), (0, .ref (gB G + v0)), (1, .int v1), (3, .int v3)]) dX10_apart_47 rfl (by decide) rfl) ?_
    refine ev_sub (ls' := [(0, .ref (gB G + v0)), (1, .int v1), (2, .int v3), (3, .int v3)]) [1, 2, 0, 3] rfl ?_
    exact tX10_apart_48 G fu h0 v0 v1 v3 v3 k16 hk16 h1
set_option maxRecDepth 100000 in
set_option maxHeartbeats 4000000 in
theorem tX10_apart_54 (G : gx) (fu : Nat) (h0 : mh) (v0 : Nat) (v1 : Int32) (v2 : Int32) (v3 : Int32) (h : mh) : Ev lI G yX10_apart cX10_apart 4 (some .int) 2 h0 54 [(0, .ref (gB G + v0)), (1, .int v1), (2, .int v2), (3, .int v3)] [] h (fX10_apart_54 fu v0 v1 v2 v3 h) := by
  unfold fX10_apart_54
  refine ev_step (st_iload_n (pc := 54) (j := 2) dX10_apart_54 rfl rfl) ?_
  refine ev_br (br_if_lt (tgt := 63) (pc := 55) dX10_apart_55 (by decide)) (fun _ => ?_) (fun _ => ?_)
  · refine ev_step (st_iload_n (pc := 63) (j := 2) dX10_apart_63 rfl rfl) ?_
    refine ev_step (st_goto (pc := 64) (tgt := 71) dX10_apart_64 (by decide)) ?_
    exact ev_iret (pc := 71) dX10_apart_71
  · refine ev_step (st_iload_n (pc := 58) (j := 1) dX10_apart_58 rfl rfl) ?_
    refine ev_step (st_iconst (pc := 59) dX10_apart_59 ni_1) ?_
    refine ev_br (br_icmp_ne (tgt := 67) (pc := 60) dX10_apart_60 (by decide)) (fun _ => ?_) (fun _ => ?_)
    · refine ev_step (st_iload_n (pc := 63) (j := 2) dX10_apart_63 rfl rfl) ?_
      refine ev_step (st_goto (pc := 64) (tgt := 71) dX10_apart_64 (by decide)) ?_
      exact ev_iret (pc := 71) dX10_apart_71
    · refine ev_step (st_iload_n (pc := 67) (j := 2) dX10_apart_67 rfl rfl) ?_
      refine ev_callI (iv_S (As := [.int v2]) (st := []) (pc := 68) m_X10_bits l_X10_336 z_X10_bits rfl (Nat.le_of_ble_eq_true rfl) rfl dX10_apart_68) (tX10_bits G fu v2 h) (by decide) (by decide) (fun x2 h1 => ?_)
      exact ev_iret (pc := 71) dX10_apart_71
set_option maxRecDepth 100000 in
set_option maxHeartbeats 4000000 in
theorem tX10_apart_16 (G : gx) (fu : Nat) (h0 : mh) (v0 : Nat) (v1 : Int32) (n : Nat) (v2 : Int32) (v3 : Int32) (h : mh) : Ev lI G yX10_apart cX10_apart 4 (some .int) 2 h0 16 [(0, .ref (gB G + v0)), (1, .int v1), (2, .int v2), (3, .int v3)] [] h (itr (bX10_apart_16 fu v0 v1) n (v2, v3, h)) := by
  refine ev_itr (P := fun (q : Int32 × Int32 × mh) (R9 : Option (Int32 × mh)) => Ev lI G yX10_apart cX10_apart 4 (some .int) 2 h0 16 [(0, .ref (gB G + v0)), (1, .int v1), (2, .int q.1), (3, .int q.2.1)] [] q.2.2 R9) (fun _ => ev_none) (fun k16 hk9 q => ?_) n (v2, v3, h)
  obtain ⟨v2, v3, h⟩ := q
  have hk16 : ∀ (v2 : Int32) (v3 : Int32) (h : mh), Ev lI G yX10_apart cX10_apart 4 (some .int) 2 h0 16 [(0, .ref (gB G + v0)), (1, .int v1), (2, .int v2), (3, .int v3)] [] h (k16 (v2, v3, h)) := fun v2 v3 h => hk9 (v2, v3, h)
  show Ev lI G yX10_apart cX10_apart 4 (some .int) 2 h0 16 [(0, .ref (gB G + v0)), (1, .int v1), (2, .int v2), (3, .int v3)] [] h (bX10_apart_16 fu v0 v1 k16 (v2, v3, h))
  unfold bX10_apart_16
  refine ev_step (st_iload_n (pc := 16) (j := 3) dX10_apart_16 rfl rfl) ?_
  refine ev_step (st_sipush (pc := 17) dX10_apart_17 ns_256) ?_
  refine ev_br (br_icmp_ge (tgt := 54) (pc := 20) dX10_apart_20 (by decide)) (fun _ => ?_) (fun _ => ?_)
  · refine ev_sub (ls' := [(0, .ref (gB G + v0)), (1, .int v1), (2, .int v2), (3, .int v3)]) [0, 1, 2, 3] rfl ?_
    exact tX10_apart_54 G fu h0 v0 v1 v2 v3 h
  · refine ev_step (st_iload_n (pc := 23) (j := 2) dX10_apart_23 rfl rfl) ?_
    refine ev_br (br_if_lt (tgt := 38) (pc := 24) dX10_apart_24 (by decide)) (fun _ => ?_) (fun _ => ?_)
    · refine ev_sub (ls' := [(0, .ref (gB G + v0)), (1, .int v1), (2, .int v2), (3, .int v3)]) [0, 1, 2, 3] rfl ?_
      exact tX10_apart_38 G fu h0 v0 v1 v2 v3 k16 hk16 h
    · refine ev_step (st_iload_n (pc := 27) (j := 3) dX10_apart_27 rfl rfl) ?_
      refine ev_callI (iv_S (As := [.int v3]) (st := []) (pc := 28) m_X10_bits l_X10_336 z_X10_bits rfl (Nat.le_of_ble_eq_true rfl) rfl dX10_apart_28) (tX10_bits G fu v3 h) (by decide) (by decide) (fun x2 h1 => ?_)
      refine ev_step (st_iload_n (pc := 31) (j := 2) dX10_apart_31 rfl rfl) ?_
      refine ev_callI (iv_S (As := [.int v2]) (st := [.int x2]) (pc := 32) m_X10_bits l_X10_336 z_X10_bits rfl (Nat.le_of_ble_eq_true rfl) rfl dX10_apart_32) (tX10_bits G fu v2 h1) (by decide) (by decide) (fun x4 h3 => ?_)
      refine ev_br (br_icmp_ge (tgt := 48) (pc := 35) dX10_apart_35 (by decide)) (fun _ => ?_) (fun _ => ?_)
      · refine ev_sub (ls' := [(0, .ref (gB G + v0)), (1, .int v1), (2, .int v2), (3, .int v3)]) [0, 1, 2, 3] rfl ?_
        exact tX10_apart_48 G fu h0 v0 v1 v2 v3 k16 hk16 h3
      · refine ev_sub (ls' := [(0, .ref (gB G + v0)), (1, .int v1), (2, .int v2), (3, .int v3)]) [0, 1, 2, 3] rfl ?_
        exact tX10_apart_38 G fu h0 v0 v1 v2 v3 k16 hk16 h3
set_option maxRecDepth 100000 in
set_option maxHeartbeats 4000000 in
theorem tX10_apart (G : gx) (fu : Nat) (v0 : Nat) (v1 : Int32) (h : mh) : Ct lI G yX10_apart cX10_apart 4 (some .int) 2 [.ref (gB G + v0), .int v1] h (fX10_apart fu v0 v1 h) := by
  refine ct_ls (ls := [(0, .ref (gB G + v0)), (1, .int v1)]) rfl (by decide) (Nat.le_of_ble_eq_true rfl) ?_
  unfold fX10_apart
  refine ev_step (st_iload_n (pc := 0) (j := 1) dX10_apart_0 rfl rfl) ?_
  refine ev_step (st_iconst (pc := 1) dX10_apart_1 ni_0) ?_
  refine ev_step (st_iconst (pc := 2) dX10_apart_2 ni_1) ?_
  refine ev_callI (iv_S (As := [.int v1, .int ((0 : Int32)), .int ((1 : Int32))]) (st := []) (pc := 3) m_X10_in l_X10_310 z_X10_in rfl (Nat.le_of_ble_eq_true rfl) rfl dX10_apart_3) (tX10_in G fu v1 ((0 : Int32)) ((1 : Int32)) h) (by decide) (by decide) (fun x2 h1 => ?_)
  refine ev_br (br_if_ne (tgt := 11) (pc := 6) dX10_apart_6 (by decide)) (fun _ => ?_) (fun _ => ?_)
  · refine ev_step (st_iconst (pc := 9) dX10_apart_9 ni_m1) ?_
    exact ev_iret (pc := 10) dX10_apart_10
  · refine ev_step (st_bipush (pc := 11) dX10_apart_11 nb_m2) ?_
    refine ev_step (st_istore_n (pc := 13) (ls' := [(2, .int ((-2 : Int32))), (0, .ref (gB G + v0)), (1, .int v1)]) dX10_apart_13 rfl (by decide) rfl) ?_
    refine ev_step (st_iconst (pc := 14) dX10_apart_14 ni_0) ?_
    refine ev_step (st_istore_n (pc := 15) (ls' := [(3, .int ((0 : Int32))), (2, .int ((-2 : Int32))), (0, .ref (gB G + v0)), (1, .int v1)]) dX10_apart_15 rfl (by decide) rfl) ?_
    refine ev_sub (ls' := [(0, .ref (gB G + v0)), (1, .int v1), (2, .int ((-2 : Int32))), (3, .int ((0 : Int32)))]) [2, 3, 1, 0] rfl ?_
    exact tX10_apart_16 G fu h v0 v1 fu ((-2 : Int32)) ((0 : Int32)) h1
set_option maxRecDepth 100000 in
set_option maxHeartbeats 4000000 in
theorem tX10_unlike (G : gx) (fu : Nat) (v0 : Nat) (v1 : Int32) (v2 : Int32) (h : mh) : Ct lI G yX10_unlike cX10_unlike 3 (some .int) 3 [.ref (gB G + v0), .int v1, .int v2] h (fX10_unlike fu v0 v1 v2 h) := by
  refine ct_ls (ls := [(0, .ref (gB G + v0)), (1, .int v1), (2, .int v2)]) rfl (by decide) (Nat.le_of_ble_eq_true rfl) ?_
  unfold fX10_unlike
  refine ev_step (st_aload_n (pc := 0) (j := 0) dX10_unlike_0 rfl rfl) ?_
  refine ev_step (st_iload_n (pc := 1) (j := 1) dX10_unlike_1 rfl rfl) ?_
  refine ev_ck (fun ha hS => ?_)
  refine ev_callI (iv_V (As := [.int v1]) (st := []) (pc := 2) rfl m_X10_isRole l_X10_381 i_X10_isRole e_X10_isRole ha hS rfl (Nat.le_of_ble_eq_true rfl) rfl dX10_unlike_2) (tX10_isRole G fu v0 v1 h) (by decide) (by decide) (fun x2 h1 => ?_)
  refine ev_br (br_if_eq (tgt := 53) (pc := 5) dX10_unlike_5 (by decide)) (fun _ => ?_) (fun _ => ?_)
  · refine ev_step (st_iconst (pc := 53) dX10_unlike_53 ni_m1) ?_
    exact ev_iret (pc := 54) dX10_unlike_54
  · refine ev_step (st_aload_n (pc := 8) (j := 0) dX10_unlike_8 rfl rfl) ?_
    refine ev_step (st_iload_n (pc := 9) (j := 2) dX10_unlike_9 rfl rfl) ?_
    refine ev_ck (fun ha hS => ?_)
    refine ev_callI (iv_V (As := [.int v2]) (st := []) (pc := 10) rfl m_X10_isRole l_X10_381 i_X10_isRole e_X10_isRole ha hS rfl (Nat.le_of_ble_eq_true rfl) rfl dX10_unlike_10) (tX10_isRole G fu v0 v2 h1) (by decide) (by decide) (fun x4 h3 => ?_)
    refine ev_br (br_if_eq (tgt := 53) (pc := 13) dX10_unlike_13 (by decide)) (fun _ => ?_) (fun _ => ?_)
    · refine ev_step (st_iconst (pc := 53) dX10_unlike_53 ni_m1) ?_
      exact ev_iret (pc := 54) dX10_unlike_54
    · refine ev_step (st_iload_n (pc := 16) (j := 1) dX10_unlike_16 rfl rfl) ?_
      refine ev_step (st_iload_n (pc := 17) (j := 2) dX10_unlike_17 rfl rfl) ?_
      refine ev_br (br_icmp_eq (tgt := 53) (pc := 18) dX10_unlike_18 (by decide)) (fun _ => ?_) (fun _ => ?_)
      · refine ev_step (st_iconst (pc := 53) dX10_unlike_53 ni_m1) ?_
        exact ev_iret (pc := 54) dX10_unlike_54
      · refine ev_step (st_aload_n (pc := 21) (j := 0) dX10_unlike_21 rfl rfl) ?_
        refine ev_getR (pc := 22) k_X10_49 rfl dX10_unlike_22 (fun a5 => ?_)
        refine ev_step (st_bipush (pc := 25) dX10_unlike_25 nb_6) ?_
        refine ev_step (st_aload_n (pc := 27) (j := 0) dX10_unlike_27 rfl rfl) ?_
        refine ev_getI (pc := 28) k_X10_230 rfl dX10_unlike_28 (fun x6 => ?_)
        refine ev_step (st_imul (pc := 31) dX10_unlike_31) ?_
        refine ev_step (st_iload_n (pc := 32) (j := 1) dX10_unlike_32 rfl rfl) ?_
        refine ev_step (st_iadd (pc := 33) dX10_unlike_33) ?_
        refine ev_ldi (pc := 34) dX10_unlike_34 (fun x7 => ?_)
        refine ev_step (st_aload_n (pc := 35) (j := 0) dX10_unlike_35 rfl rfl) ?_
        refine ev_getR (pc := 36) k_X10_49 rfl dX10_unlike_36 (fun a8 => ?_)
        refine ev_step (st_bipush (pc := 39) dX10_unlike_39 nb_6) ?_
        refine ev_step (st_aload_n (pc := 41) (j := 0) dX10_unlike_41 rfl rfl) ?_
        refine ev_getI (pc := 42) k_X10_230 rfl dX10_unlike_42 (fun x9 => ?_)
        refine ev_step (st_imul (pc := 45) dX10_unlike_45) ?_
        refine ev_step (st_iload_n (pc := 46) (j := 2) dX10_unlike_46 rfl rfl) ?_
        refine ev_step (st_iadd (pc := 47) dX10_unlike_47) ?_
        refine ev_ldi (pc := 48) dX10_unlike_48 (fun x10 => ?_)
        refine ev_step (st_ixor (pc := 49) dX10_unlike_49) ?_
        refine ev_step (st_goto (pc := 50) (tgt := 54) dX10_unlike_50 (by decide)) ?_
        exact ev_iret (pc := 54) dX10_unlike_54
set_option maxRecDepth 100000 in
set_option maxHeartbeats 4000000 in
theorem tX10_rumour_86 (G : gx) (fu : Nat) (h0 : mh) (v0 : Nat) (v1 : Int32) (v2 : Int32) (v3 : Int32) (v4 : Int32) (v5 : Int32) (k19 : Int32 × Int32 × Int32 × mh → Option (Int32 × mh)) (hk19 : ∀ (v2 : Int32) (v3 : Int32) (v4 : Int32) (h : mh), Ev lI G yX10_rumour cX10_rumour 6 (some .int) 3 h0 19 [(0, .ref (gB G + v0)), (1, .int v1), (2, .int v2), (3, .int v3), (4, .int v4)] [] h (k19 (v2, v3, v4, h))) (k39 : Int32 × Int32 × Int32 × mh → Option (Int32 × mh)) (hk39 : ∀ (v2 : Int32) (v3 : Int32) (v5 : Int32) (h : mh), Ev lI G yX10_rumour cX10_rumour 6 (some .int) 3 h0 39 [(0, .ref (gB G + v0)), (1, .int v1), (2, .int v2), (3, .int v3), (4, .int v4), (5, .int v5)] [] h (k39 (v2, v3, v5, h))) (h : mh) : Ev lI G yX10_rumour cX10_rumour 6 (some .int) 3 h0 86 [(0, .ref (gB G + v0)), (1, .int v1), (2, .int v2), (3, .int v3), (4, .int v4), (5, .int v5)] [] h (fX10_rumour_86 fu k19 k39 v0 v1 v2 v3 v4 v5 h) := by
  unfold fX10_rumour_86
  refine ev_step (st_inc (pc := 86) (j := 5) (ls' := [(5, .int (v5 + (1 : Int32))), (0, .ref (gB G + v0)), (1, .int v1), (2, .int v2), (3, .int v3), (4, .int v4)]) dX10_rumour_86 rfl ni_1 (by decide) rfl) ?_
  refine ev_step (st_goto (pc := 89) (tgt := 39) dX10_rumour_89 (by decide)) ?_
  refine ev_sub (ls' := [(0, .ref (gB G + v0)), (1, .int v1), (2, .int v2), (3, .int v3), (4, .int v4), (5, .int (v5 + (1 : Int32)))]) [1, 2, 3, 4, 5, 0] rfl ?_
  exact hk39 v2 v3 (v5 + (1 : Int32)) h
set_option maxRecDepth 100000 in
set_option maxHeartbeats 4000000 in
theorem tX10_rumour_92 (G : gx) (fu : Nat) (h0 : mh) (v0 : Nat) (v1 : Int32) (v2 : Int32) (v3 : Int32) (v4 : Int32) (v5 : Int32) (k19 : Int32 × Int32 × Int32 × mh → Option (Int32 × mh)) (hk19 : ∀ (v2 : Int32) (v3 : Int32) (v4 : Int32) (h : mh), Ev lI G yX10_rumour cX10_rumour 6 (some .int) 3 h0 19 [(0, .ref (gB G + v0)), (1, .int v1), (2, .int v2), (3, .int v3), (4, .int v4)] [] h (k19 (v2, v3, v4, h))) (h : mh) : Ev lI G yX10_rumour cX10_rumour 6 (some .int) 3 h0 92 [(0, .ref (gB G + v0)), (1, .int v1), (2, .int v2), (3, .int v3), (4, .int v4), (5, .int v5)] [] h (fX10_rumour_92 fu k19 v0 v1 v2 v3 v4 v5 h) := by
  unfold fX10_rumour_92
  refine ev_step (st_inc (pc := 92) (j := 4) (ls' := [(4, .int (v4 + (1 : Int32))), (0, .ref (gB G + v0)), (1, .int v1), (2, .int v2), (3, .int v3), (5, .int v5)]) dX10_rumour_92 rfl ni_1 (by decide) rfl) ?_
  refine ev_step (st_goto (pc := 95) (tgt := 19) dX10_rumour_95 (by decide)) ?_
  refine ev_sub (ls' := [(0, .ref (gB G + v0)), (1, .int v1), (2, .int v2), (3, .int v3), (4, .int (v4 + (1 : Int32)))]) [1, 2, 3, 4, 0] rfl ?_
  exact hk19 v2 v3 (v4 + (1 : Int32)) h
set_option maxRecDepth 100000 in
set_option maxHeartbeats 4000000 in
theorem tX10_rumour_39 (G : gx) (fu : Nat) (h0 : mh) (v0 : Nat) (v1 : Int32) (v4 : Int32) (k19 : Int32 × Int32 × Int32 × mh → Option (Int32 × mh)) (hk19 : ∀ (v2 : Int32) (v3 : Int32) (v4 : Int32) (h : mh), Ev lI G yX10_rumour cX10_rumour 6 (some .int) 3 h0 19 [(0, .ref (gB G + v0)), (1, .int v1), (2, .int v2), (3, .int v3), (4, .int v4)] [] h (k19 (v2, v3, v4, h))) (n : Nat) (v2 : Int32) (v3 : Int32) (v5 : Int32) (h : mh) : Ev lI G yX10_rumour cX10_rumour 6 (some .int) 3 h0 39 [(0, .ref (gB G + v0)), (1, .int v1), (2, .int v2), (3, .int v3), (4, .int v4), (5, .int v5)] [] h (itr (bX10_rumour_39 fu k19 v0 v1 v4) n (v2, v3, v5, h)) := by
  refine ev_itr (P := fun (q : Int32 × Int32 × Int32 × mh) (R9 : Option (Int32 × mh)) => Ev lI G yX10_rumour cX10_rumour 6 (some .int) 3 h0 39 [(0, .ref (gB G + v0)), (1, .int v1), (2, .int q.1), (3, .int q.2.1), (4, .int v4), (5, .int q.2.2.1)] [] q.2.2.2 R9) (fun _ => ev_none) (fun k39 hk9 q => ?_) n (v2, v3, v5, h)
  obtain ⟨v2, v3, v5, h⟩ := q
  have hk39 : ∀ (v2 : Int32) (v3 : Int32) (v5 : Int32) (h : mh), Ev lI G yX10_rumour cX10_rumour 6 (some .int) 3 h0 39 [(0, .ref (gB G + v0)), (1, .int v1), (2, .int v2), (3, .int v3), (4, .int v4), (5, .int v5)] [] h (k39 (v2, v3, v5, h)) := fun v2 v3 v5 h => hk9 (v2, v3, v5, h)
  show Ev lI G yX10_rumour cX10_rumour 6 (some .int) 3 h0 39 [(0, .ref (gB G + v0)), (1, .int v1), (2, .int v2), (3, .int v3), (4, .int v4), (5, .int v5)] [] h (bX10_rumour_39 fu k19 v0 v1 v4 k39 (v2, v3, v5, h))
  unfold bX10_rumour_39
  refine ev_step (st_iload (pc := 39) (j := 5) dX10_rumour_39 rfl) ?_
  refine ev_step (st_aload_n (pc := 41) (j := 0) dX10_rumour_41 rfl rfl) ?_
  refine ev_getR (pc := 42) k_X10_55 rfl dX10_rumour_42 (fun a1 => ?_)
  refine ev_step (st_aload_n (pc := 45) (j := 0) dX10_rumour_45 rfl rfl) ?_
  refine ev_getI (pc := 46) k_X10_230 rfl dX10_rumour_46 (fun x2 => ?_)
  refine ev_ldi (pc := 49) dX10_rumour_49 (fun x3 => ?_)
  refine ev_br (br_icmp_ge (tgt := 92) (pc := 50) dX10_rumour_50 (by decide)) (fun _ => ?_) (fun _ => ?_)
  · refine ev_sub (ls' := [(0, .ref (gB G + v0)), (1, .int v1), (2, .int v2), (3, .int v3), (4, .int v4), (5, .int v5)]) [0, 1, 2, 3, 4, 5] rfl ?_
    exact tX10_rumour_92 G fu h0 v0 v1 v2 v3 v4 v5 k19 hk19 h
  · refine ev_step (st_aload_n (pc := 53) (j := 0) dX10_rumour_53 rfl rfl) ?_
    refine ev_step (st_iload (pc := 54) (j := 4) dX10_rumour_54 rfl) ?_
    refine ev_step (st_iload (pc := 56) (j := 5) dX10_rumour_56 rfl) ?_
    refine ev_ck (fun ha hS => ?_)
    refine ev_callI (iv_V (As := [.int v4, .int v5]) (st := []) (pc := 58) rfl m_X10_moreBy l_X10_393 i_X10_moreBy e_X10_moreBy ha hS rfl (Nat.le_of_ble_eq_true rfl) rfl dX10_rumour_58) (tX10_moreBy G fu v0 v4 v5 h) (by decide) (by decide) (fun x5 h4 => ?_)
    refine ev_step (st_iload_n (pc := 61) (j := 3) dX10_rumour_61 rfl rfl) ?_
    refine ev_br (br_icmp_gt (tgt := 68) (pc := 62) dX10_rumour_62 (by decide)) (fun _ => ?_) (fun _ => ?_)
    · refine ev_step (st_bipush (pc := 68) dX10_rumour_68 nb_10) ?_
      refine ev_step (st_iload (pc := 70) (j := 4) dX10_rumour_70 rfl) ?_
      refine ev_step (st_imul (pc := 72) dX10_rumour_72) ?_
      refine ev_step (st_iload (pc := 73) (j := 5) dX10_rumour_73 rfl) ?_
      refine ev_step (st_iadd (pc := 75) dX10_rumour_75) ?_
      refine ev_top (fun x6 => ?_)
      refine ev_step (st_istore_n (pc := 76) (ls' := [(2, .int x6), (0, .ref (gB G + v0)), (1, .int v1), (3, .int v3), (4, .int v4), (5, .int v5)]) dX10_rumour_76 rfl (by decide) rfl) ?_
      refine ev_step (st_aload_n (pc := 77) (j := 1) dX10_rumour_77 rfl rfl) ?_
      refine ev_step (st_iload (pc := 78) (j := 4) dX10_rumour_78 rfl) ?_
      refine ev_step (st_iload (pc := 80) (j := 5) dX10_rumour_80 rfl) ?_
      refine ev_ck (fun ha hS => ?_)
      refine ev_callI (iv_V (As := [.int v4, .int v5]) (st := []) (pc := 82) rfl m_X10_moreBy l_X10_393 i_X10_moreBy e_X10_moreBy ha hS rfl (Nat.le_of_ble_eq_true rfl) rfl dX10_rumour_82) (tX10_moreBy G fu v0 v4 v5 h4) (by decide) (by decide) (fun x8 h7 => ?_)
      refine ev_step (st_istore_n (pc := 85) (ls' := [(3, .int x8), (2, .int x6), (0, .ref (gB G + v0)), (1, .int v1), (4, .int v4), (5, .int v5)]) dX10_rumour_85 rfl (by decide) rfl) ?_
      refine ev_sub (ls' := [(0, .ref (gB G + v0)), (1, .int v1), (2, .int x6), (3, .int x8), (4, .int v4), (5, .int v5)]) [2, 3, 1, 0, 4, 5] rfl ?_
      exact tX10_rumour_86 G fu h0 v0 v1 x6 x8 v4 v5 k19 hk19 k39 hk39 h7
    · refine ev_step (st_goto (pc := 65) (tgt := 86) dX10_rumour_65 (by decide)) ?_
      refine ev_sub (ls' := [(0, .ref (gB G + v0)), (1, .int v1), (2, .int v2), (3, .int v3), (4, .int v4), (5, .int v5)]) [0, 1, 2, 3, 4, 5] rfl ?_
      exact tX10_rumour_86 G fu h0 v0 v1 v2 v3 v4 v5 k19 hk19 k39 hk39 h4
set_option maxRecDepth 100000 in
set_option maxHeartbeats 4000000 in
theorem tX10_rumour_98 (G : gx) (fu : Nat) (h0 : mh) (v0 : Nat) (v1 : Int32) (v2 : Int32) (v3 : Int32) (v4 : Int32) (h : mh) : Ev lI G yX10_rumour cX10_rumour 6 (some .int) 3 h0 98 [(0, .ref (gB G + v0)), (1, .int v1), (2, .int v2), (3, .int v3), (4, .int v4)] [] h (fX10_rumour_98 fu v0 v1 v2 v3 v4 h) := by
  unfold fX10_rumour_98
  refine ev_step (st_iload_n (pc := 98) (j := 2) dX10_rumour_98 rfl rfl) ?_
  refine ev_br (br_if_lt (tgt := 106) (pc := 99) dX10_rumour_99 (by decide)) (fun _ => ?_) (fun _ => ?_)
  · refine ev_step (st_iload_n (pc := 106) (j := 2) dX10_rumour_106 rfl rfl) ?_
    refine ev_step (st_goto (pc := 107) (tgt := 111) dX10_rumour_107 (by decide)) ?_
    exact ev_iret (pc := 111) dX10_rumour_111
  · refine ev_step (st_iload_n (pc := 102) (j := 1) dX10_rumour_102 rfl rfl) ?_
    refine ev_br (br_if_ne (tgt := 110) (pc := 103) dX10_rumour_103 (by decide)) (fun _ => ?_) (fun _ => ?_)
    · refine ev_step (st_iload_n (pc := 106) (j := 2) dX10_rumour_106 rfl rfl) ?_
      refine ev_step (st_goto (pc := 107) (tgt := 111) dX10_rumour_107 (by decide)) ?_
      exact ev_iret (pc := 111) dX10_rumour_111
    · refine ev_step (st_iload_n (pc := 110) (j := 3) dX10_rumour_110 rfl rfl) ?_
      exact ev_iret (pc := 111) dX10_rumour_111
set_option maxRecDepth 100000 in
set_option maxHeartbeats 4000000 in
theorem tX10_rumour_19 (G : gx) (fu : Nat) (h0 : mh) (v0 : Nat) (v1 : Int32) (n : Nat) (v2 : Int32) (v3 : Int32) (v4 : Int32) (h : mh) : Ev lI G yX10_rumour cX10_rumour 6 (some .int) 3 h0 19 [(0, .ref (gB G + v0)), (1, .int v1), (2, .int v2), (3, .int v3), (4, .int v4)] [] h (itr (bX10_rumour_19 fu v0 v1) n (v2, v3, v4, h)) := by
  refine ev_itr (P := fun (q : Int32 × Int32 × Int32 × mh) (R9 : Option (Int32 × mh)) => Ev lI G yX10_rumour cX10_rumour 6 (some .int) 3 h0 19 [(0, .ref (gB G + v0)), (1, .int v1), (2, .int q.1), (3, .int q.2.1), (4, .int q.2.2.1)] [] q.2.2.2 R9) (fun _ => ev_none) (fun k19 hk9 q => ?_) n (v2, v3, v4, h)
  obtain ⟨v2, v3, v4, h⟩ := q
  have hk19 : ∀ (v2 : Int32) (v3 : Int32) (v4 : Int32) (h : mh), Ev lI G yX10_rumour cX10_rumour 6 (some .int) 3 h0 19 [(0, .ref (gB G + v0)), (1, .int v1), (2, .int v2), (3, .int v3), (4, .int v4)] [] h (k19 (v2, v3, v4, h)) := fun v2 v3 v4 h => hk9 (v2, v3, v4, h)
  show Ev lI G yX10_rumour cX10_rumour 6 (some .int) 3 h0 19 [(0, .ref (gB G + v0)), (1, .int v1), (2, .int v2), (3, .int v3), (4, .int v4)] [] h (bX10_rumour_19 fu v0 v1 k19 (v2, v3, v4, h))
  unfold bX10_rumour_19
  refine ev_step (st_iload (pc := 19) (j := 4) dX10_rumour_19 rfl) ?_
  refine ev_step (st_aload_n (pc := 21) (j := 0) dX10_rumour_21 rfl rfl) ?_
  refine ev_getR (pc := 22) k_X10_55 rfl dX10_rumour_22 (fun a1 => ?_)
  refine ev_step (st_aload_n (pc := 25) (j := 0) dX10_rumour_25 rfl rfl) ?_
  refine ev_getI (pc := 26) k_X10_230 rfl dX10_rumour_26 (fun x2 => ?_)
  refine ev_ldi (pc := 29) dX10_rumour_29 (fun x3 => ?_)
  refine ev_br (br_icmp_ge (tgt := 98) (pc := 30) dX10_rumour_30 (by decide)) (fun _ => ?_) (fun _ => ?_)
  · refine ev_sub (ls' := [(0, .ref (gB G + v0)), (1, .int v1), (2, .int v2), (3, .int v3), (4, .int v4)]) [0, 1, 2, 3, 4] rfl ?_
    exact tX10_rumour_98 G fu h0 v0 v1 v2 v3 v4 h
  · refine ev_step (st_iload (pc := 33) (j := 4) dX10_rumour_33 rfl) ?_
    refine ev_step (st_iconst (pc := 35) dX10_rumour_35 ni_1) ?_
    refine ev_step (st_iadd (pc := 36) dX10_rumour_36) ?_
    refine ev_top (fun x4 => ?_)
    refine ev_step (st_istore (pc := 37) (ls' := [(5, .int x4), (0, .ref (gB G + v0)), (1, .int v1), (2, .int v2), (3, .int v3), (4, .int v4)]) dX10_rumour_37 (by decide) rfl) ?_
    refine ev_sub (ls' := [(0, .ref (gB G + v0)), (1, .int v1), (2, .int v2), (3, .int v3), (4, .int v4), (5, .int x4)]) [1, 2, 3, 4, 5, 0] rfl ?_
    exact tX10_rumour_39 G fu h0 v0 v1 v4 k19 hk19 fu v2 v3 x4 h
set_option maxRecDepth 100000 in
set_option maxHeartbeats 4000000 in
theorem tX10_rumour (G : gx) (fu : Nat) (v0 : Nat) (v1 : Int32) (h : mh) : Ct lI G yX10_rumour cX10_rumour 6 (some .int) 3 [.ref (gB G + v0), .int v1] h (fX10_rumour fu v0 v1 h) := by
  refine ct_ls (ls := [(0, .ref (gB G + v0)), (1, .int v1)]) rfl (by decide) (Nat.le_of_ble_eq_true rfl) ?_
  unfold fX10_rumour
  refine ev_step (st_iload_n (pc := 0) (j := 1) dX10_rumour_0 rfl rfl) ?_
  refine ev_step (st_iconst (pc := 1) dX10_rumour_1 ni_0) ?_
  refine ev_step (st_iconst (pc := 2) dX10_rumour_2 ni_1) ?_
  refine ev_callI (iv_S (As := [.int v1, .int ((0 : Int32)), .int ((1 : Int32))]) (st := []) (pc := 3) m_X10_in l_X10_310 z_X10_in rfl (Nat.le_of_ble_eq_true rfl) rfl dX10_rumour_3) (tX10_in G fu v1 ((0 : Int32)) ((1 : Int32)) h) (by decide) (by decide) (fun x2 h1 => ?_)
  refine ev_br (br_if_ne (tgt := 11) (pc := 6) dX10_rumour_6 (by decide)) (fun _ => ?_) (fun _ => ?_)
  · refine ev_step (st_iconst (pc := 9) dX10_rumour_9 ni_m1) ?_
    exact ev_iret (pc := 10) dX10_rumour_10
  · refine ev_step (st_bipush (pc := 11) dX10_rumour_11 nb_m2) ?_
    refine ev_step (st_istore_n (pc := 13) (ls' := [(2, .int ((-2 : Int32))), (0, .ref (gB G + v0)), (1, .int v1)]) dX10_rumour_13 rfl (by decide) rfl) ?_
    refine ev_step (st_iconst (pc := 14) dX10_rumour_14 ni_0) ?_
    refine ev_step (st_istore_n (pc := 15) (ls' := [(3, .int ((0 : Int32))), (2, .int ((-2 : Int32))), (0, .ref (gB G + v0)), (1, .int v1)]) dX10_rumour_15 rfl (by decide) rfl) ?_
    refine ev_step (st_iconst (pc := 16) dX10_rumour_16 ni_0) ?_
    refine ev_step (st_istore (pc := 17) (ls' := [(4, .int ((0 : Int32))), (3, .int ((0 : Int32))), (2, .int ((-2 : Int32))), (0, .ref (gB G + v0)), (1, .int v1)]) dX10_rumour_17 (by decide) rfl) ?_
    refine ev_sub (ls' := [(0, .ref (gB G + v0)), (1, .int v1), (2, .int ((-2 : Int32))), (3, .int ((0 : Int32))), (4, .int ((0 : Int32)))]) [3, 4, 2, 1, 0] rfl ?_
    exact tX10_rumour_19 G fu h v0 v1 fu ((-2 : Int32)) ((0 : Int32)) ((0 : Int32)) h1
set_option maxRecDepth 100000 in
set_option maxHeartbeats 4000000 in
theorem tX10_doTalks_126 (G : gx) (fu : Nat) (h0 : mh) (v0 : Nat) (v1 : Int32) (v2 : Int32) (v3 : Int32) (v4 : Int32) (h : mh) : Ev lI G yX10_doTalks cX10_doTalks 8 (some .boolean) 3 h0 126 [(0, .ref (gB G + v0)), (1, .int v1), (2, .int v2), (3, .int v3), (4, .int v4)] [] h (fX10_doTalks_126 fu v0 v1 v2 v3 v4 h) := by
  unfold fX10_doTalks_126
  refine ev_step (st_aload_n (pc := 126) (j := 0) dX10_doTalks_126 rfl rfl) ?_
  refine ev_getR (pc := 127) k_X10_61 rfl dX10_doTalks_127 (fun a1 => ?_)
  refine ev_step (st_bipush (pc := 130) dX10_doTalks_130 nb_6) ?_
  refine ev_step (st_aload_n (pc := 132) (j := 0) dX10_doTalks_132 rfl rfl) ?_
  refine ev_getI (pc := 133) k_X10_230 rfl dX10_doTalks_133 (fun x2 => ?_)
  refine ev_step (st_imul (pc := 136) dX10_doTalks_136) ?_
  refine ev_step (st_iload_n (pc := 137) (j := 1) dX10_doTalks_137 rfl rfl) ?_
  refine ev_step (st_iadd (pc := 138) dX10_doTalks_138) ?_
  refine ev_ldi (pc := 139) dX10_doTalks_139 (fun x3 => ?_)
  refine ev_step (st_aload_n (pc := 140) (j := 0) dX10_doTalks_140 rfl rfl) ?_
  refine ev_getR (pc := 141) k_X10_134 rfl dX10_doTalks_141 (fun a4 => ?_)
  refine ev_step (st_iload_n (pc := 144) (j := 1) dX10_doTalks_144 rfl rfl) ?_
  refine ev_ldi (pc := 145) dX10_doTalks_145 (fun x5 => ?_)
  refine ev_step (st_iconst (pc := 146) dX10_doTalks_146 ni_m1) ?_
  refine ev_step (st_ixor (pc := 147) dX10_doTalks_147) ?_
  refine ev_step (st_iand (pc := 148) dX10_doTalks_148) ?_
  refine ev_br (br_if_ne (tgt := 156) (pc := 149) dX10_doTalks_149 (by decide)) (fun _ => ?_) (fun _ => ?_)
  · refine ev_step (st_iconst (pc := 152) dX10_doTalks_152 ni_1) ?_
    refine ev_step (st_goto (pc := 153) (tgt := 157) dX10_doTalks_153 (by decide)) ?_
    exact ev_zret (pc := 157) dX10_doTalks_157
  · refine ev_step (st_iconst (pc := 156) dX10_doTalks_156 ni_0) ?_
    exact ev_zret (pc := 157) dX10_doTalks_157
set_option maxRecDepth 100000 in
set_option maxHeartbeats 4000000 in
theorem tX10_doTalks_38 (G : gx) (fu : Nat) (h0 : mh) (v0 : Nat) (v1 : Int32) (v2 : Int32) (v3 : Int32) (n : Nat) (v4 : Int32) (h : mh) : Ev lI G yX10_doTalks cX10_doTalks 8 (some .boolean) 3 h0 38 [(0, .ref (gB G + v0)), (1, .int v1), (2, .int v2), (3, .int v3), (4, .int v4)] [] h (itr (bX10_doTalks_38 fu v0 v1 v2 v3) n (v4, h)) := by
  refine ev_itr (P := fun (q : Int32 × mh) (R9 : Option (Int32 × mh)) => Ev lI G yX10_doTalks cX10_doTalks 8 (some .boolean) 3 h0 38 [(0, .ref (gB G + v0)), (1, .int v1), (2, .int v2), (3, .int v3), (4, .int q.1)] [] q.2 R9) (fun _ => ev_none) (fun k38 hk9 q => ?_) n (v4, h)
  obtain ⟨v4, h⟩ := q
  have hk38 : ∀ (v4 : Int32) (h : mh), Ev lI G yX10_doTalks cX10_doTalks 8 (some .boolean) 3 h0 38 [(0, .ref (gB G + v0)), (1, .int v1), (2, .int v2), (3, .int v3), (4, .int v4)] [] h (k38 (v4, h)) := fun v4 h => hk9 (v4, h)
  show Ev lI G yX10_doTalks cX10_doTalks 8 (some .boolean) 3 h0 38 [(0, .ref (gB G + v0)), (1, .int v1), (2, .int v2), (3, .int v3), (4, .int v4)] [] h (bX10_doTalks_38 fu v0 v1 v2 v3 k38 (v4, h))
  unfold bX10_doTalks_38
  refine ev_step (st_iload (pc := 38) (j := 4) dX10_doTalks_38 rfl) ?_
  refine ev_br (br_if_lt (tgt := 126) (pc := 40) dX10_doTalks_40 (by decide)) (fun _ => ?_) (fun _ => ?_)
  · refine ev_sub (ls' := [(0, .ref (gB G + v0)), (1, .int v1), (2, .int v2), (3, .int v3), (4, .int v4)]) [0, 1, 2, 3, 4] rfl ?_
    exact tX10_doTalks_126 G fu h0 v0 v1 v2 v3 v4 h
  · refine ev_step (st_iload_n (pc := 43) (j := 2) dX10_doTalks_43 rfl rfl) ?_
    refine ev_step (st_bipush (pc := 44) dX10_doTalks_44 nb_36) ?_
    refine ev_step (st_iload (pc := 46) (j := 4) dX10_doTalks_46 rfl) ?_
    refine ev_callI (iv_S (As := [.int ((36 : Int32)), .int v4]) (st := [.int v2]) (pc := 48) m_X10_power l_X10_417 z_X10_power rfl (Nat.le_of_ble_eq_true rfl) rfl dX10_doTalks_48) (tX10_power G fu ((36 : Int32)) v4 h) (by decide) (by decide) (fun x2 h1 => ?_)
    refine ev_div (pc := 51) dX10_doTalks_51 (fun x3 => ?_)
    refine ev_step (st_bipush (pc := 52) dX10_doTalks_52 nb_36) ?_
    refine ev_rem (pc := 54) dX10_doTalks_54 (fun x4 => ?_)
    refine ev_step (st_istore (pc := 55) (ls' := [(5, .int x4), (0, .ref (gB G + v0)), (1, .int v1), (2, .int v2), (3, .int v3), (4, .int v4)]) dX10_doTalks_55 (by decide) rfl) ?_
    refine ev_step (st_iload (pc := 57) (j := 0) dX10_doTalks_57 rfl) ?_
    refine ev_step (st_bipush (pc := 59) dX10_doTalks_59 nb_6) ?_
    refine ev_div (pc := 61) dX10_doTalks_61 (fun x5 => ?_)
    refine ev_step (st_istore (pc := 62) (ls' := [(6, .int x5), (5, .int x4), (0, .ref (gB G + v0)), (1, .int v1), (2, .int v2), (3, .int v3), (4, .int v4)]) dX10_doTalks_62 (by decide) rfl) ?_
    refine ev_step (st_iload (pc := 64) (j := 1) dX10_doTalks_64 rfl) ?_
    refine ev_step (st_bipush (pc := 66) dX10_doTalks_66 nb_6) ?_
    refine ev_rem (pc := 68) dX10_doTalks_68 (fun x6 => ?_)
    refine ev_step (st_istore (pc := 69) (ls' := [(7, .int x6), (6, .int x5), (5, .int x4), (0, .ref (gB G + v0)), (1, .int v1), (2, .int v2), (3, .int v3), (4, .int v4)]) dX10_doTalks_69 (by decide) rfl) ?_
    refine ev_step (st_iload (pc := 71) (j := 1) dX10_doTalks_71 rfl) ?_
    refine ev_step (st_iload (pc := 73) (j := 0) dX10_doTalks_73 rfl) ?_
    refine ev_br (br_icmp_ge (tgt := 87) (pc := 75) dX10_doTalks_75 (by decide)) (fun _ => ?_) (fun _ => ?_)
    · refine ev_step (st_iconst (pc := 87) dX10_doTalks_87 ni_0) ?_
      exact ev_zret (pc := 88) dX10_doTalks_88
    · refine ev_step (st_aload_n (pc := 78) (j := 3) dX10_doTalks_78 rfl rfl) ?_
      refine ev_step (st_iload (pc := 79) (j := 0) dX10_doTalks_79 rfl) ?_
      refine ev_ck (fun ha hS => ?_)
      refine ev_callI (iv_V (As := [.int x6]) (st := []) (pc := 81) rfl m_X10_isListener l_X10_384 i_X10_isListener e_X10_isListener ha hS rfl (Nat.le_of_ble_eq_true rfl) rfl dX10_doTalks_81) (tX10_isListener G fu v0 x6 h1) (by decide) (by decide) (fun x8 h7 => ?_)
      refine ev_br (br_if_ne (tgt := 89) (pc := 84) dX10_doTalks_84 (by decide)) (fun _ => ?_) (fun _ => ?_)
      · refine ev_step (st_iconst (pc := 87) dX10_doTalks_87 ni_0) ?_
        exact ev_zret (pc := 88) dX10_doTalks_88
      · refine ev_step (st_aload_n (pc := 89) (j := 3) dX10_doTalks_89 rfl rfl) ?_
        refine ev_getR (pc := 90) k_X10_134 rfl dX10_doTalks_90 (fun a9 => ?_)
        refine ev_step (st_iload (pc := 93) (j := 1) dX10_doTalks_93 rfl) ?_
        refine ev_step (st_dup2 (pc := 95) dX10_doTalks_95 rfl rfl) ?_
        refine ev_ldi (pc := 96) dX10_doTalks_96 (fun x10 => ?_)
        refine ev_step (st_aload_n (pc := 97) (j := 3) dX10_doTalks_97 rfl rfl) ?_
        refine ev_getR (pc := 98) k_X10_134 rfl dX10_doTalks_98 (fun a11 => ?_)
        refine ev_step (st_iload (pc := 101) (j := 0) dX10_doTalks_101 rfl) ?_
        refine ev_ldi (pc := 103) dX10_doTalks_103 (fun x12 => ?_)
        refine ev_step (st_ior (pc := 104) dX10_doTalks_104) ?_
        refine ev_sti (pc := 105) dX10_doTalks_105 (fun h13 => ?_)
        refine ev_step (st_aload_n (pc := 106) (j := 3) dX10_doTalks_106 rfl rfl) ?_
        refine ev_getR (pc := 107) k_X10_134 rfl dX10_doTalks_107 (fun a14 => ?_)
        refine ev_step (st_iload (pc := 110) (j := 0) dX10_doTalks_110 rfl) ?_
        refine ev_step (st_aload_n (pc := 112) (j := 3) dX10_doTalks_112 rfl rfl) ?_
        refine ev_getR (pc := 113) k_X10_134 rfl dX10_doTalks_113 (fun a15 => ?_)
        refine ev_step (st_iload (pc := 116) (j := 1) dX10_doTalks_116 rfl) ?_
        refine ev_ldi (pc := 118) dX10_doTalks_118 (fun x16 => ?_)
        refine ev_sti (pc := 119) dX10_doTalks_119 (fun h17 => ?_)
        refine ev_step (st_inc (pc := 120) (j := 7) (ls' := [(4, .int (v4 + (-1 : Int32))), (7, .int x6), (6, .int x5), (5, .int x4), (0, .ref (gB G + v0)), (1, .int v1), (2, .int v2), (3, .int v3)]) dX10_doTalks_120 rfl ni_m1 (by decide) rfl) ?_
        refine ev_step (st_goto (pc := 123) (tgt := 38) dX10_doTalks_123 (by decide)) ?_
        refine ev_sub (ls' := [(0, .ref (gB G + v0)), (1, .int v1), (2, .int v2), (3, .int v3), (4, .int (v4 + (-1 : Int32)))]) [4, 5, 6, 7, 0] rfl ?_
        exact hk38 (v4 + (-1 : Int32)) h17
set_option maxRecDepth 100000 in
set_option maxHeartbeats 4000000 in
theorem tX10_doTalks_33 (G : gx) (fu : Nat) (h0 : mh) (v0 : Nat) (v1 : Int32) (v2 : Int32) (v3 : Int32) (v4 : Int32) (h : mh) : Ev lI G yX10_doTalks cX10_doTalks 8 (some .boolean) 3 h0 33 [(0, .ref (gB G + v0)), (1, .int v1), (2, .int v2), (3, .int v3), (4, .int v4)] [] h (fX10_doTalks_33 fu v0 v1 v2 v3 v4 h) := by
  unfold fX10_doTalks_33
  refine ev_step (st_iload_n (pc := 33) (j := 3) dX10_doTalks_33 rfl rfl) ?_
  refine ev_step (st_iconst (pc := 34) dX10_doTalks_34 ni_1) ?_
  refine ev_step (st_isub (pc := 35) dX10_doTalks_35) ?_
  refine ev_top (fun x1 => ?_)
  refine ev_step (st_istore (pc := 36) (ls' := [(4, .int x1), (0, .ref (gB G + v0)), (1, .int v1), (2, .int v2), (3, .int v3)]) dX10_doTalks_36 (by decide) rfl) ?_
  refine ev_sub (ls' := [(0, .ref (gB G + v0)), (1, .int v1), (2, .int v2), (3, .int v3), (4, .int x1)]) [1, 2, 3, 4, 0] rfl ?_
  exact tX10_doTalks_38 G fu h0 v0 v1 v2 v3 fu x1 h
set_option maxRecDepth 100000 in
set_option maxHeartbeats 4000000 in
theorem tX10_doTalks_3 (G : gx) (fu : Nat) (h0 : mh) (v0 : Nat) (v1 : Int32) (v2 : Int32) (v3 : Int32) (n : Nat) (v4 : Int32) (h : mh) : Ev lI G yX10_doTalks cX10_doTalks 8 (some .boolean) 3 h0 3 [(0, .ref (gB G + v0)), (1, .int v1), (2, .int v2), (3, .int v3), (4, .int v4)] [] h (itr (bX10_doTalks_3 fu v0 v1 v2 v3) n (v4, h)) := by
  refine ev_itr (P := fun (q : Int32 × mh) (R9 : Option (Int32 × mh)) => Ev lI G yX10_doTalks cX10_doTalks 8 (some .boolean) 3 h0 3 [(0, .ref (gB G + v0)), (1, .int v1), (2, .int v2), (3, .int v3), (4, .int q.1)] [] q.2 R9) (fun _ => ev_none) (fun k3 hk9 q => ?_) n (v4, h)
  obtain ⟨v4, h⟩ := q
  have hk3 : ∀ (v4 : Int32) (h : mh), Ev lI G yX10_doTalks cX10_doTalks 8 (some .boolean) 3 h0 3 [(0, .ref (gB G + v0)), (1, .int v1), (2, .int v2), (3, .int v3), (4, .int v4)] [] h (k3 (v4, h)) := fun v4 h => hk9 (v4, h)
  show Ev lI G yX10_doTalks cX10_doTalks 8 (some .boolean) 3 h0 3 [(0, .ref (gB G + v0)), (1, .int v1), (2, .int v2), (3, .int v3), (4, .int v4)] [] h (bX10_doTalks_3 fu v0 v1 v2 v3 k3 (v4, h))
  unfold bX10_doTalks_3
  refine ev_step (st_iload (pc := 3) (j := 4) dX10_doTalks_3 rfl) ?_
  refine ev_step (st_bipush (pc := 5) dX10_doTalks_5 nb_6) ?_
  refine ev_br (br_icmp_ge (tgt := 33) (pc := 7) dX10_doTalks_7 (by decide)) (fun _ => ?_) (fun _ => ?_)
  · refine ev_sub (ls' := [(0, .ref (gB G + v0)), (1, .int v1), (2, .int v2), (3, .int v3), (4, .int v4)]) [0, 1, 2, 3, 4] rfl ?_
    exact tX10_doTalks_33 G fu h0 v0 v1 v2 v3 v4 h
  · refine ev_step (st_aload_n (pc := 10) (j := 0) dX10_doTalks_10 rfl rfl) ?_
    refine ev_getR (pc := 11) k_X10_134 rfl dX10_doTalks_11 (fun a1 => ?_)
    refine ev_step (st_iload (pc := 14) (j := 4) dX10_doTalks_14 rfl) ?_
    refine ev_step (st_aload_n (pc := 16) (j := 0) dX10_doTalks_16 rfl rfl) ?_
    refine ev_getR (pc := 17) k_X10_119 rfl dX10_doTalks_17 (fun a2 => ?_)
    refine ev_step (st_bipush (pc := 20) dX10_doTalks_20 nb_12) ?_
    refine ev_step (st_iload (pc := 22) (j := 4) dX10_doTalks_22 rfl) ?_
    refine ev_step (st_iadd (pc := 24) dX10_doTalks_24) ?_
    refine ev_ldi (pc := 25) dX10_doTalks_25 (fun x3 => ?_)
    refine ev_sti (pc := 26) dX10_doTalks_26 (fun h4 => ?_)
    refine ev_step (st_inc (pc := 27) (j := 4) (ls' := [(4, .int (v4 + (1 : Int32))), (0, .ref (gB G + v0)), (1, .int v1), (2, .int v2), (3, .int v3)]) dX10_doTalks_27 rfl ni_1 (by decide) rfl) ?_
    refine ev_step (st_goto (pc := 30) (tgt := 3) dX10_doTalks_30 (by decide)) ?_
    refine ev_sub (ls' := [(0, .ref (gB G + v0)), (1, .int v1), (2, .int v2), (3, .int v3), (4, .int (v4 + (1 : Int32)))]) [1, 2, 3, 4, 0] rfl ?_
    exact hk3 (v4 + (1 : Int32)) h4
set_option maxRecDepth 100000 in
set_option maxHeartbeats 4000000 in
theorem tX10_doTalks (G : gx) (fu : Nat) (v0 : Nat) (v1 : Int32) (v2 : Int32) (v3 : Int32) (h : mh) : Ct lI G yX10_doTalks cX10_doTalks 8 (some .boolean) 3 [.ref (gB G + v0), .int v1, .int v2, .int v3] h (fX10_doTalks fu v0 v1 v2 v3 h) := by
  refine ct_ls (ls := [(0, .ref (gB G + v0)), (1, .int v1), (2, .int v2), (3, .int v3)]) rfl (by decide) (Nat.le_of_ble_eq_true rfl) ?_
  unfold fX10_doTalks
  refine ev_step (st_iconst (pc := 0) dX10_doTalks_0 ni_0) ?_
  refine ev_step (st_istore (pc := 1) (ls' := [(4, .int ((0 : Int32))), (0, .ref (gB G + v0)), (1, .int v1), (2, .int v2), (3, .int v3)]) dX10_doTalks_1 (by decide) rfl) ?_
  refine ev_sub (ls' := [(0, .ref (gB G + v0)), (1, .int v1), (2, .int v2), (3, .int v3), (4, .int ((0 : Int32)))]) [1, 2, 3, 4, 0] rfl ?_
  exact tX10_doTalks_3 G fu h v0 v1 v2 v3 fu ((0 : Int32)) h
set_option maxRecDepth 100000 in
set_option maxHeartbeats 4000000 in
theorem tX10_talks_47 (G : gx) (fu : Nat) (h0 : mh) (v0 : Nat) (v1 : Int32) (v2 : Int32) (v3 : Int32) (k12 : Int32 × mh → Option (Int32 × mh)) (hk12 : ∀ (v2 : Int32) (h : mh), Ev lI G yX10_talks cX10_talks 4 (some .int) 4 h0 12 [(0, .ref (gB G + v0)), (1, .int v1), (2, .int v2)] [] h (k12 (v2, h))) (h : mh) : Ev lI G yX10_talks cX10_talks 4 (some .int) 4 h0 47 [(0, .ref (gB G + v0)), (1, .int v1), (2, .int v2), (3, .int v3)] [] h (fX10_talks_47 fu k12 v0 v1 v2 v3 h) := by
  unfold fX10_talks_47
  refine ev_step (st_inc (pc := 47) (j := 2) (ls' := [(2, .int (v2 + (1 : Int32))), (0, .ref (gB G + v0)), (1, .int v1), (3, .int v3)]) dX10_talks_47 rfl ni_1 (by decide) rfl) ?_
  refine ev_step (st_goto (pc := 50) (tgt := 12) dX10_talks_50 (by decide)) ?_
  refine ev_sub (ls' := [(0, .ref (gB G + v0)), (1, .int v1), (2, .int (v2 + (1 : Int32)))]) [1, 2, 0] rfl ?_
  exact hk12 (v2 + (1 : Int32)) h
set_option maxRecDepth 100000 in
set_option maxHeartbeats 4000000 in
theorem tX10_talks_19 (G : gx) (fu : Nat) (h0 : mh) (v0 : Nat) (v1 : Int32) (v2 : Int32) (k12 : Int32 × mh → Option (Int32 × mh)) (hk12 : ∀ (v2 : Int32) (h : mh), Ev lI G yX10_talks cX10_talks 4 (some .int) 4 h0 12 [(0, .ref (gB G + v0)), (1, .int v1), (2, .int v2)] [] h (k12 (v2, h))) (n : Nat) (v3 : Int32) (h : mh) : Ev lI G yX10_talks cX10_talks 4 (some .int) 4 h0 19 [(0, .ref (gB G + v0)), (1, .int v1), (2, .int v2), (3, .int v3)] [] h (itr (bX10_talks_19 fu k12 v0 v1 v2) n (v3, h)) := by
  refine ev_itr (P := fun (q : Int32 × mh) (R9 : Option (Int32 × mh)) => Ev lI G yX10_talks cX10_talks 4 (some .int) 4 h0 19 [(0, .ref (gB G + v0)), (1, .int v1), (2, .int v2), (3, .int q.1)] [] q.2 R9) (fun _ => ev_none) (fun k19 hk9 q => ?_) n (v3, h)
  obtain ⟨v3, h⟩ := q
  have hk19 : ∀ (v3 : Int32) (h : mh), Ev lI G yX10_talks cX10_talks 4 (some .int) 4 h0 19 [(0, .ref (gB G + v0)), (1, .int v1), (2, .int v2), (3, .int v3)] [] h (k19 (v3, h)) := fun v3 h => hk9 (v3, h)
  show Ev lI G yX10_talks cX10_talks 4 (some .int) 4 h0 19 [(0, .ref (gB G + v0)), (1, .int v1), (2, .int v2), (3, .int v3)] [] h (bX10_talks_19 fu k12 v0 v1 v2 k19 (v3, h))
  unfold bX10_talks_19
  refine ev_step (st_iload_n (pc := 19) (j := 3) dX10_talks_19 rfl rfl) ?_
  refine ev_step (st_bipush (pc := 20) dX10_talks_20 nb_36) ?_
  refine ev_step (st_iload_n (pc := 22) (j := 2) dX10_talks_22 rfl rfl) ?_
  refine ev_callI (iv_S (As := [.int ((36 : Int32)), .int v2]) (st := [.int v3]) (pc := 23) m_X10_power l_X10_417 z_X10_power rfl (Nat.le_of_ble_eq_true rfl) rfl dX10_talks_23) (tX10_power G fu ((36 : Int32)) v2 h) (by decide) (by decide) (fun x2 h1 => ?_)
  refine ev_br (br_icmp_ge (tgt := 47) (pc := 26) dX10_talks_26 (by decide)) (fun _ => ?_) (fun _ => ?_)
  · refine ev_sub (ls' := [(0, .ref (gB G + v0)), (1, .int v1), (2, .int v2), (3, .int v3)]) [0, 1, 2, 3] rfl ?_
    exact tX10_talks_47 G fu h0 v0 v1 v2 v3 k12 hk12 h1
  · refine ev_step (st_aload_n (pc := 29) (j := 0) dX10_talks_29 rfl rfl) ?_
    refine ev_step (st_iload_n (pc := 30) (j := 1) dX10_talks_30 rfl rfl) ?_
    refine ev_step (st_iload_n (pc := 31) (j := 3) dX10_talks_31 rfl rfl) ?_
    refine ev_step (st_iload_n (pc := 32) (j := 2) dX10_talks_32 rfl rfl) ?_
    refine ev_ck (fun ha hS => ?_)
    refine ev_callI (iv_V (As := [.int v1, .int v3, .int v2]) (st := []) (pc := 33) rfl m_X10_doTalks l_X10_448 i_X10_doTalks e_X10_doTalks ha hS rfl (Nat.le_of_ble_eq_true rfl) rfl dX10_talks_33) (tX10_doTalks G fu v0 v1 v3 v2 h1) (by decide) (by decide) (fun x4 h3 => ?_)
    refine ev_br (br_if_eq (tgt := 41) (pc := 36) dX10_talks_36 (by decide)) (fun _ => ?_) (fun _ => ?_)
    · refine ev_step (st_inc (pc := 41) (j := 3) (ls' := [(3, .int (v3 + (1 : Int32))), (0, .ref (gB G + v0)), (1, .int v1), (2, .int v2)]) dX10_talks_41 rfl ni_1 (by decide) rfl) ?_
      refine ev_step (st_goto (pc := 44) (tgt := 19) dX10_talks_44 (by decide)) ?_
      refine ev_sub (ls' := [(0, .ref (gB G + v0)), (1, .int v1), (2, .int v2), (3, .int (v3 + (1 : Int32)))]) [1, 2, 3, 0] rfl ?_
      exact hk19 (v3 + (1 : Int32)) h3
    · refine ev_step (st_iload_n (pc := 39) (j := 2) dX10_talks_39 rfl rfl) ?_
      exact ev_iret (pc := 40) dX10_talks_40
set_option maxRecDepth 100000 in
set_option maxHeartbeats 4000000 in
theorem tX10_talks_12 (G : gx) (fu : Nat) (h0 : mh) (v0 : Nat) (v1 : Int32) (n : Nat) (v2 : Int32) (h : mh) : Ev lI G yX10_talks cX10_talks 4 (some .int) 4 h0 12 [(0, .ref (gB G + v0)), (1, .int v1), (2, .int v2)] [] h (itr (bX10_talks_12 fu v0 v1) n (v2, h)) := by
  refine ev_itr (P := fun (q : Int32 × mh) (R9 : Option (Int32 × mh)) => Ev lI G yX10_talks cX10_talks 4 (some .int) 4 h0 12 [(0, .ref (gB G + v0)), (1, .int v1), (2, .int q.1)] [] q.2 R9) (fun _ => ev_none) (fun k12 hk9 q => ?_) n (v2, h)
  obtain ⟨v2, h⟩ := q
  have hk12 : ∀ (v2 : Int32) (h : mh), Ev lI G yX10_talks cX10_talks 4 (some .int) 4 h0 12 [(0, .ref (gB G + v0)), (1, .int v1), (2, .int v2)] [] h (k12 (v2, h)) := fun v2 h => hk9 (v2, h)
  show Ev lI G yX10_talks cX10_talks 4 (some .int) 4 h0 12 [(0, .ref (gB G + v0)), (1, .int v1), (2, .int v2)] [] h (bX10_talks_12 fu v0 v1 k12 (v2, h))
  unfold bX10_talks_12
  refine ev_step (st_iload_n (pc := 12) (j := 2) dX10_talks_12 rfl rfl) ?_
  refine ev_step (st_iconst (pc := 13) dX10_talks_13 ni_3) ?_
  refine ev_br (br_icmp_gt (tgt := 53) (pc := 14) dX10_talks_14 (by decide)) (fun _ => ?_) (fun _ => ?_)
  · refine ev_step (st_bipush (pc := 53) dX10_talks_53 nb_m2) ?_
    exact ev_iret (pc := 55) dX10_talks_55
  · refine ev_step (st_iconst (pc := 17) dX10_talks_17 ni_0) ?_
    refine ev_step (st_istore_n (pc := 18) (ls' := [(3, .int ((0 : Int32))), (0, .ref (gB G + v0)), (1, .int v1), (2, .int v2)]) dX10_talks_18 rfl (by decide) rfl) ?_
    refine ev_sub (ls' := [(0, .ref (gB G + v0)), (1, .int v1), (2, .int v2), (3, .int ((0 : Int32)))]) [1, 2, 3, 0] rfl ?_
    exact tX10_talks_19 G fu h0 v0 v1 v2 k12 hk12 fu ((0 : Int32)) h
set_option maxRecDepth 100000 in
set_option maxHeartbeats 4000000 in
theorem tX10_talks (G : gx) (fu : Nat) (v0 : Nat) (v1 : Int32) (h : mh) : Ct lI G yX10_talks cX10_talks 4 (some .int) 4 [.ref (gB G + v0), .int v1] h (fX10_talks fu v0 v1 h) := by
  refine ct_ls (ls := [(0, .ref (gB G + v0)), (1, .int v1)]) rfl (by decide) (Nat.le_of_ble_eq_true rfl) ?_
  unfold fX10_talks
  refine ev_step (st_aload_n (pc := 0) (j := 0) dX10_talks_0 rfl rfl) ?_
  refine ev_step (st_iload_n (pc := 1) (j := 1) dX10_talks_1 rfl rfl) ?_
  refine ev_ck (fun ha hS => ?_)
  refine ev_callI (iv_V (As := [.int v1]) (st := []) (pc := 2) rfl m_X10_isListener l_X10_384 i_X10_isListener e_X10_isListener ha hS rfl (Nat.le_of_ble_eq_true rfl) rfl dX10_talks_2) (tX10_isListener G fu v0 v1 h) (by decide) (by decide) (fun x2 h1 => ?_)
  refine ev_br (br_if_ne (tgt := 10) (pc := 5) dX10_talks_5 (by decide)) (fun _ => ?_) (fun _ => ?_)
  · refine ev_step (st_iconst (pc := 8) dX10_talks_8 ni_m1) ?_
    exact ev_iret (pc := 9) dX10_talks_9
  · refine ev_step (st_iconst (pc := 10) dX10_talks_10 ni_0) ?_
    refine ev_step (st_istore_n (pc := 11) (ls' := [(2, .int ((0 : Int32))), (0, .ref (gB G + v0)), (1, .int v1)]) dX10_talks_11 rfl (by decide) rfl) ?_
    refine ev_sub (ls' := [(0, .ref (gB G + v0)), (1, .int v1), (2, .int ((0 : Int32)))]) [1, 2, 0] rfl ?_
    exact tX10_talks_12 G fu h v0 v1 fu ((0 : Int32)) h1
set_option maxRecDepth 100000 in
set_option maxHeartbeats 4000000 in
theorem tX10_then (G : gx) (fu : Nat) (v0 : Nat) (v1 : Int32) (v2 : Int32) (v3 : Int32) (h : mh) : Ct lI G yX10_then cX10_then 4 (some .int) 7 [.ref (gB G + v0), .int v1, .int v2, .int v3] h (fX10_then fu v0 v1 v2 v3 h) := by
  refine ct_ls (ls := [(0, .ref (gB G + v0)), (1, .int v1), (2, .int v2), (3, .int v3)]) rfl (by decide) (Nat.le_of_ble_eq_true rfl) ?_
  unfold fX10_then
  refine ev_step (st_aload_n (pc := 0) (j := 0) dX10_then_0 rfl rfl) ?_
  refine ev_step (st_iload_n (pc := 1) (j := 1) dX10_then_1 rfl rfl) ?_
  refine ev_ck (fun ha hS => ?_)
  refine ev_callI (iv_V (As := [.int v1]) (st := []) (pc := 2) rfl m_X10_isListener l_X10_384 i_X10_isListener e_X10_isListener ha hS rfl (Nat.le_of_ble_eq_true rfl) rfl dX10_then_2) (tX10_isListener G fu v0 v1 h) (by decide) (by decide) (fun x2 h1 => ?_)
  refine ev_br (br_if_eq (tgt := 24) (pc := 5) dX10_then_5 (by decide)) (fun _ => ?_) (fun _ => ?_)
  · refine ev_step (st_iconst (pc := 24) dX10_then_24 ni_m1) ?_
    exact ev_iret (pc := 25) dX10_then_25
  · refine ev_step (st_iload_n (pc := 8) (j := 2) dX10_then_8 rfl rfl) ?_
    refine ev_callI (iv_S (As := [.int v2]) (st := []) (pc := 9) m_X10_isLong l_X10_396 z_X10_isLong rfl (Nat.le_of_ble_eq_true rfl) rfl dX10_then_9) (tX10_isLong G fu v2 h1) (by decide) (by decide) (fun x4 h3 => ?_)
    refine ev_br (br_if_eq (tgt := 24) (pc := 12) dX10_then_12 (by decide)) (fun _ => ?_) (fun _ => ?_)
    · refine ev_step (st_iconst (pc := 24) dX10_then_24 ni_m1) ?_
      exact ev_iret (pc := 25) dX10_then_25
    · refine ev_step (st_iload_n (pc := 15) (j := 3) dX10_then_15 rfl rfl) ?_
      refine ev_step (st_iconst (pc := 16) dX10_then_16 ni_0) ?_
      refine ev_step (st_iconst (pc := 17) dX10_then_17 ni_1) ?_
      refine ev_callI (iv_S (As := [.int v3, .int ((0 : Int32)), .int ((1 : Int32))]) (st := []) (pc := 18) m_X10_in l_X10_310 z_X10_in rfl (Nat.le_of_ble_eq_true rfl) rfl dX10_then_18) (tX10_in G fu v3 ((0 : Int32)) ((1 : Int32)) h3) (by decide) (by decide) (fun x6 h5 => ?_)
      refine ev_br (br_if_ne (tgt := 26) (pc := 21) dX10_then_21 (by decide)) (fun _ => ?_) (fun _ => ?_)
      · refine ev_step (st_iconst (pc := 24) dX10_then_24 ni_m1) ?_
        exact ev_iret (pc := 25) dX10_then_25
      · refine ev_step (st_aload_n (pc := 26) (j := 0) dX10_then_26 rfl rfl) ?_
        refine ev_ck (fun ha hS => ?_)
        refine ev_callV (iv_V (As := []) (st := []) (pc := 27) rfl m_X10_copies l_X10_320 i_X10_copies e_X10_copies ha hS rfl (Nat.le_of_ble_eq_true rfl) rfl dX10_then_27) (tX10_copies G fu v0 h5) (by decide) (by decide) (fun h7 => ?_)
        refine ev_step (st_aload_n (pc := 30) (j := 0) dX10_then_30 rfl rfl) ?_
        refine ev_step (st_iload_n (pc := 31) (j := 2) dX10_then_31 rfl rfl) ?_
        refine ev_ck (fun ha hS => ?_)
        refine ev_callV (iv_V (As := [.int v2]) (st := []) (pc := 32) rfl m_X10_goes l_X10_399 i_X10_goes e_X10_goes ha hS rfl (Nat.le_of_ble_eq_true rfl) rfl dX10_then_32) (tX10_goes G fu v0 v2 h7) (by decide) (by decide) (fun h8 => ?_)
        refine ev_step (st_aload_n (pc := 35) (j := 0) dX10_then_35 rfl rfl) ?_
        refine ev_getR (pc := 36) k_X10_122 rfl dX10_then_36 (fun a9 => ?_)
        refine ev_step (st_bipush (pc := 39) dX10_then_39 nb_12) ?_
        refine ev_step (st_bipush (pc := 41) dX10_then_41 nb_6) ?_
        refine ev_step (st_iload_n (pc := 43) (j := 3) dX10_then_43 rfl rfl) ?_
        refine ev_step (st_imul (pc := 44) dX10_then_44) ?_
        refine ev_step (st_iadd (pc := 45) dX10_then_45) ?_
        refine ev_step (st_iload_n (pc := 46) (j := 1) dX10_then_46 rfl rfl) ?_
        refine ev_step (st_iadd (pc := 47) dX10_then_47) ?_
        refine ev_ldi (pc := 48) dX10_then_48 (fun x10 => ?_)
        exact ev_iret (pc := 49) dX10_then_49
set_option maxRecDepth 100000 in
set_option maxHeartbeats 4000000 in
theorem tX10_quietIn (G : gx) (fu : Nat) (v0 : Nat) (v1 : Int32) (v2 : Int32) (h : mh) : Ct lI G yX10_quietIn cX10_quietIn 3 (some .int) 7 [.ref (gB G + v0), .int v1, .int v2] h (fX10_quietIn fu v0 v1 v2 h) := by
  refine ct_ls (ls := [(0, .ref (gB G + v0)), (1, .int v1), (2, .int v2)]) rfl (by decide) (Nat.le_of_ble_eq_true rfl) ?_
  unfold fX10_quietIn
  refine ev_step (st_aload_n (pc := 0) (j := 0) dX10_quietIn_0 rfl rfl) ?_
  refine ev_step (st_iload_n (pc := 1) (j := 1) dX10_quietIn_1 rfl rfl) ?_
  refine ev_ck (fun ha hS => ?_)
  refine ev_callI (iv_V (As := [.int v1]) (st := []) (pc := 2) rfl m_X10_isRole l_X10_381 i_X10_isRole e_X10_isRole ha hS rfl (Nat.le_of_ble_eq_true rfl) rfl dX10_quietIn_2) (tX10_isRole G fu v0 v1 h) (by decide) (by decide) (fun x2 h1 => ?_)
  refine ev_br (br_if_eq (tgt := 15) (pc := 5) dX10_quietIn_5 (by decide)) (fun _ => ?_) (fun _ => ?_)
  · refine ev_step (st_iconst (pc := 15) dX10_quietIn_15 ni_m1) ?_
    exact ev_iret (pc := 16) dX10_quietIn_16
  · refine ev_step (st_iload_n (pc := 8) (j := 2) dX10_quietIn_8 rfl rfl) ?_
    refine ev_callI (iv_S (As := [.int v2]) (st := []) (pc := 9) m_X10_isLong l_X10_396 z_X10_isLong rfl (Nat.le_of_ble_eq_true rfl) rfl dX10_quietIn_9) (tX10_isLong G fu v2 h1) (by decide) (by decide) (fun x4 h3 => ?_)
    refine ev_br (br_if_ne (tgt := 17) (pc := 12) dX10_quietIn_12 (by decide)) (fun _ => ?_) (fun _ => ?_)
    · refine ev_step (st_iconst (pc := 15) dX10_quietIn_15 ni_m1) ?_
      exact ev_iret (pc := 16) dX10_quietIn_16
    · refine ev_step (st_aload_n (pc := 17) (j := 0) dX10_quietIn_17 rfl rfl) ?_
      refine ev_ck (fun ha hS => ?_)
      refine ev_callV (iv_V (As := []) (st := []) (pc := 18) rfl m_X10_copies l_X10_320 i_X10_copies e_X10_copies ha hS rfl (Nat.le_of_ble_eq_true rfl) rfl dX10_quietIn_18) (tX10_copies G fu v0 h3) (by decide) (by decide) (fun h5 => ?_)
      refine ev_step (st_aload_n (pc := 21) (j := 0) dX10_quietIn_21 rfl rfl) ?_
      refine ev_step (st_iload_n (pc := 22) (j := 2) dX10_quietIn_22 rfl rfl) ?_
      refine ev_ck (fun ha hS => ?_)
      refine ev_callV (iv_V (As := [.int v2]) (st := []) (pc := 23) rfl m_X10_goes l_X10_399 i_X10_goes e_X10_goes ha hS rfl (Nat.le_of_ble_eq_true rfl) rfl dX10_quietIn_23) (tX10_goes G fu v0 v2 h5) (by decide) (by decide) (fun h6 => ?_)
      refine ev_step (st_aload_n (pc := 26) (j := 0) dX10_quietIn_26 rfl rfl) ?_
      refine ev_getR (pc := 27) k_X10_122 rfl dX10_quietIn_27 (fun a7 => ?_)
      refine ev_step (st_bipush (pc := 30) dX10_quietIn_30 nb_6) ?_
      refine ev_step (st_iload_n (pc := 32) (j := 1) dX10_quietIn_32 rfl rfl) ?_
      refine ev_step (st_iadd (pc := 33) dX10_quietIn_33) ?_
      refine ev_ldi (pc := 34) dX10_quietIn_34 (fun x8 => ?_)
      exact ev_iret (pc := 35) dX10_quietIn_35
set_option maxRecDepth 100000 in
set_option maxHeartbeats 4000000 in
theorem tX10_sure_95 (G : gx) (fu : Nat) (h0 : mh) (v0 : Nat) (v1 : Int32) (v2 : Int32) (v3 : Int32) (v4 : Int32) (v5 : Int32) (v6 : Int32) (v7 : Int32) (k42 : Int32 × Int32 × mh → Option (Int32 × mh)) (hk42 : ∀ (v5 : Int32) (v6 : Int32) (h : mh), Ev lI G yX10_sure cX10_sure 8 (some .int) 7 h0 42 [(0, .ref (gB G + v0)), (1, .int v1), (2, .int v2), (3, .int v3), (4, .int v4), (5, .int v5), (6, .int v6)] [] h (k42 (v5, v6, h))) (h : mh) : Ev lI G yX10_sure cX10_sure 8 (some .int) 7 h0 95 [(0, .ref (gB G + v0)), (1, .int v1), (2, .int v2), (3, .int v3), (4, .int v4), (5, .int v5), (6, .int v6), (7, .int v7)] [] h (fX10_sure_95 fu k42 v0 v1 v2 v3 v4 v5 v6 v7 h) := by
  unfold fX10_sure_95
  refine ev_step (st_inc (pc := 95) (j := 6) (ls' := [(6, .int (v6 + (1 : Int32))), (0, .ref (gB G + v0)), (1, .int v1), (2, .int v2), (3, .int v3), (4, .int v4), (5, .int v5), (7, .int v7)]) dX10_sure_95 rfl ni_1 (by decide) rfl) ?_
  refine ev_step (st_goto (pc := 98) (tgt := 42) dX10_sure_98 (by decide)) ?_
  refine ev_sub (ls' := [(0, .ref (gB G + v0)), (1, .int v1), (2, .int v2), (3, .int v3), (4, .int v4), (5, .int v5), (6, .int (v6 + (1 : Int32)))]) [1, 2, 3, 4, 5, 6, 0] rfl ?_
  exact hk42 v5 (v6 + (1 : Int32)) h
set_option maxRecDepth 100000 in
set_option maxHeartbeats 4000000 in
theorem tX10_sure_84 (G : gx) (fu : Nat) (h0 : mh) (v0 : Nat) (v1 : Int32) (v2 : Int32) (v3 : Int32) (v4 : Int32) (v5 : Int32) (v6 : Int32) (v7 : Int32) (k42 : Int32 × Int32 × mh → Option (Int32 × mh)) (hk42 : ∀ (v5 : Int32) (v6 : Int32) (h : mh), Ev lI G yX10_sure cX10_sure 8 (some .int) 7 h0 42 [(0, .ref (gB G + v0)), (1, .int v1), (2, .int v2), (3, .int v3), (4, .int v4), (5, .int v5), (6, .int v6)] [] h (k42 (v5, v6, h))) (h : mh) : Ev lI G yX10_sure cX10_sure 8 (some .int) 7 h0 84 [(0, .ref (gB G + v0)), (1, .int v1), (2, .int v2), (3, .int v3), (4, .int v4), (5, .int v5), (6, .int v6), (7, .int v7)] [] h (fX10_sure_84 fu k42 v0 v1 v2 v3 v4 v5 v6 v7 h) := by
  unfold fX10_sure_84
  refine ev_step (st_aload_n (pc := 84) (j := 0) dX10_sure_84 rfl rfl) ?_
  refine ev_step (st_iload_n (pc := 85) (j := 1) dX10_sure_85 rfl rfl) ?_
  refine ev_ck (fun ha hS => ?_)
  refine ev_callI (iv_V (As := [.int v1]) (st := []) (pc := 86) rfl m_X10_hasDone l_X10_350 i_X10_hasDone e_X10_hasDone ha hS rfl (Nat.le_of_ble_eq_true rfl) rfl dX10_sure_86) (tX10_hasDone G fu v0 v1 h) (by decide) (by decide) (fun x2 h1 => ?_)
  refine ev_br (br_if_eq (tgt := 95) (pc := 89) dX10_sure_89 (by decide)) (fun _ => ?_) (fun _ => ?_)
  · refine ev_sub (ls' := [(0, .ref (gB G + v0)), (1, .int v1), (2, .int v2), (3, .int v3), (4, .int v4), (5, .int v5), (6, .int v6), (7, .int v7)]) [0, 1, 2, 3, 4, 5, 6, 7] rfl ?_
    exact tX10_sure_95 G fu h0 v0 v1 v2 v3 v4 v5 v6 v7 k42 hk42 h1
  · refine ev_step (st_inc (pc := 92) (j := 5) (ls' := [(5, .int (v5 + (1 : Int32))), (0, .ref (gB G + v0)), (1, .int v1), (2, .int v2), (3, .int v3), (4, .int v4), (6, .int v6), (7, .int v7)]) dX10_sure_92 rfl ni_1 (by decide) rfl) ?_
    refine ev_sub (ls' := [(0, .ref (gB G + v0)), (1, .int v1), (2, .int v2), (3, .int v3), (4, .int v4), (5, .int (v5 + (1 : Int32))), (6, .int v6), (7, .int v7)]) [1, 2, 3, 4, 5, 0, 6, 7] rfl ?_
    exact tX10_sure_95 G fu h0 v0 v1 v2 v3 v4 (v5 + (1 : Int32)) v6 v7 k42 hk42 h1
set_option maxRecDepth 100000 in
set_option maxHeartbeats 4000000 in
theorem tX10_sure_67 (G : gx) (fu : Nat) (h0 : mh) (v0 : Nat) (v1 : Int32) (v2 : Int32) (v3 : Int32) (v4 : Int32) (v5 : Int32) (v6 : Int32) (k42 : Int32 × Int32 × mh → Option (Int32 × mh)) (hk42 : ∀ (v5 : Int32) (v6 : Int32) (h : mh), Ev lI G yX10_sure cX10_sure 8 (some .int) 7 h0 42 [(0, .ref (gB G + v0)), (1, .int v1), (2, .int v2), (3, .int v3), (4, .int v4), (5, .int v5), (6, .int v6)] [] h (k42 (v5, v6, h))) (n : Nat) (v7 : Int32) (h : mh) : Ev lI G yX10_sure cX10_sure 8 (some .int) 7 h0 67 [(0, .ref (gB G + v0)), (1, .int v1), (2, .int v2), (3, .int v3), (4, .int v4), (5, .int v5), (6, .int v6), (7, .int v7)] [] h (itr (bX10_sure_67 fu k42 v0 v1 v2 v3 v4 v5 v6) n (v7, h)) := by
  refine ev_itr (P := fun (q : Int32 × mh) (R9 : Option (Int32 × mh)) => Ev lI G yX10_sure cX10_sure 8 (some .int) 7 h0 67 [(0, .ref (gB G + v0)), (1, .int v1), (2, .int v2), (3, .int v3), (4, .int v4), (5, .int v5), (6, .int v6), (7, .int q.1)] [] q.2 R9) (fun _ => ev_none) (fun k67 hk9 q => ?_) n (v7, h)
  obtain ⟨v7, h⟩ := q
  have hk67 : ∀ (v7 : Int32) (h : mh), Ev lI G yX10_sure cX10_sure 8 (some .int) 7 h0 67 [(0, .ref (gB G + v0)), (1, .int v1), (2, .int v2), (3, .int v3), (4, .int v4), (5, .int v5), (6, .int v6), (7, .int v7)] [] h (k67 (v7, h)) := fun v7 h => hk9 (v7, h)
  show Ev lI G yX10_sure cX10_sure 8 (some .int) 7 h0 67 [(0, .ref (gB G + v0)), (1, .int v1), (2, .int v2), (3, .int v3), (4, .int v4), (5, .int v5), (6, .int v6), (7, .int v7)] [] h (bX10_sure_67 fu k42 v0 v1 v2 v3 v4 v5 v6 k67 (v7, h))
  unfold bX10_sure_67
  refine ev_step (st_iload (pc := 67) (j := 7) dX10_sure_67 rfl) ?_
  refine ev_step (st_iload_n (pc := 69) (j := 3) dX10_sure_69 rfl rfl) ?_
  refine ev_br (br_icmp_ge (tgt := 84) (pc := 70) dX10_sure_70 (by decide)) (fun _ => ?_) (fun _ => ?_)
  · refine ev_sub (ls' := [(0, .ref (gB G + v0)), (1, .int v1), (2, .int v2), (3, .int v3), (4, .int v4), (5, .int v5), (6, .int v6), (7, .int v7)]) [0, 1, 2, 3, 4, 5, 6, 7] rfl ?_
    exact tX10_sure_84 G fu h0 v0 v1 v2 v3 v4 v5 v6 v7 k42 hk42 h
  · refine ev_step (st_aload_n (pc := 73) (j := 0) dX10_sure_73 rfl rfl) ?_
    refine ev_step (st_iload_n (pc := 74) (j := 2) dX10_sure_74 rfl rfl) ?_
    refine ev_ck (fun ha hS => ?_)
    refine ev_callV (iv_V (As := [.int v2]) (st := []) (pc := 75) rfl m_X10_goesWith l_X10_438 i_X10_goesWith e_X10_goesWith ha hS rfl (Nat.le_of_ble_eq_true rfl) rfl dX10_sure_75) (tX10_goesWith G fu v0 v2 h) (by decide) (by decide) (fun h1 => ?_)
    refine ev_step (st_inc (pc := 78) (j := 7) (ls' := [(7, .int (v7 + (1 : Int32))), (0, .ref (gB G + v0)), (1, .int v1), (2, .int v2), (3, .int v3), (4, .int v4), (5, .int v5), (6, .int v6)]) dX10_sure_78 rfl ni_1 (by decide) rfl) ?_
    refine ev_step (st_goto (pc := 81) (tgt := 67) dX10_sure_81 (by decide)) ?_
    refine ev_sub (ls' := [(0, .ref (gB G + v0)), (1, .int v1), (2, .int v2), (3, .int v3), (4, .int v4), (5, .int v5), (6, .int v6), (7, .int (v7 + (1 : Int32)))]) [1, 2, 3, 4, 5, 6, 7, 0] rfl ?_
    exact hk67 (v7 + (1 : Int32)) h1
set_option maxRecDepth 100000 in
set_option maxHeartbeats 4000000 in
theorem tX10_sure_42 (G : gx) (fu : Nat) (h0 : mh) (v0 : Nat) (v1 : Int32) (v2 : Int32) (v3 : Int32) (v4 : Int32) (n : Nat) (v5 : Int32) (v6 : Int32) (h : mh) : Ev lI G yX10_sure cX10_sure 8 (some .int) 7 h0 42 [(0, .ref (gB G + v0)), (1, .int v1), (2, .int v2), (3, .int v3), (4, .int v4), (5, .int v5), (6, .int v6)] [] h (itr (bX10_sure_42 fu v0 v1 v2 v3 v4) n (v5, v6, h)) := by
  refine ev_itr (P := fun (q : Int32 × Int32 × mh) (R9 : Option (Int32 × mh)) => Ev lI G yX10_sure cX10_sure 8 (some .int) 7 h0 42 [(0, .ref (gB G + v0)), (1, .int v1), (2, .int v2), (3, .int v3), (4, .int v4), (5, .int q.1), (6, .int q.2.1)] [] q.2.2 R9) (fun _ => ev_none) (fun k42 hk9 q => ?_) n (v5, v6, h)
  obtain ⟨v5, v6, h⟩ := q
  have hk42 : ∀ (v5 : Int32) (v6 : Int32) (h : mh), Ev lI G yX10_sure cX10_sure 8 (some .int) 7 h0 42 [(0, .ref (gB G + v0)), (1, .int v1), (2, .int v2), (3, .int v3), (4, .int v4), (5, .int v5), (6, .int v6)] [] h (k42 (v5, v6, h)) := fun v5 v6 h => hk9 (v5, v6, h)
  show Ev lI G yX10_sure cX10_sure 8 (some .int) 7 h0 42 [(0, .ref (gB G + v0)), (1, .int v1), (2, .int v2), (3, .int v3), (4, .int v4), (5, .int v5), (6, .int v6)] [] h (bX10_sure_42 fu v0 v1 v2 v3 v4 k42 (v5, v6, h))
  unfold bX10_sure_42
  refine ev_step (st_iload (pc := 42) (j := 6) dX10_sure_42 rfl) ?_
  refine ev_step (st_iload (pc := 44) (j := 4) dX10_sure_44 rfl) ?_
  refine ev_br (br_icmp_ge (tgt := 101) (pc := 46) dX10_sure_46 (by decide)) (fun _ => ?_) (fun _ => ?_)
  · refine ev_step (st_iload (pc := 101) (j := 5) dX10_sure_101 rfl) ?_
    exact ev_iret (pc := 103) dX10_sure_103
  · refine ev_step (st_aload_n (pc := 49) (j := 0) dX10_sure_49 rfl rfl) ?_
    refine ev_ck (fun ha hS => ?_)
    refine ev_callV (iv_V (As := []) (st := []) (pc := 50) rfl m_X10_copies l_X10_320 i_X10_copies e_X10_copies ha hS rfl (Nat.le_of_ble_eq_true rfl) rfl dX10_sure_50) (tX10_copies G fu v0 h) (by decide) (by decide) (fun h1 => ?_)
    refine ev_step (st_aload_n (pc := 53) (j := 0) dX10_sure_53 rfl rfl) ?_
    refine ev_step (st_dup (pc := 54) dX10_sure_54 rfl) ?_
    refine ev_getI (pc := 55) k_X10_314 rfl dX10_sure_55 (fun x2 => ?_)
    refine ev_step (st_iload (pc := 58) (j := 6) dX10_sure_58 rfl) ?_
    refine ev_step (st_iadd (pc := 60) dX10_sure_60) ?_
    refine ev_putI (pc := 61) (p_X10_314 _ rfl) rfl dX10_sure_61 (fun h3 => ?_)
    refine ev_step (st_iconst (pc := 64) dX10_sure_64 ni_0) ?_
    refine ev_step (st_istore (pc := 65) (ls' := [(7, .int ((0 : Int32))), (0, .ref (gB G + v0)), (1, .int v1), (2, .int v2), (3, .int v3), (4, .int v4), (5, .int v5), (6, .int v6)]) dX10_sure_65 (by decide) rfl) ?_
    refine ev_sub (ls' := [(0, .ref (gB G + v0)), (1, .int v1), (2, .int v2), (3, .int v3), (4, .int v4), (5, .int v5), (6, .int v6), (7, .int ((0 : Int32)))]) [1, 2, 3, 4, 5, 6, 7, 0] rfl ?_
    exact tX10_sure_67 G fu h0 v0 v1 v2 v3 v4 v5 v6 k42 hk42 fu ((0 : Int32)) h3
set_option maxRecDepth 100000 in
set_option maxHeartbeats 4000000 in
theorem tX10_sure (G : gx) (fu : Nat) (v0 : Nat) (v1 : Int32) (v2 : Int32) (v3 : Int32) (v4 : Int32) (h : mh) : Ct lI G yX10_sure cX10_sure 8 (some .int) 7 [.ref (gB G + v0), .int v1, .int v2, .int v3, .int v4] h (fX10_sure fu v0 v1 v2 v3 v4 h) := by
  refine ct_ls (ls := [(0, .ref (gB G + v0)), (1, .int v1), (2, .int v2), (3, .int v3), (4, .int v4)]) rfl (by decide) (Nat.le_of_ble_eq_true rfl) ?_
  unfold fX10_sure
  refine ev_step (st_aload_n (pc := 0) (j := 0) dX10_sure_0 rfl rfl) ?_
  refine ev_step (st_iload_n (pc := 1) (j := 1) dX10_sure_1 rfl rfl) ?_
  refine ev_ck (fun ha hS => ?_)
  refine ev_callI (iv_V (As := [.int v1]) (st := []) (pc := 2) rfl m_X10_isListener l_X10_384 i_X10_isListener e_X10_isListener ha hS rfl (Nat.le_of_ble_eq_true rfl) rfl dX10_sure_2) (tX10_isListener G fu v0 v1 h) (by decide) (by decide) (fun x2 h1 => ?_)
  refine ev_br (br_if_eq (tgt := 34) (pc := 5) dX10_sure_5 (by decide)) (fun _ => ?_) (fun _ => ?_)
  · refine ev_step (st_iconst (pc := 34) dX10_sure_34 ni_m1) ?_
    exact ev_iret (pc := 35) dX10_sure_35
  · refine ev_step (st_aload_n (pc := 8) (j := 0) dX10_sure_8 rfl rfl) ?_
    refine ev_step (st_iload_n (pc := 9) (j := 2) dX10_sure_9 rfl rfl) ?_
    refine ev_ck (fun ha hS => ?_)
    refine ev_callI (iv_V (As := [.int v2]) (st := []) (pc := 10) rfl m_X10_isRole l_X10_381 i_X10_isRole e_X10_isRole ha hS rfl (Nat.le_of_ble_eq_true rfl) rfl dX10_sure_10) (tX10_isRole G fu v0 v2 h1) (by decide) (by decide) (fun x4 h3 => ?_)
    refine ev_br (br_if_eq (tgt := 34) (pc := 13) dX10_sure_13 (by decide)) (fun _ => ?_) (fun _ => ?_)
    · refine ev_step (st_iconst (pc := 34) dX10_sure_34 ni_m1) ?_
      exact ev_iret (pc := 35) dX10_sure_35
    · refine ev_step (st_iload_n (pc := 16) (j := 3) dX10_sure_16 rfl rfl) ?_
      refine ev_callI (iv_S (As := [.int v3]) (st := []) (pc := 17) m_X10_isLong l_X10_396 z_X10_isLong rfl (Nat.le_of_ble_eq_true rfl) rfl dX10_sure_17) (tX10_isLong G fu v3 h3) (by decide) (by decide) (fun x6 h5 => ?_)
      refine ev_br (br_if_eq (tgt := 34) (pc := 20) dX10_sure_20 (by decide)) (fun _ => ?_) (fun _ => ?_)
      · refine ev_step (st_iconst (pc := 34) dX10_sure_34 ni_m1) ?_
        exact ev_iret (pc := 35) dX10_sure_35
      · refine ev_step (st_iload (pc := 23) (j := 4) dX10_sure_23 rfl) ?_
        refine ev_step (st_iconst (pc := 25) dX10_sure_25 ni_1) ?_
        refine ev_step (st_bipush (pc := 26) dX10_sure_26 nb_20) ?_
        refine ev_callI (iv_S (As := [.int v4, .int ((1 : Int32)), .int ((20 : Int32))]) (st := []) (pc := 28) m_X10_in l_X10_310 z_X10_in rfl (Nat.le_of_ble_eq_true rfl) rfl dX10_sure_28) (tX10_in G fu v4 ((1 : Int32)) ((20 : Int32)) h5) (by decide) (by decide) (fun x8 h7 => ?_)
        refine ev_br (br_if_ne (tgt := 36) (pc := 31) dX10_sure_31 (by decide)) (fun _ => ?_) (fun _ => ?_)
        · refine ev_step (st_iconst (pc := 34) dX10_sure_34 ni_m1) ?_
          exact ev_iret (pc := 35) dX10_sure_35
        · refine ev_step (st_iconst (pc := 36) dX10_sure_36 ni_0) ?_
          refine ev_step (st_istore (pc := 37) (ls' := [(5, .int ((0 : Int32))), (0, .ref (gB G + v0)), (1, .int v1), (2, .int v2), (3, .int v3), (4, .int v4)]) dX10_sure_37 (by decide) rfl) ?_
          refine ev_step (st_iconst (pc := 39) dX10_sure_39 ni_0) ?_
          refine ev_step (st_istore (pc := 40) (ls' := [(6, .int ((0 : Int32))), (5, .int ((0 : Int32))), (0, .ref (gB G + v0)), (1, .int v1), (2, .int v2), (3, .int v3), (4, .int v4)]) dX10_sure_40 (by decide) rfl) ?_
          refine ev_sub (ls' := [(0, .ref (gB G + v0)), (1, .int v1), (2, .int v2), (3, .int v3), (4, .int v4), (5, .int ((0 : Int32))), (6, .int ((0 : Int32)))]) [2, 3, 4, 5, 6, 1, 0] rfl ?_
          exact tX10_sure_42 G fu h v0 v1 v2 v3 v4 fu ((0 : Int32)) ((0 : Int32)) h7
set_option maxRecDepth 100000 in
set_option maxHeartbeats 4000000 in
theorem tX10_tellsOne_38 (G : gx) (fu : Nat) (h0 : mh) (v0 : Nat) (v1 : Int32) (v2 : Int32) (s0 : Nat) (s1 : Int32) (s2 : Int32) (h : mh) : Ev lI G yX10_tellsOne cX10_tellsOne 3 (some .int) 1 h0 38 [(0, .ref (gB G + v0)), (1, .int v1), (2, .int v2)] [.int s2, .int s1, .ref (gB G + s0)] h (fX10_tellsOne_38 fu v0 v1 v2 s0 s1 s2 h) := by
  unfold fX10_tellsOne_38
  refine ev_sti (pc := 38) dX10_tellsOne_38 (fun h1 => ?_)
  refine ev_step (st_aload_n (pc := 39) (j := 0) dX10_tellsOne_39 rfl rfl) ?_
  refine ev_step (st_dup (pc := 40) dX10_tellsOne_40 rfl) ?_
  refine ev_getI (pc := 41) k_X10_251 rfl dX10_tellsOne_41 (fun x2 => ?_)
  refine ev_step (st_iconst (pc := 44) dX10_tellsOne_44 ni_1) ?_
  refine ev_step (st_iadd (pc := 45) dX10_tellsOne_45) ?_
  refine ev_putI (pc := 46) (p_X10_251 _ rfl) rfl dX10_tellsOne_46 (fun h3 => ?_)
  refine ev_step (st_aload_n (pc := 49) (j := 0) dX10_tellsOne_49 rfl rfl) ?_
  refine ev_getI (pc := 50) k_X10_251 rfl dX10_tellsOne_50 (fun x4 => ?_)
  refine ev_step (st_iconst (pc := 53) dX10_tellsOne_53 ni_1) ?_
  refine ev_step (st_isub (pc := 54) dX10_tellsOne_54) ?_
  exact ev_iret (pc := 55) dX10_tellsOne_55
set_option maxRecDepth 100000 in
set_option maxHeartbeats 4000000 in
theorem tX10_tellsOne (G : gx) (fu : Nat) (v0 : Nat) (v1 : Int32) (v2 : Int32) (h : mh) : Ct lI G yX10_tellsOne cX10_tellsOne 3 (some .int) 1 [.ref (gB G + v0), .int v1, .int v2] h (fX10_tellsOne fu v0 v1 v2 h) := by
  refine ct_ls (ls := [(0, .ref (gB G + v0)), (1, .int v1), (2, .int v2)]) rfl (by decide) (Nat.le_of_ble_eq_true rfl) ?_
  unfold fX10_tellsOne
  refine ev_step (st_aload_n (pc := 0) (j := 0) dX10_tellsOne_0 rfl rfl) ?_
  refine ev_getI (pc := 1) k_X10_251 rfl dX10_tellsOne_1 (fun x1 => ?_)
  refine ev_step (st_bipush (pc := 4) dX10_tellsOne_4 nb_20) ?_
  refine ev_br (br_icmp_ne (tgt := 11) (pc := 6) dX10_tellsOne_6 (by decide)) (fun _ => ?_) (fun _ => ?_)
  · refine ev_step (st_iconst (pc := 9) dX10_tellsOne_9 ni_m1) ?_
    exact ev_iret (pc := 10) dX10_tellsOne_10
  · refine ev_step (st_aload_n (pc := 11) (j := 0) dX10_tellsOne_11 rfl rfl) ?_
    refine ev_getR (pc := 12) k_X10_137 rfl dX10_tellsOne_12 (fun a2 => ?_)
    refine ev_step (st_aload_n (pc := 15) (j := 0) dX10_tellsOne_15 rfl rfl) ?_
    refine ev_getI (pc := 16) k_X10_251 rfl dX10_tellsOne_16 (fun x3 => ?_)
    refine ev_step (st_iload_n (pc := 19) (j := 1) dX10_tellsOne_19 rfl rfl) ?_
    refine ev_sti (pc := 20) dX10_tellsOne_20 (fun h4 => ?_)
    refine ev_step (st_aload_n (pc := 21) (j := 0) dX10_tellsOne_21 rfl rfl) ?_
    refine ev_getR (pc := 22) k_X10_140 rfl dX10_tellsOne_22 (fun a5 => ?_)
    refine ev_step (st_aload_n (pc := 25) (j := 0) dX10_tellsOne_25 rfl rfl) ?_
    refine ev_getI (pc := 26) k_X10_251 rfl dX10_tellsOne_26 (fun x6 => ?_)
    refine ev_step (st_iload_n (pc := 29) (j := 2) dX10_tellsOne_29 rfl rfl) ?_
    refine ev_br (br_if_eq (tgt := 37) (pc := 30) dX10_tellsOne_30 (by decide)) (fun _ => ?_) (fun _ => ?_)
    · refine ev_step (st_iconst (pc := 37) dX10_tellsOne_37 ni_0) ?_
      refine ev_sub (ls' := [(0, .ref (gB G + v0)), (1, .int v1), (2, .int v2)]) [0, 1, 2] rfl ?_
      exact tX10_tellsOne_38 G fu h v0 v1 v2 a5 x6 ((0 : Int32)) h4
    · refine ev_step (st_iconst (pc := 33) dX10_tellsOne_33 ni_1) ?_
      refine ev_step (st_goto (pc := 34) (tgt := 38) dX10_tellsOne_34 (by decide)) ?_
      refine ev_sub (ls' := [(0, .ref (gB G + v0)), (1, .int v1), (2, .int v2)]) [0, 1, 2] rfl ?_
      exact tX10_tellsOne_38 G fu h v0 v1 v2 a5 x6 ((1 : Int32)) h4
set_option maxRecDepth 100000 in
set_option maxHeartbeats 4000000 in
theorem tX10_tellFact (G : gx) (fu : Nat) (v0 : Nat) (v1 : Int32) (v2 : Int32) (h : mh) : Ct lI G yX10_tellFact cX10_tellFact 3 (some .int) 3 [.ref (gB G + v0), .int v1, .int v2] h (fX10_tellFact fu v0 v1 v2 h) := by
  refine ct_ls (ls := [(0, .ref (gB G + v0)), (1, .int v1), (2, .int v2)]) rfl (by decide) (Nat.le_of_ble_eq_true rfl) ?_
  unfold fX10_tellFact
  refine ev_step (st_iload_n (pc := 0) (j := 1) dX10_tellFact_0 rfl rfl) ?_
  refine ev_callI (iv_S (As := [.int v1]) (st := []) (pc := 1) m_X10_isFact l_X10_390 z_X10_isFact rfl (Nat.le_of_ble_eq_true rfl) rfl dX10_tellFact_1) (tX10_isFact G fu v1 h) (by decide) (by decide) (fun x2 h1 => ?_)
  refine ev_br (br_if_eq (tgt := 16) (pc := 4) dX10_tellFact_4 (by decide)) (fun _ => ?_) (fun _ => ?_)
  · refine ev_step (st_iconst (pc := 16) dX10_tellFact_16 ni_m1) ?_
    exact ev_iret (pc := 17) dX10_tellFact_17
  · refine ev_step (st_aload_n (pc := 7) (j := 0) dX10_tellFact_7 rfl rfl) ?_
    refine ev_step (st_iload_n (pc := 8) (j := 1) dX10_tellFact_8 rfl rfl) ?_
    refine ev_step (st_iload_n (pc := 9) (j := 2) dX10_tellFact_9 rfl rfl) ?_
    refine ev_ck (fun ha hS => ?_)
    refine ev_callI (iv_V (As := [.int v1, .int v2]) (st := []) (pc := 10) rfl m_X10_tellsOne l_X10_451 i_X10_tellsOne e_X10_tellsOne ha hS rfl (Nat.le_of_ble_eq_true rfl) rfl dX10_tellFact_10) (tX10_tellsOne G fu v0 v1 v2 h1) (by decide) (by decide) (fun x4 h3 => ?_)
    refine ev_step (st_goto (pc := 13) (tgt := 17) dX10_tellFact_13 (by decide)) ?_
    exact ev_iret (pc := 17) dX10_tellFact_17
