theorem dX10_tellDone_0 : decode cX10_tellDone 0 = .ok (.aload_n 0, 1) := by decide +kernel
theorem dX10_tellDone_1 : decode cX10_tellDone 1 = .ok (.iload_n 1, 1) := by decide +kernel
theorem dX10_tellDone_2 : decode cX10_tellDone 2 = .ok (.invokevirtual 384, 3) := by decide +kernel
theorem dX10_tellDone_5 : decode cX10_tellDone 5 = .ok (.ifCond .eq 15, 3) := by decide +kernel
theorem dX10_tellDone_8 : decode cX10_tellDone 8 = .ok (.aload_n 0, 1) := by decide +kernel
theorem dX10_tellDone_9 : decode cX10_tellDone 9 = .ok (.bipush 8, 2) := by decide +kernel
theorem dX10_tellDone_11 : decode cX10_tellDone 11 = .ok (.iload_n 1, 1) := by decide +kernel
theorem dX10_tellDone_12 : decode cX10_tellDone 12 = .ok (.iadd, 1) := by decide +kernel
theorem dX10_tellDone_13 : decode cX10_tellDone 13 = .ok (.iload_n 2, 1) := by decide +kernel
theorem dX10_tellDone_14 : decode cX10_tellDone 14 = .ok (.invokevirtual 451, 3) := by decide +kernel
theorem dX10_tellDone_17 : decode cX10_tellDone 17 = .ok (.goto 4, 3) := by decide +kernel
theorem dX10_tellDone_20 : decode cX10_tellDone 20 = .ok (.iconst (-1), 1) := by decide +kernel
theorem dX10_tellDone_21 : decode cX10_tellDone 21 = .ok (.ireturn, 1) := by decide +kernel
theorem dX10_forget_0 : decode cX10_forget 0 = .ok (.aload_n 0, 1) := by decide +kernel
theorem dX10_forget_1 : decode cX10_forget 1 = .ok (.getfield 251, 3) := by decide +kernel
theorem dX10_forget_4 : decode cX10_forget 4 = .ok (.istore_n 1, 1) := by decide +kernel
theorem dX10_forget_5 : decode cX10_forget 5 = .ok (.aload_n 0, 1) := by decide +kernel
theorem dX10_forget_6 : decode cX10_forget 6 = .ok (.iconst 0, 1) := by decide +kernel
theorem dX10_forget_7 : decode cX10_forget 7 = .ok (.putfield 251, 3) := by decide +kernel
theorem dX10_forget_10 : decode cX10_forget 10 = .ok (.iload_n 1, 1) := by decide +kernel
theorem dX10_forget_11 : decode cX10_forget 11 = .ok (.ireturn, 1) := by decide +kernel
theorem dX10_whoBits_0 : decode cX10_whoBits 0 = .ok (.iconst 0, 1) := by decide +kernel
theorem dX10_whoBits_1 : decode cX10_whoBits 1 = .ok (.istore_n 2, 1) := by decide +kernel
theorem dX10_whoBits_2 : decode cX10_whoBits 2 = .ok (.iconst 0, 1) := by decide +kernel
theorem dX10_whoBits_3 : decode cX10_whoBits 3 = .ok (.istore_n 3, 1) := by decide +kernel
theorem dX10_whoBits_4 : decode cX10_whoBits 4 = .ok (.iload_n 3, 1) := by decide +kernel
theorem dX10_whoBits_5 : decode cX10_whoBits 5 = .ok (.aload_n 0, 1) := by decide +kernel
theorem dX10_whoBits_6 : decode cX10_whoBits 6 = .ok (.getfield 46, 3) := by decide +kernel
theorem dX10_whoBits_9 : decode cX10_whoBits 9 = .ok (.aload_n 0, 1) := by decide +kernel
theorem dX10_whoBits_10 : decode cX10_whoBits 10 = .ok (.getfield 230, 3) := by decide +kernel
theorem dX10_whoBits_13 : decode cX10_whoBits 13 = .ok (.iaload, 1) := by decide +kernel
theorem dX10_whoBits_14 : decode cX10_whoBits 14 = .ok (.if_icmp .ge 92, 3) := by decide +kernel
theorem dX10_whoBits_17 : decode cX10_whoBits 17 = .ok (.aload_n 0, 1) := by decide +kernel
theorem dX10_whoBits_18 : decode cX10_whoBits 18 = .ok (.iload_n 3, 1) := by decide +kernel
theorem dX10_whoBits_19 : decode cX10_whoBits 19 = .ok (.invokevirtual 411, 3) := by decide +kernel
theorem dX10_whoBits_22 : decode cX10_whoBits 22 = .ok (.pop, 1) := by decide +kernel
theorem dX10_whoBits_23 : decode cX10_whoBits 23 = .ok (.aload_n 0, 1) := by decide +kernel
theorem dX10_whoBits_24 : decode cX10_whoBits 24 = .ok (.invokevirtual 414, 3) := by decide +kernel
theorem dX10_whoBits_27 : decode cX10_whoBits 27 = .ok (.istore 4, 2) := by decide +kernel
theorem dX10_whoBits_29 : decode cX10_whoBits 29 = .ok (.aload_n 0, 1) := by decide +kernel
theorem dX10_whoBits_30 : decode cX10_whoBits 30 = .ok (.invokevirtual 320, 3) := by decide +kernel
theorem dX10_whoBits_33 : decode cX10_whoBits 33 = .ok (.aload_n 0, 1) := by decide +kernel
theorem dX10_whoBits_34 : decode cX10_whoBits 34 = .ok (.iload_n 3, 1) := by decide +kernel
theorem dX10_whoBits_35 : decode cX10_whoBits 35 = .ok (.invokevirtual 353, 3) := by decide +kernel
theorem dX10_whoBits_38 : decode cX10_whoBits 38 = .ok (.iload 4, 2) := by decide +kernel
theorem dX10_whoBits_40 : decode cX10_whoBits 40 = .ok (.bipush 8, 2) := by decide +kernel
theorem dX10_whoBits_42 : decode cX10_whoBits 42 = .ok (.ishl, 1) := by decide +kernel
theorem dX10_whoBits_43 : decode cX10_whoBits 43 = .ok (.ior, 1) := by decide +kernel
theorem dX10_whoBits_44 : decode cX10_whoBits 44 = .ok (.istore 5, 2) := by decide +kernel
theorem dX10_whoBits_46 : decode cX10_whoBits 46 = .ok (.iconst 1, 1) := by decide +kernel
theorem dX10_whoBits_47 : decode cX10_whoBits 47 = .ok (.istore 6, 2) := by decide +kernel
theorem dX10_whoBits_49 : decode cX10_whoBits 49 = .ok (.iconst 0, 1) := by decide +kernel
theorem dX10_whoBits_50 : decode cX10_whoBits 50 = .ok (.istore 7, 2) := by decide +kernel
theorem dX10_whoBits_52 : decode cX10_whoBits 52 = .ok (.iload 7, 2) := by decide +kernel
theorem dX10_whoBits_54 : decode cX10_whoBits 54 = .ok (.iload_n 1, 1) := by decide +kernel
theorem dX10_whoBits_55 : decode cX10_whoBits 55 = .ok (.if_icmp .ge 34, 3) := by decide +kernel
theorem dX10_whoBits_58 : decode cX10_whoBits 58 = .ok (.iload 5, 2) := by decide +kernel
theorem dX10_whoBits_60 : decode cX10_whoBits 60 = .ok (.aload_n 0, 1) := by decide +kernel
theorem dX10_whoBits_61 : decode cX10_whoBits 61 = .ok (.getfield 137, 3) := by decide +kernel
theorem dX10_whoBits_64 : decode cX10_whoBits 64 = .ok (.iload 7, 2) := by decide +kernel
theorem dX10_whoBits_66 : decode cX10_whoBits 66 = .ok (.iaload, 1) := by decide +kernel
theorem dX10_whoBits_67 : decode cX10_whoBits 67 = .ok (.ishr, 1) := by decide +kernel
theorem dX10_whoBits_68 : decode cX10_whoBits 68 = .ok (.iconst 1, 1) := by decide +kernel
theorem dX10_whoBits_69 : decode cX10_whoBits 69 = .ok (.iand, 1) := by decide +kernel
theorem dX10_whoBits_70 : decode cX10_whoBits 70 = .ok (.aload_n 0, 1) := by decide +kernel
theorem dX10_whoBits_71 : decode cX10_whoBits 71 = .ok (.getfield 140, 3) := by decide +kernel
theorem dX10_whoBits_74 : decode cX10_whoBits 74 = .ok (.iload 7, 2) := by decide +kernel
theorem dX10_whoBits_76 : decode cX10_whoBits 76 = .ok (.iaload, 1) := by decide +kernel
theorem dX10_whoBits_77 : decode cX10_whoBits 77 = .ok (.if_icmp .eq 6, 3) := by decide +kernel
theorem dX10_whoBits_80 : decode cX10_whoBits 80 = .ok (.iconst 0, 1) := by decide +kernel
theorem dX10_whoBits_81 : decode cX10_whoBits 81 = .ok (.istore 6, 2) := by decide +kernel
theorem dX10_whoBits_83 : decode cX10_whoBits 83 = .ok (.iinc 7 1, 3) := by decide +kernel
theorem dX10_whoBits_86 : decode cX10_whoBits 86 = .ok (.goto (-34), 3) := by decide +kernel
theorem dX10_whoBits_89 : decode cX10_whoBits 89 = .ok (.iload 6, 2) := by decide +kernel
theorem dX10_whoBits_91 : decode cX10_whoBits 91 = .ok (.ifCond .eq 9, 3) := by decide +kernel
theorem dX10_whoBits_94 : decode cX10_whoBits 94 = .ok (.iload_n 2, 1) := by decide +kernel
theorem dX10_whoBits_95 : decode cX10_whoBits 95 = .ok (.iconst 1, 1) := by decide +kernel
theorem dX10_whoBits_96 : decode cX10_whoBits 96 = .ok (.iload_n 3, 1) := by decide +kernel
theorem dX10_whoBits_97 : decode cX10_whoBits 97 = .ok (.ishl, 1) := by decide +kernel
theorem dX10_whoBits_98 : decode cX10_whoBits 98 = .ok (.ior, 1) := by decide +kernel
theorem dX10_whoBits_99 : decode cX10_whoBits 99 = .ok (.istore_n 2, 1) := by decide +kernel
theorem dX10_whoBits_100 : decode cX10_whoBits 100 = .ok (.iinc 3 1, 3) := by decide +kernel
theorem dX10_whoBits_103 : decode cX10_whoBits 103 = .ok (.goto (-99), 3) := by decide +kernel
theorem dX10_whoBits_106 : decode cX10_whoBits 106 = .ok (.iload_n 2, 1) := by decide +kernel
theorem dX10_whoBits_107 : decode cX10_whoBits 107 = .ok (.ireturn, 1) := by decide +kernel
theorem dX10_who_0 : decode cX10_who 0 = .ok (.iload_n 1, 1) := by decide +kernel
theorem dX10_who_1 : decode cX10_who 1 = .ok (.iconst 0, 1) := by decide +kernel
theorem dX10_who_2 : decode cX10_who 2 = .ok (.aload_n 0, 1) := by decide +kernel
theorem dX10_who_3 : decode cX10_who 3 = .ok (.getfield 251, 3) := by decide +kernel
theorem dX10_who_6 : decode cX10_who 6 = .ok (.invokestatic 310, 3) := by decide +kernel
theorem dX10_who_9 : decode cX10_who 9 = .ok (.ifCond .eq 12, 3) := by decide +kernel
theorem dX10_who_12 : decode cX10_who 12 = .ok (.iload_n 2, 1) := by decide +kernel
theorem dX10_who_13 : decode cX10_who 13 = .ok (.iconst 0, 1) := by decide +kernel
theorem dX10_who_14 : decode cX10_who 14 = .ok (.iconst 1, 1) := by decide +kernel
theorem dX10_who_15 : decode cX10_who 15 = .ok (.invokestatic 310, 3) := by decide +kernel
theorem dX10_who_18 : decode cX10_who 18 = .ok (.ifCond .ne 5, 3) := by decide +kernel
theorem dX10_who_21 : decode cX10_who 21 = .ok (.iconst (-1), 1) := by decide +kernel
theorem dX10_who_22 : decode cX10_who 22 = .ok (.ireturn, 1) := by decide +kernel
theorem dX10_who_23 : decode cX10_who 23 = .ok (.aload_n 0, 1) := by decide +kernel
theorem dX10_who_24 : decode cX10_who 24 = .ok (.iload_n 1, 1) := by decide +kernel
theorem dX10_who_25 : decode cX10_who 25 = .ok (.invokevirtual 455, 3) := by decide +kernel
theorem dX10_who_28 : decode cX10_who 28 = .ok (.istore_n 3, 1) := by decide +kernel
theorem dX10_who_29 : decode cX10_who 29 = .ok (.iload_n 2, 1) := by decide +kernel
theorem dX10_who_30 : decode cX10_who 30 = .ok (.ifCond .ne 10, 3) := by decide +kernel
theorem dX10_who_33 : decode cX10_who 33 = .ok (.iload_n 3, 1) := by decide +kernel
theorem dX10_who_34 : decode cX10_who 34 = .ok (.invokestatic 336, 3) := by decide +kernel
theorem dX10_who_37 : decode cX10_who 37 = .ok (.goto 4, 3) := by decide +kernel
theorem dX10_who_40 : decode cX10_who 40 = .ok (.iload_n 3, 1) := by decide +kernel
theorem dX10_who_41 : decode cX10_who 41 = .ok (.ireturn, 1) := by decide +kernel
theorem dX10_ask_0 : decode cX10_ask 0 = .ok (.iload_n 1, 1) := by decide +kernel
theorem dX10_ask_1 : decode cX10_ask 1 = .ok (.iconst 0, 1) := by decide +kernel
theorem dX10_ask_2 : decode cX10_ask 2 = .ok (.aload_n 0, 1) := by decide +kernel
theorem dX10_ask_3 : decode cX10_ask 3 = .ok (.getfield 251, 3) := by decide +kernel
theorem dX10_ask_6 : decode cX10_ask 6 = .ok (.invokestatic 310, 3) := by decide +kernel
theorem dX10_ask_9 : decode cX10_ask 9 = .ok (.ifCond .ne 5, 3) := by decide +kernel
theorem dX10_ask_12 : decode cX10_ask 12 = .ok (.iconst (-1), 1) := by decide +kernel
theorem dX10_ask_13 : decode cX10_ask 13 = .ok (.ireturn, 1) := by decide +kernel
theorem dX10_ask_14 : decode cX10_ask 14 = .ok (.aload_n 0, 1) := by decide +kernel
theorem dX10_ask_15 : decode cX10_ask 15 = .ok (.iload_n 1, 1) := by decide +kernel
theorem dX10_ask_16 : decode cX10_ask 16 = .ok (.invokevirtual 455, 3) := by decide +kernel
theorem dX10_ask_19 : decode cX10_ask 19 = .ok (.istore_n 2, 1) := by decide +kernel
theorem dX10_ask_20 : decode cX10_ask 20 = .ok (.aload_n 0, 1) := by decide +kernel
theorem dX10_ask_21 : decode cX10_ask 21 = .ok (.invokevirtual 320, 3) := by decide +kernel
theorem dX10_ask_24 : decode cX10_ask 24 = .ok (.bipush (-2), 2) := by decide +kernel
theorem dX10_ask_26 : decode cX10_ask 26 = .ok (.istore_n 3, 1) := by decide +kernel
theorem dX10_ask_27 : decode cX10_ask 27 = .ok (.iconst 0, 1) := by decide +kernel
theorem dX10_ask_28 : decode cX10_ask 28 = .ok (.istore 4, 2) := by decide +kernel
theorem dX10_ask_30 : decode cX10_ask 30 = .ok (.iconst 0, 1) := by decide +kernel
theorem dX10_ask_31 : decode cX10_ask 31 = .ok (.istore 5, 2) := by decide +kernel
theorem dX10_ask_33 : decode cX10_ask 33 = .ok (.iload 5, 2) := by decide +kernel
theorem dX10_ask_35 : decode cX10_ask 35 = .ok (.bipush 8, 2) := by decide +kernel
theorem dX10_ask_37 : decode cX10_ask 37 = .ok (.if_icmp .ge 112, 3) := by decide +kernel
theorem dX10_ask_40 : decode cX10_ask 40 = .ok (.iload_n 2, 1) := by decide +kernel
theorem dX10_ask_41 : decode cX10_ask 41 = .ok (.ifCond .eq 108, 3) := by decide +kernel
theorem dX10_ask_44 : decode cX10_ask 44 = .ok (.iconst 0, 1) := by decide +kernel
theorem dX10_ask_45 : decode cX10_ask 45 = .ok (.istore 6, 2) := by decide +kernel
theorem dX10_ask_47 : decode cX10_ask 47 = .ok (.iconst 0, 1) := by decide +kernel
theorem dX10_ask_48 : decode cX10_ask 48 = .ok (.istore 7, 2) := by decide +kernel
theorem dX10_ask_50 : decode cX10_ask 50 = .ok (.iload 7, 2) := by decide +kernel
theorem dX10_ask_52 : decode cX10_ask 52 = .ok (.aload_n 0, 1) := by decide +kernel
theorem dX10_ask_53 : decode cX10_ask 53 = .ok (.getfield 46, 3) := by decide +kernel
theorem dX10_ask_56 : decode cX10_ask 56 = .ok (.aload_n 0, 1) := by decide +kernel
theorem dX10_ask_57 : decode cX10_ask 57 = .ok (.getfield 230, 3) := by decide +kernel
theorem dX10_ask_60 : decode cX10_ask 60 = .ok (.iaload, 1) := by decide +kernel
theorem dX10_ask_61 : decode cX10_ask 61 = .ok (.if_icmp .ge 35, 3) := by decide +kernel
theorem dX10_ask_64 : decode cX10_ask 64 = .ok (.iload_n 2, 1) := by decide +kernel
theorem dX10_ask_65 : decode cX10_ask 65 = .ok (.iload 7, 2) := by decide +kernel
theorem dX10_ask_67 : decode cX10_ask 67 = .ok (.ishr, 1) := by decide +kernel
theorem dX10_ask_68 : decode cX10_ask 68 = .ok (.iconst 1, 1) := by decide +kernel
theorem dX10_ask_69 : decode cX10_ask 69 = .ok (.iand, 1) := by decide +kernel
theorem dX10_ask_70 : decode cX10_ask 70 = .ok (.iconst 1, 1) := by decide +kernel
theorem dX10_ask_71 : decode cX10_ask 71 = .ok (.if_icmp .ne 19, 3) := by decide +kernel
theorem dX10_ask_74 : decode cX10_ask 74 = .ok (.iload 6, 2) := by decide +kernel
theorem dX10_ask_76 : decode cX10_ask 76 = .ok (.aload_n 0, 1) := by decide +kernel
theorem dX10_ask_77 : decode cX10_ask 77 = .ok (.iload 7, 2) := by decide +kernel
theorem dX10_ask_79 : decode cX10_ask 79 = .ok (.invokevirtual 353, 3) := by decide +kernel
theorem dX10_ask_82 : decode cX10_ask 82 = .ok (.iload 5, 2) := by decide +kernel
theorem dX10_ask_84 : decode cX10_ask 84 = .ok (.ishr, 1) := by decide +kernel
theorem dX10_ask_85 : decode cX10_ask 85 = .ok (.iconst 1, 1) := by decide +kernel
theorem dX10_ask_86 : decode cX10_ask 86 = .ok (.iand, 1) := by decide +kernel
theorem dX10_ask_87 : decode cX10_ask 87 = .ok (.iadd, 1) := by decide +kernel
theorem dX10_ask_88 : decode cX10_ask 88 = .ok (.istore 6, 2) := by decide +kernel
theorem dX10_ask_90 : decode cX10_ask 90 = .ok (.iinc 7 1, 3) := by decide +kernel
theorem dX10_ask_93 : decode cX10_ask 93 = .ok (.goto (-43), 3) := by decide +kernel
theorem dX10_ask_96 : decode cX10_ask 96 = .ok (.iload 6, 2) := by decide +kernel
theorem dX10_ask_98 : decode cX10_ask 98 = .ok (.iload_n 2, 1) := by decide +kernel
theorem dX10_ask_99 : decode cX10_ask 99 = .ok (.invokestatic 336, 3) := by decide +kernel
theorem dX10_ask_102 : decode cX10_ask 102 = .ok (.iload 6, 2) := by decide +kernel
theorem dX10_ask_104 : decode cX10_ask 104 = .ok (.isub, 1) := by decide +kernel
theorem dX10_ask_105 : decode cX10_ask 105 = .ok (.if_icmp .le 8, 3) := by decide +kernel
theorem dX10_ask_108 : decode cX10_ask 108 = .ok (.iload 6, 2) := by decide +kernel
theorem dX10_ask_110 : decode cX10_ask 110 = .ok (.goto 10, 3) := by decide +kernel
theorem dX10_ask_113 : decode cX10_ask 113 = .ok (.iload_n 2, 1) := by decide +kernel
theorem dX10_ask_114 : decode cX10_ask 114 = .ok (.invokestatic 336, 3) := by decide +kernel
theorem dX10_ask_117 : decode cX10_ask 117 = .ok (.iload 6, 2) := by decide +kernel
theorem dX10_ask_119 : decode cX10_ask 119 = .ok (.isub, 1) := by decide +kernel
theorem dX10_ask_120 : decode cX10_ask 120 = .ok (.istore 7, 2) := by decide +kernel
theorem dX10_ask_122 : decode cX10_ask 122 = .ok (.iload_n 3, 1) := by decide +kernel
theorem dX10_ask_123 : decode cX10_ask 123 = .ok (.ifCond .lt 13, 3) := by decide +kernel
theorem dX10_ask_126 : decode cX10_ask 126 = .ok (.iload 7, 2) := by decide +kernel
theorem dX10_ask_128 : decode cX10_ask 128 = .ok (.iload 4, 2) := by decide +kernel
theorem dX10_ask_130 : decode cX10_ask 130 = .ok (.if_icmp .lt 6, 3) := by decide +kernel
theorem dX10_ask_133 : decode cX10_ask 133 = .ok (.goto 10, 3) := by decide +kernel
theorem dX10_ask_136 : decode cX10_ask 136 = .ok (.iload 5, 2) := by decide +kernel
theorem dX10_ask_138 : decode cX10_ask 138 = .ok (.istore_n 3, 1) := by decide +kernel
theorem dX10_ask_139 : decode cX10_ask 139 = .ok (.iload 7, 2) := by decide +kernel
theorem dX10_ask_141 : decode cX10_ask 141 = .ok (.istore 4, 2) := by decide +kernel
theorem dX10_ask_143 : decode cX10_ask 143 = .ok (.iinc 5 1, 3) := by decide +kernel
theorem dX10_ask_146 : decode cX10_ask 146 = .ok (.goto (-113), 3) := by decide +kernel
theorem dX10_ask_149 : decode cX10_ask 149 = .ok (.iload_n 3, 1) := by decide +kernel
theorem dX10_ask_150 : decode cX10_ask 150 = .ok (.ireturn, 1) := by decide +kernel
theorem dX10_hold_0 : decode cX10_hold 0 = .ok (.iload_n 1, 1) := by decide +kernel
theorem dX10_hold_1 : decode cX10_hold 1 = .ok (.iconst 0, 1) := by decide +kernel
theorem dX10_hold_2 : decode cX10_hold 2 = .ok (.iconst 2, 1) := by decide +kernel
theorem dX10_hold_3 : decode cX10_hold 3 = .ok (.invokestatic 310, 3) := by decide +kernel
theorem dX10_hold_6 : decode cX10_hold 6 = .ok (.ifCond .ne 5, 3) := by decide +kernel
theorem dX10_hold_9 : decode cX10_hold 9 = .ok (.iconst 0, 1) := by decide +kernel
theorem dX10_hold_10 : decode cX10_hold 10 = .ok (.ireturn, 1) := by decide +kernel
theorem dX10_hold_11 : decode cX10_hold 11 = .ok (.aload_n 0, 1) := by decide +kernel
theorem dX10_hold_12 : decode cX10_hold 12 = .ok (.getfield 143, 3) := by decide +kernel
theorem dX10_hold_15 : decode cX10_hold 15 = .ok (.iload_n 1, 1) := by decide +kernel
theorem dX10_hold_16 : decode cX10_hold 16 = .ok (.iconst 1, 1) := by decide +kernel
theorem dX10_hold_17 : decode cX10_hold 17 = .ok (.bastore, 1) := by decide +kernel
theorem dX10_hold_18 : decode cX10_hold 18 = .ok (.iconst 0, 1) := by decide +kernel
theorem dX10_hold_19 : decode cX10_hold 19 = .ok (.istore_n 2, 1) := by decide +kernel
theorem dX10_hold_20 : decode cX10_hold 20 = .ok (.iload_n 2, 1) := by decide +kernel
theorem dX10_hold_21 : decode cX10_hold 21 = .ok (.bipush 33, 2) := by decide +kernel
theorem dX10_hold_23 : decode cX10_hold 23 = .ok (.if_icmp .ge 26, 3) := by decide +kernel
theorem dX10_hold_26 : decode cX10_hold 26 = .ok (.aload_n 0, 1) := by decide +kernel
theorem dX10_hold_27 : decode cX10_hold 27 = .ok (.getfield 146, 3) := by decide +kernel
theorem dX10_hold_30 : decode cX10_hold 30 = .ok (.bipush 33, 2) := by decide +kernel
theorem dX10_hold_32 : decode cX10_hold 32 = .ok (.iload_n 1, 1) := by decide +kernel
theorem dX10_hold_33 : decode cX10_hold 33 = .ok (.imul, 1) := by decide +kernel
theorem dX10_hold_34 : decode cX10_hold 34 = .ok (.iload_n 2, 1) := by decide +kernel
theorem dX10_hold_35 : decode cX10_hold 35 = .ok (.iadd, 1) := by decide +kernel
theorem dX10_hold_36 : decode cX10_hold 36 = .ok (.aload_n 0, 1) := by decide +kernel
theorem dX10_hold_37 : decode cX10_hold 37 = .ok (.getfield 119, 3) := by decide +kernel
theorem dX10_hold_40 : decode cX10_hold 40 = .ok (.iload_n 2, 1) := by decide +kernel
theorem dX10_hold_41 : decode cX10_hold 41 = .ok (.iaload, 1) := by decide +kernel
theorem dX10_hold_42 : decode cX10_hold 42 = .ok (.iastore, 1) := by decide +kernel
theorem dX10_hold_43 : decode cX10_hold 43 = .ok (.iinc 2 1, 3) := by decide +kernel
theorem dX10_hold_46 : decode cX10_hold 46 = .ok (.goto (-26), 3) := by decide +kernel
theorem dX10_hold_49 : decode cX10_hold 49 = .ok (.iconst 1, 1) := by decide +kernel
theorem dX10_hold_50 : decode cX10_hold 50 = .ok (.ireturn, 1) := by decide +kernel
theorem dX10_restore_0 : decode cX10_restore 0 = .ok (.iload_n 1, 1) := by decide +kernel
theorem dX10_restore_1 : decode cX10_restore 1 = .ok (.iconst 0, 1) := by decide +kernel
theorem dX10_restore_2 : decode cX10_restore 2 = .ok (.iconst 2, 1) := by decide +kernel
theorem dX10_restore_3 : decode cX10_restore 3 = .ok (.invokestatic 310, 3) := by decide +kernel
theorem dX10_restore_6 : decode cX10_restore 6 = .ok (.ifCond .eq 12, 3) := by decide +kernel
theorem dX10_restore_9 : decode cX10_restore 9 = .ok (.aload_n 0, 1) := by decide +kernel
theorem dX10_restore_10 : decode cX10_restore 10 = .ok (.getfield 143, 3) := by decide +kernel
theorem dX10_restore_13 : decode cX10_restore 13 = .ok (.iload_n 1, 1) := by decide +kernel
theorem dX10_restore_14 : decode cX10_restore 14 = .ok (.baload, 1) := by decide +kernel
theorem dX10_restore_15 : decode cX10_restore 15 = .ok (.ifCond .ne 5, 3) := by decide +kernel
theorem dX10_restore_18 : decode cX10_restore 18 = .ok (.iconst 0, 1) := by decide +kernel
theorem dX10_restore_19 : decode cX10_restore 19 = .ok (.ireturn, 1) := by decide +kernel
theorem dX10_restore_20 : decode cX10_restore 20 = .ok (.iconst 0, 1) := by decide +kernel
theorem dX10_restore_21 : decode cX10_restore 21 = .ok (.istore_n 2, 1) := by decide +kernel
theorem dX10_restore_22 : decode cX10_restore 22 = .ok (.iload_n 2, 1) := by decide +kernel
theorem dX10_restore_23 : decode cX10_restore 23 = .ok (.bipush 33, 2) := by decide +kernel
theorem dX10_restore_25 : decode cX10_restore 25 = .ok (.if_icmp .ge 26, 3) := by decide +kernel
theorem dX10_restore_28 : decode cX10_restore 28 = .ok (.aload_n 0, 1) := by decide +kernel
theorem dX10_restore_29 : decode cX10_restore 29 = .ok (.getfield 119, 3) := by decide +kernel
theorem dX10_restore_32 : decode cX10_restore 32 = .ok (.iload_n 2, 1) := by decide +kernel
theorem dX10_restore_33 : decode cX10_restore 33 = .ok (.aload_n 0, 1) := by decide +kernel
theorem dX10_restore_34 : decode cX10_restore 34 = .ok (.getfield 146, 3) := by decide +kernel
theorem dX10_restore_37 : decode cX10_restore 37 = .ok (.bipush 33, 2) := by decide +kernel
theorem dX10_restore_39 : decode cX10_restore 39 = .ok (.iload_n 1, 1) := by decide +kernel
theorem dX10_restore_40 : decode cX10_restore 40 = .ok (.imul, 1) := by decide +kernel
theorem dX10_restore_41 : decode cX10_restore 41 = .ok (.iload_n 2, 1) := by decide +kernel
theorem dX10_restore_42 : decode cX10_restore 42 = .ok (.iadd, 1) := by decide +kernel
theorem dX10_restore_43 : decode cX10_restore 43 = .ok (.iaload, 1) := by decide +kernel
theorem dX10_restore_44 : decode cX10_restore 44 = .ok (.iastore, 1) := by decide +kernel
theorem dX10_restore_45 : decode cX10_restore 45 = .ok (.iinc 2 1, 3) := by decide +kernel
theorem dX10_restore_48 : decode cX10_restore 48 = .ok (.goto (-26), 3) := by decide +kernel
theorem dX10_restore_51 : decode cX10_restore 51 = .ok (.aload_n 0, 1) := by decide +kernel
theorem dX10_restore_52 : decode cX10_restore 52 = .ok (.iconst 0, 1) := by decide +kernel
theorem dX10_restore_53 : decode cX10_restore 53 = .ok (.putfield 248, 3) := by decide +kernel
theorem dX10_restore_56 : decode cX10_restore 56 = .ok (.iconst 1, 1) := by decide +kernel
theorem dX10_restore_57 : decode cX10_restore 57 = .ok (.ireturn, 1) := by decide +kernel
theorem dX10_someBits_0 : decode cX10_someBits 0 = .ok (.iconst 0, 1) := by decide +kernel
theorem dX10_someBits_1 : decode cX10_someBits 1 = .ok (.istore 4, 2) := by decide +kernel
theorem dX10_someBits_3 : decode cX10_someBits 3 = .ok (.iconst 0, 1) := by decide +kernel
theorem dX10_someBits_4 : decode cX10_someBits 4 = .ok (.istore 5, 2) := by decide +kernel
theorem dX10_someBits_6 : decode cX10_someBits 6 = .ok (.iload 5, 2) := by decide +kernel
theorem dX10_someBits_8 : decode cX10_someBits 8 = .ok (.iload_n 2, 1) := by decide +kernel
theorem dX10_someBits_9 : decode cX10_someBits 9 = .ok (.if_icmp .ge 39, 3) := by decide +kernel
theorem dX10_someBits_12 : decode cX10_someBits 12 = .ok (.aload_n 0, 1) := by decide +kernel
theorem dX10_someBits_13 : decode cX10_someBits 13 = .ok (.getfield 122, 3) := by decide +kernel
theorem dX10_someBits_16 : decode cX10_someBits 16 = .ok (.iload_n 1, 1) := by decide +kernel
theorem dX10_someBits_17 : decode cX10_someBits 17 = .ok (.iload 5, 2) := by decide +kernel
theorem dX10_someBits_19 : decode cX10_someBits 19 = .ok (.iadd, 1) := by decide +kernel
theorem dX10_someBits_20 : decode cX10_someBits 20 = .ok (.iaload, 1) := by decide +kernel
theorem dX10_someBits_21 : decode cX10_someBits 21 = .ok (.ifCond .ne 7, 3) := by decide +kernel
theorem dX10_someBits_24 : decode cX10_someBits 24 = .ok (.iconst 1, 1) := by decide +kernel
theorem dX10_someBits_25 : decode cX10_someBits 25 = .ok (.goto 4, 3) := by decide +kernel
theorem dX10_someBits_28 : decode cX10_someBits 28 = .ok (.iconst 0, 1) := by decide +kernel
theorem dX10_someBits_29 : decode cX10_someBits 29 = .ok (.iload_n 3, 1) := by decide +kernel
theorem dX10_someBits_30 : decode cX10_someBits 30 = .ok (.if_icmp .ne 12, 3) := by decide +kernel
theorem dX10_someBits_33 : decode cX10_someBits 33 = .ok (.iload 4, 2) := by decide +kernel
theorem dX10_someBits_35 : decode cX10_someBits 35 = .ok (.iconst 1, 1) := by decide +kernel
theorem dX10_someBits_36 : decode cX10_someBits 36 = .ok (.iload 5, 2) := by decide +kernel
theorem dX10_someBits_38 : decode cX10_someBits 38 = .ok (.ishl, 1) := by decide +kernel
theorem dX10_someBits_39 : decode cX10_someBits 39 = .ok (.ior, 1) := by decide +kernel
theorem dX10_someBits_40 : decode cX10_someBits 40 = .ok (.istore 4, 2) := by decide +kernel
theorem dX10_someBits_42 : decode cX10_someBits 42 = .ok (.iinc 5 1, 3) := by decide +kernel
theorem dX10_someBits_45 : decode cX10_someBits 45 = .ok (.goto (-39), 3) := by decide +kernel
theorem dX10_someBits_48 : decode cX10_someBits 48 = .ok (.iload 4, 2) := by decide +kernel
theorem dX10_someBits_50 : decode cX10_someBits 50 = .ok (.ireturn, 1) := by decide +kernel
theorem dX10_count_0 : decode cX10_count 0 = .ok (.aload_n 0, 1) := by decide +kernel
theorem dX10_count_1 : decode cX10_count 1 = .ok (.invokevirtual 320, 3) := by decide +kernel
theorem dX10_count_4 : decode cX10_count 4 = .ok (.iconst 0, 1) := by decide +kernel
theorem dX10_count_5 : decode cX10_count 5 = .ok (.istore_n 2, 1) := by decide +kernel
theorem dX10_count_6 : decode cX10_count 6 = .ok (.iload_n 1, 1) := by decide +kernel
theorem dX10_count_7 : decode cX10_count 7 = .ok (.tableswitch 321 0 17 #[85, 95, 105, 113, 121, 138, 143, 160, 165, 170, 175, 180, 225, 238, 244, 252, 268, 275], 85) := by decide +kernel
theorem dX10_count_92 : decode cX10_count 92 = .ok (.aload_n 0, 1) := by decide +kernel
theorem dX10_count_93 : decode cX10_count 93 = .ok (.getfield 46, 3) := by decide +kernel
theorem dX10_count_96 : decode cX10_count 96 = .ok (.aload_n 0, 1) := by decide +kernel
theorem dX10_count_97 : decode cX10_count 97 = .ok (.getfield 230, 3) := by decide +kernel
theorem dX10_count_100 : decode cX10_count 100 = .ok (.iaload, 1) := by decide +kernel
theorem dX10_count_101 : decode cX10_count 101 = .ok (.ireturn, 1) := by decide +kernel
theorem dX10_count_102 : decode cX10_count 102 = .ok (.aload_n 0, 1) := by decide +kernel
theorem dX10_count_103 : decode cX10_count 103 = .ok (.getfield 55, 3) := by decide +kernel
theorem dX10_count_106 : decode cX10_count 106 = .ok (.aload_n 0, 1) := by decide +kernel
theorem dX10_count_107 : decode cX10_count 107 = .ok (.getfield 230, 3) := by decide +kernel
theorem dX10_count_110 : decode cX10_count 110 = .ok (.iaload, 1) := by decide +kernel
theorem dX10_count_111 : decode cX10_count 111 = .ok (.ireturn, 1) := by decide +kernel
theorem dX10_count_112 : decode cX10_count 112 = .ok (.aload_n 0, 1) := by decide +kernel
theorem dX10_count_113 : decode cX10_count 113 = .ok (.getfield 122, 3) := by decide +kernel
theorem dX10_count_116 : decode cX10_count 116 = .ok (.bipush 30, 2) := by decide +kernel
theorem dX10_count_118 : decode cX10_count 118 = .ok (.iaload, 1) := by decide +kernel
theorem dX10_count_119 : decode cX10_count 119 = .ok (.ireturn, 1) := by decide +kernel
theorem dX10_count_120 : decode cX10_count 120 = .ok (.aload_n 0, 1) := by decide +kernel
theorem dX10_count_121 : decode cX10_count 121 = .ok (.getfield 122, 3) := by decide +kernel
theorem dX10_count_124 : decode cX10_count 124 = .ok (.bipush 31, 2) := by decide +kernel
theorem dX10_count_126 : decode cX10_count 126 = .ok (.iaload, 1) := by decide +kernel
theorem dX10_count_127 : decode cX10_count 127 = .ok (.ireturn, 1) := by decide +kernel
theorem dX10_count_128 : decode cX10_count 128 = .ok (.aload_n 0, 1) := by decide +kernel
theorem dX10_count_129 : decode cX10_count 129 = .ok (.bipush 6, 2) := by decide +kernel
theorem dX10_count_131 : decode cX10_count 131 = .ok (.aload_n 0, 1) := by decide +kernel
theorem dX10_count_132 : decode cX10_count 132 = .ok (.getfield 46, 3) := by decide +kernel
theorem dX10_count_135 : decode cX10_count 135 = .ok (.aload_n 0, 1) := by decide +kernel
theorem dX10_count_136 : decode cX10_count 136 = .ok (.getfield 230, 3) := by decide +kernel
theorem dX10_count_139 : decode cX10_count 139 = .ok (.iaload, 1) := by decide +kernel
theorem dX10_count_140 : decode cX10_count 140 = .ok (.iconst 0, 1) := by decide +kernel
theorem dX10_count_141 : decode cX10_count 141 = .ok (.invokevirtual 458, 3) := by decide +kernel
theorem dX10_count_144 : decode cX10_count 144 = .ok (.ireturn, 1) := by decide +kernel
theorem dX10_count_145 : decode cX10_count 145 = .ok (.aload_n 0, 1) := by decide +kernel
theorem dX10_count_146 : decode cX10_count 146 = .ok (.invokevirtual 414, 3) := by decide +kernel
theorem dX10_count_149 : decode cX10_count 149 = .ok (.ireturn, 1) := by decide +kernel
theorem dX10_count_150 : decode cX10_count 150 = .ok (.aload_n 0, 1) := by decide +kernel
theorem dX10_count_151 : decode cX10_count 151 = .ok (.bipush 24, 2) := by decide +kernel
theorem dX10_count_153 : decode cX10_count 153 = .ok (.aload_n 0, 1) := by decide +kernel
theorem dX10_count_154 : decode cX10_count 154 = .ok (.getfield 55, 3) := by decide +kernel
theorem dX10_count_157 : decode cX10_count 157 = .ok (.aload_n 0, 1) := by decide +kernel
theorem dX10_count_158 : decode cX10_count 158 = .ok (.getfield 230, 3) := by decide +kernel
theorem dX10_count_161 : decode cX10_count 161 = .ok (.iaload, 1) := by decide +kernel
theorem dX10_count_162 : decode cX10_count 162 = .ok (.iconst 0, 1) := by decide +kernel
theorem dX10_count_163 : decode cX10_count 163 = .ok (.invokevirtual 458, 3) := by decide +kernel
theorem dX10_count_166 : decode cX10_count 166 = .ok (.ireturn, 1) := by decide +kernel
theorem dX10_count_167 : decode cX10_count 167 = .ok (.aload_n 0, 1) := by decide +kernel
theorem dX10_count_168 : decode cX10_count 168 = .ok (.invokevirtual 405, 3) := by decide +kernel
theorem dX10_count_171 : decode cX10_count 171 = .ok (.ireturn, 1) := by decide +kernel
theorem dX10_count_172 : decode cX10_count 172 = .ok (.aload_n 0, 1) := by decide +kernel
theorem dX10_count_173 : decode cX10_count 173 = .ok (.getfield 167, 3) := by decide +kernel
theorem dX10_count_176 : decode cX10_count 176 = .ok (.ireturn, 1) := by decide +kernel
theorem dX10_count_177 : decode cX10_count 177 = .ok (.aload_n 0, 1) := by decide +kernel
theorem dX10_count_178 : decode cX10_count 178 = .ok (.getfield 248, 3) := by decide +kernel
theorem dX10_count_181 : decode cX10_count 181 = .ok (.ireturn, 1) := by decide +kernel
theorem dX10_count_182 : decode cX10_count 182 = .ok (.aload_n 0, 1) := by decide +kernel
theorem dX10_count_183 : decode cX10_count 183 = .ok (.getfield 251, 3) := by decide +kernel
theorem dX10_count_186 : decode cX10_count 186 = .ok (.ireturn, 1) := by decide +kernel
theorem dX10_count_187 : decode cX10_count 187 = .ok (.aload_n 0, 1) := by decide +kernel
theorem dX10_count_188 : decode cX10_count 188 = .ok (.getfield 143, 3) := by decide +kernel
theorem dX10_count_191 : decode cX10_count 191 = .ok (.iconst 0, 1) := by decide +kernel
theorem dX10_count_192 : decode cX10_count 192 = .ok (.baload, 1) := by decide +kernel
theorem dX10_count_193 : decode cX10_count 193 = .ok (.ifCond .eq 7, 3) := by decide +kernel
theorem dX10_count_196 : decode cX10_count 196 = .ok (.iconst 1, 1) := by decide +kernel
theorem dX10_count_197 : decode cX10_count 197 = .ok (.goto 4, 3) := by decide +kernel
theorem dX10_count_200 : decode cX10_count 200 = .ok (.iconst 0, 1) := by decide +kernel
theorem dX10_count_201 : decode cX10_count 201 = .ok (.aload_n 0, 1) := by decide +kernel
theorem dX10_count_202 : decode cX10_count 202 = .ok (.getfield 143, 3) := by decide +kernel
theorem dX10_count_205 : decode cX10_count 205 = .ok (.iconst 1, 1) := by decide +kernel
theorem dX10_count_206 : decode cX10_count 206 = .ok (.baload, 1) := by decide +kernel
theorem dX10_count_207 : decode cX10_count 207 = .ok (.ifCond .eq 7, 3) := by decide +kernel
theorem dX10_count_210 : decode cX10_count 210 = .ok (.iconst 1, 1) := by decide +kernel
theorem dX10_count_211 : decode cX10_count 211 = .ok (.goto 4, 3) := by decide +kernel
theorem dX10_count_214 : decode cX10_count 214 = .ok (.iconst 0, 1) := by decide +kernel
theorem dX10_count_215 : decode cX10_count 215 = .ok (.iadd, 1) := by decide +kernel
theorem dX10_count_216 : decode cX10_count 216 = .ok (.aload_n 0, 1) := by decide +kernel
theorem dX10_count_217 : decode cX10_count 217 = .ok (.getfield 143, 3) := by decide +kernel
theorem dX10_count_220 : decode cX10_count 220 = .ok (.iconst 2, 1) := by decide +kernel
theorem dX10_count_221 : decode cX10_count 221 = .ok (.baload, 1) := by decide +kernel
theorem dX10_count_222 : decode cX10_count 222 = .ok (.ifCond .eq 7, 3) := by decide +kernel
theorem dX10_count_225 : decode cX10_count 225 = .ok (.iconst 1, 1) := by decide +kernel
theorem dX10_count_226 : decode cX10_count 226 = .ok (.goto 4, 3) := by decide +kernel
theorem dX10_count_229 : decode cX10_count 229 = .ok (.iconst 0, 1) := by decide +kernel
theorem dX10_count_230 : decode cX10_count 230 = .ok (.iadd, 1) := by decide +kernel
theorem dX10_count_231 : decode cX10_count 231 = .ok (.ireturn, 1) := by decide +kernel
theorem dX10_count_232 : decode cX10_count 232 = .ok (.aload_n 0, 1) := by decide +kernel
theorem dX10_count_233 : decode cX10_count 233 = .ok (.invokevirtual 371, 3) := by decide +kernel
theorem dX10_count_236 : decode cX10_count 236 = .ok (.ifCond .eq 7, 3) := by decide +kernel
theorem dX10_count_239 : decode cX10_count 239 = .ok (.iconst 1, 1) := by decide +kernel
theorem dX10_count_240 : decode cX10_count 240 = .ok (.goto 4, 3) := by decide +kernel
theorem dX10_count_243 : decode cX10_count 243 = .ok (.iconst 0, 1) := by decide +kernel
theorem dX10_count_244 : decode cX10_count 244 = .ok (.ireturn, 1) := by decide +kernel
theorem dX10_count_245 : decode cX10_count 245 = .ok (.aload_n 0, 1) := by decide +kernel
theorem dX10_count_246 : decode cX10_count 246 = .ok (.iconst 0, 1) := by decide +kernel
theorem dX10_count_247 : decode cX10_count 247 = .ok (.invokevirtual 442, 3) := by decide +kernel
theorem dX10_count_250 : decode cX10_count 250 = .ok (.ireturn, 1) := by decide +kernel
theorem dX10_count_251 : decode cX10_count 251 = .ok (.aload_n 0, 1) := by decide +kernel
theorem dX10_count_252 : decode cX10_count 252 = .ok (.getfield 122, 3) := by decide +kernel
theorem dX10_count_255 : decode cX10_count 255 = .ok (.bipush 32, 2) := by decide +kernel
theorem dX10_count_257 : decode cX10_count 257 = .ok (.iaload, 1) := by decide +kernel
theorem dX10_count_258 : decode cX10_count 258 = .ok (.ireturn, 1) := by decide +kernel
theorem dX10_count_259 : decode cX10_count 259 = .ok (.aload_n 0, 1) := by decide +kernel
theorem dX10_count_260 : decode cX10_count 260 = .ok (.iconst 0, 1) := by decide +kernel
theorem dX10_count_261 : decode cX10_count 261 = .ok (.aload_n 0, 1) := by decide +kernel
theorem dX10_count_262 : decode cX10_count 262 = .ok (.getfield 46, 3) := by decide +kernel
theorem dX10_count_265 : decode cX10_count 265 = .ok (.aload_n 0, 1) := by decide +kernel
theorem dX10_count_266 : decode cX10_count 266 = .ok (.getfield 230, 3) := by decide +kernel
theorem dX10_count_269 : decode cX10_count 269 = .ok (.iaload, 1) := by decide +kernel
theorem dX10_count_270 : decode cX10_count 270 = .ok (.iconst 1, 1) := by decide +kernel
theorem dX10_count_271 : decode cX10_count 271 = .ok (.invokevirtual 458, 3) := by decide +kernel
theorem dX10_count_274 : decode cX10_count 274 = .ok (.ireturn, 1) := by decide +kernel
theorem dX10_count_275 : decode cX10_count 275 = .ok (.aload_n 0, 1) := by decide +kernel
theorem dX10_count_276 : decode cX10_count 276 = .ok (.bipush 18, 2) := by decide +kernel
theorem dX10_count_278 : decode cX10_count 278 = .ok (.invokevirtual 442, 3) := by decide +kernel
theorem dX10_count_281 : decode cX10_count 281 = .ok (.ireturn, 1) := by decide +kernel
theorem dX10_count_282 : decode cX10_count 282 = .ok (.iconst 0, 1) := by decide +kernel
theorem dX10_count_283 : decode cX10_count 283 = .ok (.istore_n 3, 1) := by decide +kernel
theorem dX10_count_284 : decode cX10_count 284 = .ok (.iload_n 3, 1) := by decide +kernel
theorem dX10_count_285 : decode cX10_count 285 = .ok (.aload_n 0, 1) := by decide +kernel
theorem dX10_count_286 : decode cX10_count 286 = .ok (.getfield 55, 3) := by decide +kernel
theorem dX10_count_289 : decode cX10_count 289 = .ok (.aload_n 0, 1) := by decide +kernel
theorem dX10_count_290 : decode cX10_count 290 = .ok (.getfield 230, 3) := by decide +kernel
theorem dX10_count_293 : decode cX10_count 293 = .ok (.iaload, 1) := by decide +kernel
theorem dX10_count_294 : decode cX10_count 294 = .ok (.if_icmp .ge 32, 3) := by decide +kernel
theorem dX10_count_297 : decode cX10_count 297 = .ok (.aload_n 0, 1) := by decide +kernel
theorem dX10_count_298 : decode cX10_count 298 = .ok (.getfield 67, 3) := by decide +kernel
theorem dX10_count_301 : decode cX10_count 301 = .ok (.bipush 6, 2) := by decide +kernel
theorem dX10_count_303 : decode cX10_count 303 = .ok (.aload_n 0, 1) := by decide +kernel
theorem dX10_count_304 : decode cX10_count 304 = .ok (.getfield 230, 3) := by decide +kernel
theorem dX10_count_307 : decode cX10_count 307 = .ok (.imul, 1) := by decide +kernel
theorem dX10_count_308 : decode cX10_count 308 = .ok (.iload_n 3, 1) := by decide +kernel
theorem dX10_count_309 : decode cX10_count 309 = .ok (.iadd, 1) := by decide +kernel
theorem dX10_count_310 : decode cX10_count 310 = .ok (.iaload, 1) := by decide +kernel
theorem dX10_count_311 : decode cX10_count 311 = .ok (.ifCond .eq 9, 3) := by decide +kernel
theorem dX10_count_314 : decode cX10_count 314 = .ok (.iload_n 2, 1) := by decide +kernel
theorem dX10_count_315 : decode cX10_count 315 = .ok (.iconst 1, 1) := by decide +kernel
theorem dX10_count_316 : decode cX10_count 316 = .ok (.iload_n 3, 1) := by decide +kernel
theorem dX10_count_317 : decode cX10_count 317 = .ok (.ishl, 1) := by decide +kernel
theorem dX10_count_318 : decode cX10_count 318 = .ok (.ior, 1) := by decide +kernel
theorem dX10_count_319 : decode cX10_count 319 = .ok (.istore_n 2, 1) := by decide +kernel
theorem dX10_count_320 : decode cX10_count 320 = .ok (.iinc 3 1, 3) := by decide +kernel
theorem dX10_count_323 : decode cX10_count 323 = .ok (.goto (-39), 3) := by decide +kernel
theorem dX10_count_326 : decode cX10_count 326 = .ok (.iload_n 2, 1) := by decide +kernel
theorem dX10_count_327 : decode cX10_count 327 = .ok (.ireturn, 1) := by decide +kernel
theorem dX10_count_328 : decode cX10_count 328 = .ok (.iconst (-1), 1) := by decide +kernel
theorem dX10_count_329 : decode cX10_count 329 = .ok (.ireturn, 1) := by decide +kernel
theorem dJ6_bitCount_0f7a4_0 : decode cJ6_bitCount_0f7a4 0 = .ok (.iload_n 0, 1) := by decide +kernel
theorem dJ6_bitCount_0f7a4_1 : decode cJ6_bitCount_0f7a4 1 = .ok (.iload_n 0, 1) := by decide +kernel
theorem dJ6_bitCount_0f7a4_2 : decode cJ6_bitCount_0f7a4 2 = .ok (.iconst 1, 1) := by decide +kernel
theorem dJ6_bitCount_0f7a4_3 : decode cJ6_bitCount_0f7a4 3 = .ok (.iushr, 1) := by decide +kernel
theorem dJ6_bitCount_0f7a4_4 : decode cJ6_bitCount_0f7a4 4 = .ok (.ldc_w 265, 3) := by decide +kernel
theorem dJ6_bitCount_0f7a4_7 : decode cJ6_bitCount_0f7a4 7 = .ok (.iand, 1) := by decide +kernel
theorem dJ6_bitCount_0f7a4_8 : decode cJ6_bitCount_0f7a4 8 = .ok (.isub, 1) := by decide +kernel
theorem dJ6_bitCount_0f7a4_9 : decode cJ6_bitCount_0f7a4 9 = .ok (.istore_n 0, 1) := by decide +kernel
theorem dJ6_bitCount_0f7a4_10 : decode cJ6_bitCount_0f7a4 10 = .ok (.iload_n 0, 1) := by decide +kernel
theorem dJ6_bitCount_0f7a4_11 : decode cJ6_bitCount_0f7a4 11 = .ok (.ldc_w 266, 3) := by decide +kernel
theorem dJ6_bitCount_0f7a4_14 : decode cJ6_bitCount_0f7a4 14 = .ok (.iand, 1) := by decide +kernel
theorem dJ6_bitCount_0f7a4_15 : decode cJ6_bitCount_0f7a4 15 = .ok (.iload_n 0, 1) := by decide +kernel
theorem dJ6_bitCount_0f7a4_16 : decode cJ6_bitCount_0f7a4 16 = .ok (.iconst 2, 1) := by decide +kernel
theorem dJ6_bitCount_0f7a4_17 : decode cJ6_bitCount_0f7a4 17 = .ok (.iushr, 1) := by decide +kernel
theorem dJ6_bitCount_0f7a4_18 : decode cJ6_bitCount_0f7a4 18 = .ok (.ldc_w 266, 3) := by decide +kernel
theorem dJ6_bitCount_0f7a4_21 : decode cJ6_bitCount_0f7a4 21 = .ok (.iand, 1) := by decide +kernel
theorem dJ6_bitCount_0f7a4_22 : decode cJ6_bitCount_0f7a4 22 = .ok (.iadd, 1) := by decide +kernel
theorem dJ6_bitCount_0f7a4_23 : decode cJ6_bitCount_0f7a4 23 = .ok (.istore_n 0, 1) := by decide +kernel
theorem dJ6_bitCount_0f7a4_24 : decode cJ6_bitCount_0f7a4 24 = .ok (.iload_n 0, 1) := by decide +kernel
theorem dJ6_bitCount_0f7a4_25 : decode cJ6_bitCount_0f7a4 25 = .ok (.iload_n 0, 1) := by decide +kernel
theorem dJ6_bitCount_0f7a4_26 : decode cJ6_bitCount_0f7a4 26 = .ok (.iconst 4, 1) := by decide +kernel
theorem dJ6_bitCount_0f7a4_27 : decode cJ6_bitCount_0f7a4 27 = .ok (.iushr, 1) := by decide +kernel
theorem dJ6_bitCount_0f7a4_28 : decode cJ6_bitCount_0f7a4 28 = .ok (.iadd, 1) := by decide +kernel
theorem dJ6_bitCount_0f7a4_29 : decode cJ6_bitCount_0f7a4 29 = .ok (.ldc_w 267, 3) := by decide +kernel
theorem dJ6_bitCount_0f7a4_32 : decode cJ6_bitCount_0f7a4 32 = .ok (.iand, 1) := by decide +kernel
theorem dJ6_bitCount_0f7a4_33 : decode cJ6_bitCount_0f7a4 33 = .ok (.istore_n 0, 1) := by decide +kernel
theorem dJ6_bitCount_0f7a4_34 : decode cJ6_bitCount_0f7a4 34 = .ok (.iload_n 0, 1) := by decide +kernel
theorem dJ6_bitCount_0f7a4_35 : decode cJ6_bitCount_0f7a4 35 = .ok (.iload_n 0, 1) := by decide +kernel
theorem dJ6_bitCount_0f7a4_36 : decode cJ6_bitCount_0f7a4 36 = .ok (.bipush 8, 2) := by decide +kernel
theorem dJ6_bitCount_0f7a4_38 : decode cJ6_bitCount_0f7a4 38 = .ok (.iushr, 1) := by decide +kernel
theorem dJ6_bitCount_0f7a4_39 : decode cJ6_bitCount_0f7a4 39 = .ok (.iadd, 1) := by decide +kernel
theorem dJ6_bitCount_0f7a4_40 : decode cJ6_bitCount_0f7a4 40 = .ok (.istore_n 0, 1) := by decide +kernel
theorem dJ6_bitCount_0f7a4_41 : decode cJ6_bitCount_0f7a4 41 = .ok (.iload_n 0, 1) := by decide +kernel
theorem dJ6_bitCount_0f7a4_42 : decode cJ6_bitCount_0f7a4 42 = .ok (.iload_n 0, 1) := by decide +kernel
theorem dJ6_bitCount_0f7a4_43 : decode cJ6_bitCount_0f7a4 43 = .ok (.bipush 16, 2) := by decide +kernel
theorem dJ6_bitCount_0f7a4_45 : decode cJ6_bitCount_0f7a4 45 = .ok (.iushr, 1) := by decide +kernel
theorem dJ6_bitCount_0f7a4_46 : decode cJ6_bitCount_0f7a4 46 = .ok (.iadd, 1) := by decide +kernel
theorem dJ6_bitCount_0f7a4_47 : decode cJ6_bitCount_0f7a4 47 = .ok (.istore_n 0, 1) := by decide +kernel
theorem dJ6_bitCount_0f7a4_48 : decode cJ6_bitCount_0f7a4 48 = .ok (.iload_n 0, 1) := by decide +kernel
theorem dJ6_bitCount_0f7a4_49 : decode cJ6_bitCount_0f7a4 49 = .ok (.bipush 63, 2) := by decide +kernel
theorem dJ6_bitCount_0f7a4_51 : decode cJ6_bitCount_0f7a4 51 = .ok (.iand, 1) := by decide +kernel
theorem dJ6_bitCount_0f7a4_52 : decode cJ6_bitCount_0f7a4 52 = .ok (.ireturn, 1) := by decide +kernel
theorem dJ7_fill_53178_0 : decode cJ7_fill_53178 0 = .ok (.iconst 0, 1) := by decide +kernel
theorem dJ7_fill_53178_1 : decode cJ7_fill_53178 1 = .ok (.istore_n 2, 1) := by decide +kernel
theorem dJ7_fill_53178_2 : decode cJ7_fill_53178 2 = .ok (.aload_n 0, 1) := by decide +kernel
theorem dJ7_fill_53178_3 : decode cJ7_fill_53178 3 = .ok (.arraylength, 1) := by decide +kernel
theorem dJ7_fill_53178_4 : decode cJ7_fill_53178 4 = .ok (.istore_n 3, 1) := by decide +kernel
theorem dJ7_fill_53178_5 : decode cJ7_fill_53178 5 = .ok (.iload_n 2, 1) := by decide +kernel
theorem dJ7_fill_53178_6 : decode cJ7_fill_53178 6 = .ok (.iload_n 3, 1) := by decide +kernel
theorem dJ7_fill_53178_7 : decode cJ7_fill_53178 7 = .ok (.if_icmp .ge 13, 3) := by decide +kernel
theorem dJ7_fill_53178_10 : decode cJ7_fill_53178 10 = .ok (.aload_n 0, 1) := by decide +kernel
theorem dJ7_fill_53178_11 : decode cJ7_fill_53178 11 = .ok (.iload_n 2, 1) := by decide +kernel
theorem dJ7_fill_53178_12 : decode cJ7_fill_53178 12 = .ok (.iload_n 1, 1) := by decide +kernel
theorem dJ7_fill_53178_13 : decode cJ7_fill_53178 13 = .ok (.iastore, 1) := by decide +kernel
theorem dJ7_fill_53178_14 : decode cJ7_fill_53178 14 = .ok (.iinc 2 1, 3) := by decide +kernel
theorem dJ7_fill_53178_17 : decode cJ7_fill_53178 17 = .ok (.goto (-12), 3) := by decide +kernel
theorem dJ7_fill_53178_20 : decode cJ7_fill_53178 20 = .ok (.return_, 1) := by decide +kernel
theorem dX0_begin_0 : decode cX0_begin 0 = .ok (.iload_n 1, 1) := by decide +kernel
theorem dX0_begin_1 : decode cX0_begin 1 = .ok (.bipush 61, 2) := by decide +kernel
theorem dX0_begin_3 : decode cX0_begin 3 = .ok (.if_icmp .eq 5, 3) := by decide +kernel
theorem dX0_begin_6 : decode cX0_begin 6 = .ok (.iconst 1, 1) := by decide +kernel
theorem dX0_begin_7 : decode cX0_begin 7 = .ok (.ireturn, 1) := by decide +kernel
theorem dX0_begin_8 : decode cX0_begin 8 = .ok (.aload_n 2, 1) := by decide +kernel
theorem dX0_begin_9 : decode cX0_begin 9 = .ok (.aload_n 0, 1) := by decide +kernel
theorem dX0_begin_10 : decode cX0_begin 10 = .ok (.getfield 9, 3) := by decide +kernel
theorem dX0_begin_13 : decode cX0_begin 13 = .ok (.invokevirtual 62, 3) := by decide +kernel
theorem dX0_begin_16 : decode cX0_begin 16 = .ok (.aload_n 0, 1) := by decide +kernel
theorem dX0_begin_17 : decode cX0_begin 17 = .ok (.iconst 1, 1) := by decide +kernel
theorem dX0_begin_18 : decode cX0_begin 18 = .ok (.putfield 24, 3) := by decide +kernel
theorem dX0_begin_21 : decode cX0_begin 21 = .ok (.aload_n 0, 1) := by decide +kernel
theorem dX0_begin_22 : decode cX0_begin 22 = .ok (.iconst 1, 1) := by decide +kernel
theorem dX0_begin_23 : decode cX0_begin 23 = .ok (.putfield 28, 3) := by decide +kernel
theorem dX0_begin_26 : decode cX0_begin 26 = .ok (.aload_n 0, 1) := by decide +kernel
theorem dX0_begin_27 : decode cX0_begin 27 = .ok (.iconst 1, 1) := by decide +kernel
theorem dX0_begin_28 : decode cX0_begin 28 = .ok (.putfield 34, 3) := by decide +kernel
theorem dX0_begin_31 : decode cX0_begin 31 = .ok (.iconst 0, 1) := by decide +kernel
theorem dX0_begin_32 : decode cX0_begin 32 = .ok (.ireturn, 1) := by decide +kernel
theorem dX0_takeUnit_0 : decode cX0_takeUnit 0 = .ok (.aload_n 1, 1) := by decide +kernel
theorem dX0_takeUnit_1 : decode cX0_takeUnit 1 = .ok (.getfield 44, 3) := by decide +kernel
theorem dX0_takeUnit_4 : decode cX0_takeUnit 4 = .ok (.istore_n 3, 1) := by decide +kernel
theorem dX0_takeUnit_5 : decode cX0_takeUnit 5 = .ok (.aload_n 0, 1) := by decide +kernel
theorem dX0_takeUnit_6 : decode cX0_takeUnit 6 = .ok (.getfield 34, 3) := by decide +kernel
theorem dX0_takeUnit_9 : decode cX0_takeUnit 9 = .ok (.ifCond .eq 13, 3) := by decide +kernel
theorem dX0_takeUnit_12 : decode cX0_takeUnit 12 = .ok (.iload_n 3, 1) := by decide +kernel
theorem dX0_takeUnit_13 : decode cX0_takeUnit 13 = .ok (.bipush 10, 2) := by decide +kernel
theorem dX0_takeUnit_15 : decode cX0_takeUnit 15 = .ok (.if_icmp .ne 7, 3) := by decide +kernel
theorem dX0_takeUnit_18 : decode cX0_takeUnit 18 = .ok (.iconst 1, 1) := by decide +kernel
theorem dX0_takeUnit_19 : decode cX0_takeUnit 19 = .ok (.goto 4, 3) := by decide +kernel
theorem dX0_takeUnit_22 : decode cX0_takeUnit 22 = .ok (.iconst 0, 1) := by decide +kernel
theorem dX0_takeUnit_23 : decode cX0_takeUnit 23 = .ok (.istore 4, 2) := by decide +kernel
theorem dX0_takeUnit_25 : decode cX0_takeUnit 25 = .ok (.aload_n 0, 1) := by decide +kernel
theorem dX0_takeUnit_26 : decode cX0_takeUnit 26 = .ok (.iconst 0, 1) := by decide +kernel
theorem dX0_takeUnit_27 : decode cX0_takeUnit 27 = .ok (.putfield 34, 3) := by decide +kernel
theorem dX0_takeUnit_30 : decode cX0_takeUnit 30 = .ok (.iload 4, 2) := by decide +kernel
theorem dX0_takeUnit_32 : decode cX0_takeUnit 32 = .ok (.ifCond .eq 32, 3) := by decide +kernel
theorem dX0_takeUnit_35 : decode cX0_takeUnit 35 = .ok (.aload_n 0, 1) := by decide +kernel
theorem dX0_takeUnit_36 : decode cX0_takeUnit 36 = .ok (.dup, 1) := by decide +kernel
theorem dX0_takeUnit_37 : decode cX0_takeUnit 37 = .ok (.getfield 18, 3) := by decide +kernel
theorem dX0_takeUnit_40 : decode cX0_takeUnit 40 = .ok (.iconst 1, 1) := by decide +kernel
theorem dX0_takeUnit_41 : decode cX0_takeUnit 41 = .ok (.iadd, 1) := by decide +kernel
theorem dX0_takeUnit_42 : decode cX0_takeUnit 42 = .ok (.putfield 18, 3) := by decide +kernel
theorem dX0_takeUnit_45 : decode cX0_takeUnit 45 = .ok (.aload_n 0, 1) := by decide +kernel
theorem dX0_takeUnit_46 : decode cX0_takeUnit 46 = .ok (.iconst 0, 1) := by decide +kernel
theorem dX0_takeUnit_47 : decode cX0_takeUnit 47 = .ok (.putfield 15, 3) := by decide +kernel
theorem dX0_takeUnit_50 : decode cX0_takeUnit 50 = .ok (.aload_n 0, 1) := by decide +kernel
theorem dX0_takeUnit_51 : decode cX0_takeUnit 51 = .ok (.getfield 18, 3) := by decide +kernel
theorem dX0_takeUnit_54 : decode cX0_takeUnit 54 = .ok (.iconst 4, 1) := by decide +kernel
theorem dX0_takeUnit_55 : decode cX0_takeUnit 55 = .ok (.if_icmp .le 7, 3) := by decide +kernel
theorem dX0_takeUnit_58 : decode cX0_takeUnit 58 = .ok (.iconst 2, 1) := by decide +kernel
theorem dX0_takeUnit_59 : decode cX0_takeUnit 59 = .ok (.goto 4, 3) := by decide +kernel
theorem dX0_takeUnit_62 : decode cX0_takeUnit 62 = .ok (.iconst 0, 1) := by decide +kernel
theorem dX0_takeUnit_63 : decode cX0_takeUnit 63 = .ok (.ireturn, 1) := by decide +kernel
theorem dX0_takeUnit_64 : decode cX0_takeUnit 64 = .ok (.iload_n 3, 1) := by decide +kernel
theorem dX0_takeUnit_65 : decode cX0_takeUnit 65 = .ok (.bipush 40, 2) := by decide +kernel
theorem dX0_takeUnit_67 : decode cX0_takeUnit 67 = .ok (.if_icmp .ne 34, 3) := by decide +kernel
theorem dX0_takeUnit_70 : decode cX0_takeUnit 70 = .ok (.aload_n 0, 1) := by decide +kernel
theorem dX0_takeUnit_71 : decode cX0_takeUnit 71 = .ok (.dup, 1) := by decide +kernel
theorem dX0_takeUnit_72 : decode cX0_takeUnit 72 = .ok (.getfield 21, 3) := by decide +kernel
theorem dX0_takeUnit_75 : decode cX0_takeUnit 75 = .ok (.iconst 1, 1) := by decide +kernel
theorem dX0_takeUnit_76 : decode cX0_takeUnit 76 = .ok (.iadd, 1) := by decide +kernel
theorem dX0_takeUnit_77 : decode cX0_takeUnit 77 = .ok (.putfield 21, 3) := by decide +kernel
theorem dX0_takeUnit_80 : decode cX0_takeUnit 80 = .ok (.aload_n 0, 1) := by decide +kernel
theorem dX0_takeUnit_81 : decode cX0_takeUnit 81 = .ok (.bipush 40, 2) := by decide +kernel
theorem dX0_takeUnit_83 : decode cX0_takeUnit 83 = .ok (.invokevirtual 68, 3) := by decide +kernel
theorem dX0_takeUnit_86 : decode cX0_takeUnit 86 = .ok (.aload_n 0, 1) := by decide +kernel
theorem dX0_takeUnit_87 : decode cX0_takeUnit 87 = .ok (.getfield 21, 3) := by decide +kernel
theorem dX0_takeUnit_90 : decode cX0_takeUnit 90 = .ok (.bipush 6, 2) := by decide +kernel
theorem dX0_takeUnit_92 : decode cX0_takeUnit 92 = .ok (.if_icmp .le 7, 3) := by decide +kernel
theorem dX0_takeUnit_95 : decode cX0_takeUnit 95 = .ok (.iconst 2, 1) := by decide +kernel
theorem dX0_takeUnit_96 : decode cX0_takeUnit 96 = .ok (.goto 4, 3) := by decide +kernel
theorem dX0_takeUnit_99 : decode cX0_takeUnit 99 = .ok (.iconst 0, 1) := by decide +kernel
theorem dX0_takeUnit_100 : decode cX0_takeUnit 100 = .ok (.ireturn, 1) := by decide +kernel
theorem dX0_takeUnit_101 : decode cX0_takeUnit 101 = .ok (.aload_n 0, 1) := by decide +kernel
theorem dX0_takeUnit_102 : decode cX0_takeUnit 102 = .ok (.iconst 0, 1) := by decide +kernel
theorem dX0_takeUnit_103 : decode cX0_takeUnit 103 = .ok (.putfield 28, 3) := by decide +kernel
theorem dX0_takeUnit_106 : decode cX0_takeUnit 106 = .ok (.iload_n 3, 1) := by decide +kernel
theorem dX0_takeUnit_107 : decode cX0_takeUnit 107 = .ok (.bipush 23, 2) := by decide +kernel
theorem dX0_takeUnit_109 : decode cX0_takeUnit 109 = .ok (.if_icmp .ne 13, 3) := by decide +kernel
theorem dX0_takeUnit_112 : decode cX0_takeUnit 112 = .ok (.aload_n 2, 1) := by decide +kernel
theorem dX0_takeUnit_113 : decode cX0_takeUnit 113 = .ok (.aload_n 1, 1) := by decide +kernel
theorem dX0_takeUnit_114 : decode cX0_takeUnit 114 = .ok (.getfield 71, 3) := by decide +kernel
theorem dX0_takeUnit_117 : decode cX0_takeUnit 117 = .ok (.invokevirtual 74, 3) := by decide +kernel
theorem dX0_takeUnit_120 : decode cX0_takeUnit 120 = .ok (.iconst 0, 1) := by decide +kernel
theorem dX0_takeUnit_121 : decode cX0_takeUnit 121 = .ok (.ireturn, 1) := by decide +kernel
theorem dX0_takeUnit_122 : decode cX0_takeUnit 122 = .ok (.iload_n 3, 1) := by decide +kernel
theorem dX0_takeUnit_123 : decode cX0_takeUnit 123 = .ok (.bipush 13, 2) := by decide +kernel
theorem dX0_takeUnit_125 : decode cX0_takeUnit 125 = .ok (.if_icmp .lt 23, 3) := by decide +kernel
theorem dX0_takeUnit_128 : decode cX0_takeUnit 128 = .ok (.iload_n 3, 1) := by decide +kernel
theorem dX0_takeUnit_129 : decode cX0_takeUnit 129 = .ok (.bipush 22, 2) := by decide +kernel
theorem dX0_takeUnit_131 : decode cX0_takeUnit 131 = .ok (.if_icmp .ge 17, 3) := by decide +kernel
theorem dX0_takeUnit_134 : decode cX0_takeUnit 134 = .ok (.aload_n 2, 1) := by decide +kernel
theorem dX0_takeUnit_135 : decode cX0_takeUnit 135 = .ok (.sipush 10000, 3) := by decide +kernel
theorem dX0_takeUnit_138 : decode cX0_takeUnit 138 = .ok (.iload_n 3, 1) := by decide +kernel
theorem dX0_takeUnit_139 : decode cX0_takeUnit 139 = .ok (.bipush 13, 2) := by decide +kernel
theorem dX0_takeUnit_141 : decode cX0_takeUnit 141 = .ok (.isub, 1) := by decide +kernel
theorem dX0_takeUnit_142 : decode cX0_takeUnit 142 = .ok (.iadd, 1) := by decide +kernel
theorem dX0_takeUnit_143 : decode cX0_takeUnit 143 = .ok (.invokevirtual 74, 3) := by decide +kernel
theorem dX0_takeUnit_146 : decode cX0_takeUnit 146 = .ok (.iconst 0, 1) := by decide +kernel
theorem dX0_takeUnit_147 : decode cX0_takeUnit 147 = .ok (.ireturn, 1) := by decide +kernel
theorem dX0_takeUnit_148 : decode cX0_takeUnit 148 = .ok (.iconst 1, 1) := by decide +kernel
theorem dX0_takeUnit_149 : decode cX0_takeUnit 149 = .ok (.ireturn, 1) := by decide +kernel
theorem dX0_putHanging_0 : decode cX0_putHanging 0 = .ok (.aload_n 0, 1) := by decide +kernel
theorem dX0_putHanging_1 : decode cX0_putHanging 1 = .ok (.getfield 41, 3) := by decide +kernel
theorem dX0_putHanging_4 : decode cX0_putHanging 4 = .ok (.ifCond .le 48, 3) := by decide +kernel
theorem dX0_putHanging_7 : decode cX0_putHanging 7 = .ok (.aload_n 0, 1) := by decide +kernel
theorem dX0_putHanging_8 : decode cX0_putHanging 8 = .ok (.getfield 37, 3) := by decide +kernel
theorem dX0_putHanging_11 : decode cX0_putHanging 11 = .ok (.aload_n 0, 1) := by decide +kernel
theorem dX0_putHanging_12 : decode cX0_putHanging 12 = .ok (.getfield 41, 3) := by decide +kernel
theorem dX0_putHanging_15 : decode cX0_putHanging 15 = .ok (.iconst 1, 1) := by decide +kernel
theorem dX0_putHanging_16 : decode cX0_putHanging 16 = .ok (.isub, 1) := by decide +kernel
theorem dX0_putHanging_17 : decode cX0_putHanging 17 = .ok (.iaload, 1) := by decide +kernel
theorem dX0_putHanging_18 : decode cX0_putHanging 18 = .ok (.invokestatic 77, 3) := by decide +kernel
theorem dX0_putHanging_21 : decode cX0_putHanging 21 = .ok (.iload_n 1, 1) := by decide +kernel
theorem dX0_putHanging_22 : decode cX0_putHanging 22 = .ok (.if_icmp .lt 30, 3) := by decide +kernel
theorem dX0_putHanging_25 : decode cX0_putHanging 25 = .ok (.aload_n 0, 1) := by decide +kernel
theorem dX0_putHanging_26 : decode cX0_putHanging 26 = .ok (.dup, 1) := by decide +kernel
theorem dX0_putHanging_27 : decode cX0_putHanging 27 = .ok (.getfield 41, 3) := by decide +kernel
theorem dX0_putHanging_30 : decode cX0_putHanging 30 = .ok (.iconst 1, 1) := by decide +kernel
theorem dX0_putHanging_31 : decode cX0_putHanging 31 = .ok (.isub, 1) := by decide +kernel
theorem dX0_putHanging_32 : decode cX0_putHanging 32 = .ok (.putfield 41, 3) := by decide +kernel
theorem dX0_putHanging_35 : decode cX0_putHanging 35 = .ok (.aload_n 2, 1) := by decide +kernel
theorem dX0_putHanging_36 : decode cX0_putHanging 36 = .ok (.aload_n 0, 1) := by decide +kernel
theorem dX0_putHanging_37 : decode cX0_putHanging 37 = .ok (.getfield 37, 3) := by decide +kernel
theorem dX0_putHanging_40 : decode cX0_putHanging 40 = .ok (.aload_n 0, 1) := by decide +kernel
theorem dX0_putHanging_41 : decode cX0_putHanging 41 = .ok (.getfield 41, 3) := by decide +kernel
theorem dX0_putHanging_44 : decode cX0_putHanging 44 = .ok (.iaload, 1) := by decide +kernel
theorem dX0_putHanging_45 : decode cX0_putHanging 45 = .ok (.ineg, 1) := by decide +kernel
theorem dX0_putHanging_46 : decode cX0_putHanging 46 = .ok (.invokevirtual 74, 3) := by decide +kernel
theorem dX0_putHanging_49 : decode cX0_putHanging 49 = .ok (.goto (-49), 3) := by decide +kernel
theorem dX0_putHanging_52 : decode cX0_putHanging 52 = .ok (.return_, 1) := by decide +kernel
theorem dX1_clear_0 : decode cX1_clear 0 = .ok (.aload_n 0, 1) := by decide +kernel
theorem dX1_clear_1 : decode cX1_clear 1 = .ok (.iconst 0, 1) := by decide +kernel
theorem dX1_clear_2 : decode cX1_clear 2 = .ok (.putfield 15, 3) := by decide +kernel
theorem dX1_clear_5 : decode cX1_clear 5 = .ok (.aload_n 0, 1) := by decide +kernel
theorem dX1_clear_6 : decode cX1_clear 6 = .ok (.getfield 25, 3) := by decide +kernel
theorem dX1_clear_9 : decode cX1_clear 9 = .ok (.iconst 0, 1) := by decide +kernel
theorem dX1_clear_10 : decode cX1_clear 10 = .ok (.invokestatic 38, 3) := by decide +kernel
theorem dX1_clear_13 : decode cX1_clear 13 = .ok (.return_, 1) := by decide +kernel
theorem dX1_forgetVars_0 : decode cX1_forgetVars 0 = .ok (.aload_n 0, 1) := by decide +kernel
theorem dX1_forgetVars_1 : decode cX1_forgetVars 1 = .ok (.getfield 28, 3) := by decide +kernel
theorem dX1_forgetVars_4 : decode cX1_forgetVars 4 = .ok (.iconst 0, 1) := by decide +kernel
theorem dX1_forgetVars_5 : decode cX1_forgetVars 5 = .ok (.invokestatic 38, 3) := by decide +kernel
theorem dX1_forgetVars_8 : decode cX1_forgetVars 8 = .ok (.return_, 1) := by decide +kernel
theorem dX1_valueOf_0 : decode cX1_valueOf 0 = .ok (.iload_n 1, 1) := by decide +kernel
theorem dX1_valueOf_1 : decode cX1_valueOf 1 = .ok (.bipush 13, 2) := by decide +kernel
theorem dX1_valueOf_3 : decode cX1_valueOf 3 = .ok (.imul, 1) := by decide +kernel
theorem dX1_valueOf_4 : decode cX1_valueOf 4 = .ok (.iload_n 2, 1) := by decide +kernel
theorem dX1_valueOf_5 : decode cX1_valueOf 5 = .ok (.iadd, 1) := by decide +kernel
theorem dX1_valueOf_6 : decode cX1_valueOf 6 = .ok (.istore_n 3, 1) := by decide +kernel
theorem dX1_valueOf_7 : decode cX1_valueOf 7 = .ok (.iconst 0, 1) := by decide +kernel
theorem dX1_valueOf_8 : decode cX1_valueOf 8 = .ok (.istore 4, 2) := by decide +kernel
theorem dX1_valueOf_10 : decode cX1_valueOf 10 = .ok (.iload_n 2, 1) := by decide +kernel
theorem dX1_valueOf_11 : decode cX1_valueOf 11 = .ok (.ifCond .ne 12, 3) := by decide +kernel
theorem dX1_valueOf_14 : decode cX1_valueOf 14 = .ok (.aload_n 0, 1) := by decide +kernel
theorem dX1_valueOf_15 : decode cX1_valueOf 15 = .ok (.getfield 19, 3) := by decide +kernel
theorem dX1_valueOf_18 : decode cX1_valueOf 18 = .ok (.iload_n 1, 1) := by decide +kernel
theorem dX1_valueOf_19 : decode cX1_valueOf 19 = .ok (.iaload, 1) := by decide +kernel
theorem dX1_valueOf_20 : decode cX1_valueOf 20 = .ok (.goto 11, 3) := by decide +kernel
theorem dX1_valueOf_23 : decode cX1_valueOf 23 = .ok (.aload_n 0, 1) := by decide +kernel
theorem dX1_valueOf_24 : decode cX1_valueOf 24 = .ok (.getfield 22, 3) := by decide +kernel
theorem dX1_valueOf_27 : decode cX1_valueOf 27 = .ok (.iload_n 3, 1) := by decide +kernel
theorem dX1_valueOf_28 : decode cX1_valueOf 28 = .ok (.iconst 1, 1) := by decide +kernel
theorem dX1_valueOf_29 : decode cX1_valueOf 29 = .ok (.isub, 1) := by decide +kernel
theorem dX1_valueOf_30 : decode cX1_valueOf 30 = .ok (.iaload, 1) := by decide +kernel
theorem dX1_valueOf_31 : decode cX1_valueOf 31 = .ok (.istore 5, 2) := by decide +kernel
theorem dX1_valueOf_33 : decode cX1_valueOf 33 = .ok (.iload 5, 2) := by decide +kernel
theorem dX1_valueOf_35 : decode cX1_valueOf 35 = .ok (.aload_n 0, 1) := by decide +kernel
theorem dX1_valueOf_36 : decode cX1_valueOf 36 = .ok (.getfield 22, 3) := by decide +kernel
theorem dX1_valueOf_39 : decode cX1_valueOf 39 = .ok (.iload_n 3, 1) := by decide +kernel
theorem dX1_valueOf_40 : decode cX1_valueOf 40 = .ok (.iaload, 1) := by decide +kernel
theorem dX1_valueOf_41 : decode cX1_valueOf 41 = .ok (.if_icmp .ge 113, 3) := by decide +kernel
theorem dX1_valueOf_44 : decode cX1_valueOf 44 = .ok (.aload_n 0, 1) := by decide +kernel
theorem dX1_valueOf_45 : decode cX1_valueOf 45 = .ok (.getfield 11, 3) := by decide +kernel
theorem dX1_valueOf_48 : decode cX1_valueOf 48 = .ok (.iload 5, 2) := by decide +kernel
theorem dX1_valueOf_50 : decode cX1_valueOf 50 = .ok (.iaload, 1) := by decide +kernel
theorem dX1_valueOf_51 : decode cX1_valueOf 51 = .ok (.istore 6, 2) := by decide +kernel
theorem dX1_valueOf_53 : decode cX1_valueOf 53 = .ok (.iload 6, 2) := by decide +kernel
theorem dX1_valueOf_55 : decode cX1_valueOf 55 = .ok (.ifCond .ge 47, 3) := by decide +kernel
theorem dX1_valueOf_58 : decode cX1_valueOf 58 = .ok (.iload 4, 2) := by decide +kernel
theorem dX1_valueOf_60 : decode cX1_valueOf 60 = .ok (.iconst 2, 1) := by decide +kernel
theorem dX1_valueOf_61 : decode cX1_valueOf 61 = .ok (.if_icmp .lt 41, 3) := by decide +kernel
theorem dX1_valueOf_64 : decode cX1_valueOf 64 = .ok (.iinc 4 (-1), 3) := by decide +kernel
theorem dX1_valueOf_67 : decode cX1_valueOf 67 = .ok (.aload_n 0, 1) := by decide +kernel
theorem dX1_valueOf_68 : decode cX1_valueOf 68 = .ok (.getfield 31, 3) := by decide +kernel
theorem dX1_valueOf_71 : decode cX1_valueOf 71 = .ok (.iload 4, 2) := by decide +kernel
theorem dX1_valueOf_73 : decode cX1_valueOf 73 = .ok (.iconst 1, 1) := by decide +kernel
theorem dX1_valueOf_74 : decode cX1_valueOf 74 = .ok (.isub, 1) := by decide +kernel
theorem dX1_valueOf_75 : decode cX1_valueOf 75 = .ok (.aload_n 0, 1) := by decide +kernel
theorem dX1_valueOf_76 : decode cX1_valueOf 76 = .ok (.iload 6, 2) := by decide +kernel
theorem dX1_valueOf_78 : decode cX1_valueOf 78 = .ok (.ineg, 1) := by decide +kernel
theorem dX1_valueOf_79 : decode cX1_valueOf 79 = .ok (.aload_n 0, 1) := by decide +kernel
theorem dX1_valueOf_80 : decode cX1_valueOf 80 = .ok (.getfield 31, 3) := by decide +kernel
theorem dX1_valueOf_83 : decode cX1_valueOf 83 = .ok (.iload 4, 2) := by decide +kernel
theorem dX1_valueOf_85 : decode cX1_valueOf 85 = .ok (.iconst 1, 1) := by decide +kernel
theorem dX1_valueOf_86 : decode cX1_valueOf 86 = .ok (.isub, 1) := by decide +kernel
theorem dX1_valueOf_87 : decode cX1_valueOf 87 = .ok (.iaload, 1) := by decide +kernel
theorem dX1_valueOf_88 : decode cX1_valueOf 88 = .ok (.aload_n 0, 1) := by decide +kernel
theorem dX1_valueOf_89 : decode cX1_valueOf 89 = .ok (.getfield 31, 3) := by decide +kernel
theorem dX1_valueOf_92 : decode cX1_valueOf 92 = .ok (.iload 4, 2) := by decide +kernel
theorem dX1_valueOf_94 : decode cX1_valueOf 94 = .ok (.iaload, 1) := by decide +kernel
theorem dX1_valueOf_95 : decode cX1_valueOf 95 = .ok (.invokevirtual 52, 3) := by decide +kernel
theorem dX1_valueOf_98 : decode cX1_valueOf 98 = .ok (.iastore, 1) := by decide +kernel
theorem dX1_valueOf_99 : decode cX1_valueOf 99 = .ok (.goto 49, 3) := by decide +kernel
theorem dX1_valueOf_102 : decode cX1_valueOf 102 = .ok (.iload 6, 2) := by decide +kernel
theorem dX1_valueOf_104 : decode cX1_valueOf 104 = .ok (.ifCond .lt 44, 3) := by decide +kernel
theorem dX1_valueOf_107 : decode cX1_valueOf 107 = .ok (.iload 4, 2) := by decide +kernel
theorem dX1_valueOf_109 : decode cX1_valueOf 109 = .ok (.bipush 24, 2) := by decide +kernel
theorem dX1_valueOf_111 : decode cX1_valueOf 111 = .ok (.if_icmp .ge 37, 3) := by decide +kernel
theorem dX1_valueOf_114 : decode cX1_valueOf 114 = .ok (.aload_n 0, 1) := by decide +kernel
theorem dX1_valueOf_115 : decode cX1_valueOf 115 = .ok (.getfield 31, 3) := by decide +kernel
theorem dX1_valueOf_118 : decode cX1_valueOf 118 = .ok (.iload 4, 2) := by decide +kernel
theorem dX1_valueOf_120 : decode cX1_valueOf 120 = .ok (.iload 6, 2) := by decide +kernel
theorem dX1_valueOf_122 : decode cX1_valueOf 122 = .ok (.sipush 10000, 3) := by decide +kernel
theorem dX1_valueOf_125 : decode cX1_valueOf 125 = .ok (.if_icmp .ge 8, 3) := by decide +kernel
theorem dX1_valueOf_128 : decode cX1_valueOf 128 = .ok (.iload 6, 2) := by decide +kernel
theorem dX1_valueOf_130 : decode cX1_valueOf 130 = .ok (.goto 14, 3) := by decide +kernel
theorem dX1_valueOf_133 : decode cX1_valueOf 133 = .ok (.aload_n 0, 1) := by decide +kernel
theorem dX1_valueOf_134 : decode cX1_valueOf 134 = .ok (.getfield 28, 3) := by decide +kernel
theorem dX1_valueOf_137 : decode cX1_valueOf 137 = .ok (.iload 6, 2) := by decide +kernel
theorem dX1_valueOf_139 : decode cX1_valueOf 139 = .ok (.sipush 10000, 3) := by decide +kernel
theorem dX1_valueOf_142 : decode cX1_valueOf 142 = .ok (.isub, 1) := by decide +kernel
theorem dX1_valueOf_143 : decode cX1_valueOf 143 = .ok (.iaload, 1) := by decide +kernel
theorem dX1_valueOf_144 : decode cX1_valueOf 144 = .ok (.iastore, 1) := by decide +kernel
theorem dX1_valueOf_145 : decode cX1_valueOf 145 = .ok (.iinc 4 1, 3) := by decide +kernel
theorem dX1_valueOf_148 : decode cX1_valueOf 148 = .ok (.iinc 5 1, 3) := by decide +kernel
theorem dX1_valueOf_151 : decode cX1_valueOf 151 = .ok (.goto (-118), 3) := by decide +kernel
theorem dX1_valueOf_154 : decode cX1_valueOf 154 = .ok (.aload_n 0, 1) := by decide +kernel
theorem dX1_valueOf_155 : decode cX1_valueOf 155 = .ok (.getfield 31, 3) := by decide +kernel
theorem dX1_valueOf_158 : decode cX1_valueOf 158 = .ok (.iconst 0, 1) := by decide +kernel
theorem dX1_valueOf_159 : decode cX1_valueOf 159 = .ok (.iaload, 1) := by decide +kernel
theorem dX1_valueOf_160 : decode cX1_valueOf 160 = .ok (.ireturn, 1) := by decide +kernel
theorem dX2_init_0 : decode cX2_init 0 = .ok (.aload_n 0, 1) := by decide +kernel
theorem dX2_init_1 : decode cX2_init 1 = .ok (.invokespecial 3, 3) := by decide +kernel
theorem dX2_init_4 : decode cX2_init 4 = .ok (.aload_n 0, 1) := by decide +kernel
theorem dX2_init_5 : decode cX2_init 5 = .ok (.bipush 40, 2) := by decide +kernel
theorem dX2_init_7 : decode cX2_init 7 = .ok (.anewarray 9, 3) := by decide +kernel
theorem dX2_init_10 : decode cX2_init 10 = .ok (.putfield 11, 3) := by decide +kernel
theorem dX2_init_13 : decode cX2_init 13 = .ok (.aload_n 0, 1) := by decide +kernel
theorem dX2_init_14 : decode cX2_init 14 = .ok (.iconst 0, 1) := by decide +kernel
theorem dX2_init_15 : decode cX2_init 15 = .ok (.putfield 17, 3) := by decide +kernel
theorem dX2_init_18 : decode cX2_init 18 = .ok (.aload_n 0, 1) := by decide +kernel
theorem dX2_init_19 : decode cX2_init 19 = .ok (.iconst 0, 1) := by decide +kernel
theorem dX2_init_20 : decode cX2_init 20 = .ok (.putfield 21, 3) := by decide +kernel
theorem dX2_init_23 : decode cX2_init 23 = .ok (.aload_n 0, 1) := by decide +kernel
theorem dX2_init_24 : decode cX2_init 24 = .ok (.iconst 3, 1) := by decide +kernel
theorem dX2_init_25 : decode cX2_init 25 = .ok (.anewarray 9, 3) := by decide +kernel
theorem dX2_init_28 : decode cX2_init 28 = .ok (.putfield 24, 3) := by decide +kernel
theorem dX2_init_31 : decode cX2_init 31 = .ok (.aload_n 0, 1) := by decide +kernel
theorem dX2_init_32 : decode cX2_init 32 = .ok (.iconst 0, 1) := by decide +kernel
theorem dX2_init_33 : decode cX2_init 33 = .ok (.putfield 27, 3) := by decide +kernel
theorem dX2_init_36 : decode cX2_init 36 = .ok (.iconst 0, 1) := by decide +kernel
theorem dX2_init_37 : decode cX2_init 37 = .ok (.istore_n 1, 1) := by decide +kernel
theorem dX2_init_38 : decode cX2_init 38 = .ok (.iload_n 1, 1) := by decide +kernel
theorem dX2_init_39 : decode cX2_init 39 = .ok (.bipush 40, 2) := by decide +kernel
theorem dX2_init_41 : decode cX2_init 41 = .ok (.if_icmp .ge 22, 3) := by decide +kernel
theorem dX2_init_44 : decode cX2_init 44 = .ok (.aload_n 0, 1) := by decide +kernel
theorem dX2_init_45 : decode cX2_init 45 = .ok (.getfield 11, 3) := by decide +kernel
theorem dX2_init_48 : decode cX2_init 48 = .ok (.iload_n 1, 1) := by decide +kernel
theorem dX2_init_49 : decode cX2_init 49 = .ok (.new 9, 3) := by decide +kernel
theorem dX2_init_52 : decode cX2_init 52 = .ok (.dup, 1) := by decide +kernel
theorem dX2_init_53 : decode cX2_init 53 = .ok (.invokespecial 30, 3) := by decide +kernel
theorem dX2_init_56 : decode cX2_init 56 = .ok (.aastore, 1) := by decide +kernel
theorem dX2_init_57 : decode cX2_init 57 = .ok (.iinc 1 1, 3) := by decide +kernel
theorem dX2_init_60 : decode cX2_init 60 = .ok (.goto (-22), 3) := by decide +kernel
theorem dX2_init_63 : decode cX2_init 63 = .ok (.iconst 0, 1) := by decide +kernel
theorem dX2_init_64 : decode cX2_init 64 = .ok (.istore_n 1, 1) := by decide +kernel
theorem dX2_init_65 : decode cX2_init 65 = .ok (.iload_n 1, 1) := by decide +kernel
theorem dX2_init_66 : decode cX2_init 66 = .ok (.iconst 3, 1) := by decide +kernel
theorem dX2_init_67 : decode cX2_init 67 = .ok (.if_icmp .ge 22, 3) := by decide +kernel
theorem dX2_init_70 : decode cX2_init 70 = .ok (.aload_n 0, 1) := by decide +kernel
theorem dX2_init_71 : decode cX2_init 71 = .ok (.getfield 24, 3) := by decide +kernel
theorem dX2_init_74 : decode cX2_init 74 = .ok (.iload_n 1, 1) := by decide +kernel
theorem dX2_init_75 : decode cX2_init 75 = .ok (.new 9, 3) := by decide +kernel
theorem dX2_init_78 : decode cX2_init 78 = .ok (.dup, 1) := by decide +kernel
theorem dX2_init_79 : decode cX2_init 79 = .ok (.invokespecial 30, 3) := by decide +kernel
theorem dX2_init_82 : decode cX2_init 82 = .ok (.aastore, 1) := by decide +kernel
theorem dX2_init_83 : decode cX2_init 83 = .ok (.iinc 1 1, 3) := by decide +kernel
theorem dX2_init_86 : decode cX2_init 86 = .ok (.goto (-21), 3) := by decide +kernel
theorem dX2_init_89 : decode cX2_init 89 = .ok (.return_, 1) := by decide +kernel
theorem dX2_remember_0 : decode cX2_remember 0 = .ok (.aload_n 0, 1) := by decide +kernel
theorem dX2_remember_1 : decode cX2_remember 1 = .ok (.getfield 11, 3) := by decide +kernel
theorem dX2_remember_4 : decode cX2_remember 4 = .ok (.aload_n 0, 1) := by decide +kernel
theorem dX2_remember_5 : decode cX2_remember 5 = .ok (.getfield 17, 3) := by decide +kernel
theorem dX2_remember_8 : decode cX2_remember 8 = .ok (.aaload, 1) := by decide +kernel
theorem dX2_remember_9 : decode cX2_remember 9 = .ok (.aload_n 1, 1) := by decide +kernel
theorem dX2_remember_10 : decode cX2_remember 10 = .ok (.invokevirtual 31, 3) := by decide +kernel
theorem dX2_remember_13 : decode cX2_remember 13 = .ok (.aload_n 0, 1) := by decide +kernel
theorem dX2_remember_14 : decode cX2_remember 14 = .ok (.aload_n 0, 1) := by decide +kernel
theorem dX2_remember_15 : decode cX2_remember 15 = .ok (.getfield 17, 3) := by decide +kernel
theorem dX2_remember_18 : decode cX2_remember 18 = .ok (.iconst 1, 1) := by decide +kernel
theorem dX2_remember_19 : decode cX2_remember 19 = .ok (.iadd, 1) := by decide +kernel
theorem dX2_remember_20 : decode cX2_remember 20 = .ok (.bipush 40, 2) := by decide +kernel
theorem dX2_remember_22 : decode cX2_remember 22 = .ok (.irem, 1) := by decide +kernel
theorem dX2_remember_23 : decode cX2_remember 23 = .ok (.putfield 17, 3) := by decide +kernel
theorem dX2_remember_26 : decode cX2_remember 26 = .ok (.aload_n 0, 1) := by decide +kernel
theorem dX2_remember_27 : decode cX2_remember 27 = .ok (.bipush 40, 2) := by decide +kernel
theorem dX2_remember_29 : decode cX2_remember 29 = .ok (.aload_n 0, 1) := by decide +kernel
theorem dX2_remember_30 : decode cX2_remember 30 = .ok (.getfield 21, 3) := by decide +kernel
theorem dX2_remember_33 : decode cX2_remember 33 = .ok (.iconst 1, 1) := by decide +kernel
theorem dX2_remember_34 : decode cX2_remember 34 = .ok (.iadd, 1) := by decide +kernel
theorem dX2_remember_35 : decode cX2_remember 35 = .ok (.invokestatic 35, 3) := by decide +kernel
theorem dX2_remember_38 : decode cX2_remember 38 = .ok (.putfield 21, 3) := by decide +kernel
theorem dX2_remember_41 : decode cX2_remember 41 = .ok (.return_, 1) := by decide +kernel
theorem dX2_takeBack_0 : decode cX2_takeBack 0 = .ok (.aload_n 0, 1) := by decide +kernel
theorem dX2_takeBack_1 : decode cX2_takeBack 1 = .ok (.getfield 21, 3) := by decide +kernel
theorem dX2_takeBack_4 : decode cX2_takeBack 4 = .ok (.ifCond .ne 5, 3) := by decide +kernel
theorem dX2_takeBack_7 : decode cX2_takeBack 7 = .ok (.iconst 0, 1) := by decide +kernel
theorem dX2_takeBack_8 : decode cX2_takeBack 8 = .ok (.ireturn, 1) := by decide +kernel
theorem dX2_takeBack_9 : decode cX2_takeBack 9 = .ok (.aload_n 0, 1) := by decide +kernel
theorem dX2_takeBack_10 : decode cX2_takeBack 10 = .ok (.aload_n 0, 1) := by decide +kernel
theorem dX2_takeBack_11 : decode cX2_takeBack 11 = .ok (.getfield 17, 3) := by decide +kernel
theorem dX2_takeBack_14 : decode cX2_takeBack 14 = .ok (.bipush 40, 2) := by decide +kernel
theorem dX2_takeBack_16 : decode cX2_takeBack 16 = .ok (.iadd, 1) := by decide +kernel
theorem dX2_takeBack_17 : decode cX2_takeBack 17 = .ok (.iconst 1, 1) := by decide +kernel
theorem dX2_takeBack_18 : decode cX2_takeBack 18 = .ok (.isub, 1) := by decide +kernel
theorem dX2_takeBack_19 : decode cX2_takeBack 19 = .ok (.bipush 40, 2) := by decide +kernel
theorem dX2_takeBack_21 : decode cX2_takeBack 21 = .ok (.irem, 1) := by decide +kernel
theorem dX2_takeBack_22 : decode cX2_takeBack 22 = .ok (.putfield 17, 3) := by decide +kernel
theorem dX2_takeBack_25 : decode cX2_takeBack 25 = .ok (.aload_n 0, 1) := by decide +kernel
theorem dX2_takeBack_26 : decode cX2_takeBack 26 = .ok (.dup, 1) := by decide +kernel
theorem dX2_takeBack_27 : decode cX2_takeBack 27 = .ok (.getfield 21, 3) := by decide +kernel
theorem dX2_takeBack_30 : decode cX2_takeBack 30 = .ok (.iconst 1, 1) := by decide +kernel
theorem dX2_takeBack_31 : decode cX2_takeBack 31 = .ok (.isub, 1) := by decide +kernel
theorem dX2_takeBack_32 : decode cX2_takeBack 32 = .ok (.putfield 21, 3) := by decide +kernel
theorem dX2_takeBack_35 : decode cX2_takeBack 35 = .ok (.aload_n 1, 1) := by decide +kernel
theorem dX2_takeBack_36 : decode cX2_takeBack 36 = .ok (.aload_n 0, 1) := by decide +kernel
theorem dX2_takeBack_37 : decode cX2_takeBack 37 = .ok (.getfield 11, 3) := by decide +kernel
theorem dX2_takeBack_40 : decode cX2_takeBack 40 = .ok (.aload_n 0, 1) := by decide +kernel
theorem dX2_takeBack_41 : decode cX2_takeBack 41 = .ok (.getfield 17, 3) := by decide +kernel
theorem dX2_takeBack_44 : decode cX2_takeBack 44 = .ok (.aaload, 1) := by decide +kernel
theorem dX2_takeBack_45 : decode cX2_takeBack 45 = .ok (.invokevirtual 31, 3) := by decide +kernel
theorem dX2_takeBack_48 : decode cX2_takeBack 48 = .ok (.iconst 1, 1) := by decide +kernel
theorem dX2_takeBack_49 : decode cX2_takeBack 49 = .ok (.ireturn, 1) := by decide +kernel
theorem dX2_keep_0 : decode cX2_keep 0 = .ok (.iload_n 1, 1) := by decide +kernel
theorem dX2_keep_1 : decode cX2_keep 1 = .ok (.ifCond .lt 8, 3) := by decide +kernel
theorem dX2_keep_4 : decode cX2_keep 4 = .ok (.iload_n 1, 1) := by decide +kernel
theorem dX2_keep_5 : decode cX2_keep 5 = .ok (.iconst 3, 1) := by decide +kernel
theorem dX2_keep_6 : decode cX2_keep 6 = .ok (.if_icmp .lt 5, 3) := by decide +kernel
theorem dX2_keep_9 : decode cX2_keep 9 = .ok (.iconst 0, 1) := by decide +kernel
theorem dX2_keep_10 : decode cX2_keep 10 = .ok (.ireturn, 1) := by decide +kernel
theorem dX2_keep_11 : decode cX2_keep 11 = .ok (.aload_n 0, 1) := by decide +kernel
theorem dX2_keep_12 : decode cX2_keep 12 = .ok (.getfield 24, 3) := by decide +kernel
theorem dX2_keep_15 : decode cX2_keep 15 = .ok (.iload_n 1, 1) := by decide +kernel
theorem dX2_keep_16 : decode cX2_keep 16 = .ok (.aaload, 1) := by decide +kernel
theorem dX2_keep_17 : decode cX2_keep 17 = .ok (.aload_n 2, 1) := by decide +kernel
theorem dX2_keep_18 : decode cX2_keep 18 = .ok (.invokevirtual 31, 3) := by decide +kernel
theorem dX2_keep_21 : decode cX2_keep 21 = .ok (.aload_n 0, 1) := by decide +kernel
theorem dX2_keep_22 : decode cX2_keep 22 = .ok (.dup, 1) := by decide +kernel
theorem dX2_keep_23 : decode cX2_keep 23 = .ok (.getfield 27, 3) := by decide +kernel
theorem dX2_keep_26 : decode cX2_keep 26 = .ok (.iconst 1, 1) := by decide +kernel
theorem dX2_keep_27 : decode cX2_keep 27 = .ok (.iload_n 1, 1) := by decide +kernel
theorem dX2_keep_28 : decode cX2_keep 28 = .ok (.ishl, 1) := by decide +kernel
theorem dX2_keep_29 : decode cX2_keep 29 = .ok (.ior, 1) := by decide +kernel
theorem dX2_keep_30 : decode cX2_keep 30 = .ok (.putfield 27, 3) := by decide +kernel
theorem dX2_keep_33 : decode cX2_keep 33 = .ok (.iconst 1, 1) := by decide +kernel
theorem dX2_keep_34 : decode cX2_keep 34 = .ok (.ireturn, 1) := by decide +kernel
theorem dX2_giveBack_0 : decode cX2_giveBack 0 = .ok (.iload_n 1, 1) := by decide +kernel
theorem dX2_giveBack_1 : decode cX2_giveBack 1 = .ok (.ifCond .lt 19, 3) := by decide +kernel
theorem dX2_giveBack_4 : decode cX2_giveBack 4 = .ok (.iload_n 1, 1) := by decide +kernel
theorem dX2_giveBack_5 : decode cX2_giveBack 5 = .ok (.iconst 3, 1) := by decide +kernel
theorem dX2_giveBack_6 : decode cX2_giveBack 6 = .ok (.if_icmp .ge 14, 3) := by decide +kernel
theorem dX2_giveBack_9 : decode cX2_giveBack 9 = .ok (.aload_n 0, 1) := by decide +kernel
theorem dX2_giveBack_10 : decode cX2_giveBack 10 = .ok (.getfield 27, 3) := by decide +kernel
theorem dX2_giveBack_13 : decode cX2_giveBack 13 = .ok (.iload_n 1, 1) := by decide +kernel
theorem dX2_giveBack_14 : decode cX2_giveBack 14 = .ok (.invokestatic 41, 3) := by decide +kernel
theorem dX2_giveBack_17 : decode cX2_giveBack 17 = .ok (.ifCond .ne 5, 3) := by decide +kernel
theorem dX2_giveBack_20 : decode cX2_giveBack 20 = .ok (.iconst 0, 1) := by decide +kernel
theorem dX2_giveBack_21 : decode cX2_giveBack 21 = .ok (.ireturn, 1) := by decide +kernel
theorem dX2_giveBack_22 : decode cX2_giveBack 22 = .ok (.aload_n 2, 1) := by decide +kernel
theorem dX2_giveBack_23 : decode cX2_giveBack 23 = .ok (.aload_n 0, 1) := by decide +kernel
theorem dX2_giveBack_24 : decode cX2_giveBack 24 = .ok (.getfield 24, 3) := by decide +kernel
theorem dX2_giveBack_27 : decode cX2_giveBack 27 = .ok (.iload_n 1, 1) := by decide +kernel
theorem dX2_giveBack_28 : decode cX2_giveBack 28 = .ok (.aaload, 1) := by decide +kernel
theorem dX2_giveBack_29 : decode cX2_giveBack 29 = .ok (.invokevirtual 31, 3) := by decide +kernel
theorem dX2_giveBack_32 : decode cX2_giveBack 32 = .ok (.aload_n 0, 1) := by decide +kernel
theorem dX2_giveBack_33 : decode cX2_giveBack 33 = .ok (.iconst 0, 1) := by decide +kernel
theorem dX2_giveBack_34 : decode cX2_giveBack 34 = .ok (.putfield 21, 3) := by decide +kernel
theorem dX2_giveBack_37 : decode cX2_giveBack 37 = .ok (.iconst 1, 1) := by decide +kernel
theorem dX2_giveBack_38 : decode cX2_giveBack 38 = .ok (.ireturn, 1) := by decide +kernel
theorem dX3_isOn_0 : decode cX3_isOn 0 = .ok (.aload_n 0, 1) := by decide +kernel
theorem dX3_isOn_1 : decode cX3_isOn 1 = .ok (.getfield 24, 3) := by decide +kernel
theorem dX3_isOn_4 : decode cX3_isOn 4 = .ok (.iload_n 1, 1) := by decide +kernel
theorem dX3_isOn_5 : decode cX3_isOn 5 = .ok (.invokestatic 43, 3) := by decide +kernel
theorem dX3_isOn_8 : decode cX3_isOn 8 = .ok (.ireturn, 1) := by decide +kernel
theorem dX3_factsKnown_0 : decode cX3_factsKnown 0 = .ok (.iconst 0, 1) := by decide +kernel
theorem dX3_factsKnown_1 : decode cX3_factsKnown 1 = .ok (.istore_n 1, 1) := by decide +kernel
theorem dX3_factsKnown_2 : decode cX3_factsKnown 2 = .ok (.iconst 0, 1) := by decide +kernel
theorem dX3_factsKnown_3 : decode cX3_factsKnown 3 = .ok (.istore_n 2, 1) := by decide +kernel
theorem dX3_factsKnown_4 : decode cX3_factsKnown 4 = .ok (.iload_n 2, 1) := by decide +kernel
theorem dX3_factsKnown_5 : decode cX3_factsKnown 5 = .ok (.bipush 6, 2) := by decide +kernel
theorem dX3_factsKnown_7 : decode cX3_factsKnown 7 = .ok (.if_icmp .ge 21, 3) := by decide +kernel
theorem dX3_factsKnown_10 : decode cX3_factsKnown 10 = .ok (.iload_n 1, 1) := by decide +kernel
theorem dX3_factsKnown_11 : decode cX3_factsKnown 11 = .ok (.aload_n 0, 1) := by decide +kernel
theorem dX3_factsKnown_12 : decode cX3_factsKnown 12 = .ok (.getfield 9, 3) := by decide +kernel
theorem dX3_factsKnown_15 : decode cX3_factsKnown 15 = .ok (.iload_n 2, 1) := by decide +kernel
theorem dX3_factsKnown_16 : decode cX3_factsKnown 16 = .ok (.iaload, 1) := by decide +kernel
theorem dX3_factsKnown_17 : decode cX3_factsKnown 17 = .ok (.invokestatic 47, 3) := by decide +kernel
theorem dX3_factsKnown_20 : decode cX3_factsKnown 20 = .ok (.iadd, 1) := by decide +kernel
theorem dX3_factsKnown_21 : decode cX3_factsKnown 21 = .ok (.istore_n 1, 1) := by decide +kernel
theorem dX3_factsKnown_22 : decode cX3_factsKnown 22 = .ok (.iinc 2 1, 3) := by decide +kernel
theorem dX3_factsKnown_25 : decode cX3_factsKnown 25 = .ok (.goto (-21), 3) := by decide +kernel
theorem dX3_factsKnown_28 : decode cX3_factsKnown 28 = .ok (.iload_n 1, 1) := by decide +kernel
theorem dX3_factsKnown_29 : decode cX3_factsKnown 29 = .ok (.ireturn, 1) := by decide +kernel
set_option maxRecDepth 100000 in
set_option maxHeartbeats 4000000 in
theorem tX10_tellDone (G : gx) (fu : Nat) (v0 : Nat) (v1 : Int32) (v2 : Int32) (h : mh) : Ct lI G yX10_tellDone cX10_tellDone 3 (some .int) 3 [.ref (gB G + v0), .int v1, .int v2] h (fX10_tellDone fu v0 v1 v2 h) := by
  refine ct_ls (ls := [(0, .ref (gB G + v0)), (1, .int v1), (2, .int v2)]) rfl (by decide) (Nat.le_of_ble_eq_true rfl) ?_
  unfold fX10_tellDone
  refine ev_step (st_aload_n (pc := 0) (j := 0) dX10_tellDone_0 rfl rfl) ?_
  refine ev_step (st_iload_n (pc := 1) (j := 1) dX10_tellDone_1 rfl rfl) ?_
  refine ev_ck (fun ha hS => ?_)
  refine ev_callI (iv_V (As := [.int v1]) (st := []) (pc := 2) rfl m_X10_isListener l_X10_384 i_X10_isListener e_X10_isListener ha hS rfl (Nat.le_of_ble_eq_true rfl) rfl dX10_tellDone_2) (tX10_isListener G fu v0 v1 h) (by decide) (by decide) (fun x2 h1 => ?_)
  refine ev_br (br_if_eq (tgt := 20) (pc := 5) dX10_tellDone_5 (by decide)) (fun _ => ?_) (fun _ => ?_)
  · refine ev_step (st_iconst (pc := 20) dX10_tellDone_20 ni_m1) ?_
    exact ev_iret (pc := 21) dX10_tellDone_21
  · refine ev_step (st_aload_n (pc := 8) (j := 0) dX10_tellDone_8 rfl rfl) ?_
    refine ev_step (st_bipush (pc := 9) dX10_tellDone_9 nb_8) ?_
    refine ev_step (st_iload_n (pc := 11) (j := 1) dX10_tellDone_11 rfl rfl) ?_
    refine ev_step (st_iadd (pc := 12) dX10_tellDone_12) ?_
    refine ev_step (st_iload_n (pc := 13) (j := 2) dX10_tellDone_13 rfl rfl) ?_
    refine ev_ck (fun ha hS => ?_)
    refine ev_callI (iv_V (As := [.int (((8 : Int32)) + v1), .int v2]) (st := []) (pc := 14) rfl m_X10_tellsOne l_X10_451 i_X10_tellsOne e_X10_tellsOne ha hS rfl (Nat.le_of_ble_eq_true rfl) rfl dX10_tellDone_14) (tX10_tellsOne G fu v0 (((8 : Int32)) + v1) v2 h1) (by decide) (by decide) (fun x4 h3 => ?_)
    refine ev_step (st_goto (pc := 17) (tgt := 21) dX10_tellDone_17 (by decide)) ?_
    exact ev_iret (pc := 21) dX10_tellDone_21
set_option maxRecDepth 100000 in
set_option maxHeartbeats 4000000 in
theorem tX10_forget (G : gx) (fu : Nat) (v0 : Nat) (h : mh) : Ct lI G yX10_forget cX10_forget 2 (some .int) 1 [.ref (gB G + v0)] h (fX10_forget fu v0 h) := by
  refine ct_ls (ls := [(0, .ref (gB G + v0))]) rfl (by decide) (Nat.le_of_ble_eq_true rfl) ?_
  unfold fX10_forget
  refine ev_step (st_aload_n (pc := 0) (j := 0) dX10_forget_0 rfl rfl) ?_
  refine ev_getI (pc := 1) k_X10_251 rfl dX10_forget_1 (fun x1 => ?_)
  refine ev_step (st_istore_n (pc := 4) (ls' := [(1, .int x1), (0, .ref (gB G + v0))]) dX10_forget_4 rfl (by decide) rfl) ?_
  refine ev_step (st_aload_n (pc := 5) (j := 1) dX10_forget_5 rfl rfl) ?_
  refine ev_step (st_iconst (pc := 6) dX10_forget_6 ni_0) ?_
  refine ev_putI (pc := 7) (p_X10_251 _ rfl) rfl dX10_forget_7 (fun h2 => ?_)
  refine ev_step (st_iload_n (pc := 10) (j := 0) dX10_forget_10 rfl rfl) ?_
  exact ev_iret (pc := 11) dX10_forget_11
set_option maxRecDepth 100000 in
set_option maxHeartbeats 4000000 in
theorem tX10_whoBits_83 (G : gx) (fu : Nat) (h0 : mh) (v0 : Nat) (v1 : Int32) (v2 : Int32) (v3 : Int32) (v4 : Int32) (v5 : Int32) (v6 : Int32) (v7 : Int32) (k4 : Int32 × Int32 × mh → Option (Int32 × mh)) (hk4 : ∀ (v2 : Int32) (v3 : Int32) (h : mh), Ev lI G yX10_whoBits cX10_whoBits 8 (some .int) 7 h0 4 [(0, .ref (gB G + v0)), (1, .int v1), (2, .int v2), (3, .int v3)] [] h (k4 (v2, v3, h))) (k52 : Int32 × Int32 × mh → Option (Int32 × mh)) (hk52 : ∀ (v6 : Int32) (v7 : Int32) (h : mh), Ev lI G yX10_whoBits cX10_whoBits 8 (some .int) 7 h0 52 [(0, .ref (gB G + v0)), (1, .int v1), (2, .int v2), (3, .int v3), (4, .int v4), (5, .int v5), (6, .int v6), (7, .int v7)] [] h (k52 (v6, v7, h))) (h : mh) : Ev lI G yX10_whoBits cX10_whoBits 8 (some .int) 7 h0 83 [(0, .ref (gB G + v0)), (1, .int v1), (2, .int v2), (3, .int v3), (4, .int v4), (5, .int v5), (6, .int v6), (7, .int v7)] [] h (fX10_whoBits_83 fu k4 k52 v0 v1 v2 v3 v4 v5 v6 v7 h) := by
  unfold fX10_whoBits_83
  refine ev_step (st_inc (pc := 83) (j := 7) (ls' := [(7, .int (v7 + (1 : Int32))), (0, .ref (gB G + v0)), (1, .int v1), (2, .int v2), (3, .int v3), (4, .int v4), (5, .int v5), (6, .int v6)]) dX10_whoBits_83 rfl ni_1 (by decide) rfl) ?_
  refine ev_step (st_goto (pc := 86) (tgt := 52) dX10_whoBits_86 (by decide)) ?_
  refine ev_sub (ls' := [(0, .ref (gB G + v0)), (1, .int v1), (2, .int v2), (3, .int v3), (4, .int v4), (5, .int v5), (6, .int v6), (7, .int (v7 + (1 : Int32)))]) [1, 2, 3, 4, 5, 6, 7, 0] rfl ?_
  exact hk52 v6 (v7 + (1 : Int32)) h
set_option maxRecDepth 100000 in
set_option maxHeartbeats 4000000 in
theorem tX10_whoBits_100 (G : gx) (fu : Nat) (h0 : mh) (v0 : Nat) (v1 : Int32) (v2 : Int32) (v3 : Int32) (v4 : Int32) (v5 : Int32) (v6 : Int32) (v7 : Int32) (k4 : Int32 × Int32 × mh → Option (Int32 × mh)) (hk4 : ∀ (v2 : Int32) (v3 : Int32) (h : mh), Ev lI G yX10_whoBits cX10_whoBits 8 (some .int) 7 h0 4 [(0, .ref (gB G + v0)), (1, .int v1), (2, .int v2), (3, .int v3)] [] h (k4 (v2, v3, h))) (h : mh) : Ev lI G yX10_whoBits cX10_whoBits 8 (some .int) 7 h0 100 [(0, .ref (gB G + v0)), (1, .int v1), (2, .int v2), (3, .int v3), (4, .int v4), (5, .int v5), (6, .int v6), (7, .int v7)] [] h (fX10_whoBits_100 fu k4 v0 v1 v2 v3 v4 v5 v6 v7 h) := by
  unfold fX10_whoBits_100
  refine ev_step (st_inc (pc := 100) (j := 3) (ls' := [(3, .int (v3 + (1 : Int32))), (0, .ref (gB G + v0)), (1, .int v1), (2, .int v2), (4, .int v4), (5, .int v5), (6, .int v6), (7, .int v7)]) dX10_whoBits_100 rfl ni_1 (by decide) rfl) ?_
  refine ev_step (st_goto (pc := 103) (tgt := 4) dX10_whoBits_103 (by decide)) ?_
  refine ev_sub (ls' := [(0, .ref (gB G + v0)), (1, .int v1), (2, .int v2), (3, .int (v3 + (1 : Int32)))]) [1, 2, 3, 0] rfl ?_
  exact hk4 v2 (v3 + (1 : Int32)) h
set_option maxRecDepth 100000 in
set_option maxHeartbeats 4000000 in
theorem tX10_whoBits_89 (G : gx) (fu : Nat) (h0 : mh) (v0 : Nat) (v1 : Int32) (v2 : Int32) (v3 : Int32) (v4 : Int32) (v5 : Int32) (v6 : Int32) (v7 : Int32) (k4 : Int32 × Int32 × mh → Option (Int32 × mh)) (hk4 : ∀ (v2 : Int32) (v3 : Int32) (h : mh), Ev lI G yX10_whoBits cX10_whoBits 8 (some .int) 7 h0 4 [(0, .ref (gB G + v0)), (1, .int v1), (2, .int v2), (3, .int v3)] [] h (k4 (v2, v3, h))) (h : mh) : Ev lI G yX10_whoBits cX10_whoBits 8 (some .int) 7 h0 89 [(0, .ref (gB G + v0)), (1, .int v1), (2, .int v2), (3, .int v3), (4, .int v4), (5, .int v5), (6, .int v6), (7, .int v7)] [] h (fX10_whoBits_89 fu k4 v0 v1 v2 v3 v4 v5 v6 v7 h) := by
  unfold fX10_whoBits_89
  refine ev_step (st_iload (pc := 89) (j := 6) dX10_whoBits_89 rfl) ?_
  refine ev_br (br_if_eq (tgt := 100) (pc := 91) dX10_whoBits_91 (by decide)) (fun _ => ?_) (fun _ => ?_)
  · refine ev_sub (ls' := [(0, .ref (gB G + v0)), (1, .int v1), (2, .int v2), (3, .int v3), (4, .int v4), (5, .int v5), (6, .int v6), (7, .int v7)]) [0, 1, 2, 3, 4, 5, 6, 7] rfl ?_
    exact tX10_whoBits_100 G fu h0 v0 v1 v2 v3 v4 v5 v6 v7 k4 hk4 h
  · refine ev_step (st_iload_n (pc := 94) (j := 2) dX10_whoBits_94 rfl rfl) ?_
    refine ev_step (st_iconst (pc := 95) dX10_whoBits_95 ni_1) ?_
    refine ev_step (st_iload_n (pc := 96) (j := 3) dX10_whoBits_96 rfl rfl) ?_
    refine ev_step (st_ishl (pc := 97) dX10_whoBits_97) ?_
    refine ev_step (st_ior (pc := 98) dX10_whoBits_98) ?_
    refine ev_top (fun x1 => ?_)
    refine ev_step (st_istore_n (pc := 99) (ls' := [(2, .int x1), (0, .ref (gB G + v0)), (1, .int v1), (3, .int v3), (4, .int v4), (5, .int v5), (6, .int v6), (7, .int v7)]) dX10_whoBits_99 rfl (by decide) rfl) ?_
    refine ev_sub (ls' := [(0, .ref (gB G + v0)), (1, .int v1), (2, .int x1), (3, .int v3), (4, .int v4), (5, .int v5), (6, .int v6), (7, .int v7)]) [1, 2, 0, 3, 4, 5, 6, 7] rfl ?_
    exact tX10_whoBits_100 G fu h0 v0 v1 x1 v3 v4 v5 v6 v7 k4 hk4 h
set_option maxRecDepth 100000 in
set_option maxHeartbeats 4000000 in
theorem tX10_whoBits_52 (G : gx) (fu : Nat) (h0 : mh) (v0 : Nat) (v1 : Int32) (v2 : Int32) (v3 : Int32) (v4 : Int32) (v5 : Int32) (k4 : Int32 × Int32 × mh → Option (Int32 × mh)) (hk4 : ∀ (v2 : Int32) (v3 : Int32) (h : mh), Ev lI G yX10_whoBits cX10_whoBits 8 (some .int) 7 h0 4 [(0, .ref (gB G + v0)), (1, .int v1), (2, .int v2), (3, .int v3)] [] h (k4 (v2, v3, h))) (n : Nat) (v6 : Int32) (v7 : Int32) (h : mh) : Ev lI G yX10_whoBits cX10_whoBits 8 (some .int) 7 h0 52 [(0, .ref (gB G + v0)), (1, .int v1), (2, .int v2), (3, .int v3), (4, .int v4), (5, .int v5), (6, .int v6), (7, .int v7)] [] h (itr (bX10_whoBits_52 fu k4 v0 v1 v2 v3 v4 v5) n (v6, v7, h)) := by
  refine ev_itr (P := fun (q : Int32 × Int32 × mh) (R9 : Option (Int32 × mh)) => Ev lI G yX10_whoBits cX10_whoBits 8 (some .int) 7 h0 52 [(0, .ref (gB G + v0)), (1, .int v1), (2, .int v2), (3, .int v3), (4, .int v4), (5, .int v5), (6, .int q.1), (7, .int q.2.1)] [] q.2.2 R9) (fun _ => ev_none) (fun k52 hk9 q => ?_) n (v6, v7, h)
  obtain ⟨v6, v7, h⟩ := q
  have hk52 : ∀ (v6 : Int32) (v7 : Int32) (h : mh), Ev lI G yX10_whoBits cX10_whoBits 8 (some .int) 7 h0 52 [(0, .ref (gB G + v0)), (1, .int v1), (2, .int v2), (3, .int v3), (4, .int v4), (5, .int v5), (6, .int v6), (7, .int v7)] [] h (k52 (v6, v7, h)) := fun v6 v7 h => hk9 (v6, v7, h)
  show Ev lI G yX10_whoBits cX10_whoBits 8 (some .int) 7 h0 52 [(0, .ref (gB G + v0)), (1, .int v1), (2, .int v2), (3, .int v3), (4, .int v4), (5, .int v5), (6, .int v6), (7, .int v7)] [] h (bX10_whoBits_52 fu k4 v0 v1 v2 v3 v4 v5 k52 (v6, v7, h))
  unfold bX10_whoBits_52
  refine ev_step (st_iload (pc := 52) (j := 7) dX10_whoBits_52 rfl) ?_
  refine ev_step (st_iload_n (pc := 54) (j := 1) dX10_whoBits_54 rfl rfl) ?_
  refine ev_br (br_icmp_ge (tgt := 89) (pc := 55) dX10_whoBits_55 (by decide)) (fun _ => ?_) (fun _ => ?_)
  · refine ev_sub (ls' := [(0, .ref (gB G + v0)), (1, .int v1), (2, .int v2), (3, .int v3), (4, .int v4), (5, .int v5), (6, .int v6), (7, .int v7)]) [0, 1, 2, 3, 4, 5, 6, 7] rfl ?_
    exact tX10_whoBits_89 G fu h0 v0 v1 v2 v3 v4 v5 v6 v7 k4 hk4 h
  · refine ev_step (st_iload (pc := 58) (j := 5) dX10_whoBits_58 rfl) ?_
    refine ev_step (st_aload_n (pc := 60) (j := 0) dX10_whoBits_60 rfl rfl) ?_
    refine ev_getR (pc := 61) k_X10_137 rfl dX10_whoBits_61 (fun a1 => ?_)
    refine ev_step (st_iload (pc := 64) (j := 7) dX10_whoBits_64 rfl) ?_
    refine ev_ldi (pc := 66) dX10_whoBits_66 (fun x2 => ?_)
    refine ev_step (st_ishr (pc := 67) dX10_whoBits_67) ?_
    refine ev_step (st_iconst (pc := 68) dX10_whoBits_68 ni_1) ?_
    refine ev_step (st_iand (pc := 69) dX10_whoBits_69) ?_
    refine ev_step (st_aload_n (pc := 70) (j := 0) dX10_whoBits_70 rfl rfl) ?_
    refine ev_getR (pc := 71) k_X10_140 rfl dX10_whoBits_71 (fun a3 => ?_)
    refine ev_step (st_iload (pc := 74) (j := 7) dX10_whoBits_74 rfl) ?_
    refine ev_ldi (pc := 76) dX10_whoBits_76 (fun x4 => ?_)
    refine ev_br (br_icmp_eq (tgt := 83) (pc := 77) dX10_whoBits_77 (by decide)) (fun _ => ?_) (fun _ => ?_)
    · refine ev_sub (ls' := [(0, .ref (gB G + v0)), (1, .int v1), (2, .int v2), (3, .int v3), (4, .int v4), (5, .int v5), (6, .int v6), (7, .int v7)]) [0, 1, 2, 3, 4, 5, 6, 7] rfl ?_
      exact tX10_whoBits_83 G fu h0 v0 v1 v2 v3 v4 v5 v6 v7 k4 hk4 k52 hk52 h
    · refine ev_step (st_iconst (pc := 80) dX10_whoBits_80 ni_0) ?_
      refine ev_step (st_istore (pc := 81) (ls' := [(6, .int ((0 : Int32))), (0, .ref (gB G + v0)), (1, .int v1), (2, .int v2), (3, .int v3), (4, .int v4), (5, .int v5), (7, .int v7)]) dX10_whoBits_81 (by decide) rfl) ?_
      refine ev_sub (ls' := [(0, .ref (gB G + v0)), (1, .int v1), (2, .int v2), (3, .int v3), (4, .int v4), (5, .int v5), (6, .int ((0 : Int32))), (7, .int v7)]) [1, 2, 3, 4, 5, 6, 0, 7] rfl ?_
      exact tX10_whoBits_83 G fu h0 v0 v1 v2 v3 v4 v5 ((0 : Int32)) v7 k4 hk4 k52 hk52 h
set_option maxRecDepth 100000 in
set_option maxHeartbeats 4000000 in
theorem tX10_whoBits_4 (G : gx) (fu : Nat) (h0 : mh) (v0 : Nat) (v1 : Int32) (n : Nat) (v2 : Int32) (v3 : Int32) (h : mh) : Ev lI G yX10_whoBits cX10_whoBits 8 (some .int) 7 h0 4 [(0, .ref (gB G + v0)), (1, .int v1), (2, .int v2), (3, .int v3)] [] h (itr (bX10_whoBits_4 fu v0 v1) n (v2, v3, h)) := by
  refine ev_itr (P := fun (q : Int32 × Int32 × mh) (R9 : Option (Int32 × mh)) => Ev lI G yX10_whoBits cX10_whoBits 8 (some .int) 7 h0 4 [(0, .ref (gB G + v0)), (1, .int v1), (2, .int q.1), (3, .int q.2.1)] [] q.2.2 R9) (fun _ => ev_none) (fun k4 hk9 q => ?_) n (v2, v3, h)
  obtain ⟨v2, v3, h⟩ := q
  have hk4 : ∀ (v2 : Int32) (v3 : Int32) (h : mh), Ev lI G yX10_whoBits cX10_whoBits 8 (some .int) 7 h0 4 [(0, .ref (gB G + v0)), (1, .int v1), (2, .int v2), (3, .int v3)] [] h (k4 (v2, v3, h)) := fun v2 v3 h => hk9 (v2, v3, h)
  show Ev lI G yX10_whoBits cX10_whoBits 8 (some .int) 7 h0 4 [(0, .ref (gB G + v0)), (1, .int v1), (2, .int v2), (3, .int v3)] [] h (bX10_whoBits_4 fu v0 v1 k4 (v2, v3, h))
  unfold bX10_whoBits_4
  refine ev_step (st_iload_n (pc := 4) (j := 3) dX10_whoBits_4 rfl rfl) ?_
  refine ev_step (st_aload_n (pc := 5) (j := 0) dX10_whoBits_5 rfl rfl) ?_
  refine ev_getR (pc := 6) k_X10_46 rfl dX10_whoBits_6 (fun a1 => ?_)
  refine ev_step (st_aload_n (pc := 9) (j := 0) dX10_whoBits_9 rfl rfl) ?_
  refine ev_getI (pc := 10) k_X10_230 rfl dX10_whoBits_10 (fun x2 => ?_)
  refine ev_ldi (pc := 13) dX10_whoBits_13 (fun x3 => ?_)
  refine ev_br (br_icmp_ge (tgt := 106) (pc := 14) dX10_whoBits_14 (by decide)) (fun _ => ?_) (fun _ => ?_)
  · refine ev_step (st_iload_n (pc := 106) (j := 2) dX10_whoBits_106 rfl rfl) ?_
    exact ev_iret (pc := 107) dX10_whoBits_107
  · refine ev_step (st_aload_n (pc := 17) (j := 0) dX10_whoBits_17 rfl rfl) ?_
    refine ev_step (st_iload_n (pc := 18) (j := 3) dX10_whoBits_18 rfl rfl) ?_
    refine ev_ck (fun ha hS => ?_)
    refine ev_callI (iv_V (As := [.int v3]) (st := []) (pc := 19) rfl m_X10_isTonight l_X10_411 i_X10_isTonight e_X10_isTonight ha hS rfl (Nat.le_of_ble_eq_true rfl) rfl dX10_whoBits_19) (tX10_isTonight G fu v0 v3 h) (by decide) (by decide) (fun x5 h4 => ?_)
    refine ev_step (st_pop (pc := 22) dX10_whoBits_22 rfl) ?_
    refine ev_step (st_aload_n (pc := 23) (j := 0) dX10_whoBits_23 rfl rfl) ?_
    refine ev_ck (fun ha hS => ?_)
    refine ev_callI (iv_V (As := []) (st := []) (pc := 24) rfl m_X10_doneBits l_X10_414 i_X10_doneBits e_X10_doneBits ha hS rfl (Nat.le_of_ble_eq_true rfl) rfl dX10_whoBits_24) (tX10_doneBits G fu v0 h4) (by decide) (by decide) (fun x7 h6 => ?_)
    refine ev_step (st_istore (pc := 27) (ls' := [(4, .int x7), (0, .ref (gB G + v0)), (1, .int v1), (2, .int v2), (3, .int v3)]) dX10_whoBits_27 (by decide) rfl) ?_
    refine ev_step (st_aload_n (pc := 29) (j := 1) dX10_whoBits_29 rfl rfl) ?_
    refine ev_ck (fun ha hS => ?_)
    refine ev_callV (iv_V (As := []) (st := []) (pc := 30) rfl m_X10_copies l_X10_320 i_X10_copies e_X10_copies ha hS rfl (Nat.le_of_ble_eq_true rfl) rfl dX10_whoBits_30) (tX10_copies G fu v0 h6) (by decide) (by decide) (fun h8 => ?_)
    refine ev_step (st_aload_n (pc := 33) (j := 1) dX10_whoBits_33 rfl rfl) ?_
    refine ev_step (st_iload_n (pc := 34) (j := 4) dX10_whoBits_34 rfl rfl) ?_
    refine ev_ck (fun ha hS => ?_)
    refine ev_callI (iv_V (As := [.int v3]) (st := []) (pc := 35) rfl m_X10_saidBy l_X10_353 i_X10_saidBy e_X10_saidBy ha hS rfl (Nat.le_of_ble_eq_true rfl) rfl dX10_whoBits_35) (tX10_saidBy G fu v0 v3 h8) (by decide) (by decide) (fun x10 h9 => ?_)
    refine ev_step (st_iload (pc := 38) (j := 0) dX10_whoBits_38 rfl) ?_
    refine ev_step (st_bipush (pc := 40) dX10_whoBits_40 nb_8) ?_
    refine ev_step (st_ishl (pc := 42) dX10_whoBits_42) ?_
    refine ev_step (st_ior (pc := 43) dX10_whoBits_43) ?_
    refine ev_top (fun x11 => ?_)
    refine ev_step (st_istore (pc := 44) (ls' := [(5, .int x11), (4, .int x7), (0, .ref (gB G + v0)), (1, .int v1), (2, .int v2), (3, .int v3)]) dX10_whoBits_44 (by decide) rfl) ?_
    refine ev_step (st_iconst (pc := 46) dX10_whoBits_46 ni_1) ?_
    refine ev_step (st_istore (pc := 47) (ls' := [(6, .int ((1 : Int32))), (5, .int x11), (4, .int x7), (0, .ref (gB G + v0)), (1, .int v1), (2, .int v2), (3, .int v3)]) dX10_whoBits_47 (by decide) rfl) ?_
    refine ev_step (st_iconst (pc := 49) dX10_whoBits_49 ni_0) ?_
    refine ev_step (st_istore (pc := 50) (ls' := [(7, .int ((0 : Int32))), (6, .int ((1 : Int32))), (5, .int x11), (4, .int x7), (0, .ref (gB G + v0)), (1, .int v1), (2, .int v2), (3, .int v3)]) dX10_whoBits_50 (by decide) rfl) ?_
    refine ev_sub (ls' := [(0, .ref (gB G + v0)), (1, .int v1), (2, .int v2), (3, .int v3), (4, .int x7), (5, .int x11), (6, .int ((1 : Int32))), (7, .int ((0 : Int32)))]) [4, 5, 6, 7, 3, 2, 1, 0] rfl ?_
    exact tX10_whoBits_52 G fu h0 v0 v1 v2 v3 x7 x11 k4 hk4 fu ((1 : Int32)) ((0 : Int32)) h9
set_option maxRecDepth 100000 in
set_option maxHeartbeats 4000000 in
theorem tX10_whoBits (G : gx) (fu : Nat) (v0 : Nat) (v1 : Int32) (h : mh) : Ct lI G yX10_whoBits cX10_whoBits 8 (some .int) 7 [.ref (gB G + v0), .int v1] h (fX10_whoBits fu v0 v1 h) := by
  refine ct_ls (ls := [(0, .ref (gB G + v0)), (1, .int v1)]) rfl (by decide) (Nat.le_of_ble_eq_true rfl) ?_
  unfold fX10_whoBits
  refine ev_step (st_iconst (pc := 0) dX10_whoBits_0 ni_0) ?_
  refine ev_step (st_istore_n (pc := 1) (ls' := [(2, .int ((0 : Int32))), (0, .ref (gB G + v0)), (1, .int v1)]) dX10_whoBits_1 rfl (by decide) rfl) ?_
  refine ev_step (st_iconst (pc := 2) dX10_whoBits_2 ni_0) ?_
  refine ev_step (st_istore_n (pc := 3) (ls' := [(3, .int ((0 : Int32))), (2, .int ((0 : Int32))), (0, .ref (gB G + v0)), (1, .int v1)]) dX10_whoBits_3 rfl (by decide) rfl) ?_
  refine ev_sub (ls' := [(0, .ref (gB G + v0)), (1, .int v1), (2, .int ((0 : Int32))), (3, .int ((0 : Int32)))]) [2, 3, 1, 0] rfl ?_
  exact tX10_whoBits_4 G fu h v0 v1 fu ((0 : Int32)) ((0 : Int32)) h
set_option maxRecDepth 100000 in
set_option maxHeartbeats 4000000 in
theorem tX10_who (G : gx) (fu : Nat) (v0 : Nat) (v1 : Int32) (v2 : Int32) (h : mh) : Ct lI G yX10_who cX10_who 4 (some .int) 8 [.ref (gB G + v0), .int v1, .int v2] h (fX10_who fu v0 v1 v2 h) := by
  refine ct_ls (ls := [(0, .ref (gB G + v0)), (1, .int v1), (2, .int v2)]) rfl (by decide) (Nat.le_of_ble_eq_true rfl) ?_
  unfold fX10_who
  refine ev_step (st_iload_n (pc := 0) (j := 1) dX10_who_0 rfl rfl) ?_
  refine ev_step (st_iconst (pc := 1) dX10_who_1 ni_0) ?_
  refine ev_step (st_aload_n (pc := 2) (j := 0) dX10_who_2 rfl rfl) ?_
  refine ev_getI (pc := 3) k_X10_251 rfl dX10_who_3 (fun x1 => ?_)
  refine ev_callI (iv_S (As := [.int v1, .int ((0 : Int32)), .int x1]) (st := []) (pc := 6) m_X10_in l_X10_310 z_X10_in rfl (Nat.le_of_ble_eq_true rfl) rfl dX10_who_6) (tX10_in G fu v1 ((0 : Int32)) x1 h) (by decide) (by decide) (fun x3 h2 => ?_)
  refine ev_br (br_if_eq (tgt := 21) (pc := 9) dX10_who_9 (by decide)) (fun _ => ?_) (fun _ => ?_)
  · refine ev_step (st_iconst (pc := 21) dX10_who_21 ni_m1) ?_
    exact ev_iret (pc := 22) dX10_who_22
  · refine ev_step (st_iload_n (pc := 12) (j := 2) dX10_who_12 rfl rfl) ?_
    refine ev_step (st_iconst (pc := 13) dX10_who_13 ni_0) ?_
    refine ev_step (st_iconst (pc := 14) dX10_who_14 ni_1) ?_
    refine ev_callI (iv_S (As := [.int v2, .int ((0 : Int32)), .int ((1 : Int32))]) (st := []) (pc := 15) m_X10_in l_X10_310 z_X10_in rfl (Nat.le_of_ble_eq_true rfl) rfl dX10_who_15) (tX10_in G fu v2 ((0 : Int32)) ((1 : Int32)) h2) (by decide) (by decide) (fun x5 h4 => ?_)
    refine ev_br (br_if_ne (tgt := 23) (pc := 18) dX10_who_18 (by decide)) (fun _ => ?_) (fun _ => ?_)
    · refine ev_step (st_iconst (pc := 21) dX10_who_21 ni_m1) ?_
      exact ev_iret (pc := 22) dX10_who_22
    · refine ev_step (st_aload_n (pc := 23) (j := 0) dX10_who_23 rfl rfl) ?_
      refine ev_step (st_iload_n (pc := 24) (j := 1) dX10_who_24 rfl rfl) ?_
      refine ev_ck (fun ha hS => ?_)
      refine ev_callI (iv_V (As := [.int v1]) (st := []) (pc := 25) rfl m_X10_whoBits l_X10_455 i_X10_whoBits e_X10_whoBits ha hS rfl (Nat.le_of_ble_eq_true rfl) rfl dX10_who_25) (tX10_whoBits G fu v0 v1 h4) (by decide) (by decide) (fun x7 h6 => ?_)
      refine ev_step (st_istore_n (pc := 28) (ls' := [(3, .int x7), (0, .ref (gB G + v0)), (1, .int v1), (2, .int v2)]) dX10_who_28 rfl (by decide) rfl) ?_
      refine ev_step (st_iload_n (pc := 29) (j := 3) dX10_who_29 rfl rfl) ?_
      refine ev_br (br_if_ne (tgt := 40) (pc := 30) dX10_who_30 (by decide)) (fun _ => ?_) (fun _ => ?_)
      · refine ev_step (st_iload_n (pc := 33) (j := 0) dX10_who_33 rfl rfl) ?_
        refine ev_callI (iv_S (As := [.int x7]) (st := []) (pc := 34) m_X10_bits l_X10_336 z_X10_bits rfl (Nat.le_of_ble_eq_true rfl) rfl dX10_who_34) (tX10_bits G fu x7 h6) (by decide) (by decide) (fun x9 h8 => ?_)
        refine ev_step (st_goto (pc := 37) (tgt := 41) dX10_who_37 (by decide)) ?_
        exact ev_iret (pc := 41) dX10_who_41
      · refine ev_step (st_iload_n (pc := 40) (j := 0) dX10_who_40 rfl rfl) ?_
        exact ev_iret (pc := 41) dX10_who_41
set_option maxRecDepth 100000 in
set_option maxHeartbeats 4000000 in
theorem tX10_ask_90 (G : gx) (fu : Nat) (h0 : mh) (v0 : Nat) (v1 : Int32) (v2 : Int32) (v3 : Int32) (v4 : Int32) (v5 : Int32) (v6 : Int32) (v7 : Int32) (k33 : Int32 × Int32 × Int32 × mh → Option (Int32 × mh)) (hk33 : ∀ (v3 : Int32) (v4 : Int32) (v5 : Int32) (h : mh), Ev lI G yX10_ask cX10_ask 8 (some .int) 8 h0 33 [(0, .ref (gB G + v0)), (1, .int v1), (2, .int v2), (3, .int v3), (4, .int v4), (5, .int v5)] [] h (k33 (v3, v4, v5, h))) (k50 : Int32 × Int32 × mh → Option (Int32 × mh)) (hk50 : ∀ (v6 : Int32) (v7 : Int32) (h : mh), Ev lI G yX10_ask cX10_ask 8 (some .int) 8 h0 50 [(0, .ref (gB G + v0)), (1, .int v1), (2, .int v2), (3, .int v3), (4, .int v4), (5, .int v5), (6, .int v6), (7, .int v7)] [] h (k50 (v6, v7, h))) (h : mh) : Ev lI G yX10_ask cX10_ask 8 (some .int) 8 h0 90 [(0, .ref (gB G + v0)), (1, .int v1), (2, .int v2), (3, .int v3), (4, .int v4), (5, .int v5), (6, .int v6), (7, .int v7)] [] h (fX10_ask_90 fu k33 k50 v0 v1 v2 v3 v4 v5 v6 v7 h) := by
  unfold fX10_ask_90
  refine ev_step (st_inc (pc := 90) (j := 7) (ls' := [(7, .int (v7 + (1 : Int32))), (0, .ref (gB G + v0)), (1, .int v1), (2, .int v2), (3, .int v3), (4, .int v4), (5, .int v5), (6, .int v6)]) dX10_ask_90 rfl ni_1 (by decide) rfl) ?_
  refine ev_step (st_goto (pc := 93) (tgt := 50) dX10_ask_93 (by decide)) ?_
  refine ev_sub (ls' := [(0, .ref (gB G + v0)), (1, .int v1), (2, .int v2), (3, .int v3), (4, .int v4), (5, .int v5), (6, .int v6), (7, .int (v7 + (1 : Int32)))]) [1, 2, 3, 4, 5, 6, 7, 0] rfl ?_
  exact hk50 v6 (v7 + (1 : Int32)) h
set_option maxRecDepth 100000 in
set_option maxHeartbeats 4000000 in
theorem tX10_ask_143 (G : gx) (fu : Nat) (h0 : mh) (v0 : Nat) (v1 : Int32) (v2 : Int32) (v3 : Int32) (v4 : Int32) (v5 : Int32) (v6 : Int32) (v7 : Int32) (k33 : Int32 × Int32 × Int32 × mh → Option (Int32 × mh)) (hk33 : ∀ (v3 : Int32) (v4 : Int32) (v5 : Int32) (h : mh), Ev lI G yX10_ask cX10_ask 8 (some .int) 8 h0 33 [(0, .ref (gB G + v0)), (1, .int v1), (2, .int v2), (3, .int v3), (4, .int v4), (5, .int v5)] [] h (k33 (v3, v4, v5, h))) (h : mh) : Ev lI G yX10_ask cX10_ask 8 (some .int) 8 h0 143 [(0, .ref (gB G + v0)), (1, .int v1), (2, .int v2), (3, .int v3), (4, .int v4), (5, .int v5), (6, .int v6), (7, .int v7)] [] h (fX10_ask_143 fu k33 v0 v1 v2 v3 v4 v5 v6 v7 h) := by
  unfold fX10_ask_143
  refine ev_step (st_inc (pc := 143) (j := 5) (ls' := [(5, .int (v5 + (1 : Int32))), (0, .ref (gB G + v0)), (1, .int v1), (2, .int v2), (3, .int v3), (4, .int v4), (6, .int v6), (7, .int v7)]) dX10_ask_143 rfl ni_1 (by decide) rfl) ?_
  refine ev_step (st_goto (pc := 146) (tgt := 33) dX10_ask_146 (by decide)) ?_
  refine ev_sub (ls' := [(0, .ref (gB G + v0)), (1, .int v1), (2, .int v2), (3, .int v3), (4, .int v4), (5, .int (v5 + (1 : Int32)))]) [1, 2, 3, 4, 5, 0] rfl ?_
  exact hk33 v3 v4 (v5 + (1 : Int32)) h
set_option maxRecDepth 100000 in
set_option maxHeartbeats 4000000 in
theorem tX10_ask_136 (G : gx) (fu : Nat) (h0 : mh) (v0 : Nat) (v1 : Int32) (v2 : Int32) (v3 : Int32) (v4 : Int32) (v5 : Int32) (v6 : Int32) (v7 : Int32) (k33 : Int32 × Int32 × Int32 × mh → Option (Int32 × mh)) (hk33 : ∀ (v3 : Int32) (v4 : Int32) (v5 : Int32) (h : mh), Ev lI G yX10_ask cX10_ask 8 (some .int) 8 h0 33 [(0, .ref (gB G + v0)), (1, .int v1), (2, .int v2), (3, .int v3), (4, .int v4), (5, .int v5)] [] h (k33 (v3, v4, v5, h))) (h : mh) : Ev lI G yX10_ask cX10_ask 8 (some .int) 8 h0 136 [(0, .ref (gB G + v0)), (1, .int v1), (2, .int v2), (3, .int v3), (4, .int v4), (5, .int v5), (6, .int v6), (7, .int v7)] [] h (fX10_ask_136 fu k33 v0 v1 v2 v3 v4 v5 v6 v7 h) := by
  unfold fX10_ask_136
  refine ev_step (st_iload (pc := 136) (j := 5) dX10_ask_136 rfl) ?_
  refine ev_step (st_istore_n (pc := 138) (ls' := [(3, .int v5), (0, .ref (gB G + v0)), (1, .int v1), (2, .int v2), (4, .int v4), (5, .int v5), (6, .int v6), (7, .int v7)]) dX10_ask_138 rfl (by decide) rfl) ?_
  refine ev_step (st_iload (pc := 139) (j := 7) dX10_ask_139 rfl) ?_
  refine ev_step (st_istore (pc := 141) (ls' := [(4, .int v7), (3, .int v5), (0, .ref (gB G + v0)), (1, .int v1), (2, .int v2), (5, .int v5), (6, .int v6), (7, .int v7)]) dX10_ask_141 (by decide) rfl) ?_
  refine ev_sub (ls' := [(0, .ref (gB G + v0)), (1, .int v1), (2, .int v2), (3, .int v5), (4, .int v7), (5, .int v5), (6, .int v6), (7, .int v7)]) [2, 3, 4, 1, 0, 5, 6, 7] rfl ?_
  exact tX10_ask_143 G fu h0 v0 v1 v2 v5 v7 v5 v6 v7 k33 hk33 h
set_option maxRecDepth 100000 in
set_option maxHeartbeats 4000000 in
theorem tX10_ask_120 (G : gx) (fu : Nat) (h0 : mh) (v0 : Nat) (v1 : Int32) (v2 : Int32) (v3 : Int32) (v4 : Int32) (v5 : Int32) (v6 : Int32) (v7 : Int32) (s0 : Int32) (k33 : Int32 × Int32 × Int32 × mh → Option (Int32 × mh)) (hk33 : ∀ (v3 : Int32) (v4 : Int32) (v5 : Int32) (h : mh), Ev lI G yX10_ask cX10_ask 8 (some .int) 8 h0 33 [(0, .ref (gB G + v0)), (1, .int v1), (2, .int v2), (3, .int v3), (4, .int v4), (5, .int v5)] [] h (k33 (v3, v4, v5, h))) (h : mh) : Ev lI G yX10_ask cX10_ask 8 (some .int) 8 h0 120 [(0, .ref (gB G + v0)), (1, .int v1), (2, .int v2), (3, .int v3), (4, .int v4), (5, .int v5), (6, .int v6), (7, .int v7)] [.int s0] h (fX10_ask_120 fu k33 v0 v1 v2 v3 v4 v5 v6 v7 s0 h) := by
  unfold fX10_ask_120
  refine ev_step (st_istore (pc := 120) (ls' := [(7, .int s0), (0, .ref (gB G + v0)), (1, .int v1), (2, .int v2), (3, .int v3), (4, .int v4), (5, .int v5), (6, .int v6)]) dX10_ask_120 (by decide) rfl) ?_
  refine ev_step (st_iload_n (pc := 122) (j := 4) dX10_ask_122 rfl rfl) ?_
  refine ev_br (br_if_lt (tgt := 136) (pc := 123) dX10_ask_123 (by decide)) (fun _ => ?_) (fun _ => ?_)
  · refine ev_sub (ls' := [(0, .ref (gB G + v0)), (1, .int v1), (2, .int v2), (3, .int v3), (4, .int v4), (5, .int v5), (6, .int v6), (7, .int s0)]) [1, 2, 3, 4, 5, 6, 7, 0] rfl ?_
    exact tX10_ask_136 G fu h0 v0 v1 v2 v3 v4 v5 v6 s0 k33 hk33 h
  · refine ev_step (st_iload (pc := 126) (j := 0) dX10_ask_126 rfl) ?_
    refine ev_step (st_iload (pc := 128) (j := 5) dX10_ask_128 rfl) ?_
    refine ev_br (br_icmp_lt (tgt := 136) (pc := 130) dX10_ask_130 (by decide)) (fun _ => ?_) (fun _ => ?_)
    · refine ev_sub (ls' := [(0, .ref (gB G + v0)), (1, .int v1), (2, .int v2), (3, .int v3), (4, .int v4), (5, .int v5), (6, .int v6), (7, .int s0)]) [1, 2, 3, 4, 5, 6, 7, 0] rfl ?_
      exact tX10_ask_136 G fu h0 v0 v1 v2 v3 v4 v5 v6 s0 k33 hk33 h
    · refine ev_step (st_goto (pc := 133) (tgt := 143) dX10_ask_133 (by decide)) ?_
      refine ev_sub (ls' := [(0, .ref (gB G + v0)), (1, .int v1), (2, .int v2), (3, .int v3), (4, .int v4), (5, .int v5), (6, .int v6), (7, .int s0)]) [1, 2, 3, 4, 5, 6, 7, 0] rfl ?_
      exact tX10_ask_143 G fu h0 v0 v1 v2 v3 v4 v5 v6 s0 k33 hk33 h
set_option maxRecDepth 100000 in
set_option maxHeartbeats 4000000 in
theorem tX10_ask_96 (G : gx) (fu : Nat) (h0 : mh) (v0 : Nat) (v1 : Int32) (v2 : Int32) (v3 : Int32) (v4 : Int32) (v5 : Int32) (v6 : Int32) (v7 : Int32) (k33 : Int32 × Int32 × Int32 × mh → Option (Int32 × mh)) (hk33 : ∀ (v3 : Int32) (v4 : Int32) (v5 : Int32) (h : mh), Ev lI G yX10_ask cX10_ask 8 (some .int) 8 h0 33 [(0, .ref (gB G + v0)), (1, .int v1), (2, .int v2), (3, .int v3), (4, .int v4), (5, .int v5)] [] h (k33 (v3, v4, v5, h))) (h : mh) : Ev lI G yX10_ask cX10_ask 8 (some .int) 8 h0 96 [(0, .ref (gB G + v0)), (1, .int v1), (2, .int v2), (3, .int v3), (4, .int v4), (5, .int v5), (6, .int v6), (7, .int v7)] [] h (fX10_ask_96 fu k33 v0 v1 v2 v3 v4 v5 v6 v7 h) := by
  unfold fX10_ask_96
  refine ev_step (st_iload (pc := 96) (j := 6) dX10_ask_96 rfl) ?_
  refine ev_step (st_iload_n (pc := 98) (j := 2) dX10_ask_98 rfl rfl) ?_
  refine ev_callI (iv_S (As := [.int v2]) (st := [.int v6]) (pc := 99) m_X10_bits l_X10_336 z_X10_bits rfl (Nat.le_of_ble_eq_true rfl) rfl dX10_ask_99) (tX10_bits G fu v2 h) (by decide) (by decide) (fun x2 h1 => ?_)
  refine ev_step (st_iload (pc := 102) (j := 6) dX10_ask_102 rfl) ?_
  refine ev_step (st_isub (pc := 104) dX10_ask_104) ?_
  refine ev_br (br_icmp_le (tgt := 113) (pc := 105) dX10_ask_105 (by decide)) (fun _ => ?_) (fun _ => ?_)
  · refine ev_step (st_iload_n (pc := 113) (j := 2) dX10_ask_113 rfl rfl) ?_
    refine ev_callI (iv_S (As := [.int v2]) (st := []) (pc := 114) m_X10_bits l_X10_336 z_X10_bits rfl (Nat.le_of_ble_eq_true rfl) rfl dX10_ask_114) (tX10_bits G fu v2 h1) (by decide) (by decide) (fun x4 h3 => ?_)
    refine ev_step (st_iload (pc := 117) (j := 6) dX10_ask_117 rfl) ?_
    refine ev_step (st_isub (pc := 119) dX10_ask_119) ?_
    refine ev_sub (ls' := [(0, .ref (gB G + v0)), (1, .int v1), (2, .int v2), (3, .int v3), (4, .int v4), (5, .int v5), (6, .int v6), (7, .int v7)]) [0, 1, 2, 3, 4, 5, 6, 7] rfl ?_
    exact tX10_ask_120 G fu h0 v0 v1 v2 v3 v4 v5 v6 v7 (x4 - v6) k33 hk33 h3
  · refine ev_step (st_iload (pc := 108) (j := 6) dX10_ask_108 rfl) ?_
    refine ev_step (st_goto (pc := 110) (tgt := 120) dX10_ask_110 (by decide)) ?_
    refine ev_sub (ls' := [(0, .ref (gB G + v0)), (1, .int v1), (2, .int v2), (3, .int v3), (4, .int v4), (5, .int v5), (6, .int v6), (7, .int v7)]) [0, 1, 2, 3, 4, 5, 6, 7] rfl ?_
    exact tX10_ask_120 G fu h0 v0 v1 v2 v3 v4 v5 v6 v7 v6 k33 hk33 h1
set_option maxRecDepth 100000 in
set_option maxHeartbeats 4000000 in
theorem tX10_ask_50 (G : gx) (fu : Nat) (h0 : mh) (v0 : Nat) (v1 : Int32) (v2 : Int32) (v3 : Int32) (v4 : Int32) (v5 : Int32) (k33 : Int32 × Int32 × Int32 × mh → Option (Int32 × mh)) (hk33 : ∀ (v3 : Int32) (v4 : Int32) (v5 : Int32) (h : mh), Ev lI G yX10_ask cX10_ask 8 (some .int) 8 h0 33 [(0, .ref (gB G + v0)), (1, .int v1), (2, .int v2), (3, .int v3), (4, .int v4), (5, .int v5)] [] h (k33 (v3, v4, v5, h))) (n : Nat) (v6 : Int32) (v7 : Int32) (h : mh) : Ev lI G yX10_ask cX10_ask 8 (some .int) 8 h0 50 [(0, .ref (gB G + v0)), (1, .int v1), (2, .int v2), (3, .int v3), (4, .int v4), (5, .int v5), (6, .int v6), (7, .int v7)] [] h (itr (bX10_ask_50 fu k33 v0 v1 v2 v3 v4 v5) n (v6, v7, h)) := by
  refine ev_itr (P := fun (q : Int32 × Int32 × mh) (R9 : Option (Int32 × mh)) => Ev lI G yX10_ask cX10_ask 8 (some .int) 8 h0 50 [(0, .ref (gB G + v0)), (1, .int v1), (2, .int v2), (3, .int v3), (4, .int v4), (5, .int v5), (6, .int q.1), (7, .int q.2.1)] [] q.2.2 R9) (fun _ => ev_none) (fun k50 hk9 q => ?_) n (v6, v7, h)
  obtain ⟨v6, v7, h⟩ := q
  have hk50 : ∀ (v6 : Int32) (v7 : Int32) (h : mh), Ev lI G yX10_ask cX10_ask 8 (some .int) 8 h0 50 [(0, .ref (gB G + v0)), (1, .int v1), (2, .int v2), (3, .int v3), (4, .int v4), (5, .int v5), (6, .int v6), (7, .int v7)] [] h (k50 (v6, v7, h)) := fun v6 v7 h => hk9 (v6, v7, h)
  show Ev lI G yX10_ask cX10_ask 8 (some .int) 8 h0 50 [(0, .ref (gB G + v0)), (1, .int v1), (2, .int v2), (3, .int v3), (4, .int v4), (5, .int v5), (6, .int v6), (7, .int v7)] [] h (bX10_ask_50 fu k33 v0 v1 v2 v3 v4 v5 k50 (v6, v7, h))
  unfold bX10_ask_50
  refine ev_step (st_iload (pc := 50) (j := 7) dX10_ask_50 rfl) ?_
  refine ev_step (st_aload_n (pc := 52) (j := 0) dX10_ask_52 rfl rfl) ?_
  refine ev_getR (pc := 53) k_X10_46 rfl dX10_ask_53 (fun a1 => ?_)
  refine ev_step (st_aload_n (pc := 56) (j := 0) dX10_ask_56 rfl rfl) ?_
  refine ev_getI (pc := 57) k_X10_230 rfl dX10_ask_57 (fun x2 => ?_)
  refine ev_ldi (pc := 60) dX10_ask_60 (fun x3 => ?_)
  refine ev_br (br_icmp_ge (tgt := 96) (pc := 61) dX10_ask_61 (by decide)) (fun _ => ?_) (fun _ => ?_)
  · refine ev_sub (ls' := [(0, .ref (gB G + v0)), (1, .int v1), (2, .int v2), (3, .int v3), (4, .int v4), (5, .int v5), (6, .int v6), (7, .int v7)]) [0, 1, 2, 3, 4, 5, 6, 7] rfl ?_
    exact tX10_ask_96 G fu h0 v0 v1 v2 v3 v4 v5 v6 v7 k33 hk33 h
  · refine ev_step (st_iload_n (pc := 64) (j := 2) dX10_ask_64 rfl rfl) ?_
    refine ev_step (st_iload (pc := 65) (j := 7) dX10_ask_65 rfl) ?_
    refine ev_step (st_ishr (pc := 67) dX10_ask_67) ?_
    refine ev_step (st_iconst (pc := 68) dX10_ask_68 ni_1) ?_
    refine ev_step (st_iand (pc := 69) dX10_ask_69) ?_
    refine ev_step (st_iconst (pc := 70) dX10_ask_70 ni_1) ?_
    refine ev_br (br_icmp_ne (tgt := 90) (pc := 71) dX10_ask_71 (by decide)) (fun _ => ?_) (fun _ => ?_)
    · refine ev_step (st_iload (pc := 74) (j := 6) dX10_ask_74 rfl) ?_
      refine ev_step (st_aload_n (pc := 76) (j := 0) dX10_ask_76 rfl rfl) ?_
      refine ev_step (st_iload (pc := 77) (j := 7) dX10_ask_77 rfl) ?_
      refine ev_ck (fun ha hS => ?_)
      refine ev_callI (iv_V (As := [.int v7]) (st := [.int v6]) (pc := 79) rfl m_X10_saidBy l_X10_353 i_X10_saidBy e_X10_saidBy ha hS rfl (Nat.le_of_ble_eq_true rfl) rfl dX10_ask_79) (tX10_saidBy G fu v0 v7 h) (by decide) (by decide) (fun x5 h4 => ?_)
      refine ev_step (st_iload (pc := 82) (j := 5) dX10_ask_82 rfl) ?_
      refine ev_step (st_ishr (pc := 84) dX10_ask_84) ?_
      refine ev_step (st_iconst (pc := 85) dX10_ask_85 ni_1) ?_
      refine ev_step (st_iand (pc := 86) dX10_ask_86) ?_
      refine ev_step (st_iadd (pc := 87) dX10_ask_87) ?_
      refine ev_top (fun x6 => ?_)
      refine ev_step (st_istore (pc := 88) (ls' := [(6, .int x6), (0, .ref (gB G + v0)), (1, .int v1), (2, .int v2), (3, .int v3), (4, .int v4), (5, .int v5), (7, .int v7)]) dX10_ask_88 (by decide) rfl) ?_
      refine ev_sub (ls' := [(0, .ref (gB G + v0)), (1, .int v1), (2, .int v2), (3, .int v3), (4, .int v4), (5, .int v5), (6, .int x6), (7, .int v7)]) [1, 2, 3, 4, 5, 6, 0, 7] rfl ?_
      exact tX10_ask_90 G fu h0 v0 v1 v2 v3 v4 v5 x6 v7 k33 hk33 k50 hk50 h4
    · refine ev_sub (ls' := [(0, .ref (gB G + v0)), (1, .int v1), (2, .int v2), (3, .int v3), (4, .int v4), (5, .int v5), (6, .int v6), (7, .int v7)]) [0, 1, 2, 3, 4, 5, 6, 7] rfl ?_
      exact tX10_ask_90 G fu h0 v0 v1 v2 v3 v4 v5 v6 v7 k33 hk33 k50 hk50 h
set_option maxRecDepth 100000 in
set_option maxHeartbeats 4000000 in
theorem tX10_ask_33 (G : gx) (fu : Nat) (h0 : mh) (v0 : Nat) (v1 : Int32) (v2 : Int32) (n : Nat) (v3 : Int32) (v4 : Int32) (v5 : Int32) (h : mh) : Ev lI G yX10_ask cX10_ask 8 (some .int) 8 h0 33 [(0, .ref (gB G + v0)), (1, .int v1), (2, .int v2), (3, .int v3), (4, .int v4), (5, .int v5)] [] h (itr (bX10_ask_33 fu v0 v1 v2) n (v3, v4, v5, h)) := by
  refine ev_itr (P := fun (q : Int32 × Int32 × Int32 × mh) (R9 : Option (Int32 × mh)) => Ev lI G yX10_ask cX10_ask 8 (some .int) 8 h0 33 [(0, .ref (gB G + v0)), (1, .int v1), (2, .int v2), (3, .int q.1), (4, .int q.2.1), (5, .int q.2.2.1)] [] q.2.2.2 R9) (fun _ => ev_none) (fun k33 hk9 q => ?_) n (v3, v4, v5, h)
  obtain ⟨v3, v4, v5, h⟩ := q
  have hk33 : ∀ (v3 : Int32) (v4 : Int32) (v5 : Int32) (h : mh), Ev lI G yX10_ask cX10_ask 8 (some .int) 8 h0 33 [(0, .ref (gB G + v0)), (1, .int v1), (2, .int v2), (3, .int v3), (4, .int v4), (5, .int v5)] [] h (k33 (v3, v4, v5, h)) := fun v3 v4 v5 h => hk9 (v3, v4, v5, h)
  show Ev lI G yX10_ask cX10_ask 8 (some .int) 8 h0 33 [(0, .ref (gB G + v0)), (1, .int v1), (2, .int v2), (3, .int v3), (4, .int v4), (5, .int v5)] [] h (bX10_ask_33 fu v0 v1 v2 k33 (v3, v4, v5, h))
  unfold bX10_ask_33
  refine ev_step (st_iload (pc := 33) (j := 5) dX10_ask_33 rfl) ?_
  refine ev_step (st_bipush (pc := 35) dX10_ask_35 nb_8) ?_
  refine ev_br (br_icmp_ge (tgt := 149) (pc := 37) dX10_ask_37 (by decide)) (fun _ => ?_) (fun _ => ?_)
  · refine ev_step (st_iload_n (pc := 149) (j := 3) dX10_ask_149 rfl rfl) ?_
    exact ev_iret (pc := 150) dX10_ask_150
  · refine ev_step (st_iload_n (pc := 40) (j := 2) dX10_ask_40 rfl rfl) ?_
    refine ev_br (br_if_eq (tgt := 149) (pc := 41) dX10_ask_41 (by decide)) (fun _ => ?_) (fun _ => ?_)
    · refine ev_step (st_iload_n (pc := 149) (j := 3) dX10_ask_149 rfl rfl) ?_
      exact ev_iret (pc := 150) dX10_ask_150
    · refine ev_step (st_iconst (pc := 44) dX10_ask_44 ni_0) ?_
      refine ev_step (st_istore (pc := 45) (ls' := [(6, .int ((0 : Int32))), (0, .ref (gB G + v0)), (1, .int v1), (2, .int v2), (3, .int v3), (4, .int v4), (5, .int v5)]) dX10_ask_45 (by decide) rfl) ?_
      refine ev_step (st_iconst (pc := 47) dX10_ask_47 ni_0) ?_
      refine ev_step (st_istore (pc := 48) (ls' := [(7, .int ((0 : Int32))), (6, .int ((0 : Int32))), (0, .ref (gB G + v0)), (1, .int v1), (2, .int v2), (3, .int v3), (4, .int v4), (5, .int v5)]) dX10_ask_48 (by decide) rfl) ?_
      refine ev_sub (ls' := [(0, .ref (gB G + v0)), (1, .int v1), (2, .int v2), (3, .int v3), (4, .int v4), (5, .int v5), (6, .int ((0 : Int32))), (7, .int ((0 : Int32)))]) [2, 3, 4, 5, 6, 7, 1, 0] rfl ?_
      exact tX10_ask_50 G fu h0 v0 v1 v2 v3 v4 v5 k33 hk33 fu ((0 : Int32)) ((0 : Int32)) h
set_option maxRecDepth 100000 in
set_option maxHeartbeats 4000000 in
theorem tX10_ask (G : gx) (fu : Nat) (v0 : Nat) (v1 : Int32) (h : mh) : Ct lI G yX10_ask cX10_ask 8 (some .int) 8 [.ref (gB G + v0), .int v1] h (fX10_ask fu v0 v1 h) := by
  refine ct_ls (ls := [(0, .ref (gB G + v0)), (1, .int v1)]) rfl (by decide) (Nat.le_of_ble_eq_true rfl) ?_
  unfold fX10_ask
  refine ev_step (st_iload_n (pc := 0) (j := 1) dX10_ask_0 rfl rfl) ?_
  refine ev_step (st_iconst (pc := 1) dX10_ask_1 ni_0) ?_
  refine ev_step (st_aload_n (pc := 2) (j := 0) dX10_ask_2 rfl rfl) ?_
  refine ev_getI (pc := 3) k_X10_251 rfl dX10_ask_3 (fun x1 => ?_)
  refine ev_callI (iv_S (As := [.int v1, .int ((0 : Int32)), .int x1]) (st := []) (pc := 6) m_X10_in l_X10_310 z_X10_in rfl (Nat.le_of_ble_eq_true rfl) rfl dX10_ask_6) (tX10_in G fu v1 ((0 : Int32)) x1 h) (by decide) (by decide) (fun x3 h2 => ?_)
  refine ev_br (br_if_ne (tgt := 14) (pc := 9) dX10_ask_9 (by decide)) (fun _ => ?_) (fun _ => ?_)
  · refine ev_step (st_iconst (pc := 12) dX10_ask_12 ni_m1) ?_
    exact ev_iret (pc := 13) dX10_ask_13
  · refine ev_step (st_aload_n (pc := 14) (j := 0) dX10_ask_14 rfl rfl) ?_
    refine ev_step (st_iload_n (pc := 15) (j := 1) dX10_ask_15 rfl rfl) ?_
    refine ev_ck (fun ha hS => ?_)
    refine ev_callI (iv_V (As := [.int v1]) (st := []) (pc := 16) rfl m_X10_whoBits l_X10_455 i_X10_whoBits e_X10_whoBits ha hS rfl (Nat.le_of_ble_eq_true rfl) rfl dX10_ask_16) (tX10_whoBits G fu v0 v1 h2) (by decide) (by decide) (fun x5 h4 => ?_)
    refine ev_step (st_istore_n (pc := 19) (ls' := [(2, .int x5), (0, .ref (gB G + v0)), (1, .int v1)]) dX10_ask_19 rfl (by decide) rfl) ?_
    refine ev_step (st_aload_n (pc := 20) (j := 1) dX10_ask_20 rfl rfl) ?_
    refine ev_ck (fun ha hS => ?_)
    refine ev_callV (iv_V (As := []) (st := []) (pc := 21) rfl m_X10_copies l_X10_320 i_X10_copies e_X10_copies ha hS rfl (Nat.le_of_ble_eq_true rfl) rfl dX10_ask_21) (tX10_copies G fu v0 h4) (by decide) (by decide) (fun h6 => ?_)
    refine ev_step (st_bipush (pc := 24) dX10_ask_24 nb_m2) ?_
    refine ev_step (st_istore_n (pc := 26) (ls' := [(3, .int ((-2 : Int32))), (2, .int x5), (0, .ref (gB G + v0)), (1, .int v1)]) dX10_ask_26 rfl (by decide) rfl) ?_
    refine ev_step (st_iconst (pc := 27) dX10_ask_27 ni_0) ?_
    refine ev_step (st_istore (pc := 28) (ls' := [(4, .int ((0 : Int32))), (3, .int ((-2 : Int32))), (2, .int x5), (0, .ref (gB G + v0)), (1, .int v1)]) dX10_ask_28 (by decide) rfl) ?_
    refine ev_step (st_iconst (pc := 30) dX10_ask_30 ni_0) ?_
    refine ev_step (st_istore (pc := 31) (ls' := [(5, .int ((0 : Int32))), (4, .int ((0 : Int32))), (3, .int ((-2 : Int32))), (2, .int x5), (0, .ref (gB G + v0)), (1, .int v1)]) dX10_ask_31 (by decide) rfl) ?_
    refine ev_sub (ls' := [(0, .ref (gB G + v0)), (1, .int v1), (2, .int x5), (3, .int ((-2 : Int32))), (4, .int ((0 : Int32))), (5, .int ((0 : Int32)))]) [4, 5, 3, 2, 1, 0] rfl ?_
    exact tX10_ask_33 G fu h v0 v1 x5 fu ((-2 : Int32)) ((0 : Int32)) ((0 : Int32)) h6
set_option maxRecDepth 100000 in
set_option maxHeartbeats 4000000 in
theorem tX10_hold_20 (G : gx) (fu : Nat) (h0 : mh) (v0 : Nat) (v1 : Int32) (n : Nat) (v2 : Int32) (h : mh) : Ev lI G yX10_hold cX10_hold 3 (some .boolean) 2 h0 20 [(0, .ref (gB G + v0)), (1, .int v1), (2, .int v2)] [] h (itr (bX10_hold_20 fu v0 v1) n (v2, h)) := by
  refine ev_itr (P := fun (q : Int32 × mh) (R9 : Option (Int32 × mh)) => Ev lI G yX10_hold cX10_hold 3 (some .boolean) 2 h0 20 [(0, .ref (gB G + v0)), (1, .int v1), (2, .int q.1)] [] q.2 R9) (fun _ => ev_none) (fun k20 hk9 q => ?_) n (v2, h)
  obtain ⟨v2, h⟩ := q
  have hk20 : ∀ (v2 : Int32) (h : mh), Ev lI G yX10_hold cX10_hold 3 (some .boolean) 2 h0 20 [(0, .ref (gB G + v0)), (1, .int v1), (2, .int v2)] [] h (k20 (v2, h)) := fun v2 h => hk9 (v2, h)
  show Ev lI G yX10_hold cX10_hold 3 (some .boolean) 2 h0 20 [(0, .ref (gB G + v0)), (1, .int v1), (2, .int v2)] [] h (bX10_hold_20 fu v0 v1 k20 (v2, h))
  unfold bX10_hold_20
  refine ev_step (st_iload_n (pc := 20) (j := 2) dX10_hold_20 rfl rfl) ?_
  refine ev_step (st_bipush (pc := 21) dX10_hold_21 nb_33) ?_
  refine ev_br (br_icmp_ge (tgt := 49) (pc := 23) dX10_hold_23 (by decide)) (fun _ => ?_) (fun _ => ?_)
  · refine ev_step (st_iconst (pc := 49) dX10_hold_49 ni_1) ?_
    exact ev_zret (pc := 50) dX10_hold_50
  · refine ev_step (st_aload_n (pc := 26) (j := 0) dX10_hold_26 rfl rfl) ?_
    refine ev_getR (pc := 27) k_X10_146 rfl dX10_hold_27 (fun a1 => ?_)
    refine ev_step (st_bipush (pc := 30) dX10_hold_30 nb_33) ?_
    refine ev_step (st_iload_n (pc := 32) (j := 1) dX10_hold_32 rfl rfl) ?_
    refine ev_step (st_imul (pc := 33) dX10_hold_33) ?_
    refine ev_step (st_iload_n (pc := 34) (j := 2) dX10_hold_34 rfl rfl) ?_
    refine ev_step (st_iadd (pc := 35) dX10_hold_35) ?_
    refine ev_step (st_aload_n (pc := 36) (j := 0) dX10_hold_36 rfl rfl) ?_
    refine ev_getR (pc := 37) k_X10_119 rfl dX10_hold_37 (fun a2 => ?_)
    refine ev_step (st_iload_n (pc := 40) (j := 2) dX10_hold_40 rfl rfl) ?_
    refine ev_ldi (pc := 41) dX10_hold_41 (fun x3 => ?_)
    refine ev_sti (pc := 42) dX10_hold_42 (fun h4 => ?_)
    refine ev_step (st_inc (pc := 43) (j := 2) (ls' := [(2, .int (v2 + (1 : Int32))), (0, .ref (gB G + v0)), (1, .int v1)]) dX10_hold_43 rfl ni_1 (by decide) rfl) ?_
    refine ev_step (st_goto (pc := 46) (tgt := 20) dX10_hold_46 (by decide)) ?_
    refine ev_sub (ls' := [(0, .ref (gB G + v0)), (1, .int v1), (2, .int (v2 + (1 : Int32)))]) [1, 2, 0] rfl ?_
    exact hk20 (v2 + (1 : Int32)) h4
set_option maxRecDepth 100000 in
set_option maxHeartbeats 4000000 in
theorem tX10_hold (G : gx) (fu : Nat) (v0 : Nat) (v1 : Int32) (h : mh) : Ct lI G yX10_hold cX10_hold 3 (some .boolean) 2 [.ref (gB G + v0), .int v1] h (fX10_hold fu v0 v1 h) := by
  refine ct_ls (ls := [(0, .ref (gB G + v0)), (1, .int v1)]) rfl (by decide) (Nat.le_of_ble_eq_true rfl) ?_
  unfold fX10_hold
  refine ev_step (st_iload_n (pc := 0) (j := 1) dX10_hold_0 rfl rfl) ?_
  refine ev_step (st_iconst (pc := 1) dX10_hold_1 ni_0) ?_
  refine ev_step (st_iconst (pc := 2) dX10_hold_2 ni_2) ?_
  refine ev_callI (iv_S (As := [.int v1, .int ((0 : Int32)), .int ((2 : Int32))]) (st := []) (pc := 3) m_X10_in l_X10_310 z_X10_in rfl (Nat.le_of_ble_eq_true rfl) rfl dX10_hold_3) (tX10_in G fu v1 ((0 : Int32)) ((2 : Int32)) h) (by decide) (by decide) (fun x2 h1 => ?_)
  refine ev_br (br_if_ne (tgt := 11) (pc := 6) dX10_hold_6 (by decide)) (fun _ => ?_) (fun _ => ?_)
  · refine ev_step (st_iconst (pc := 9) dX10_hold_9 ni_0) ?_
    exact ev_zret (pc := 10) dX10_hold_10
  · refine ev_step (st_aload_n (pc := 11) (j := 0) dX10_hold_11 rfl rfl) ?_
    refine ev_getR (pc := 12) k_X10_143 rfl dX10_hold_12 (fun a3 => ?_)
    refine ev_step (st_iload_n (pc := 15) (j := 1) dX10_hold_15 rfl rfl) ?_
    refine ev_step (st_iconst (pc := 16) dX10_hold_16 ni_1) ?_
    refine ev_stz (pc := 17) dX10_hold_17 (fun h4 => ?_)
    refine ev_step (st_iconst (pc := 18) dX10_hold_18 ni_0) ?_
    refine ev_step (st_istore_n (pc := 19) (ls' := [(2, .int ((0 : Int32))), (0, .ref (gB G + v0)), (1, .int v1)]) dX10_hold_19 rfl (by decide) rfl) ?_
    refine ev_sub (ls' := [(0, .ref (gB G + v0)), (1, .int v1), (2, .int ((0 : Int32)))]) [1, 2, 0] rfl ?_
    exact tX10_hold_20 G fu h v0 v1 fu ((0 : Int32)) h4
set_option maxRecDepth 100000 in
set_option maxHeartbeats 4000000 in
theorem tX10_restore_51 (G : gx) (fu : Nat) (h0 : mh) (v0 : Nat) (v1 : Int32) (v2 : Int32) (h : mh) : Ev lI G yX10_restore cX10_restore 3 (some .boolean) 2 h0 51 [(0, .ref (gB G + v0)), (1, .int v1), (2, .int v2)] [] h (fX10_restore_51 fu v0 v1 v2 h) := by
  unfold fX10_restore_51
  refine ev_step (st_aload_n (pc := 51) (j := 0) dX10_restore_51 rfl rfl) ?_
  refine ev_step (st_iconst (pc := 52) dX10_restore_52 ni_0) ?_
  refine ev_putI (pc := 53) (p_X10_248 _ rfl) rfl dX10_restore_53 (fun h1 => ?_)
  refine ev_step (st_iconst (pc := 56) dX10_restore_56 ni_1) ?_
  exact ev_zret (pc := 57) dX10_restore_57
set_option maxRecDepth 100000 in
set_option maxHeartbeats 4000000 in
theorem tX10_restore_22 (G : gx) (fu : Nat) (h0 : mh) (v0 : Nat) (v1 : Int32) (n : Nat) (v2 : Int32) (h : mh) : Ev lI G yX10_restore cX10_restore 3 (some .boolean) 2 h0 22 [(0, .ref (gB G + v0)), (1, .int v1), (2, .int v2)] [] h (itr (bX10_restore_22 fu v0 v1) n (v2, h)) := by
  refine ev_itr (P := fun (q : Int32 × mh) (R9 : Option (Int32 × mh)) => Ev lI G yX10_restore cX10_restore 3 (some .boolean) 2 h0 22 [(0, .ref (gB G + v0)), (1, .int v1), (2, .int q.1)] [] q.2 R9) (fun _ => ev_none) (fun k22 hk9 q => ?_) n (v2, h)
  obtain ⟨v2, h⟩ := q
  have hk22 : ∀ (v2 : Int32) (h : mh), Ev lI G yX10_restore cX10_restore 3 (some .boolean) 2 h0 22 [(0, .ref (gB G + v0)), (1, .int v1), (2, .int v2)] [] h (k22 (v2, h)) := fun v2 h => hk9 (v2, h)
  show Ev lI G yX10_restore cX10_restore 3 (some .boolean) 2 h0 22 [(0, .ref (gB G + v0)), (1, .int v1), (2, .int v2)] [] h (bX10_restore_22 fu v0 v1 k22 (v2, h))
  unfold bX10_restore_22
  refine ev_step (st_iload_n (pc := 22) (j := 2) dX10_restore_22 rfl rfl) ?_
  refine ev_step (st_bipush (pc := 23) dX10_restore_23 nb_33) ?_
  refine ev_br (br_icmp_ge (tgt := 51) (pc := 25) dX10_restore_25 (by decide)) (fun _ => ?_) (fun _ => ?_)
  · refine ev_sub (ls' := [(0, .ref (gB G + v0)), (1, .int v1), (2, .int v2)]) [0, 1, 2] rfl ?_
    exact tX10_restore_51 G fu h0 v0 v1 v2 h
  · refine ev_step (st_aload_n (pc := 28) (j := 0) dX10_restore_28 rfl rfl) ?_
    refine ev_getR (pc := 29) k_X10_119 rfl dX10_restore_29 (fun a1 => ?_)
    refine ev_step (st_iload_n (pc := 32) (j := 2) dX10_restore_32 rfl rfl) ?_
    refine ev_step (st_aload_n (pc := 33) (j := 0) dX10_restore_33 rfl rfl) ?_
    refine ev_getR (pc := 34) k_X10_146 rfl dX10_restore_34 (fun a2 => ?_)
    refine ev_step (st_bipush (pc := 37) dX10_restore_37 nb_33) ?_
    refine ev_step (st_iload_n (pc := 39) (j := 1) dX10_restore_39 rfl rfl) ?_
    refine ev_step (st_imul (pc := 40) dX10_restore_40) ?_
    refine ev_step (st_iload_n (pc := 41) (j := 2) dX10_restore_41 rfl rfl) ?_
    refine ev_step (st_iadd (pc := 42) dX10_restore_42) ?_
    refine ev_ldi (pc := 43) dX10_restore_43 (fun x3 => ?_)
    refine ev_sti (pc := 44) dX10_restore_44 (fun h4 => ?_)
    refine ev_step (st_inc (pc := 45) (j := 2) (ls' := [(2, .int (v2 + (1 : Int32))), (0, .ref (gB G + v0)), (1, .int v1)]) dX10_restore_45 rfl ni_1 (by decide) rfl) ?_
    refine ev_step (st_goto (pc := 48) (tgt := 22) dX10_restore_48 (by decide)) ?_
    refine ev_sub (ls' := [(0, .ref (gB G + v0)), (1, .int v1), (2, .int (v2 + (1 : Int32)))]) [1, 2, 0] rfl ?_
    exact hk22 (v2 + (1 : Int32)) h4
set_option maxRecDepth 100000 in
set_option maxHeartbeats 4000000 in
theorem tX10_restore (G : gx) (fu : Nat) (v0 : Nat) (v1 : Int32) (h : mh) : Ct lI G yX10_restore cX10_restore 3 (some .boolean) 2 [.ref (gB G + v0), .int v1] h (fX10_restore fu v0 v1 h) := by
  refine ct_ls (ls := [(0, .ref (gB G + v0)), (1, .int v1)]) rfl (by decide) (Nat.le_of_ble_eq_true rfl) ?_
  unfold fX10_restore
  refine ev_step (st_iload_n (pc := 0) (j := 1) dX10_restore_0 rfl rfl) ?_
  refine ev_step (st_iconst (pc := 1) dX10_restore_1 ni_0) ?_
  refine ev_step (st_iconst (pc := 2) dX10_restore_2 ni_2) ?_
  refine ev_callI (iv_S (As := [.int v1, .int ((0 : Int32)), .int ((2 : Int32))]) (st := []) (pc := 3) m_X10_in l_X10_310 z_X10_in rfl (Nat.le_of_ble_eq_true rfl) rfl dX10_restore_3) (tX10_in G fu v1 ((0 : Int32)) ((2 : Int32)) h) (by decide) (by decide) (fun x2 h1 => ?_)
  refine ev_br (br_if_eq (tgt := 18) (pc := 6) dX10_restore_6 (by decide)) (fun _ => ?_) (fun _ => ?_)
  · refine ev_step (st_iconst (pc := 18) dX10_restore_18 ni_0) ?_
    exact ev_zret (pc := 19) dX10_restore_19
  · refine ev_step (st_aload_n (pc := 9) (j := 0) dX10_restore_9 rfl rfl) ?_
    refine ev_getR (pc := 10) k_X10_143 rfl dX10_restore_10 (fun a3 => ?_)
    refine ev_step (st_iload_n (pc := 13) (j := 1) dX10_restore_13 rfl rfl) ?_
    refine ev_ldz (pc := 14) dX10_restore_14 (fun x4 => ?_)
    refine ev_br (br_if_ne (tgt := 20) (pc := 15) dX10_restore_15 (by decide)) (fun _ => ?_) (fun _ => ?_)
    · refine ev_step (st_iconst (pc := 18) dX10_restore_18 ni_0) ?_
      exact ev_zret (pc := 19) dX10_restore_19
    · refine ev_step (st_iconst (pc := 20) dX10_restore_20 ni_0) ?_
      refine ev_step (st_istore_n (pc := 21) (ls' := [(2, .int ((0 : Int32))), (0, .ref (gB G + v0)), (1, .int v1)]) dX10_restore_21 rfl (by decide) rfl) ?_
      refine ev_sub (ls' := [(0, .ref (gB G + v0)), (1, .int v1), (2, .int ((0 : Int32)))]) [1, 2, 0] rfl ?_
      exact tX10_restore_22 G fu h v0 v1 fu ((0 : Int32)) h1
set_option maxRecDepth 100000 in
set_option maxHeartbeats 4000000 in
theorem tX10_someBits_42 (G : gx) (fu : Nat) (h0 : mh) (v0 : Nat) (v1 : Int32) (v2 : Int32) (v3 : Int32) (v4 : Int32) (v5 : Int32) (k6 : Int32 × Int32 × mh → Option (Int32 × mh)) (hk6 : ∀ (v4 : Int32) (v5 : Int32) (h : mh), Ev lI G yX10_someBits cX10_someBits 6 (some .int) 1 h0 6 [(0, .ref (gB G + v0)), (1, .int v1), (2, .int v2), (3, .int v3), (4, .int v4), (5, .int v5)] [] h (k6 (v4, v5, h))) (h : mh) : Ev lI G yX10_someBits cX10_someBits 6 (some .int) 1 h0 42 [(0, .ref (gB G + v0)), (1, .int v1), (2, .int v2), (3, .int v3), (4, .int v4), (5, .int v5)] [] h (fX10_someBits_42 fu k6 v0 v1 v2 v3 v4 v5 h) := by
  unfold fX10_someBits_42
  refine ev_step (st_inc (pc := 42) (j := 5) (ls' := [(5, .int (v5 + (1 : Int32))), (0, .ref (gB G + v0)), (1, .int v1), (2, .int v2), (3, .int v3), (4, .int v4)]) dX10_someBits_42 rfl ni_1 (by decide) rfl) ?_
  refine ev_step (st_goto (pc := 45) (tgt := 6) dX10_someBits_45 (by decide)) ?_
  refine ev_sub (ls' := [(0, .ref (gB G + v0)), (1, .int v1), (2, .int v2), (3, .int v3), (4, .int v4), (5, .int (v5 + (1 : Int32)))]) [1, 2, 3, 4, 5, 0] rfl ?_
  exact hk6 v4 (v5 + (1 : Int32)) h
set_option maxRecDepth 100000 in
set_option maxHeartbeats 4000000 in
theorem tX10_someBits_29 (G : gx) (fu : Nat) (h0 : mh) (v0 : Nat) (v1 : Int32) (v2 : Int32) (v3 : Int32) (v4 : Int32) (v5 : Int32) (s0 : Int32) (k6 : Int32 × Int32 × mh → Option (Int32 × mh)) (hk6 : ∀ (v4 : Int32) (v5 : Int32) (h : mh), Ev lI G yX10_someBits cX10_someBits 6 (some .int) 1 h0 6 [(0, .ref (gB G + v0)), (1, .int v1), (2, .int v2), (3, .int v3), (4, .int v4), (5, .int v5)] [] h (k6 (v4, v5, h))) (h : mh) : Ev lI G yX10_someBits cX10_someBits 6 (some .int) 1 h0 29 [(0, .ref (gB G + v0)), (1, .int v1), (2, .int v2), (3, .int v3), (4, .int v4), (5, .int v5)] [.int s0] h (fX10_someBits_29 fu k6 v0 v1 v2 v3 v4 v5 s0 h) := by
  unfold fX10_someBits_29
  refine ev_step (st_iload_n (pc := 29) (j := 3) dX10_someBits_29 rfl rfl) ?_
  refine ev_br (br_icmp_ne (tgt := 42) (pc := 30) dX10_someBits_30 (by decide)) (fun _ => ?_) (fun _ => ?_)
  · refine ev_step (st_iload (pc := 33) (j := 4) dX10_someBits_33 rfl) ?_
    refine ev_step (st_iconst (pc := 35) dX10_someBits_35 ni_1) ?_
    refine ev_step (st_iload (pc := 36) (j := 5) dX10_someBits_36 rfl) ?_
    refine ev_step (st_ishl (pc := 38) dX10_someBits_38) ?_
    refine ev_step (st_ior (pc := 39) dX10_someBits_39) ?_
    refine ev_top (fun x1 => ?_)
    refine ev_step (st_istore (pc := 40) (ls' := [(4, .int x1), (0, .ref (gB G + v0)), (1, .int v1), (2, .int v2), (3, .int v3), (5, .int v5)]) dX10_someBits_40 (by decide) rfl) ?_
    refine ev_sub (ls' := [(0, .ref (gB G + v0)), (1, .int v1), (2, .int v2), (3, .int v3), (4, .int x1), (5, .int v5)]) [1, 2, 3, 4, 0, 5] rfl ?_
    exact tX10_someBits_42 G fu h0 v0 v1 v2 v3 x1 v5 k6 hk6 h
  · refine ev_sub (ls' := [(0, .ref (gB G + v0)), (1, .int v1), (2, .int v2), (3, .int v3), (4, .int v4), (5, .int v5)]) [0, 1, 2, 3, 4, 5] rfl ?_
    exact tX10_someBits_42 G fu h0 v0 v1 v2 v3 v4 v5 k6 hk6 h
set_option maxRecDepth 100000 in
set_option maxHeartbeats 4000000 in
theorem tX10_someBits_6 (G : gx) (fu : Nat) (h0 : mh) (v0 : Nat) (v1 : Int32) (v2 : Int32) (v3 : Int32) (n : Nat) (v4 : Int32) (v5 : Int32) (h : mh) : Ev lI G yX10_someBits cX10_someBits 6 (some .int) 1 h0 6 [(0, .ref (gB G + v0)), (1, .int v1), (2, .int v2), (3, .int v3), (4, .int v4), (5, .int v5)] [] h (itr (bX10_someBits_6 fu v0 v1 v2 v3) n (v4, v5, h)) := by
  refine ev_itr (P := fun (q : Int32 × Int32 × mh) (R9 : Option (Int32 × mh)) => Ev lI G yX10_someBits cX10_someBits 6 (some .int) 1 h0 6 [(0, .ref (gB G + v0)), (1, .int v1), (2, .int v2), (3, .int v3), (4, .int q.1), (5, .int q.2.1)] [] q.2.2 R9) (fun _ => ev_none) (fun k6 hk9 q => ?_) n (v4, v5, h)
  obtain ⟨v4, v5, h⟩ := q
  have hk6 : ∀ (v4 : Int32) (v5 : Int32) (h : mh), Ev lI G yX10_someBits cX10_someBits 6 (some .int) 1 h0 6 [(0, .ref (gB G + v0)), (1, .int v1), (2, .int v2), (3, .int v3), (4, .int v4), (5, .int v5)] [] h (k6 (v4, v5, h)) := fun v4 v5 h => hk9 (v4, v5, h)
  show Ev lI G yX10_someBits cX10_someBits 6 (some .int) 1 h0 6 [(0, .ref (gB G + v0)), (1, .int v1), (2, .int v2), (3, .int v3), (4, .int v4), (5, .int v5)] [] h (bX10_someBits_6 fu v0 v1 v2 v3 k6 (v4, v5, h))
  unfold bX10_someBits_6
  refine ev_step (st_iload (pc := 6) (j := 5) dX10_someBits_6 rfl) ?_
  refine ev_step (st_iload_n (pc := 8) (j := 2) dX10_someBits_8 rfl rfl) ?_
  refine ev_br (br_icmp_ge (tgt := 48) (pc := 9) dX10_someBits_9 (by decide)) (fun _ => ?_) (fun _ => ?_)
  · refine ev_step (st_iload (pc := 48) (j := 4) dX10_someBits_48 rfl) ?_
    exact ev_iret (pc := 50) dX10_someBits_50
  · refine ev_step (st_aload_n (pc := 12) (j := 0) dX10_someBits_12 rfl rfl) ?_
    refine ev_getR (pc := 13) k_X10_122 rfl dX10_someBits_13 (fun a1 => ?_)
    refine ev_step (st_iload_n (pc := 16) (j := 1) dX10_someBits_16 rfl rfl) ?_
    refine ev_step (st_iload (pc := 17) (j := 5) dX10_someBits_17 rfl) ?_
    refine ev_step (st_iadd (pc := 19) dX10_someBits_19) ?_
    refine ev_ldi (pc := 20) dX10_someBits_20 (fun x2 => ?_)
    refine ev_br (br_if_ne (tgt := 28) (pc := 21) dX10_someBits_21 (by decide)) (fun _ => ?_) (fun _ => ?_)
    · refine ev_step (st_iconst (pc := 24) dX10_someBits_24 ni_1) ?_
      refine ev_step (st_goto (pc := 25) (tgt := 29) dX10_someBits_25 (by decide)) ?_
      refine ev_sub (ls' := [(0, .ref (gB G + v0)), (1, .int v1), (2, .int v2), (3, .int v3), (4, .int v4), (5, .int v5)]) [0, 1, 2, 3, 4, 5] rfl ?_
      exact tX10_someBits_29 G fu h0 v0 v1 v2 v3 v4 v5 ((1 : Int32)) k6 hk6 h
    · refine ev_step (st_iconst (pc := 28) dX10_someBits_28 ni_0) ?_
      refine ev_sub (ls' := [(0, .ref (gB G + v0)), (1, .int v1), (2, .int v2), (3, .int v3), (4, .int v4), (5, .int v5)]) [0, 1, 2, 3, 4, 5] rfl ?_
      exact tX10_someBits_29 G fu h0 v0 v1 v2 v3 v4 v5 ((0 : Int32)) k6 hk6 h
set_option maxRecDepth 100000 in
set_option maxHeartbeats 4000000 in
theorem tX10_someBits (G : gx) (fu : Nat) (v0 : Nat) (v1 : Int32) (v2 : Int32) (v3 : Int32) (h : mh) : Ct lI G yX10_someBits cX10_someBits 6 (some .int) 1 [.ref (gB G + v0), .int v1, .int v2, .int v3] h (fX10_someBits fu v0 v1 v2 v3 h) := by
  refine ct_ls (ls := [(0, .ref (gB G + v0)), (1, .int v1), (2, .int v2), (3, .int v3)]) rfl (by decide) (Nat.le_of_ble_eq_true rfl) ?_
  unfold fX10_someBits
  refine ev_step (st_iconst (pc := 0) dX10_someBits_0 ni_0) ?_
  refine ev_step (st_istore (pc := 1) (ls' := [(4, .int ((0 : Int32))), (0, .ref (gB G + v0)), (1, .int v1), (2, .int v2), (3, .int v3)]) dX10_someBits_1 (by decide) rfl) ?_
  refine ev_step (st_iconst (pc := 3) dX10_someBits_3 ni_0) ?_
  refine ev_step (st_istore (pc := 4) (ls' := [(5, .int ((0 : Int32))), (4, .int ((0 : Int32))), (0, .ref (gB G + v0)), (1, .int v1), (2, .int v2), (3, .int v3)]) dX10_someBits_4 (by decide) rfl) ?_
  refine ev_sub (ls' := [(0, .ref (gB G + v0)), (1, .int v1), (2, .int v2), (3, .int v3), (4, .int ((0 : Int32))), (5, .int ((0 : Int32)))]) [2, 3, 4, 5, 1, 0] rfl ?_
  exact tX10_someBits_6 G fu h v0 v1 v2 v3 fu ((0 : Int32)) ((0 : Int32)) h
set_option maxRecDepth 100000 in
set_option maxHeartbeats 4000000 in
theorem tX10_count_230 (G : gx) (fu : Nat) (h0 : mh) (v0 : Nat) (v1 : Int32) (v2 : Int32) (s0 : Int32) (s1 : Int32) (h : mh) : Ev lI G yX10_count cX10_count 4 (some .int) 3 h0 230 [(0, .ref (gB G + v0)), (1, .int v1), (2, .int v2)] [.int s1, .int s0] h (fX10_count_230 fu v0 v1 v2 s0 s1 h) := by
  unfold fX10_count_230
  refine ev_step (st_iadd (pc := 230) dX10_count_230) ?_
  exact ev_iret (pc := 231) dX10_count_231
set_option maxRecDepth 100000 in
set_option maxHeartbeats 4000000 in
theorem tX10_count_215 (G : gx) (fu : Nat) (h0 : mh) (v0 : Nat) (v1 : Int32) (v2 : Int32) (s0 : Int32) (s1 : Int32) (h : mh) : Ev lI G yX10_count cX10_count 4 (some .int) 3 h0 215 [(0, .ref (gB G + v0)), (1, .int v1), (2, .int v2)] [.int s1, .int s0] h (fX10_count_215 fu v0 v1 v2 s0 s1 h) := by
  unfold fX10_count_215
  refine ev_step (st_iadd (pc := 215) dX10_count_215) ?_
  refine ev_step (st_aload_n (pc := 216) (j := 0) dX10_count_216 rfl rfl) ?_
  refine ev_getR (pc := 217) k_X10_143 rfl dX10_count_217 (fun a1 => ?_)
  refine ev_step (st_iconst (pc := 220) dX10_count_220 ni_2) ?_
  refine ev_ldz (pc := 221) dX10_count_221 (fun x2 => ?_)
  refine ev_br (br_if_eq (tgt := 229) (pc := 222) dX10_count_222 (by decide)) (fun _ => ?_) (fun _ => ?_)
  · refine ev_step (st_iconst (pc := 229) dX10_count_229 ni_0) ?_
    refine ev_sub (ls' := [(0, .ref (gB G + v0)), (1, .int v1), (2, .int v2)]) [0, 1, 2] rfl ?_
    exact tX10_count_230 G fu h0 v0 v1 v2 (s0 + s1) ((0 : Int32)) h
  · refine ev_step (st_iconst (pc := 225) dX10_count_225 ni_1) ?_
    refine ev_step (st_goto (pc := 226) (tgt := 230) dX10_count_226 (by decide)) ?_
    refine ev_sub (ls' := [(0, .ref (gB G + v0)), (1, .int v1), (2, .int v2)]) [0, 1, 2] rfl ?_
    exact tX10_count_230 G fu h0 v0 v1 v2 (s0 + s1) ((1 : Int32)) h
set_option maxRecDepth 100000 in
set_option maxHeartbeats 4000000 in
theorem tX10_count_201 (G : gx) (fu : Nat) (h0 : mh) (v0 : Nat) (v1 : Int32) (v2 : Int32) (s0 : Int32) (h : mh) : Ev lI G yX10_count cX10_count 4 (some .int) 3 h0 201 [(0, .ref (gB G + v0)), (1, .int v1), (2, .int v2)] [.int s0] h (fX10_count_201 fu v0 v1 v2 s0 h) := by
  unfold fX10_count_201
  refine ev_step (st_aload_n (pc := 201) (j := 0) dX10_count_201 rfl rfl) ?_
  refine ev_getR (pc := 202) k_X10_143 rfl dX10_count_202 (fun a1 => ?_)
  refine ev_step (st_iconst (pc := 205) dX10_count_205 ni_1) ?_
  refine ev_ldz (pc := 206) dX10_count_206 (fun x2 => ?_)
  refine ev_br (br_if_eq (tgt := 214) (pc := 207) dX10_count_207 (by decide)) (fun _ => ?_) (fun _ => ?_)
  · refine ev_step (st_iconst (pc := 214) dX10_count_214 ni_0) ?_
    refine ev_sub (ls' := [(0, .ref (gB G + v0)), (1, .int v1), (2, .int v2)]) [0, 1, 2] rfl ?_
    exact tX10_count_215 G fu h0 v0 v1 v2 s0 ((0 : Int32)) h
  · refine ev_step (st_iconst (pc := 210) dX10_count_210 ni_1) ?_
    refine ev_step (st_goto (pc := 211) (tgt := 215) dX10_count_211 (by decide)) ?_
    refine ev_sub (ls' := [(0, .ref (gB G + v0)), (1, .int v1), (2, .int v2)]) [0, 1, 2] rfl ?_
    exact tX10_count_215 G fu h0 v0 v1 v2 s0 ((1 : Int32)) h
set_option maxRecDepth 100000 in
set_option maxHeartbeats 4000000 in
theorem tX10_count_320 (G : gx) (fu : Nat) (h0 : mh) (v0 : Nat) (v1 : Int32) (v2 : Int32) (v3 : Int32) (k284 : Int32 × Int32 × mh → Option (Int32 × mh)) (hk284 : ∀ (v2 : Int32) (v3 : Int32) (h : mh), Ev lI G yX10_count cX10_count 4 (some .int) 3 h0 284 [(0, .ref (gB G + v0)), (1, .int v1), (2, .int v2), (3, .int v3)] [] h (k284 (v2, v3, h))) (h : mh) : Ev lI G yX10_count cX10_count 4 (some .int) 3 h0 320 [(0, .ref (gB G + v0)), (1, .int v1), (2, .int v2), (3, .int v3)] [] h (fX10_count_320 fu k284 v0 v1 v2 v3 h) := by
  unfold fX10_count_320
  refine ev_step (st_inc (pc := 320) (j := 3) (ls' := [(3, .int (v3 + (1 : Int32))), (0, .ref (gB G + v0)), (1, .int v1), (2, .int v2)]) dX10_count_320 rfl ni_1 (by decide) rfl) ?_
  refine ev_step (st_goto (pc := 323) (tgt := 284) dX10_count_323 (by decide)) ?_
  refine ev_sub (ls' := [(0, .ref (gB G + v0)), (1, .int v1), (2, .int v2), (3, .int (v3 + (1 : Int32)))]) [1, 2, 3, 0] rfl ?_
  exact hk284 v2 (v3 + (1 : Int32)) h
set_option maxRecDepth 100000 in
set_option maxHeartbeats 4000000 in
theorem tX10_count_284 (G : gx) (fu : Nat) (h0 : mh) (v0 : Nat) (v1 : Int32) (n : Nat) (v2 : Int32) (v3 : Int32) (h : mh) : Ev lI G yX10_count cX10_count 4 (some .int) 3 h0 284 [(0, .ref (gB G + v0)), (1, .int v1), (2, .int v2), (3, .int v3)] [] h (itr (bX10_count_284 fu v0 v1) n (v2, v3, h)) := by
  refine ev_itr (P := fun (q : Int32 × Int32 × mh) (R9 : Option (Int32 × mh)) => Ev lI G yX10_count cX10_count 4 (some .int) 3 h0 284 [(0, .ref (gB G + v0)), (1, .int v1), (2, .int q.1), (3, .int q.2.1)] [] q.2.2 R9) (fun _ => ev_none) (fun k284 hk9 q => ?_) n (v2, v3, h)
  obtain ⟨v2, v3, h⟩ := q
  have hk284 : ∀ (v2 : Int32) (v3 : Int32) (h : mh), Ev lI G yX10_count cX10_count 4 (some .int) 3 h0 284 [(0, .ref (gB G + v0)), (1, .int v1), (2, .int v2), (3, .int v3)] [] h (k284 (v2, v3, h)) := fun v2 v3 h => hk9 (v2, v3, h)
  show Ev lI G yX10_count cX10_count 4 (some .int) 3 h0 284 [(0, .ref (gB G + v0)), (1, .int v1), (2, .int v2), (3, .int v3)] [] h (bX10_count_284 fu v0 v1 k284 (v2, v3, h))
  unfold bX10_count_284
  refine ev_step (st_iload_n (pc := 284) (j := 3) dX10_count_284 rfl rfl) ?_
  refine ev_step (st_aload_n (pc := 285) (j := 0) dX10_count_285 rfl rfl) ?_
  refine ev_getR (pc := 286) k_X10_55 rfl dX10_count_286 (fun a1 => ?_)
  refine ev_step (st_aload_n (pc := 289) (j := 0) dX10_count_289 rfl rfl) ?_
  refine ev_getI (pc := 290) k_X10_230 rfl dX10_count_290 (fun x2 => ?_)
  refine ev_ldi (pc := 293) dX10_count_293 (fun x3 => ?_)
  refine ev_br (br_icmp_ge (tgt := 326) (pc := 294) dX10_count_294 (by decide)) (fun _ => ?_) (fun _ => ?_)
  · refine ev_step (st_iload_n (pc := 326) (j := 2) dX10_count_326 rfl rfl) ?_
    exact ev_iret (pc := 327) dX10_count_327
  · refine ev_step (st_aload_n (pc := 297) (j := 0) dX10_count_297 rfl rfl) ?_
    refine ev_getR (pc := 298) k_X10_67 rfl dX10_count_298 (fun a4 => ?_)
    refine ev_step (st_bipush (pc := 301) dX10_count_301 nb_6) ?_
    refine ev_step (st_aload_n (pc := 303) (j := 0) dX10_count_303 rfl rfl) ?_
    refine ev_getI (pc := 304) k_X10_230 rfl dX10_count_304 (fun x5 => ?_)
    refine ev_step (st_imul (pc := 307) dX10_count_307) ?_
    refine ev_step (st_iload_n (pc := 308) (j := 3) dX10_count_308 rfl rfl) ?_
    refine ev_step (st_iadd (pc := 309) dX10_count_309) ?_
    refine ev_ldi (pc := 310) dX10_count_310 (fun x6 => ?_)
    refine ev_br (br_if_eq (tgt := 320) (pc := 311) dX10_count_311 (by decide)) (fun _ => ?_) (fun _ => ?_)
    · refine ev_sub (ls' := [(0, .ref (gB G + v0)), (1, .int v1), (2, .int v2), (3, .int v3)]) [0, 1, 2, 3] rfl ?_
      exact tX10_count_320 G fu h0 v0 v1 v2 v3 k284 hk284 h
    · refine ev_step (st_iload_n (pc := 314) (j := 2) dX10_count_314 rfl rfl) ?_
      refine ev_step (st_iconst (pc := 315) dX10_count_315 ni_1) ?_
      refine ev_step (st_iload_n (pc := 316) (j := 3) dX10_count_316 rfl rfl) ?_
      refine ev_step (st_ishl (pc := 317) dX10_count_317) ?_
      refine ev_step (st_ior (pc := 318) dX10_count_318) ?_
      refine ev_top (fun x7 => ?_)
      refine ev_step (st_istore_n (pc := 319) (ls' := [(2, .int x7), (0, .ref (gB G + v0)), (1, .int v1), (3, .int v3)]) dX10_count_319 rfl (by decide) rfl) ?_
      refine ev_sub (ls' := [(0, .ref (gB G + v0)), (1, .int v1), (2, .int x7), (3, .int v3)]) [1, 2, 0, 3] rfl ?_
      exact tX10_count_320 G fu h0 v0 v1 x7 v3 k284 hk284 h
set_option maxRecDepth 100000 in
set_option maxHeartbeats 4000000 in
theorem tX10_count (G : gx) (fu : Nat) (v0 : Nat) (v1 : Int32) (h : mh) : Ct lI G yX10_count cX10_count 4 (some .int) 3 [.ref (gB G + v0), .int v1] h (fX10_count fu v0 v1 h) := by
  refine ct_ls (ls := [(0, .ref (gB G + v0)), (1, .int v1)]) rfl (by decide) (Nat.le_of_ble_eq_true rfl) ?_
  unfold fX10_count
  refine ev_step (st_aload_n (pc := 0) (j := 0) dX10_count_0 rfl rfl) ?_
  refine ev_ck (fun ha hS => ?_)
  refine ev_callV (iv_V (As := []) (st := []) (pc := 1) rfl m_X10_copies l_X10_320 i_X10_copies e_X10_copies ha hS rfl (Nat.le_of_ble_eq_true rfl) rfl dX10_count_1) (tX10_copies G fu v0 h) (by decide) (by decide) (fun h1 => ?_)
  refine ev_step (st_iconst (pc := 4) dX10_count_4 ni_0) ?_
  refine ev_step (st_istore_n (pc := 5) (ls' := [(2, .int ((0 : Int32))), (0, .ref (gB G + v0)), (1, .int v1)]) dX10_count_5 rfl (by decide) rfl) ?_
  refine ev_step (st_iload_n (pc := 6) (j := 2) dX10_count_6 rfl rfl) ?_
  refine ev_case (n := 0) (c := (0 : Int32)) (off := 85) (tgt := 92) (pc := 7) (swn_0 _ _) dX10_count_7 (by decide) (by decide) (by decide) (by decide) (by decide) (fun _ => ?_) (fun q2 => ?_)
  · refine ev_step (st_aload_n (pc := 92) (j := 1) dX10_count_92 rfl rfl) ?_
    refine ev_getR (pc := 93) k_X10_46 rfl dX10_count_93 (fun a3 => ?_)
    refine ev_step (st_aload_n (pc := 96) (j := 1) dX10_count_96 rfl rfl) ?_
    refine ev_getI (pc := 97) k_X10_230 rfl dX10_count_97 (fun x4 => ?_)
    refine ev_ldi (pc := 100) dX10_count_100 (fun x5 => ?_)
    exact ev_iret (pc := 101) dX10_count_101
  refine ev_case (n := 1) (c := (1 : Int32)) (off := 95) (tgt := 102) (pc := 7) q2 dX10_count_7 (by decide) (by decide) (by decide) (by decide) (by decide) (fun _ => ?_) (fun q6 => ?_)
  · refine ev_step (st_aload_n (pc := 102) (j := 1) dX10_count_102 rfl rfl) ?_
    refine ev_getR (pc := 103) k_X10_55 rfl dX10_count_103 (fun a7 => ?_)
    refine ev_step (st_aload_n (pc := 106) (j := 1) dX10_count_106 rfl rfl) ?_
    refine ev_getI (pc := 107) k_X10_230 rfl dX10_count_107 (fun x8 => ?_)
    refine ev_ldi (pc := 110) dX10_count_110 (fun x9 => ?_)
    exact ev_iret (pc := 111) dX10_count_111
  refine ev_case (n := 2) (c := (2 : Int32)) (off := 105) (tgt := 112) (pc := 7) q6 dX10_count_7 (by decide) (by decide) (by decide) (by decide) (by decide) (fun _ => ?_) (fun q10 => ?_)
  · refine ev_step (st_aload_n (pc := 112) (j := 1) dX10_count_112 rfl rfl) ?_
    refine ev_getR (pc := 113) k_X10_122 rfl dX10_count_113 (fun a11 => ?_)
    refine ev_step (st_bipush (pc := 116) dX10_count_116 nb_30) ?_
    refine ev_ldi (pc := 118) dX10_count_118 (fun x12 => ?_)
    exact ev_iret (pc := 119) dX10_count_119
  refine ev_case (n := 3) (c := (3 : Int32)) (off := 113) (tgt := 120) (pc := 7) q10 dX10_count_7 (by decide) (by decide) (by decide) (by decide) (by decide) (fun _ => ?_) (fun q13 => ?_)
  · refine ev_step (st_aload_n (pc := 120) (j := 1) dX10_count_120 rfl rfl) ?_
    refine ev_getR (pc := 121) k_X10_122 rfl dX10_count_121 (fun a14 => ?_)
    refine ev_step (st_bipush (pc := 124) dX10_count_124 nb_31) ?_
    refine ev_ldi (pc := 126) dX10_count_126 (fun x15 => ?_)
    exact ev_iret (pc := 127) dX10_count_127
  refine ev_case (n := 4) (c := (4 : Int32)) (off := 121) (tgt := 128) (pc := 7) q13 dX10_count_7 (by decide) (by decide) (by decide) (by decide) (by decide) (fun _ => ?_) (fun q16 => ?_)
  · refine ev_step (st_aload_n (pc := 128) (j := 1) dX10_count_128 rfl rfl) ?_
    refine ev_step (st_bipush (pc := 129) dX10_count_129 nb_6) ?_
    refine ev_step (st_aload_n (pc := 131) (j := 1) dX10_count_131 rfl rfl) ?_
    refine ev_getR (pc := 132) k_X10_46 rfl dX10_count_132 (fun a17 => ?_)
    refine ev_step (st_aload_n (pc := 135) (j := 1) dX10_count_135 rfl rfl) ?_
    refine ev_getI (pc := 136) k_X10_230 rfl dX10_count_136 (fun x18 => ?_)
    refine ev_ldi (pc := 139) dX10_count_139 (fun x19 => ?_)
    refine ev_step (st_iconst (pc := 140) dX10_count_140 ni_0) ?_
    refine ev_ck (fun ha hS => ?_)
    refine ev_callI (iv_V (As := [.int ((6 : Int32)), .int x19, .int ((0 : Int32))]) (st := []) (pc := 141) rfl m_X10_someBits l_X10_458 i_X10_someBits e_X10_someBits ha hS rfl (Nat.le_of_ble_eq_true rfl) rfl dX10_count_141) (tX10_someBits G fu v0 ((6 : Int32)) x19 ((0 : Int32)) h1) (by decide) (by decide) (fun x21 h20 => ?_)
    exact ev_iret (pc := 144) dX10_count_144
  refine ev_case (n := 5) (c := (5 : Int32)) (off := 138) (tgt := 145) (pc := 7) q16 dX10_count_7 (by decide) (by decide) (by decide) (by decide) (by decide) (fun _ => ?_) (fun q22 => ?_)
  · refine ev_step (st_aload_n (pc := 145) (j := 1) dX10_count_145 rfl rfl) ?_
    refine ev_ck (fun ha hS => ?_)
    refine ev_callI (iv_V (As := []) (st := []) (pc := 146) rfl m_X10_doneBits l_X10_414 i_X10_doneBits e_X10_doneBits ha hS rfl (Nat.le_of_ble_eq_true rfl) rfl dX10_count_146) (tX10_doneBits G fu v0 h1) (by decide) (by decide) (fun x24 h23 => ?_)
    exact ev_iret (pc := 149) dX10_count_149
  refine ev_case (n := 6) (c := (6 : Int32)) (off := 143) (tgt := 150) (pc := 7) q22 dX10_count_7 (by decide) (by decide) (by decide) (by decide) (by decide) (fun _ => ?_) (fun q25 => ?_)
  · refine ev_step (st_aload_n (pc := 150) (j := 1) dX10_count_150 rfl rfl) ?_
    refine ev_step (st_bipush (pc := 151) dX10_count_151 nb_24) ?_
    refine ev_step (st_aload_n (pc := 153) (j := 1) dX10_count_153 rfl rfl) ?_
    refine ev_getR (pc := 154) k_X10_55 rfl dX10_count_154 (fun a26 => ?_)
    refine ev_step (st_aload_n (pc := 157) (j := 1) dX10_count_157 rfl rfl) ?_
    refine ev_getI (pc := 158) k_X10_230 rfl dX10_count_158 (fun x27 => ?_)
    refine ev_ldi (pc := 161) dX10_count_161 (fun x28 => ?_)
    refine ev_step (st_iconst (pc := 162) dX10_count_162 ni_0) ?_
    refine ev_ck (fun ha hS => ?_)
    refine ev_callI (iv_V (As := [.int ((24 : Int32)), .int x28, .int ((0 : Int32))]) (st := []) (pc := 163) rfl m_X10_someBits l_X10_458 i_X10_someBits e_X10_someBits ha hS rfl (Nat.le_of_ble_eq_true rfl) rfl dX10_count_163) (tX10_someBits G fu v0 ((24 : Int32)) x28 ((0 : Int32)) h1) (by decide) (by decide) (fun x30 h29 => ?_)
    exact ev_iret (pc := 166) dX10_count_166
  refine ev_case (n := 7) (c := (7 : Int32)) (off := 160) (tgt := 167) (pc := 7) q25 dX10_count_7 (by decide) (by decide) (by decide) (by decide) (by decide) (fun _ => ?_) (fun q31 => ?_)
  · refine ev_step (st_aload_n (pc := 167) (j := 1) dX10_count_167 rfl rfl) ?_
    refine ev_ck (fun ha hS => ?_)
    refine ev_callI (iv_V (As := []) (st := []) (pc := 168) rfl m_X10_knownMany l_X10_405 i_X10_knownMany e_X10_knownMany ha hS rfl (Nat.le_of_ble_eq_true rfl) rfl dX10_count_168) (tX10_knownMany G fu v0 h1) (by decide) (by decide) (fun x33 h32 => ?_)
    exact ev_iret (pc := 171) dX10_count_171
  refine ev_case (n := 8) (c := (8 : Int32)) (off := 165) (tgt := 172) (pc := 7) q31 dX10_count_7 (by decide) (by decide) (by decide) (by decide) (by decide) (fun _ => ?_) (fun q34 => ?_)
  · refine ev_step (st_aload_n (pc := 172) (j := 1) dX10_count_172 rfl rfl) ?_
    refine ev_getI (pc := 173) k_X10_167 rfl dX10_count_173 (fun x35 => ?_)
    exact ev_iret (pc := 176) dX10_count_176
  refine ev_case (n := 9) (c := (9 : Int32)) (off := 170) (tgt := 177) (pc := 7) q34 dX10_count_7 (by decide) (by decide) (by decide) (by decide) (by decide) (fun _ => ?_) (fun q36 => ?_)
  · refine ev_step (st_aload_n (pc := 177) (j := 1) dX10_count_177 rfl rfl) ?_
    refine ev_getI (pc := 178) k_X10_248 rfl dX10_count_178 (fun x37 => ?_)
    exact ev_iret (pc := 181) dX10_count_181
  refine ev_case (n := 10) (c := (10 : Int32)) (off := 175) (tgt := 182) (pc := 7) q36 dX10_count_7 (by decide) (by decide) (by decide) (by decide) (by decide) (fun _ => ?_) (fun q38 => ?_)
  · refine ev_step (st_aload_n (pc := 182) (j := 1) dX10_count_182 rfl rfl) ?_
    refine ev_getI (pc := 183) k_X10_251 rfl dX10_count_183 (fun x39 => ?_)
    exact ev_iret (pc := 186) dX10_count_186
  refine ev_case (n := 11) (c := (11 : Int32)) (off := 180) (tgt := 187) (pc := 7) q38 dX10_count_7 (by decide) (by decide) (by decide) (by decide) (by decide) (fun _ => ?_) (fun q40 => ?_)
  · refine ev_step (st_aload_n (pc := 187) (j := 1) dX10_count_187 rfl rfl) ?_
    refine ev_getR (pc := 188) k_X10_143 rfl dX10_count_188 (fun a41 => ?_)
    refine ev_step (st_iconst (pc := 191) dX10_count_191 ni_0) ?_
    refine ev_ldz (pc := 192) dX10_count_192 (fun x42 => ?_)
    refine ev_br (br_if_eq (tgt := 200) (pc := 193) dX10_count_193 (by decide)) (fun _ => ?_) (fun _ => ?_)
    · refine ev_step (st_iconst (pc := 200) dX10_count_200 ni_0) ?_
      refine ev_sub (ls' := [(0, .ref (gB G + v0)), (1, .int v1), (2, .int ((0 : Int32)))]) [1, 2, 0] rfl ?_
      exact tX10_count_201 G fu h v0 v1 ((0 : Int32)) ((0 : Int32)) h1
    · refine ev_step (st_iconst (pc := 196) dX10_count_196 ni_1) ?_
      refine ev_step (st_goto (pc := 197) (tgt := 201) dX10_count_197 (by decide)) ?_
      refine ev_sub (ls' := [(0, .ref (gB G + v0)), (1, .int v1), (2, .int ((0 : Int32)))]) [1, 2, 0] rfl ?_
      exact tX10_count_201 G fu h v0 v1 ((0 : Int32)) ((1 : Int32)) h1
  refine ev_case (n := 12) (c := (12 : Int32)) (off := 225) (tgt := 232) (pc := 7) q40 dX10_count_7 (by decide) (by decide) (by decide) (by decide) (by decide) (fun _ => ?_) (fun q43 => ?_)
  · refine ev_step (st_aload_n (pc := 232) (j := 1) dX10_count_232 rfl rfl) ?_
    refine ev_ck (fun ha hS => ?_)
    refine ev_callI (iv_V (As := []) (st := []) (pc := 233) rfl m_X10_isCrackle l_X10_371 i_X10_isCrackle e_X10_isCrackle ha hS rfl (Nat.le_of_ble_eq_true rfl) rfl dX10_count_233) (tX10_isCrackle G fu v0 h1) (by decide) (by decide) (fun x45 h44 => ?_)
    refine ev_br (br_if_eq (tgt := 243) (pc := 236) dX10_count_236 (by decide)) (fun _ => ?_) (fun _ => ?_)
    · refine ev_step (st_iconst (pc := 243) dX10_count_243 ni_0) ?_
      exact ev_iret (pc := 244) dX10_count_244
    · refine ev_step (st_iconst (pc := 239) dX10_count_239 ni_1) ?_
      refine ev_step (st_goto (pc := 240) (tgt := 244) dX10_count_240 (by decide)) ?_
      exact ev_iret (pc := 244) dX10_count_244
  refine ev_case (n := 13) (c := (13 : Int32)) (off := 238) (tgt := 245) (pc := 7) q43 dX10_count_7 (by decide) (by decide) (by decide) (by decide) (by decide) (fun _ => ?_) (fun q46 => ?_)
  · refine ev_step (st_aload_n (pc := 245) (j := 1) dX10_count_245 rfl rfl) ?_
    refine ev_step (st_iconst (pc := 246) dX10_count_246 ni_0) ?_
    refine ev_ck (fun ha hS => ?_)
    refine ev_callI (iv_V (As := [.int ((0 : Int32))]) (st := []) (pc := 247) rfl m_X10_sumOf l_X10_442 i_X10_sumOf e_X10_sumOf ha hS rfl (Nat.le_of_ble_eq_true rfl) rfl dX10_count_247) (tX10_sumOf G fu v0 ((0 : Int32)) h1) (by decide) (by decide) (fun x48 h47 => ?_)
    exact ev_iret (pc := 250) dX10_count_250
  refine ev_case (n := 14) (c := (14 : Int32)) (off := 244) (tgt := 251) (pc := 7) q46 dX10_count_7 (by decide) (by decide) (by decide) (by decide) (by decide) (fun _ => ?_) (fun q49 => ?_)
  · refine ev_step (st_aload_n (pc := 251) (j := 1) dX10_count_251 rfl rfl) ?_
    refine ev_getR (pc := 252) k_X10_122 rfl dX10_count_252 (fun a50 => ?_)
    refine ev_step (st_bipush (pc := 255) dX10_count_255 nb_32) ?_
    refine ev_ldi (pc := 257) dX10_count_257 (fun x51 => ?_)
    exact ev_iret (pc := 258) dX10_count_258
  refine ev_case (n := 15) (c := (15 : Int32)) (off := 252) (tgt := 259) (pc := 7) q49 dX10_count_7 (by decide) (by decide) (by decide) (by decide) (by decide) (fun _ => ?_) (fun q52 => ?_)
  · refine ev_step (st_aload_n (pc := 259) (j := 1) dX10_count_259 rfl rfl) ?_
    refine ev_step (st_iconst (pc := 260) dX10_count_260 ni_0) ?_
    refine ev_step (st_aload_n (pc := 261) (j := 1) dX10_count_261 rfl rfl) ?_
    refine ev_getR (pc := 262) k_X10_46 rfl dX10_count_262 (fun a53 => ?_)
    refine ev_step (st_aload_n (pc := 265) (j := 1) dX10_count_265 rfl rfl) ?_
    refine ev_getI (pc := 266) k_X10_230 rfl dX10_count_266 (fun x54 => ?_)
    refine ev_ldi (pc := 269) dX10_count_269 (fun x55 => ?_)
    refine ev_step (st_iconst (pc := 270) dX10_count_270 ni_1) ?_
    refine ev_ck (fun ha hS => ?_)
    refine ev_callI (iv_V (As := [.int ((0 : Int32)), .int x55, .int ((1 : Int32))]) (st := []) (pc := 271) rfl m_X10_someBits l_X10_458 i_X10_someBits e_X10_someBits ha hS rfl (Nat.le_of_ble_eq_true rfl) rfl dX10_count_271) (tX10_someBits G fu v0 ((0 : Int32)) x55 ((1 : Int32)) h1) (by decide) (by decide) (fun x57 h56 => ?_)
    exact ev_iret (pc := 274) dX10_count_274
  refine ev_case (n := 16) (c := (16 : Int32)) (off := 268) (tgt := 275) (pc := 7) q52 dX10_count_7 (by decide) (by decide) (by decide) (by decide) (by decide) (fun _ => ?_) (fun q58 => ?_)
  · refine ev_step (st_aload_n (pc := 275) (j := 1) dX10_count_275 rfl rfl) ?_
    refine ev_step (st_bipush (pc := 276) dX10_count_276 nb_18) ?_
    refine ev_ck (fun ha hS => ?_)
    refine ev_callI (iv_V (As := [.int ((18 : Int32))]) (st := []) (pc := 278) rfl m_X10_sumOf l_X10_442 i_X10_sumOf e_X10_sumOf ha hS rfl (Nat.le_of_ble_eq_true rfl) rfl dX10_count_278) (tX10_sumOf G fu v0 ((18 : Int32)) h1) (by decide) (by decide) (fun x60 h59 => ?_)
    exact ev_iret (pc := 281) dX10_count_281
  refine ev_case (n := 17) (c := (17 : Int32)) (off := 275) (tgt := 282) (pc := 7) q58 dX10_count_7 (by decide) (by decide) (by decide) (by decide) (by decide) (fun _ => ?_) (fun q61 => ?_)
  · refine ev_step (st_iconst (pc := 282) dX10_count_282 ni_0) ?_
    refine ev_step (st_istore_n (pc := 283) (ls' := [(3, .int ((0 : Int32))), (2, .int ((0 : Int32))), (0, .ref (gB G + v0)), (1, .int v1)]) dX10_count_283 rfl (by decide) rfl) ?_
    refine ev_sub (ls' := [(0, .ref (gB G + v0)), (1, .int v1), (2, .int ((0 : Int32))), (3, .int ((0 : Int32)))]) [2, 3, 1, 0] rfl ?_
    exact tX10_count_284 G fu h v0 v1 fu ((0 : Int32)) ((0 : Int32)) h1
  refine ev_dflt (n := 18) (tgt := 328) (pc := 7) q61 dX10_count_7 (by decide) (by decide) ?_
  refine ev_step (st_iconst (pc := 328) dX10_count_328 ni_m1) ?_
  exact ev_iret (pc := 329) dX10_count_329
set_option maxRecDepth 100000 in
set_option maxHeartbeats 4000000 in
theorem tJ6_bitCount_0f7a4 (G : gx) (fu : Nat) (v0 : Int32) (h : mh) : Ct lI G yJ6_bitCount_0f7a4 cJ6_bitCount_0f7a4 1 (some .int) 1 [.int v0] h (fJ6_bitCount_0f7a4 fu v0 h) := by
  refine ct_ls (ls := [(0, .int v0)]) rfl (by decide) (Nat.le_of_ble_eq_true rfl) ?_
  unfold fJ6_bitCount_0f7a4
  refine ev_step (st_iload_n (pc := 0) (j := 0) dJ6_bitCount_0f7a4_0 rfl rfl) ?_
  refine ev_step (st_iload_n (pc := 1) (j := 0) dJ6_bitCount_0f7a4_1 rfl rfl) ?_
  refine ev_step (st_iconst (pc := 2) dJ6_bitCount_0f7a4_2 ni_1) ?_
  refine ev_step (st_iushr (pc := 3) dJ6_bitCount_0f7a4_3) ?_
  refine ev_step (st_ldcw (pc := 4) dJ6_bitCount_0f7a4_4 cc_J6_265) ?_
  refine ev_step (st_iand (pc := 7) dJ6_bitCount_0f7a4_7) ?_
  refine ev_step (st_isub (pc := 8) dJ6_bitCount_0f7a4_8) ?_
  refine ev_top (fun x1 => ?_)
  refine ev_step (st_istore_n (pc := 9) (ls' := [(0, .int x1)]) dJ6_bitCount_0f7a4_9 rfl (by decide) rfl) ?_
  refine ev_step (st_iload_n (pc := 10) (j := 0) dJ6_bitCount_0f7a4_10 rfl rfl) ?_
  refine ev_step (st_ldcw (pc := 11) dJ6_bitCount_0f7a4_11 cc_J6_266) ?_
  refine ev_step (st_iand (pc := 14) dJ6_bitCount_0f7a4_14) ?_
  refine ev_step (st_iload_n (pc := 15) (j := 0) dJ6_bitCount_0f7a4_15 rfl rfl) ?_
  refine ev_step (st_iconst (pc := 16) dJ6_bitCount_0f7a4_16 ni_2) ?_
  refine ev_step (st_iushr (pc := 17) dJ6_bitCount_0f7a4_17) ?_
  refine ev_step (st_ldcw (pc := 18) dJ6_bitCount_0f7a4_18 cc_J6_266) ?_
  refine ev_step (st_iand (pc := 21) dJ6_bitCount_0f7a4_21) ?_
  refine ev_step (st_iadd (pc := 22) dJ6_bitCount_0f7a4_22) ?_
  refine ev_top (fun x2 => ?_)
  refine ev_step (st_istore_n (pc := 23) (ls' := [(0, .int x2)]) dJ6_bitCount_0f7a4_23 rfl (by decide) rfl) ?_
  refine ev_step (st_iload_n (pc := 24) (j := 0) dJ6_bitCount_0f7a4_24 rfl rfl) ?_
  refine ev_step (st_iload_n (pc := 25) (j := 0) dJ6_bitCount_0f7a4_25 rfl rfl) ?_
  refine ev_step (st_iconst (pc := 26) dJ6_bitCount_0f7a4_26 ni_4) ?_
  refine ev_step (st_iushr (pc := 27) dJ6_bitCount_0f7a4_27) ?_
  refine ev_step (st_iadd (pc := 28) dJ6_bitCount_0f7a4_28) ?_
  refine ev_step (st_ldcw (pc := 29) dJ6_bitCount_0f7a4_29 cc_J6_267) ?_
  refine ev_step (st_iand (pc := 32) dJ6_bitCount_0f7a4_32) ?_
  refine ev_top (fun x3 => ?_)
  refine ev_step (st_istore_n (pc := 33) (ls' := [(0, .int x3)]) dJ6_bitCount_0f7a4_33 rfl (by decide) rfl) ?_
  refine ev_step (st_iload_n (pc := 34) (j := 0) dJ6_bitCount_0f7a4_34 rfl rfl) ?_
  refine ev_step (st_iload_n (pc := 35) (j := 0) dJ6_bitCount_0f7a4_35 rfl rfl) ?_
  refine ev_step (st_bipush (pc := 36) dJ6_bitCount_0f7a4_36 nb_8) ?_
  refine ev_step (st_iushr (pc := 38) dJ6_bitCount_0f7a4_38) ?_
  refine ev_step (st_iadd (pc := 39) dJ6_bitCount_0f7a4_39) ?_
  refine ev_top (fun x4 => ?_)
  refine ev_step (st_istore_n (pc := 40) (ls' := [(0, .int x4)]) dJ6_bitCount_0f7a4_40 rfl (by decide) rfl) ?_
  refine ev_step (st_iload_n (pc := 41) (j := 0) dJ6_bitCount_0f7a4_41 rfl rfl) ?_
  refine ev_step (st_iload_n (pc := 42) (j := 0) dJ6_bitCount_0f7a4_42 rfl rfl) ?_
  refine ev_step (st_bipush (pc := 43) dJ6_bitCount_0f7a4_43 nb_16) ?_
  refine ev_step (st_iushr (pc := 45) dJ6_bitCount_0f7a4_45) ?_
  refine ev_step (st_iadd (pc := 46) dJ6_bitCount_0f7a4_46) ?_
  refine ev_top (fun x5 => ?_)
  refine ev_step (st_istore_n (pc := 47) (ls' := [(0, .int x5)]) dJ6_bitCount_0f7a4_47 rfl (by decide) rfl) ?_
  refine ev_step (st_iload_n (pc := 48) (j := 0) dJ6_bitCount_0f7a4_48 rfl rfl) ?_
  refine ev_step (st_bipush (pc := 49) dJ6_bitCount_0f7a4_49 nb_63) ?_
  refine ev_step (st_iand (pc := 51) dJ6_bitCount_0f7a4_51) ?_
  exact ev_iret (pc := 52) dJ6_bitCount_0f7a4_52
set_option maxRecDepth 100000 in
set_option maxHeartbeats 4000000 in
theorem tJ7_fill_53178_5 (G : gx) (fu : Nat) (h0 : mh) (v0 : Nat) (v1 : Int32) (v3 : Int32) (n : Nat) (v2 : Int32) (h : mh) : Ev lV G yJ7_fill_53178 cJ7_fill_53178 4 (none) 1 h0 5 [(0, .ref (gB G + v0)), (1, .int v1), (2, .int v2), (3, .int v3)] [] h (itr (bJ7_fill_53178_5 fu v0 v1 v3) n (v2, h)) := by
  refine ev_itr (P := fun (q : Int32 × mh) (R9 : Option (Unit × mh)) => Ev lV G yJ7_fill_53178 cJ7_fill_53178 4 (none) 1 h0 5 [(0, .ref (gB G + v0)), (1, .int v1), (2, .int q.1), (3, .int v3)] [] q.2 R9) (fun _ => ev_none) (fun k5 hk9 q => ?_) n (v2, h)
  obtain ⟨v2, h⟩ := q
  have hk5 : ∀ (v2 : Int32) (h : mh), Ev lV G yJ7_fill_53178 cJ7_fill_53178 4 (none) 1 h0 5 [(0, .ref (gB G + v0)), (1, .int v1), (2, .int v2), (3, .int v3)] [] h (k5 (v2, h)) := fun v2 h => hk9 (v2, h)
  show Ev lV G yJ7_fill_53178 cJ7_fill_53178 4 (none) 1 h0 5 [(0, .ref (gB G + v0)), (1, .int v1), (2, .int v2), (3, .int v3)] [] h (bJ7_fill_53178_5 fu v0 v1 v3 k5 (v2, h))
  unfold bJ7_fill_53178_5
  refine ev_step (st_iload_n (pc := 5) (j := 2) dJ7_fill_53178_5 rfl rfl) ?_
  refine ev_step (st_iload_n (pc := 6) (j := 3) dJ7_fill_53178_6 rfl rfl) ?_
  refine ev_br (br_icmp_ge (tgt := 20) (pc := 7) dJ7_fill_53178_7 (by decide)) (fun _ => ?_) (fun _ => ?_)
  · exact ev_vret (pc := 20) dJ7_fill_53178_20
  · refine ev_step (st_aload_n (pc := 10) (j := 0) dJ7_fill_53178_10 rfl rfl) ?_
    refine ev_step (st_iload_n (pc := 11) (j := 2) dJ7_fill_53178_11 rfl rfl) ?_
    refine ev_step (st_iload_n (pc := 12) (j := 1) dJ7_fill_53178_12 rfl rfl) ?_
    refine ev_sti (pc := 13) dJ7_fill_53178_13 (fun h1 => ?_)
    refine ev_step (st_inc (pc := 14) (j := 2) (ls' := [(2, .int (v2 + (1 : Int32))), (0, .ref (gB G + v0)), (1, .int v1), (3, .int v3)]) dJ7_fill_53178_14 rfl ni_1 (by decide) rfl) ?_
    refine ev_step (st_goto (pc := 17) (tgt := 5) dJ7_fill_53178_17 (by decide)) ?_
    refine ev_sub (ls' := [(0, .ref (gB G + v0)), (1, .int v1), (2, .int (v2 + (1 : Int32))), (3, .int v3)]) [1, 2, 0, 3] rfl ?_
    exact hk5 (v2 + (1 : Int32)) h1
set_option maxRecDepth 100000 in
set_option maxHeartbeats 4000000 in
theorem tJ7_fill_53178 (G : gx) (fu : Nat) (v0 : Nat) (v1 : Int32) (h : mh) : Ct lV G yJ7_fill_53178 cJ7_fill_53178 4 (none) 1 [.ref (gB G + v0), .int v1] h (fJ7_fill_53178 fu v0 v1 h) := by
  refine ct_ls (ls := [(0, .ref (gB G + v0)), (1, .int v1)]) rfl (by decide) (Nat.le_of_ble_eq_true rfl) ?_
  unfold fJ7_fill_53178
  refine ev_step (st_iconst (pc := 0) dJ7_fill_53178_0 ni_0) ?_
  refine ev_step (st_istore_n (pc := 1) (ls' := [(2, .int ((0 : Int32))), (0, .ref (gB G + v0)), (1, .int v1)]) dJ7_fill_53178_1 rfl (by decide) rfl) ?_
  refine ev_step (st_aload_n (pc := 2) (j := 1) dJ7_fill_53178_2 rfl rfl) ?_
  refine ev_len (pc := 3) dJ7_fill_53178_3 (fun x1 => ?_)
  refine ev_step (st_istore_n (pc := 4) (ls' := [(3, .int x1), (2, .int ((0 : Int32))), (0, .ref (gB G + v0)), (1, .int v1)]) dJ7_fill_53178_4 rfl (by decide) rfl) ?_
  refine ev_sub (ls' := [(0, .ref (gB G + v0)), (1, .int v1), (2, .int ((0 : Int32))), (3, .int x1)]) [2, 3, 1, 0] rfl ?_
  exact tJ7_fill_53178_5 G fu h v0 v1 x1 fu ((0 : Int32)) h
set_option maxRecDepth 100000 in
set_option maxHeartbeats 4000000 in
theorem tX0_begin (G : gx) (fu : Nat) (v0 : Nat) (v1 : Int32) (v2 : Nat) (h : mh) : Ct lI G yX0_begin cX0_begin 3 (some .int) 2 [.ref (gB G + v0), .int v1, .ref (gB G + v2)] h (fX0_begin fu v0 v1 v2 h) := by
  refine ct_ls (ls := [(0, .ref (gB G + v0)), (1, .int v1), (2, .ref (gB G + v2))]) rfl (by decide) (Nat.le_of_ble_eq_true rfl) ?_
  unfold fX0_begin
  refine ev_step (st_iload_n (pc := 0) (j := 1) dX0_begin_0 rfl rfl) ?_
  refine ev_step (st_bipush (pc := 1) dX0_begin_1 nb_61) ?_
  refine ev_br (br_icmp_eq (tgt := 8) (pc := 3) dX0_begin_3 (by decide)) (fun _ => ?_) (fun _ => ?_)
  · refine ev_step (st_aload_n (pc := 8) (j := 2) dX0_begin_8 rfl rfl) ?_
    refine ev_step (st_aload_n (pc := 9) (j := 0) dX0_begin_9 rfl rfl) ?_
    refine ev_getI (pc := 10) k_X0_9 rfl dX0_begin_10 (fun x1 => ?_)
    refine ev_ck (fun ha hS => ?_)
    refine ev_callV (iv_V (As := [.int x1]) (st := []) (pc := 13) rfl m_X1_open l_X0_62 i_X1_open e_X1_open ha hS rfl (Nat.le_of_ble_eq_true rfl) rfl dX0_begin_13) (tX1_open G fu v2 x1 h) (by decide) (by decide) (fun h2 => ?_)
    refine ev_step (st_aload_n (pc := 16) (j := 0) dX0_begin_16 rfl rfl) ?_
    refine ev_step (st_iconst (pc := 17) dX0_begin_17 ni_1) ?_
    refine ev_putZ (pc := 18) (p_X0_24 _ rfl) rfl dX0_begin_18 (fun h3 => ?_)
    refine ev_step (st_aload_n (pc := 21) (j := 0) dX0_begin_21 rfl rfl) ?_
    refine ev_step (st_iconst (pc := 22) dX0_begin_22 ni_1) ?_
    refine ev_putZ (pc := 23) (p_X0_28 _ rfl) rfl dX0_begin_23 (fun h4 => ?_)
    refine ev_step (st_aload_n (pc := 26) (j := 0) dX0_begin_26 rfl rfl) ?_
    refine ev_step (st_iconst (pc := 27) dX0_begin_27 ni_1) ?_
    refine ev_putZ (pc := 28) (p_X0_34 _ rfl) rfl dX0_begin_28 (fun h5 => ?_)
    refine ev_step (st_iconst (pc := 31) dX0_begin_31 ni_0) ?_
    exact ev_iret (pc := 32) dX0_begin_32
  · refine ev_step (st_iconst (pc := 6) dX0_begin_6 ni_1) ?_
    exact ev_iret (pc := 7) dX0_begin_7
set_option maxRecDepth 100000 in
set_option maxHeartbeats 4000000 in
theorem tX0_takeUnit_23 (G : gx) (fu : Nat) (h0 : mh) (v0 : Nat) (v1 : Nat) (v2 : Nat) (v3 : Int32) (s0 : Int32) (h : mh) : Ev lI G yX0_takeUnit cX0_takeUnit 5 (some .int) 2 h0 23 [(0, .ref (gB G + v0)), (1, .ref (gB G + v1)), (2, .ref (gB G + v2)), (3, .int v3)] [.int s0] h (fX0_takeUnit_23 fu v0 v1 v2 v3 s0 h) := by
  unfold fX0_takeUnit_23
  refine ev_step (st_istore (pc := 23) (ls' := [(4, .int s0), (0, .ref (gB G + v0)), (1, .ref (gB G + v1)), (2, .ref (gB G + v2)), (3, .int v3)]) dX0_takeUnit_23 (by decide) rfl) ?_
  refine ev_step (st_aload_n (pc := 25) (j := 1) dX0_takeUnit_25 rfl rfl) ?_
  refine ev_step (st_iconst (pc := 26) dX0_takeUnit_26 ni_0) ?_
  refine ev_putZ (pc := 27) (p_X0_34 _ rfl) rfl dX0_takeUnit_27 (fun h1 => ?_)
  refine ev_step (st_iload (pc := 30) (j := 0) dX0_takeUnit_30 rfl) ?_
  refine ev_br (br_if_eq (tgt := 64) (pc := 32) dX0_takeUnit_32 (by decide)) (fun _ => ?_) (fun _ => ?_)
  · refine ev_step (st_iload_n (pc := 64) (j := 4) dX0_takeUnit_64 rfl rfl) ?_
    refine ev_step (st_bipush (pc := 65) dX0_takeUnit_65 nb_40) ?_
    refine ev_br (br_icmp_ne (tgt := 101) (pc := 67) dX0_takeUnit_67 (by decide)) (fun _ => ?_) (fun _ => ?_)
    · refine ev_step (st_aload_n (pc := 70) (j := 1) dX0_takeUnit_70 rfl rfl) ?_
      refine ev_step (st_dup (pc := 71) dX0_takeUnit_71 rfl) ?_
      refine ev_getI (pc := 72) k_X0_21 rfl dX0_takeUnit_72 (fun x2 => ?_)
      refine ev_step (st_iconst (pc := 75) dX0_takeUnit_75 ni_1) ?_
      refine ev_step (st_iadd (pc := 76) dX0_takeUnit_76) ?_
      refine ev_putI (pc := 77) (p_X0_21 _ rfl) rfl dX0_takeUnit_77 (fun h3 => ?_)
      refine ev_step (st_aload_n (pc := 80) (j := 1) dX0_takeUnit_80 rfl rfl) ?_
      refine ev_step (st_bipush (pc := 81) dX0_takeUnit_81 nb_40) ?_
      refine ev_ck (fun ha hS => ?_)
      refine ev_callV (iv_V (As := [.int ((40 : Int32))]) (st := []) (pc := 83) rfl m_X0_hang l_X0_68 i_X0_hang e_X0_hang ha hS rfl (Nat.le_of_ble_eq_true rfl) rfl dX0_takeUnit_83) (tX0_hang G fu v0 ((40 : Int32)) h3) (by decide) (by decide) (fun h4 => ?_)
      refine ev_step (st_aload_n (pc := 86) (j := 1) dX0_takeUnit_86 rfl rfl) ?_
      refine ev_getI (pc := 87) k_X0_21 rfl dX0_takeUnit_87 (fun x5 => ?_)
      refine ev_step (st_bipush (pc := 90) dX0_takeUnit_90 nb_6) ?_
      refine ev_br (br_icmp_le (tgt := 99) (pc := 92) dX0_takeUnit_92 (by decide)) (fun _ => ?_) (fun _ => ?_)
      · refine ev_step (st_iconst (pc := 99) dX0_takeUnit_99 ni_0) ?_
        exact ev_iret (pc := 100) dX0_takeUnit_100
      · refine ev_step (st_iconst (pc := 95) dX0_takeUnit_95 ni_2) ?_
        refine ev_step (st_goto (pc := 96) (tgt := 100) dX0_takeUnit_96 (by decide)) ?_
        exact ev_iret (pc := 100) dX0_takeUnit_100
    · refine ev_step (st_aload_n (pc := 101) (j := 1) dX0_takeUnit_101 rfl rfl) ?_
      refine ev_step (st_iconst (pc := 102) dX0_takeUnit_102 ni_0) ?_
      refine ev_putZ (pc := 103) (p_X0_28 _ rfl) rfl dX0_takeUnit_103 (fun h6 => ?_)
      refine ev_step (st_iload_n (pc := 106) (j := 4) dX0_takeUnit_106 rfl rfl) ?_
      refine ev_step (st_bipush (pc := 107) dX0_takeUnit_107 nb_23) ?_
      refine ev_br (br_icmp_ne (tgt := 122) (pc := 109) dX0_takeUnit_109 (by decide)) (fun _ => ?_) (fun _ => ?_)
      · refine ev_step (st_aload_n (pc := 112) (j := 3) dX0_takeUnit_112 rfl rfl) ?_
        refine ev_step (st_aload_n (pc := 113) (j := 2) dX0_takeUnit_113 rfl rfl) ?_
        refine ev_getI (pc := 114) k_X0_71 rfl dX0_takeUnit_114 (fun x7 => ?_)
        refine ev_ck (fun ha hS => ?_)
        refine ev_callV (iv_V (As := [.int x7]) (st := []) (pc := 117) rfl m_X1_put l_X0_74 i_X1_put e_X1_put ha hS rfl (Nat.le_of_ble_eq_true rfl) rfl dX0_takeUnit_117) (tX1_put G fu v2 x7 h6) (by decide) (by decide) (fun h8 => ?_)
        refine ev_step (st_iconst (pc := 120) dX0_takeUnit_120 ni_0) ?_
        exact ev_iret (pc := 121) dX0_takeUnit_121
      · refine ev_step (st_iload_n (pc := 122) (j := 4) dX0_takeUnit_122 rfl rfl) ?_
        refine ev_step (st_bipush (pc := 123) dX0_takeUnit_123 nb_13) ?_
        refine ev_br (br_icmp_lt (tgt := 148) (pc := 125) dX0_takeUnit_125 (by decide)) (fun _ => ?_) (fun _ => ?_)
        · refine ev_step (st_iconst (pc := 148) dX0_takeUnit_148 ni_1) ?_
          exact ev_iret (pc := 149) dX0_takeUnit_149
        · refine ev_step (st_iload_n (pc := 128) (j := 4) dX0_takeUnit_128 rfl rfl) ?_
          refine ev_step (st_bipush (pc := 129) dX0_takeUnit_129 nb_22) ?_
          refine ev_br (br_icmp_ge (tgt := 148) (pc := 131) dX0_takeUnit_131 (by decide)) (fun _ => ?_) (fun _ => ?_)
          · refine ev_step (st_iconst (pc := 148) dX0_takeUnit_148 ni_1) ?_
            exact ev_iret (pc := 149) dX0_takeUnit_149
          · refine ev_step (st_aload_n (pc := 134) (j := 3) dX0_takeUnit_134 rfl rfl) ?_
            refine ev_step (st_sipush (pc := 135) dX0_takeUnit_135 ns_10000) ?_
            refine ev_step (st_iload_n (pc := 138) (j := 4) dX0_takeUnit_138 rfl rfl) ?_
            refine ev_step (st_bipush (pc := 139) dX0_takeUnit_139 nb_13) ?_
            refine ev_step (st_isub (pc := 141) dX0_takeUnit_141) ?_
            refine ev_step (st_iadd (pc := 142) dX0_takeUnit_142) ?_
            refine ev_ck (fun ha hS => ?_)
            refine ev_callV (iv_V (As := [.int (((10000 : Int32)) + (v3 - ((13 : Int32))))]) (st := []) (pc := 143) rfl m_X1_put l_X0_74 i_X1_put e_X1_put ha hS rfl (Nat.le_of_ble_eq_true rfl) rfl dX0_takeUnit_143) (tX1_put G fu v2 (((10000 : Int32)) + (v3 - ((13 : Int32)))) h6) (by decide) (by decide) (fun h9 => ?_)
            refine ev_step (st_iconst (pc := 146) dX0_takeUnit_146 ni_0) ?_
            exact ev_iret (pc := 147) dX0_takeUnit_147
  · refine ev_step (st_aload_n (pc := 35) (j := 1) dX0_takeUnit_35 rfl rfl) ?_
    refine ev_step (st_dup (pc := 36) dX0_takeUnit_36 rfl) ?_
    refine ev_getI (pc := 37) k_X0_18 rfl dX0_takeUnit_37 (fun x10 => ?_)
    refine ev_step (st_iconst (pc := 40) dX0_takeUnit_40 ni_1) ?_
    refine ev_step (st_iadd (pc := 41) dX0_takeUnit_41) ?_
    refine ev_putI (pc := 42) (p_X0_18 _ rfl) rfl dX0_takeUnit_42 (fun h11 => ?_)
    refine ev_step (st_aload_n (pc := 45) (j := 1) dX0_takeUnit_45 rfl rfl) ?_
    refine ev_step (st_iconst (pc := 46) dX0_takeUnit_46 ni_0) ?_
    refine ev_putI (pc := 47) (p_X0_15 _ rfl) rfl dX0_takeUnit_47 (fun h12 => ?_)
    refine ev_step (st_aload_n (pc := 50) (j := 1) dX0_takeUnit_50 rfl rfl) ?_
    refine ev_getI (pc := 51) k_X0_18 rfl dX0_takeUnit_51 (fun x13 => ?_)
    refine ev_step (st_iconst (pc := 54) dX0_takeUnit_54 ni_4) ?_
    refine ev_br (br_icmp_le (tgt := 62) (pc := 55) dX0_takeUnit_55 (by decide)) (fun _ => ?_) (fun _ => ?_)
    · refine ev_step (st_iconst (pc := 62) dX0_takeUnit_62 ni_0) ?_
      exact ev_iret (pc := 63) dX0_takeUnit_63
    · refine ev_step (st_iconst (pc := 58) dX0_takeUnit_58 ni_2) ?_
      refine ev_step (st_goto (pc := 59) (tgt := 63) dX0_takeUnit_59 (by decide)) ?_
      exact ev_iret (pc := 63) dX0_takeUnit_63
set_option maxRecDepth 100000 in
set_option maxHeartbeats 4000000 in
theorem tX0_takeUnit_22 (G : gx) (fu : Nat) (h0 : mh) (v0 : Nat) (v1 : Nat) (v2 : Nat) (v3 : Int32) (h : mh) : Ev lI G yX0_takeUnit cX0_takeUnit 5 (some .int) 2 h0 22 [(0, .ref (gB G + v0)), (1, .ref (gB G + v1)), (2, .ref (gB G + v2)), (3, .int v3)] [] h (fX0_takeUnit_22 fu v0 v1 v2 v3 h) := by
  unfold fX0_takeUnit_22
  refine ev_step (st_iconst (pc := 22) dX0_takeUnit_22 ni_0) ?_
  refine ev_sub (ls' := [(0, .ref (gB G + v0)), (1, .ref (gB G + v1)), (2, .ref (gB G + v2)), (3, .int v3)]) [0, 1, 2, 3] rfl ?_
  exact tX0_takeUnit_23 G fu h0 v0 v1 v2 v3 ((0 : Int32)) h
set_option maxRecDepth 100000 in
set_option maxHeartbeats 4000000 in
theorem tX0_takeUnit (G : gx) (fu : Nat) (v0 : Nat) (v1 : Nat) (v2 : Nat) (h : mh) : Ct lI G yX0_takeUnit cX0_takeUnit 5 (some .int) 2 [.ref (gB G + v0), .ref (gB G + v1), .ref (gB G + v2)] h (fX0_takeUnit fu v0 v1 v2 h) := by
  refine ct_ls (ls := [(0, .ref (gB G + v0)), (1, .ref (gB G + v1)), (2, .ref (gB G + v2))]) rfl (by decide) (Nat.le_of_ble_eq_true rfl) ?_
  unfold fX0_takeUnit
  refine ev_step (st_aload_n (pc := 0) (j := 1) dX0_takeUnit_0 rfl rfl) ?_
  refine ev_getI (pc := 1) k_X0_44 rfl dX0_takeUnit_1 (fun x1 => ?_)
  refine ev_step (st_istore_n (pc := 4) (ls' := [(3, .int x1), (0, .ref (gB G + v0)), (1, .ref (gB G + v1)), (2, .ref (gB G + v2))]) dX0_takeUnit_4 rfl (by decide) rfl) ?_
  refine ev_step (st_aload_n (pc := 5) (j := 1) dX0_takeUnit_5 rfl rfl) ?_
  refine ev_getI (pc := 6) k_X0_34 rfl dX0_takeUnit_6 (fun x2 => ?_)
  refine ev_br (br_if_eq (tgt := 22) (pc := 9) dX0_takeUnit_9 (by decide)) (fun _ => ?_) (fun _ => ?_)
  · refine ev_sub (ls' := [(0, .ref (gB G + v0)), (1, .ref (gB G + v1)), (2, .ref (gB G + v2)), (3, .int x1)]) [1, 2, 3, 0] rfl ?_
    exact tX0_takeUnit_22 G fu h v0 v1 v2 x1 h
  · refine ev_step (st_iload_n (pc := 12) (j := 0) dX0_takeUnit_12 rfl rfl) ?_
    refine ev_step (st_bipush (pc := 13) dX0_takeUnit_13 nb_10) ?_
    refine ev_br (br_icmp_ne (tgt := 22) (pc := 15) dX0_takeUnit_15 (by decide)) (fun _ => ?_) (fun _ => ?_)
    · refine ev_step (st_iconst (pc := 18) dX0_takeUnit_18 ni_1) ?_
      refine ev_step (st_goto (pc := 19) (tgt := 23) dX0_takeUnit_19 (by decide)) ?_
      refine ev_sub (ls' := [(0, .ref (gB G + v0)), (1, .ref (gB G + v1)), (2, .ref (gB G + v2)), (3, .int x1)]) [1, 2, 3, 0] rfl ?_
      exact tX0_takeUnit_23 G fu h v0 v1 v2 x1 ((1 : Int32)) h
    · refine ev_sub (ls' := [(0, .ref (gB G + v0)), (1, .ref (gB G + v1)), (2, .ref (gB G + v2)), (3, .int x1)]) [1, 2, 3, 0] rfl ?_
      exact tX0_takeUnit_22 G fu h v0 v1 v2 x1 h
set_option maxRecDepth 100000 in
set_option maxHeartbeats 4000000 in
theorem tX0_putHanging_0 (G : gx) (fu : Nat) (h0 : mh) (v0 : Nat) (v1 : Int32) (v2 : Nat) (n : Nat) (h : mh) : Ev lV G yX0_putHanging cX0_putHanging 3 (none) 2 h0 0 [(0, .ref (gB G + v0)), (1, .int v1), (2, .ref (gB G + v2))] [] h (itr (bX0_putHanging_0 fu v0 v1 v2) n (h)) := by
  refine ev_itr (P := fun (q : mh) (R9 : Option (Unit × mh)) => Ev lV G yX0_putHanging cX0_putHanging 3 (none) 2 h0 0 [(0, .ref (gB G + v0)), (1, .int v1), (2, .ref (gB G + v2))] [] q R9) (fun _ => ev_none) (fun k0 hk9 h => ?_) n (h)
  have hk0 : ∀ (h : mh), Ev lV G yX0_putHanging cX0_putHanging 3 (none) 2 h0 0 [(0, .ref (gB G + v0)), (1, .int v1), (2, .ref (gB G + v2))] [] h (k0 (h)) := fun h => hk9 (h)
  show Ev lV G yX0_putHanging cX0_putHanging 3 (none) 2 h0 0 [(0, .ref (gB G + v0)), (1, .int v1), (2, .ref (gB G + v2))] [] h (bX0_putHanging_0 fu v0 v1 v2 k0 (h))
  unfold bX0_putHanging_0
  refine ev_step (st_aload_n (pc := 0) (j := 0) dX0_putHanging_0 rfl rfl) ?_
  refine ev_getI (pc := 1) k_X0_41 rfl dX0_putHanging_1 (fun x1 => ?_)
  refine ev_br (br_if_le (tgt := 52) (pc := 4) dX0_putHanging_4 (by decide)) (fun _ => ?_) (fun _ => ?_)
  · exact ev_vret (pc := 52) dX0_putHanging_52
  · refine ev_step (st_aload_n (pc := 7) (j := 0) dX0_putHanging_7 rfl rfl) ?_
    refine ev_getR (pc := 8) k_X0_37 rfl dX0_putHanging_8 (fun a2 => ?_)
    refine ev_step (st_aload_n (pc := 11) (j := 0) dX0_putHanging_11 rfl rfl) ?_
    refine ev_getI (pc := 12) k_X0_41 rfl dX0_putHanging_12 (fun x3 => ?_)
    refine ev_step (st_iconst (pc := 15) dX0_putHanging_15 ni_1) ?_
    refine ev_step (st_isub (pc := 16) dX0_putHanging_16) ?_
    refine ev_ldi (pc := 17) dX0_putHanging_17 (fun x4 => ?_)
    refine ev_callI (iv_S (As := [.int x4]) (st := []) (pc := 18) m_X0_tightnessOf l_X0_77 z_X0_tightnessOf rfl (Nat.le_of_ble_eq_true rfl) rfl dX0_putHanging_18) (tX0_tightnessOf G fu x4 h) (by decide) (by decide) (fun x6 h5 => ?_)
    refine ev_step (st_iload_n (pc := 21) (j := 1) dX0_putHanging_21 rfl rfl) ?_
    refine ev_br (br_icmp_lt (tgt := 52) (pc := 22) dX0_putHanging_22 (by decide)) (fun _ => ?_) (fun _ => ?_)
    · exact ev_vret (pc := 52) dX0_putHanging_52
    · refine ev_step (st_aload_n (pc := 25) (j := 0) dX0_putHanging_25 rfl rfl) ?_
      refine ev_step (st_dup (pc := 26) dX0_putHanging_26 rfl) ?_
      refine ev_getI (pc := 27) k_X0_41 rfl dX0_putHanging_27 (fun x7 => ?_)
      refine ev_step (st_iconst (pc := 30) dX0_putHanging_30 ni_1) ?_
      refine ev_step (st_isub (pc := 31) dX0_putHanging_31) ?_
      refine ev_putI (pc := 32) (p_X0_41 _ rfl) rfl dX0_putHanging_32 (fun h8 => ?_)
      refine ev_step (st_aload_n (pc := 35) (j := 2) dX0_putHanging_35 rfl rfl) ?_
      refine ev_step (st_aload_n (pc := 36) (j := 0) dX0_putHanging_36 rfl rfl) ?_
      refine ev_getR (pc := 37) k_X0_37 rfl dX0_putHanging_37 (fun a9 => ?_)
      refine ev_step (st_aload_n (pc := 40) (j := 0) dX0_putHanging_40 rfl rfl) ?_
      refine ev_getI (pc := 41) k_X0_41 rfl dX0_putHanging_41 (fun x10 => ?_)
      refine ev_ldi (pc := 44) dX0_putHanging_44 (fun x11 => ?_)
      refine ev_step (st_ineg (pc := 45) dX0_putHanging_45) ?_
      refine ev_ck (fun ha hS => ?_)
      refine ev_callV (iv_V (As := [.int (-x11)]) (st := []) (pc := 46) rfl m_X1_put l_X0_74 i_X1_put e_X1_put ha hS rfl (Nat.le_of_ble_eq_true rfl) rfl dX0_putHanging_46) (tX1_put G fu v2 (-x11) h8) (by decide) (by decide) (fun h12 => ?_)
      refine ev_step (st_goto (pc := 49) (tgt := 0) dX0_putHanging_49 (by decide)) ?_
      refine ev_sub (ls' := [(0, .ref (gB G + v0)), (1, .int v1), (2, .ref (gB G + v2))]) [0, 1, 2] rfl ?_
      exact hk0  h12
set_option maxRecDepth 100000 in
set_option maxHeartbeats 4000000 in
theorem tX0_putHanging (G : gx) (fu : Nat) (v0 : Nat) (v1 : Int32) (v2 : Nat) (h : mh) : Ct lV G yX0_putHanging cX0_putHanging 3 (none) 2 [.ref (gB G + v0), .int v1, .ref (gB G + v2)] h (fX0_putHanging fu v0 v1 v2 h) := by
  refine ct_ls (ls := [(0, .ref (gB G + v0)), (1, .int v1), (2, .ref (gB G + v2))]) rfl (by decide) (Nat.le_of_ble_eq_true rfl) ?_
  unfold fX0_putHanging
  refine ev_sub (ls' := [(0, .ref (gB G + v0)), (1, .int v1), (2, .ref (gB G + v2))]) [0, 1, 2] rfl ?_
  exact tX0_putHanging_0 G fu h v0 v1 v2 fu  h
set_option maxRecDepth 100000 in
set_option maxHeartbeats 4000000 in
theorem tX1_clear (G : gx) (fu : Nat) (v0 : Nat) (h : mh) : Ct lV G yX1_clear cX1_clear 1 (none) 2 [.ref (gB G + v0)] h (fX1_clear fu v0 h) := by
  refine ct_ls (ls := [(0, .ref (gB G + v0))]) rfl (by decide) (Nat.le_of_ble_eq_true rfl) ?_
  unfold fX1_clear
  refine ev_step (st_aload_n (pc := 0) (j := 0) dX1_clear_0 rfl rfl) ?_
  refine ev_step (st_iconst (pc := 1) dX1_clear_1 ni_0) ?_
  refine ev_putI (pc := 2) (p_X1_15 _ rfl) rfl dX1_clear_2 (fun h1 => ?_)
  refine ev_step (st_aload_n (pc := 5) (j := 0) dX1_clear_5 rfl rfl) ?_
  refine ev_getR (pc := 6) k_X1_25 rfl dX1_clear_6 (fun a2 => ?_)
  refine ev_step (st_iconst (pc := 9) dX1_clear_9 ni_0) ?_
  refine ev_callV (iv_S (As := [.ref (gB G + a2), .int ((0 : Int32))]) (st := []) (pc := 10) m_J7_fill_53178 l_X1_38 z_J7_fill_53178 rfl (Nat.le_of_ble_eq_true rfl) rfl dX1_clear_10) (tJ7_fill_53178 G fu a2 ((0 : Int32)) h1) (by decide) (by decide) (fun h3 => ?_)
  exact ev_vret (pc := 13) dX1_clear_13
set_option maxRecDepth 100000 in
set_option maxHeartbeats 4000000 in
theorem tX1_forgetVars (G : gx) (fu : Nat) (v0 : Nat) (h : mh) : Ct lV G yX1_forgetVars cX1_forgetVars 1 (none) 2 [.ref (gB G + v0)] h (fX1_forgetVars fu v0 h) := by
  refine ct_ls (ls := [(0, .ref (gB G + v0))]) rfl (by decide) (Nat.le_of_ble_eq_true rfl) ?_
  unfold fX1_forgetVars
  refine ev_step (st_aload_n (pc := 0) (j := 0) dX1_forgetVars_0 rfl rfl) ?_
  refine ev_getR (pc := 1) k_X1_28 rfl dX1_forgetVars_1 (fun a1 => ?_)
  refine ev_step (st_iconst (pc := 4) dX1_forgetVars_4 ni_0) ?_
  refine ev_callV (iv_S (As := [.ref (gB G + a1), .int ((0 : Int32))]) (st := []) (pc := 5) m_J7_fill_53178 l_X1_38 z_J7_fill_53178 rfl (Nat.le_of_ble_eq_true rfl) rfl dX1_forgetVars_5) (tJ7_fill_53178 G fu a1 ((0 : Int32)) h) (by decide) (by decide) (fun h2 => ?_)
  exact ev_vret (pc := 8) dX1_forgetVars_8
set_option maxRecDepth 100000 in
set_option maxHeartbeats 4000000 in
theorem tX1_valueOf_148 (G : gx) (fu : Nat) (h0 : mh) (v0 : Nat) (v1 : Int32) (v2 : Int32) (v3 : Int32) (v4 : Int32) (v5 : Int32) (v6 : Int32) (k33 : Int32 × Int32 × mh → Option (Int32 × mh)) (hk33 : ∀ (v4 : Int32) (v5 : Int32) (h : mh), Ev lI G yX1_valueOf cX1_valueOf 7 (some .int) 2 h0 33 [(0, .ref (gB G + v0)), (1, .int v1), (2, .int v2), (3, .int v3), (4, .int v4), (5, .int v5)] [] h (k33 (v4, v5, h))) (h : mh) : Ev lI G yX1_valueOf cX1_valueOf 7 (some .int) 2 h0 148 [(0, .ref (gB G + v0)), (1, .int v1), (2, .int v2), (3, .int v3), (4, .int v4), (5, .int v5), (6, .int v6)] [] h (fX1_valueOf_148 fu k33 v0 v1 v2 v3 v4 v5 v6 h) := by
  unfold fX1_valueOf_148
  refine ev_step (st_inc (pc := 148) (j := 5) (ls' := [(5, .int (v5 + (1 : Int32))), (0, .ref (gB G + v0)), (1, .int v1), (2, .int v2), (3, .int v3), (4, .int v4), (6, .int v6)]) dX1_valueOf_148 rfl ni_1 (by decide) rfl) ?_
  refine ev_step (st_goto (pc := 151) (tgt := 33) dX1_valueOf_151 (by decide)) ?_
  refine ev_sub (ls' := [(0, .ref (gB G + v0)), (1, .int v1), (2, .int v2), (3, .int v3), (4, .int v4), (5, .int (v5 + (1 : Int32)))]) [1, 2, 3, 4, 5, 0] rfl ?_
  exact hk33 v4 (v5 + (1 : Int32)) h
set_option maxRecDepth 100000 in
set_option maxHeartbeats 4000000 in
theorem tX1_valueOf_144 (G : gx) (fu : Nat) (h0 : mh) (v0 : Nat) (v1 : Int32) (v2 : Int32) (v3 : Int32) (v4 : Int32) (v5 : Int32) (v6 : Int32) (s0 : Nat) (s1 : Int32) (s2 : Int32) (k33 : Int32 × Int32 × mh → Option (Int32 × mh)) (hk33 : ∀ (v4 : Int32) (v5 : Int32) (h : mh), Ev lI G yX1_valueOf cX1_valueOf 7 (some .int) 2 h0 33 [(0, .ref (gB G + v0)), (1, .int v1), (2, .int v2), (3, .int v3), (4, .int v4), (5, .int v5)] [] h (k33 (v4, v5, h))) (h : mh) : Ev lI G yX1_valueOf cX1_valueOf 7 (some .int) 2 h0 144 [(0, .ref (gB G + v0)), (1, .int v1), (2, .int v2), (3, .int v3), (4, .int v4), (5, .int v5), (6, .int v6)] [.int s2, .int s1, .ref (gB G + s0)] h (fX1_valueOf_144 fu k33 v0 v1 v2 v3 v4 v5 v6 s0 s1 s2 h) := by
  unfold fX1_valueOf_144
  refine ev_sti (pc := 144) dX1_valueOf_144 (fun h1 => ?_)
  refine ev_step (st_inc (pc := 145) (j := 4) (ls' := [(4, .int (v4 + (1 : Int32))), (0, .ref (gB G + v0)), (1, .int v1), (2, .int v2), (3, .int v3), (5, .int v5), (6, .int v6)]) dX1_valueOf_145 rfl ni_1 (by decide) rfl) ?_
  refine ev_sub (ls' := [(0, .ref (gB G + v0)), (1, .int v1), (2, .int v2), (3, .int v3), (4, .int (v4 + (1 : Int32))), (5, .int v5), (6, .int v6)]) [1, 2, 3, 4, 0, 5, 6] rfl ?_
  exact tX1_valueOf_148 G fu h0 v0 v1 v2 v3 (v4 + (1 : Int32)) v5 v6 k33 hk33 h1
set_option maxRecDepth 100000 in
set_option maxHeartbeats 4000000 in
theorem tX1_valueOf_102 (G : gx) (fu : Nat) (h0 : mh) (v0 : Nat) (v1 : Int32) (v2 : Int32) (v3 : Int32) (v4 : Int32) (v5 : Int32) (v6 : Int32) (k33 : Int32 × Int32 × mh → Option (Int32 × mh)) (hk33 : ∀ (v4 : Int32) (v5 : Int32) (h : mh), Ev lI G yX1_valueOf cX1_valueOf 7 (some .int) 2 h0 33 [(0, .ref (gB G + v0)), (1, .int v1), (2, .int v2), (3, .int v3), (4, .int v4), (5, .int v5)] [] h (k33 (v4, v5, h))) (h : mh) : Ev lI G yX1_valueOf cX1_valueOf 7 (some .int) 2 h0 102 [(0, .ref (gB G + v0)), (1, .int v1), (2, .int v2), (3, .int v3), (4, .int v4), (5, .int v5), (6, .int v6)] [] h (fX1_valueOf_102 fu k33 v0 v1 v2 v3 v4 v5 v6 h) := by
  unfold fX1_valueOf_102
  refine ev_step (st_iload (pc := 102) (j := 6) dX1_valueOf_102 rfl) ?_
  refine ev_br (br_if_lt (tgt := 148) (pc := 104) dX1_valueOf_104 (by decide)) (fun _ => ?_) (fun _ => ?_)
  · refine ev_sub (ls' := [(0, .ref (gB G + v0)), (1, .int v1), (2, .int v2), (3, .int v3), (4, .int v4), (5, .int v5), (6, .int v6)]) [0, 1, 2, 3, 4, 5, 6] rfl ?_
    exact tX1_valueOf_148 G fu h0 v0 v1 v2 v3 v4 v5 v6 k33 hk33 h
  · refine ev_step (st_iload (pc := 107) (j := 4) dX1_valueOf_107 rfl) ?_
    refine ev_step (st_bipush (pc := 109) dX1_valueOf_109 nb_24) ?_
    refine ev_br (br_icmp_ge (tgt := 148) (pc := 111) dX1_valueOf_111 (by decide)) (fun _ => ?_) (fun _ => ?_)
    · refine ev_sub (ls' := [(0, .ref (gB G + v0)), (1, .int v1), (2, .int v2), (3, .int v3), (4, .int v4), (5, .int v5), (6, .int v6)]) [0, 1, 2, 3, 4, 5, 6] rfl ?_
      exact tX1_valueOf_148 G fu h0 v0 v1 v2 v3 v4 v5 v6 k33 hk33 h
    · refine ev_step (st_aload_n (pc := 114) (j := 0) dX1_valueOf_114 rfl rfl) ?_
      refine ev_getR (pc := 115) k_X1_31 rfl dX1_valueOf_115 (fun a1 => ?_)
      refine ev_step (st_iload (pc := 118) (j := 4) dX1_valueOf_118 rfl) ?_
      refine ev_step (st_iload (pc := 120) (j := 6) dX1_valueOf_120 rfl) ?_
      refine ev_step (st_sipush (pc := 122) dX1_valueOf_122 ns_10000) ?_
      refine ev_br (br_icmp_ge (tgt := 133) (pc := 125) dX1_valueOf_125 (by decide)) (fun _ => ?_) (fun _ => ?_)
      · refine ev_step (st_aload_n (pc := 133) (j := 0) dX1_valueOf_133 rfl rfl) ?_
        refine ev_getR (pc := 134) k_X1_28 rfl dX1_valueOf_134 (fun a2 => ?_)
        refine ev_step (st_iload (pc := 137) (j := 6) dX1_valueOf_137 rfl) ?_
        refine ev_step (st_sipush (pc := 139) dX1_valueOf_139 ns_10000) ?_
        refine ev_step (st_isub (pc := 142) dX1_valueOf_142) ?_
        refine ev_ldi (pc := 143) dX1_valueOf_143 (fun x3 => ?_)
        refine ev_sub (ls' := [(0, .ref (gB G + v0)), (1, .int v1), (2, .int v2), (3, .int v3), (4, .int v4), (5, .int v5), (6, .int v6)]) [0, 1, 2, 3, 4, 5, 6] rfl ?_
        exact tX1_valueOf_144 G fu h0 v0 v1 v2 v3 v4 v5 v6 a1 v4 x3 k33 hk33 h
      · refine ev_step (st_iload (pc := 128) (j := 6) dX1_valueOf_128 rfl) ?_
        refine ev_step (st_goto (pc := 130) (tgt := 144) dX1_valueOf_130 (by decide)) ?_
        refine ev_sub (ls' := [(0, .ref (gB G + v0)), (1, .int v1), (2, .int v2), (3, .int v3), (4, .int v4), (5, .int v5), (6, .int v6)]) [0, 1, 2, 3, 4, 5, 6] rfl ?_
        exact tX1_valueOf_144 G fu h0 v0 v1 v2 v3 v4 v5 v6 a1 v4 v6 k33 hk33 h
set_option maxRecDepth 100000 in
set_option maxHeartbeats 4000000 in
theorem tX1_valueOf_154 (G : gx) (fu : Nat) (h0 : mh) (v0 : Nat) (v1 : Int32) (v2 : Int32) (v3 : Int32) (v4 : Int32) (v5 : Int32) (h : mh) : Ev lI G yX1_valueOf cX1_valueOf 7 (some .int) 2 h0 154 [(0, .ref (gB G + v0)), (1, .int v1), (2, .int v2), (3, .int v3), (4, .int v4), (5, .int v5)] [] h (fX1_valueOf_154 fu v0 v1 v2 v3 v4 v5 h) := by
  unfold fX1_valueOf_154
  refine ev_step (st_aload_n (pc := 154) (j := 0) dX1_valueOf_154 rfl rfl) ?_
  refine ev_getR (pc := 155) k_X1_31 rfl dX1_valueOf_155 (fun a1 => ?_)
  refine ev_step (st_iconst (pc := 158) dX1_valueOf_158 ni_0) ?_
  refine ev_ldi (pc := 159) dX1_valueOf_159 (fun x2 => ?_)
  exact ev_iret (pc := 160) dX1_valueOf_160
set_option maxRecDepth 100000 in
set_option maxHeartbeats 4000000 in
theorem tX1_valueOf_33 (G : gx) (fu : Nat) (h0 : mh) (v0 : Nat) (v1 : Int32) (v2 : Int32) (v3 : Int32) (n : Nat) (v4 : Int32) (v5 : Int32) (h : mh) : Ev lI G yX1_valueOf cX1_valueOf 7 (some .int) 2 h0 33 [(0, .ref (gB G + v0)), (1, .int v1), (2, .int v2), (3, .int v3), (4, .int v4), (5, .int v5)] [] h (itr (bX1_valueOf_33 fu v0 v1 v2 v3) n (v4, v5, h)) := by
  refine ev_itr (P := fun (q : Int32 × Int32 × mh) (R9 : Option (Int32 × mh)) => Ev lI G yX1_valueOf cX1_valueOf 7 (some .int) 2 h0 33 [(0, .ref (gB G + v0)), (1, .int v1), (2, .int v2), (3, .int v3), (4, .int q.1), (5, .int q.2.1)] [] q.2.2 R9) (fun _ => ev_none) (fun k33 hk9 q => ?_) n (v4, v5, h)
  obtain ⟨v4, v5, h⟩ := q
  have hk33 : ∀ (v4 : Int32) (v5 : Int32) (h : mh), Ev lI G yX1_valueOf cX1_valueOf 7 (some .int) 2 h0 33 [(0, .ref (gB G + v0)), (1, .int v1), (2, .int v2), (3, .int v3), (4, .int v4), (5, .int v5)] [] h (k33 (v4, v5, h)) := fun v4 v5 h => hk9 (v4, v5, h)
  show Ev lI G yX1_valueOf cX1_valueOf 7 (some .int) 2 h0 33 [(0, .ref (gB G + v0)), (1, .int v1), (2, .int v2), (3, .int v3), (4, .int v4), (5, .int v5)] [] h (bX1_valueOf_33 fu v0 v1 v2 v3 k33 (v4, v5, h))
  unfold bX1_valueOf_33
  refine ev_step (st_iload (pc := 33) (j := 5) dX1_valueOf_33 rfl) ?_
  refine ev_step (st_aload_n (pc := 35) (j := 0) dX1_valueOf_35 rfl rfl) ?_
  refine ev_getR (pc := 36) k_X1_22 rfl dX1_valueOf_36 (fun a1 => ?_)
  refine ev_step (st_iload_n (pc := 39) (j := 3) dX1_valueOf_39 rfl rfl) ?_
  refine ev_ldi (pc := 40) dX1_valueOf_40 (fun x2 => ?_)
  refine ev_br (br_icmp_ge (tgt := 154) (pc := 41) dX1_valueOf_41 (by decide)) (fun _ => ?_) (fun _ => ?_)
  · refine ev_sub (ls' := [(0, .ref (gB G + v0)), (1, .int v1), (2, .int v2), (3, .int v3), (4, .int v4), (5, .int v5)]) [0, 1, 2, 3, 4, 5] rfl ?_
    exact tX1_valueOf_154 G fu h0 v0 v1 v2 v3 v4 v5 h
  · refine ev_step (st_aload_n (pc := 44) (j := 0) dX1_valueOf_44 rfl rfl) ?_
    refine ev_getR (pc := 45) k_X1_11 rfl dX1_valueOf_45 (fun a3 => ?_)
    refine ev_step (st_iload (pc := 48) (j := 5) dX1_valueOf_48 rfl) ?_
    refine ev_ldi (pc := 50) dX1_valueOf_50 (fun x4 => ?_)
    refine ev_step (st_istore (pc := 51) (ls' := [(6, .int x4), (0, .ref (gB G + v0)), (1, .int v1), (2, .int v2), (3, .int v3), (4, .int v4), (5, .int v5)]) dX1_valueOf_51 (by decide) rfl) ?_
    refine ev_step (st_iload (pc := 53) (j := 0) dX1_valueOf_53 rfl) ?_
    refine ev_br (br_if_ge (tgt := 102) (pc := 55) dX1_valueOf_55 (by decide)) (fun _ => ?_) (fun _ => ?_)
    · refine ev_sub (ls' := [(0, .ref (gB G + v0)), (1, .int v1), (2, .int v2), (3, .int v3), (4, .int v4), (5, .int v5), (6, .int x4)]) [1, 2, 3, 4, 5, 6, 0] rfl ?_
      exact tX1_valueOf_102 G fu h0 v0 v1 v2 v3 v4 v5 x4 k33 hk33 h
    · refine ev_step (st_iload (pc := 58) (j := 5) dX1_valueOf_58 rfl) ?_
      refine ev_step (st_iconst (pc := 60) dX1_valueOf_60 ni_2) ?_
      refine ev_br (br_icmp_lt (tgt := 102) (pc := 61) dX1_valueOf_61 (by decide)) (fun _ => ?_) (fun _ => ?_)
      · refine ev_sub (ls' := [(0, .ref (gB G + v0)), (1, .int v1), (2, .int v2), (3, .int v3), (4, .int v4), (5, .int v5), (6, .int x4)]) [1, 2, 3, 4, 5, 6, 0] rfl ?_
        exact tX1_valueOf_102 G fu h0 v0 v1 v2 v3 v4 v5 x4 k33 hk33 h
      · refine ev_step (st_inc (pc := 64) (j := 5) (ls' := [(4, .int (v4 + (-1 : Int32))), (6, .int x4), (0, .ref (gB G + v0)), (1, .int v1), (2, .int v2), (3, .int v3), (5, .int v5)]) dX1_valueOf_64 rfl ni_m1 (by decide) rfl) ?_
        refine ev_step (st_aload_n (pc := 67) (j := 2) dX1_valueOf_67 rfl rfl) ?_
        refine ev_getR (pc := 68) k_X1_31 rfl dX1_valueOf_68 (fun a5 => ?_)
        refine ev_step (st_iload (pc := 71) (j := 0) dX1_valueOf_71 rfl) ?_
        refine ev_step (st_iconst (pc := 73) dX1_valueOf_73 ni_1) ?_
        refine ev_step (st_isub (pc := 74) dX1_valueOf_74) ?_
        refine ev_step (st_aload_n (pc := 75) (j := 2) dX1_valueOf_75 rfl rfl) ?_
        refine ev_step (st_iload (pc := 76) (j := 1) dX1_valueOf_76 rfl) ?_
        refine ev_step (st_ineg (pc := 78) dX1_valueOf_78) ?_
        refine ev_step (st_aload_n (pc := 79) (j := 2) dX1_valueOf_79 rfl rfl) ?_
        refine ev_getR (pc := 80) k_X1_31 rfl dX1_valueOf_80 (fun a6 => ?_)
        refine ev_step (st_iload (pc := 83) (j := 0) dX1_valueOf_83 rfl) ?_
        refine ev_step (st_iconst (pc := 85) dX1_valueOf_85 ni_1) ?_
        refine ev_step (st_isub (pc := 86) dX1_valueOf_86) ?_
        refine ev_ldi (pc := 87) dX1_valueOf_87 (fun x7 => ?_)
        refine ev_step (st_aload_n (pc := 88) (j := 2) dX1_valueOf_88 rfl rfl) ?_
        refine ev_getR (pc := 89) k_X1_31 rfl dX1_valueOf_89 (fun a8 => ?_)
        refine ev_step (st_iload (pc := 92) (j := 0) dX1_valueOf_92 rfl) ?_
        refine ev_ldi (pc := 94) dX1_valueOf_94 (fun x9 => ?_)
        refine ev_ck (fun ha hS => ?_)
        refine ev_callI (iv_V (As := [.int (-x4), .int x7, .int x9]) (st := [.int ((v4 + (-1 : Int32)) - ((1 : Int32))), .ref (gB G + a5)]) (pc := 95) rfl m_X1_joined l_X1_52 i_X1_joined e_X1_joined ha hS rfl (Nat.le_of_ble_eq_true rfl) rfl dX1_valueOf_95) (tX1_joined G fu v0 (-x4) x7 x9 h) (by decide) (by decide) (fun x11 h10 => ?_)
        refine ev_sti (pc := 98) dX1_valueOf_98 (fun h12 => ?_)
        refine ev_step (st_goto (pc := 99) (tgt := 148) dX1_valueOf_99 (by decide)) ?_
        refine ev_sub (ls' := [(0, .ref (gB G + v0)), (1, .int v1), (2, .int v2), (3, .int v3), (4, .int (v4 + (-1 : Int32))), (5, .int v5), (6, .int x4)]) [2, 3, 4, 5, 0, 6, 1] rfl ?_
        exact tX1_valueOf_148 G fu h0 v0 v1 v2 v3 (v4 + (-1 : Int32)) v5 x4 k33 hk33 h12
set_option maxRecDepth 100000 in
set_option maxHeartbeats 4000000 in
theorem tX1_valueOf_31 (G : gx) (fu : Nat) (h0 : mh) (v0 : Nat) (v1 : Int32) (v2 : Int32) (v3 : Int32) (v4 : Int32) (s0 : Int32) (h : mh) : Ev lI G yX1_valueOf cX1_valueOf 7 (some .int) 2 h0 31 [(0, .ref (gB G + v0)), (1, .int v1), (2, .int v2), (3, .int v3), (4, .int v4)] [.int s0] h (fX1_valueOf_31 fu v0 v1 v2 v3 v4 s0 h) := by
  unfold fX1_valueOf_31
  refine ev_step (st_istore (pc := 31) (ls' := [(5, .int s0), (0, .ref (gB G + v0)), (1, .int v1), (2, .int v2), (3, .int v3), (4, .int v4)]) dX1_valueOf_31 (by decide) rfl) ?_
  refine ev_sub (ls' := [(0, .ref (gB G + v0)), (1, .int v1), (2, .int v2), (3, .int v3), (4, .int v4), (5, .int s0)]) [1, 2, 3, 4, 5, 0] rfl ?_
  exact tX1_valueOf_33 G fu h0 v0 v1 v2 v3 fu v4 s0 h
set_option maxRecDepth 100000 in
set_option maxHeartbeats 4000000 in
theorem tX1_valueOf (G : gx) (fu : Nat) (v0 : Nat) (v1 : Int32) (v2 : Int32) (h : mh) : Ct lI G yX1_valueOf cX1_valueOf 7 (some .int) 2 [.ref (gB G + v0), .int v1, .int v2] h (fX1_valueOf fu v0 v1 v2 h) := by
  refine ct_ls (ls := [(0, .ref (gB G + v0)), (1, .int v1), (2, .int v2)]) rfl (by decide) (Nat.le_of_ble_eq_true rfl) ?_
  unfold fX1_valueOf
  refine ev_step (st_iload_n (pc := 0) (j := 1) dX1_valueOf_0 rfl rfl) ?_
  refine ev_step (st_bipush (pc := 1) dX1_valueOf_1 nb_13) ?_
  refine ev_step (st_imul (pc := 3) dX1_valueOf_3) ?_
  refine ev_step (st_iload_n (pc := 4) (j := 2) dX1_valueOf_4 rfl rfl) ?_
  refine ev_step (st_iadd (pc := 5) dX1_valueOf_5) ?_
  refine ev_top (fun x1 => ?_)
  refine ev_step (st_istore_n (pc := 6) (ls' := [(3, .int x1), (0, .ref (gB G + v0)), (1, .int v1), (2, .int v2)]) dX1_valueOf_6 rfl (by decide) rfl) ?_
  refine ev_step (st_iconst (pc := 7) dX1_valueOf_7 ni_0) ?_
  refine ev_step (st_istore (pc := 8) (ls' := [(4, .int ((0 : Int32))), (3, .int x1), (0, .ref (gB G + v0)), (1, .int v1), (2, .int v2)]) dX1_valueOf_8 (by decide) rfl) ?_
  refine ev_step (st_iload_n (pc := 10) (j := 4) dX1_valueOf_10 rfl rfl) ?_
  refine ev_br (br_if_ne (tgt := 23) (pc := 11) dX1_valueOf_11 (by decide)) (fun _ => ?_) (fun _ => ?_)
  · refine ev_step (st_aload_n (pc := 14) (j := 2) dX1_valueOf_14 rfl rfl) ?_
    refine ev_getR (pc := 15) k_X1_19 rfl dX1_valueOf_15 (fun a2 => ?_)
    refine ev_step (st_iload_n (pc := 18) (j := 3) dX1_valueOf_18 rfl rfl) ?_
    refine ev_ldi (pc := 19) dX1_valueOf_19 (fun x3 => ?_)
    refine ev_step (st_goto (pc := 20) (tgt := 31) dX1_valueOf_20 (by decide)) ?_
    refine ev_sub (ls' := [(0, .ref (gB G + v0)), (1, .int v1), (2, .int v2), (3, .int x1), (4, .int ((0 : Int32)))]) [2, 3, 4, 1, 0] rfl ?_
    exact tX1_valueOf_31 G fu h v0 v1 v2 x1 ((0 : Int32)) x3 h
  · refine ev_step (st_aload_n (pc := 23) (j := 2) dX1_valueOf_23 rfl rfl) ?_
    refine ev_getR (pc := 24) k_X1_22 rfl dX1_valueOf_24 (fun a4 => ?_)
    refine ev_step (st_iload_n (pc := 27) (j := 1) dX1_valueOf_27 rfl rfl) ?_
    refine ev_step (st_iconst (pc := 28) dX1_valueOf_28 ni_1) ?_
    refine ev_step (st_isub (pc := 29) dX1_valueOf_29) ?_
    refine ev_ldi (pc := 30) dX1_valueOf_30 (fun x5 => ?_)
    refine ev_sub (ls' := [(0, .ref (gB G + v0)), (1, .int v1), (2, .int v2), (3, .int x1), (4, .int ((0 : Int32)))]) [2, 3, 4, 1, 0] rfl ?_
    exact tX1_valueOf_31 G fu h v0 v1 v2 x1 ((0 : Int32)) x5 h
set_option maxRecDepth 100000 in
set_option maxHeartbeats 4000000 in
theorem tX2_init_65 (G : gx) (fu : Nat) (h0 : mh) (v0 : Nat) (n : Nat) (v1 : Int32) (h : mh) : Ev lV G yX2_init cX2_init 2 (none) 2 h0 65 [(0, .ref (gB G + v0)), (1, .int v1)] [] h (itr (bX2_init_65 fu v0) n (v1, h)) := by
  refine ev_itr (P := fun (q : Int32 × mh) (R9 : Option (Unit × mh)) => Ev lV G yX2_init cX2_init 2 (none) 2 h0 65 [(0, .ref (gB G + v0)), (1, .int q.1)] [] q.2 R9) (fun _ => ev_none) (fun k65 hk9 q => ?_) n (v1, h)
  obtain ⟨v1, h⟩ := q
  have hk65 : ∀ (v1 : Int32) (h : mh), Ev lV G yX2_init cX2_init 2 (none) 2 h0 65 [(0, .ref (gB G + v0)), (1, .int v1)] [] h (k65 (v1, h)) := fun v1 h => hk9 (v1, h)
  show Ev lV G yX2_init cX2_init 2 (none) 2 h0 65 [(0, .ref (gB G + v0)), (1, .int v1)] [] h (bX2_init_65 fu v0 k65 (v1, h))
  unfold bX2_init_65
  refine ev_step (st_iload_n (pc := 65) (j := 1) dX2_init_65 rfl rfl) ?_
  refine ev_step (st_iconst (pc := 66) dX2_init_66 ni_3) ?_
  refine ev_br (br_icmp_ge (tgt := 89) (pc := 67) dX2_init_67 (by decide)) (fun _ => ?_) (fun _ => ?_)
  · exact ev_vret (pc := 89) dX2_init_89
  · refine ev_step (st_aload_n (pc := 70) (j := 0) dX2_init_70 rfl rfl) ?_
    refine ev_getR (pc := 71) k_X2_24 rfl dX2_init_71 (fun a1 => ?_)
    refine ev_step (st_iload_n (pc := 74) (j := 1) dX2_init_74 rfl rfl) ?_
    refine ev_new (pc := 75) n_X2_9 dX2_init_75 (fun a2 h3 => ?_)
    refine ev_step (st_dup (pc := 78) dX2_init_78 rfl) ?_
    refine ev_callV (iv_I (As := []) (st := [.ref (gB G + a2), .int v1, .ref (gB G + a1)]) (pc := 79) m_X3_init l_X2_30 i_X3_init rfl rfl (Nat.le_of_ble_eq_true rfl) rfl dX2_init_79) (tX3_init G fu a2 h3) (by decide) (by decide) (fun h4 => ?_)
    refine ev_stq (pc := 82) dX2_init_82 (fun h5 => ?_)
    refine ev_step (st_inc (pc := 83) (j := 1) (ls' := [(1, .int (v1 + (1 : Int32))), (0, .ref (gB G + v0))]) dX2_init_83 rfl ni_1 (by decide) rfl) ?_
    refine ev_step (st_goto (pc := 86) (tgt := 65) dX2_init_86 (by decide)) ?_
    refine ev_sub (ls' := [(0, .ref (gB G + v0)), (1, .int (v1 + (1 : Int32)))]) [1, 0] rfl ?_
    exact hk65 (v1 + (1 : Int32)) h5
set_option maxRecDepth 100000 in
set_option maxHeartbeats 4000000 in
theorem tX2_init_63 (G : gx) (fu : Nat) (h0 : mh) (v0 : Nat) (v1 : Int32) (h : mh) : Ev lV G yX2_init cX2_init 2 (none) 2 h0 63 [(0, .ref (gB G + v0)), (1, .int v1)] [] h (fX2_init_63 fu v0 v1 h) := by
  unfold fX2_init_63
  refine ev_step (st_iconst (pc := 63) dX2_init_63 ni_0) ?_
  refine ev_step (st_istore_n (pc := 64) (ls' := [(1, .int ((0 : Int32))), (0, .ref (gB G + v0))]) dX2_init_64 rfl (by decide) rfl) ?_
  refine ev_sub (ls' := [(0, .ref (gB G + v0)), (1, .int ((0 : Int32)))]) [1, 0] rfl ?_
  exact tX2_init_65 G fu h0 v0 fu ((0 : Int32)) h
set_option maxRecDepth 100000 in
set_option maxHeartbeats 4000000 in
theorem tX2_init_38 (G : gx) (fu : Nat) (h0 : mh) (v0 : Nat) (n : Nat) (v1 : Int32) (h : mh) : Ev lV G yX2_init cX2_init 2 (none) 2 h0 38 [(0, .ref (gB G + v0)), (1, .int v1)] [] h (itr (bX2_init_38 fu v0) n (v1, h)) := by
  refine ev_itr (P := fun (q : Int32 × mh) (R9 : Option (Unit × mh)) => Ev lV G yX2_init cX2_init 2 (none) 2 h0 38 [(0, .ref (gB G + v0)), (1, .int q.1)] [] q.2 R9) (fun _ => ev_none) (fun k38 hk9 q => ?_) n (v1, h)
  obtain ⟨v1, h⟩ := q
  have hk38 : ∀ (v1 : Int32) (h : mh), Ev lV G yX2_init cX2_init 2 (none) 2 h0 38 [(0, .ref (gB G + v0)), (1, .int v1)] [] h (k38 (v1, h)) := fun v1 h => hk9 (v1, h)
  show Ev lV G yX2_init cX2_init 2 (none) 2 h0 38 [(0, .ref (gB G + v0)), (1, .int v1)] [] h (bX2_init_38 fu v0 k38 (v1, h))
  unfold bX2_init_38
  refine ev_step (st_iload_n (pc := 38) (j := 1) dX2_init_38 rfl rfl) ?_
  refine ev_step (st_bipush (pc := 39) dX2_init_39 nb_40) ?_
  refine ev_br (br_icmp_ge (tgt := 63) (pc := 41) dX2_init_41 (by decide)) (fun _ => ?_) (fun _ => ?_)
  · refine ev_sub (ls' := [(0, .ref (gB G + v0)), (1, .int v1)]) [0, 1] rfl ?_
    exact tX2_init_63 G fu h0 v0 v1 h
  · refine ev_step (st_aload_n (pc := 44) (j := 0) dX2_init_44 rfl rfl) ?_
    refine ev_getR (pc := 45) k_X2_11 rfl dX2_init_45 (fun a1 => ?_)
    refine ev_step (st_iload_n (pc := 48) (j := 1) dX2_init_48 rfl rfl) ?_
    refine ev_new (pc := 49) n_X2_9 dX2_init_49 (fun a2 h3 => ?_)
    refine ev_step (st_dup (pc := 52) dX2_init_52 rfl) ?_
    refine ev_callV (iv_I (As := []) (st := [.ref (gB G + a2), .int v1, .ref (gB G + a1)]) (pc := 53) m_X3_init l_X2_30 i_X3_init rfl rfl (Nat.le_of_ble_eq_true rfl) rfl dX2_init_53) (tX3_init G fu a2 h3) (by decide) (by decide) (fun h4 => ?_)
    refine ev_stq (pc := 56) dX2_init_56 (fun h5 => ?_)
    refine ev_step (st_inc (pc := 57) (j := 1) (ls' := [(1, .int (v1 + (1 : Int32))), (0, .ref (gB G + v0))]) dX2_init_57 rfl ni_1 (by decide) rfl) ?_
    refine ev_step (st_goto (pc := 60) (tgt := 38) dX2_init_60 (by decide)) ?_
    refine ev_sub (ls' := [(0, .ref (gB G + v0)), (1, .int (v1 + (1 : Int32)))]) [1, 0] rfl ?_
    exact hk38 (v1 + (1 : Int32)) h5
set_option maxRecDepth 100000 in
set_option maxHeartbeats 4000000 in
theorem tX2_init (G : gx) (fu : Nat) (v0 : Nat) (h : mh) : Ct lV G yX2_init cX2_init 2 (none) 2 [.ref (gB G + v0)] h (fX2_init fu v0 h) := by
  refine ct_ls (ls := [(0, .ref (gB G + v0))]) rfl (by decide) (Nat.le_of_ble_eq_true rfl) ?_
  unfold fX2_init
  refine ev_step (st_aload_n (pc := 0) (j := 0) dX2_init_0 rfl rfl) ?_
  refine ev_step (st_objinit (pc := 1) o_X2_3 (by decide) (Nat.le_of_ble_eq_true rfl) dX2_init_1) ?_
  refine ev_step (st_aload_n (pc := 4) (j := 0) dX2_init_4 rfl rfl) ?_
  refine ev_step (st_bipush (pc := 5) dX2_init_5 nb_40) ?_
  refine ev_newq (pc := 7) q_X2_9 dX2_init_7 (fun a1 h2 => ?_)
  refine ev_putR (pc := 10) (p_X2_11 _ rfl rfl) (Or.inr ⟨_, rfl⟩) dX2_init_10 (fun h3 => ?_)
  refine ev_step (st_aload_n (pc := 13) (j := 0) dX2_init_13 rfl rfl) ?_
  refine ev_step (st_iconst (pc := 14) dX2_init_14 ni_0) ?_
  refine ev_putI (pc := 15) (p_X2_17 _ rfl) rfl dX2_init_15 (fun h4 => ?_)
  refine ev_step (st_aload_n (pc := 18) (j := 0) dX2_init_18 rfl rfl) ?_
  refine ev_step (st_iconst (pc := 19) dX2_init_19 ni_0) ?_
  refine ev_putI (pc := 20) (p_X2_21 _ rfl) rfl dX2_init_20 (fun h5 => ?_)
  refine ev_step (st_aload_n (pc := 23) (j := 0) dX2_init_23 rfl rfl) ?_
  refine ev_step (st_iconst (pc := 24) dX2_init_24 ni_3) ?_
  refine ev_newq (pc := 25) q_X2_9 dX2_init_25 (fun a6 h7 => ?_)
  refine ev_putR (pc := 28) (p_X2_24 _ rfl rfl) (Or.inr ⟨_, rfl⟩) dX2_init_28 (fun h8 => ?_)
  refine ev_step (st_aload_n (pc := 31) (j := 0) dX2_init_31 rfl rfl) ?_
  refine ev_step (st_iconst (pc := 32) dX2_init_32 ni_0) ?_
  refine ev_putI (pc := 33) (p_X2_27 _ rfl) rfl dX2_init_33 (fun h9 => ?_)
  refine ev_step (st_iconst (pc := 36) dX2_init_36 ni_0) ?_
  refine ev_step (st_istore_n (pc := 37) (ls' := [(1, .int ((0 : Int32))), (0, .ref (gB G + v0))]) dX2_init_37 rfl (by decide) rfl) ?_
  refine ev_sub (ls' := [(0, .ref (gB G + v0)), (1, .int ((0 : Int32)))]) [1, 0] rfl ?_
  exact tX2_init_38 G fu h v0 fu ((0 : Int32)) h9
set_option maxRecDepth 100000 in
set_option maxHeartbeats 4000000 in
theorem tX2_remember (G : gx) (fu : Nat) (v0 : Nat) (v1 : Nat) (h : mh) : Ct lV G yX2_remember cX2_remember 2 (none) 2 [.ref (gB G + v0), .ref (gB G + v1)] h (fX2_remember fu v0 v1 h) := by
  refine ct_ls (ls := [(0, .ref (gB G + v0)), (1, .ref (gB G + v1))]) rfl (by decide) (Nat.le_of_ble_eq_true rfl) ?_
  unfold fX2_remember
  refine ev_step (st_aload_n (pc := 0) (j := 0) dX2_remember_0 rfl rfl) ?_
  refine ev_getR (pc := 1) k_X2_11 rfl dX2_remember_1 (fun a1 => ?_)
  refine ev_step (st_aload_n (pc := 4) (j := 0) dX2_remember_4 rfl rfl) ?_
  refine ev_getI (pc := 5) k_X2_17 rfl dX2_remember_5 (fun x2 => ?_)
  refine ev_ldq (pc := 8) dX2_remember_8 (fun a3 => ?_)
  refine ev_step (st_aload_n (pc := 9) (j := 1) dX2_remember_9 rfl rfl) ?_
  refine ev_ck (fun ha hS => ?_)
  refine ev_callV (iv_V (As := [.ref (gB G + v1)]) (st := []) (pc := 10) rfl m_X3_become l_X2_31 i_X3_become e_X3_become ha hS rfl (Nat.le_of_ble_eq_true rfl) rfl dX2_remember_10) (tX3_become G fu a3 v1 h) (by decide) (by decide) (fun h4 => ?_)
  refine ev_step (st_aload_n (pc := 13) (j := 0) dX2_remember_13 rfl rfl) ?_
  refine ev_step (st_aload_n (pc := 14) (j := 0) dX2_remember_14 rfl rfl) ?_
  refine ev_getI (pc := 15) k_X2_17 rfl dX2_remember_15 (fun x5 => ?_)
  refine ev_step (st_iconst (pc := 18) dX2_remember_18 ni_1) ?_
  refine ev_step (st_iadd (pc := 19) dX2_remember_19) ?_
  refine ev_step (st_bipush (pc := 20) dX2_remember_20 nb_40) ?_
  refine ev_rem (pc := 22) dX2_remember_22 (fun x6 => ?_)
  refine ev_putI (pc := 23) (p_X2_17 _ rfl) rfl dX2_remember_23 (fun h7 => ?_)
  refine ev_step (st_aload_n (pc := 26) (j := 0) dX2_remember_26 rfl rfl) ?_
  refine ev_step (st_bipush (pc := 27) dX2_remember_27 nb_40) ?_
  refine ev_step (st_aload_n (pc := 29) (j := 0) dX2_remember_29 rfl rfl) ?_
  refine ev_getI (pc := 30) k_X2_21 rfl dX2_remember_30 (fun x8 => ?_)
  refine ev_step (st_iconst (pc := 33) dX2_remember_33 ni_1) ?_
  refine ev_step (st_iadd (pc := 34) dX2_remember_34) ?_
  refine ev_mmin (pc := 35) mm_X2_35 (by decide) (Nat.le_of_ble_eq_true rfl) dX2_remember_35 ?_
  refine ev_putI (pc := 38) (p_X2_21 _ rfl) rfl dX2_remember_38 (fun h9 => ?_)
  exact ev_vret (pc := 41) dX2_remember_41
set_option maxRecDepth 100000 in
set_option maxHeartbeats 4000000 in
theorem tX2_takeBack (G : gx) (fu : Nat) (v0 : Nat) (v1 : Nat) (h : mh) : Ct lI G yX2_takeBack cX2_takeBack 2 (some .boolean) 2 [.ref (gB G + v0), .ref (gB G + v1)] h (fX2_takeBack fu v0 v1 h) := by
  refine ct_ls (ls := [(0, .ref (gB G + v0)), (1, .ref (gB G + v1))]) rfl (by decide) (Nat.le_of_ble_eq_true rfl) ?_
  unfold fX2_takeBack
  refine ev_step (st_aload_n (pc := 0) (j := 0) dX2_takeBack_0 rfl rfl) ?_
  refine ev_getI (pc := 1) k_X2_21 rfl dX2_takeBack_1 (fun x1 => ?_)
  refine ev_br (br_if_ne (tgt := 9) (pc := 4) dX2_takeBack_4 (by decide)) (fun _ => ?_) (fun _ => ?_)
  · refine ev_step (st_iconst (pc := 7) dX2_takeBack_7 ni_0) ?_
    exact ev_zret (pc := 8) dX2_takeBack_8
  · refine ev_step (st_aload_n (pc := 9) (j := 0) dX2_takeBack_9 rfl rfl) ?_
    refine ev_step (st_aload_n (pc := 10) (j := 0) dX2_takeBack_10 rfl rfl) ?_
    refine ev_getI (pc := 11) k_X2_17 rfl dX2_takeBack_11 (fun x2 => ?_)
    refine ev_step (st_bipush (pc := 14) dX2_takeBack_14 nb_40) ?_
    refine ev_step (st_iadd (pc := 16) dX2_takeBack_16) ?_
    refine ev_step (st_iconst (pc := 17) dX2_takeBack_17 ni_1) ?_
    refine ev_step (st_isub (pc := 18) dX2_takeBack_18) ?_
    refine ev_step (st_bipush (pc := 19) dX2_takeBack_19 nb_40) ?_
    refine ev_rem (pc := 21) dX2_takeBack_21 (fun x3 => ?_)
    refine ev_putI (pc := 22) (p_X2_17 _ rfl) rfl dX2_takeBack_22 (fun h4 => ?_)
    refine ev_step (st_aload_n (pc := 25) (j := 0) dX2_takeBack_25 rfl rfl) ?_
    refine ev_step (st_dup (pc := 26) dX2_takeBack_26 rfl) ?_
    refine ev_getI (pc := 27) k_X2_21 rfl dX2_takeBack_27 (fun x5 => ?_)
    refine ev_step (st_iconst (pc := 30) dX2_takeBack_30 ni_1) ?_
    refine ev_step (st_isub (pc := 31) dX2_takeBack_31) ?_
    refine ev_putI (pc := 32) (p_X2_21 _ rfl) rfl dX2_takeBack_32 (fun h6 => ?_)
    refine ev_step (st_aload_n (pc := 35) (j := 1) dX2_takeBack_35 rfl rfl) ?_
    refine ev_step (st_aload_n (pc := 36) (j := 0) dX2_takeBack_36 rfl rfl) ?_
    refine ev_getR (pc := 37) k_X2_11 rfl dX2_takeBack_37 (fun a7 => ?_)
    refine ev_step (st_aload_n (pc := 40) (j := 0) dX2_takeBack_40 rfl rfl) ?_
    refine ev_getI (pc := 41) k_X2_17 rfl dX2_takeBack_41 (fun x8 => ?_)
    refine ev_ldq (pc := 44) dX2_takeBack_44 (fun a9 => ?_)
    refine ev_ck (fun ha hS => ?_)
    refine ev_callV (iv_V (As := [.ref (gB G + a9)]) (st := []) (pc := 45) rfl m_X3_become l_X2_31 i_X3_become e_X3_become ha hS rfl (Nat.le_of_ble_eq_true rfl) rfl dX2_takeBack_45) (tX3_become G fu v1 a9 h6) (by decide) (by decide) (fun h10 => ?_)
    refine ev_step (st_iconst (pc := 48) dX2_takeBack_48 ni_1) ?_
    exact ev_zret (pc := 49) dX2_takeBack_49
set_option maxRecDepth 100000 in
set_option maxHeartbeats 4000000 in
theorem tX2_keep (G : gx) (fu : Nat) (v0 : Nat) (v1 : Int32) (v2 : Nat) (h : mh) : Ct lI G yX2_keep cX2_keep 3 (some .boolean) 2 [.ref (gB G + v0), .int v1, .ref (gB G + v2)] h (fX2_keep fu v0 v1 v2 h) := by
  refine ct_ls (ls := [(0, .ref (gB G + v0)), (1, .int v1), (2, .ref (gB G + v2))]) rfl (by decide) (Nat.le_of_ble_eq_true rfl) ?_
  unfold fX2_keep
  refine ev_step (st_iload_n (pc := 0) (j := 1) dX2_keep_0 rfl rfl) ?_
  refine ev_br (br_if_lt (tgt := 9) (pc := 1) dX2_keep_1 (by decide)) (fun _ => ?_) (fun _ => ?_)
  · refine ev_step (st_iconst (pc := 9) dX2_keep_9 ni_0) ?_
    exact ev_zret (pc := 10) dX2_keep_10
  · refine ev_step (st_iload_n (pc := 4) (j := 1) dX2_keep_4 rfl rfl) ?_
    refine ev_step (st_iconst (pc := 5) dX2_keep_5 ni_3) ?_
    refine ev_br (br_icmp_lt (tgt := 11) (pc := 6) dX2_keep_6 (by decide)) (fun _ => ?_) (fun _ => ?_)
    · refine ev_step (st_aload_n (pc := 11) (j := 0) dX2_keep_11 rfl rfl) ?_
      refine ev_getR (pc := 12) k_X2_24 rfl dX2_keep_12 (fun a1 => ?_)
      refine ev_step (st_iload_n (pc := 15) (j := 1) dX2_keep_15 rfl rfl) ?_
      refine ev_ldq (pc := 16) dX2_keep_16 (fun a2 => ?_)
      refine ev_step (st_aload_n (pc := 17) (j := 2) dX2_keep_17 rfl rfl) ?_
      refine ev_ck (fun ha hS => ?_)
      refine ev_callV (iv_V (As := [.ref (gB G + v2)]) (st := []) (pc := 18) rfl m_X3_become l_X2_31 i_X3_become e_X3_become ha hS rfl (Nat.le_of_ble_eq_true rfl) rfl dX2_keep_18) (tX3_become G fu a2 v2 h) (by decide) (by decide) (fun h3 => ?_)
      refine ev_step (st_aload_n (pc := 21) (j := 0) dX2_keep_21 rfl rfl) ?_
      refine ev_step (st_dup (pc := 22) dX2_keep_22 rfl) ?_
      refine ev_getI (pc := 23) k_X2_27 rfl dX2_keep_23 (fun x4 => ?_)
      refine ev_step (st_iconst (pc := 26) dX2_keep_26 ni_1) ?_
      refine ev_step (st_iload_n (pc := 27) (j := 1) dX2_keep_27 rfl rfl) ?_
      refine ev_step (st_ishl (pc := 28) dX2_keep_28) ?_
      refine ev_step (st_ior (pc := 29) dX2_keep_29) ?_
      refine ev_putI (pc := 30) (p_X2_27 _ rfl) rfl dX2_keep_30 (fun h5 => ?_)
      refine ev_step (st_iconst (pc := 33) dX2_keep_33 ni_1) ?_
      exact ev_zret (pc := 34) dX2_keep_34
    · refine ev_step (st_iconst (pc := 9) dX2_keep_9 ni_0) ?_
      exact ev_zret (pc := 10) dX2_keep_10
set_option maxRecDepth 100000 in
set_option maxHeartbeats 4000000 in
theorem tX2_giveBack (G : gx) (fu : Nat) (v0 : Nat) (v1 : Int32) (v2 : Nat) (h : mh) : Ct lI G yX2_giveBack cX2_giveBack 3 (some .boolean) 2 [.ref (gB G + v0), .int v1, .ref (gB G + v2)] h (fX2_giveBack fu v0 v1 v2 h) := by
  refine ct_ls (ls := [(0, .ref (gB G + v0)), (1, .int v1), (2, .ref (gB G + v2))]) rfl (by decide) (Nat.le_of_ble_eq_true rfl) ?_
  unfold fX2_giveBack
  refine ev_step (st_iload_n (pc := 0) (j := 1) dX2_giveBack_0 rfl rfl) ?_
  refine ev_br (br_if_lt (tgt := 20) (pc := 1) dX2_giveBack_1 (by decide)) (fun _ => ?_) (fun _ => ?_)
  · refine ev_step (st_iconst (pc := 20) dX2_giveBack_20 ni_0) ?_
    exact ev_zret (pc := 21) dX2_giveBack_21
  · refine ev_step (st_iload_n (pc := 4) (j := 1) dX2_giveBack_4 rfl rfl) ?_
    refine ev_step (st_iconst (pc := 5) dX2_giveBack_5 ni_3) ?_
    refine ev_br (br_icmp_ge (tgt := 20) (pc := 6) dX2_giveBack_6 (by decide)) (fun _ => ?_) (fun _ => ?_)
    · refine ev_step (st_iconst (pc := 20) dX2_giveBack_20 ni_0) ?_
      exact ev_zret (pc := 21) dX2_giveBack_21
    · refine ev_step (st_aload_n (pc := 9) (j := 0) dX2_giveBack_9 rfl rfl) ?_
      refine ev_getI (pc := 10) k_X2_27 rfl dX2_giveBack_10 (fun x1 => ?_)
      refine ev_step (st_iload_n (pc := 13) (j := 1) dX2_giveBack_13 rfl rfl) ?_
      refine ev_callI (iv_S (As := [.int x1, .int v1]) (st := []) (pc := 14) m_X9_holds l_X2_41 z_X9_holds rfl (Nat.le_of_ble_eq_true rfl) rfl dX2_giveBack_14) (tX9_holds G fu x1 v1 h) (by decide) (by decide) (fun x3 h2 => ?_)
      refine ev_br (br_if_ne (tgt := 22) (pc := 17) dX2_giveBack_17 (by decide)) (fun _ => ?_) (fun _ => ?_)
      · refine ev_step (st_iconst (pc := 20) dX2_giveBack_20 ni_0) ?_
        exact ev_zret (pc := 21) dX2_giveBack_21
      · refine ev_step (st_aload_n (pc := 22) (j := 2) dX2_giveBack_22 rfl rfl) ?_
        refine ev_step (st_aload_n (pc := 23) (j := 0) dX2_giveBack_23 rfl rfl) ?_
        refine ev_getR (pc := 24) k_X2_24 rfl dX2_giveBack_24 (fun a4 => ?_)
        refine ev_step (st_iload_n (pc := 27) (j := 1) dX2_giveBack_27 rfl rfl) ?_
        refine ev_ldq (pc := 28) dX2_giveBack_28 (fun a5 => ?_)
        refine ev_ck (fun ha hS => ?_)
        refine ev_callV (iv_V (As := [.ref (gB G + a5)]) (st := []) (pc := 29) rfl m_X3_become l_X2_31 i_X3_become e_X3_become ha hS rfl (Nat.le_of_ble_eq_true rfl) rfl dX2_giveBack_29) (tX3_become G fu v2 a5 h2) (by decide) (by decide) (fun h6 => ?_)
        refine ev_step (st_aload_n (pc := 32) (j := 0) dX2_giveBack_32 rfl rfl) ?_
        refine ev_step (st_iconst (pc := 33) dX2_giveBack_33 ni_0) ?_
        refine ev_putI (pc := 34) (p_X2_21 _ rfl) rfl dX2_giveBack_34 (fun h7 => ?_)
        refine ev_step (st_iconst (pc := 37) dX2_giveBack_37 ni_1) ?_
        exact ev_zret (pc := 38) dX2_giveBack_38
set_option maxRecDepth 100000 in
set_option maxHeartbeats 4000000 in
theorem tX3_isOn (G : gx) (fu : Nat) (v0 : Nat) (v1 : Int32) (h : mh) : Ct lI G yX3_isOn cX3_isOn 2 (some .boolean) 2 [.ref (gB G + v0), .int v1] h (fX3_isOn fu v0 v1 h) := by
  refine ct_ls (ls := [(0, .ref (gB G + v0)), (1, .int v1)]) rfl (by decide) (Nat.le_of_ble_eq_true rfl) ?_
  unfold fX3_isOn
  refine ev_step (st_aload_n (pc := 0) (j := 0) dX3_isOn_0 rfl rfl) ?_
  refine ev_getI (pc := 1) k_X3_24 rfl dX3_isOn_1 (fun x1 => ?_)
  refine ev_step (st_iload_n (pc := 4) (j := 1) dX3_isOn_4 rfl rfl) ?_
  refine ev_callI (iv_S (As := [.int x1, .int v1]) (st := []) (pc := 5) m_X9_holds l_X3_43 z_X9_holds rfl (Nat.le_of_ble_eq_true rfl) rfl dX3_isOn_5) (tX9_holds G fu x1 v1 h) (by decide) (by decide) (fun x3 h2 => ?_)
  exact ev_zret (pc := 8) dX3_isOn_8
set_option maxRecDepth 100000 in
set_option maxHeartbeats 4000000 in
theorem tX3_factsKnown_4 (G : gx) (fu : Nat) (h0 : mh) (v0 : Nat) (n : Nat) (v1 : Int32) (v2 : Int32) (h : mh) : Ev lI G yX3_factsKnown cX3_factsKnown 3 (some .int) 2 h0 4 [(0, .ref (gB G + v0)), (1, .int v1), (2, .int v2)] [] h (itr (bX3_factsKnown_4 fu v0) n (v1, v2, h)) := by
  refine ev_itr (P := fun (q : Int32 × Int32 × mh) (R9 : Option (Int32 × mh)) => Ev lI G yX3_factsKnown cX3_factsKnown 3 (some .int) 2 h0 4 [(0, .ref (gB G + v0)), (1, .int q.1), (2, .int q.2.1)] [] q.2.2 R9) (fun _ => ev_none) (fun k4 hk9 q => ?_) n (v1, v2, h)
  obtain ⟨v1, v2, h⟩ := q
  have hk4 : ∀ (v1 : Int32) (v2 : Int32) (h : mh), Ev lI G yX3_factsKnown cX3_factsKnown 3 (some .int) 2 h0 4 [(0, .ref (gB G + v0)), (1, .int v1), (2, .int v2)] [] h (k4 (v1, v2, h)) := fun v1 v2 h => hk9 (v1, v2, h)
  show Ev lI G yX3_factsKnown cX3_factsKnown 3 (some .int) 2 h0 4 [(0, .ref (gB G + v0)), (1, .int v1), (2, .int v2)] [] h (bX3_factsKnown_4 fu v0 k4 (v1, v2, h))
  unfold bX3_factsKnown_4
  refine ev_step (st_iload_n (pc := 4) (j := 2) dX3_factsKnown_4 rfl rfl) ?_
  refine ev_step (st_bipush (pc := 5) dX3_factsKnown_5 nb_6) ?_
  refine ev_br (br_icmp_ge (tgt := 28) (pc := 7) dX3_factsKnown_7 (by decide)) (fun _ => ?_) (fun _ => ?_)
  · refine ev_step (st_iload_n (pc := 28) (j := 1) dX3_factsKnown_28 rfl rfl) ?_
    exact ev_iret (pc := 29) dX3_factsKnown_29
  · refine ev_step (st_iload_n (pc := 10) (j := 1) dX3_factsKnown_10 rfl rfl) ?_
    refine ev_step (st_aload_n (pc := 11) (j := 0) dX3_factsKnown_11 rfl rfl) ?_
    refine ev_getR (pc := 12) k_X3_9 rfl dX3_factsKnown_12 (fun a1 => ?_)
    refine ev_step (st_iload_n (pc := 15) (j := 2) dX3_factsKnown_15 rfl rfl) ?_
    refine ev_ldi (pc := 16) dX3_factsKnown_16 (fun x2 => ?_)
    refine ev_callI (iv_S (As := [.int x2]) (st := [.int v1]) (pc := 17) m_J6_bitCount_0f7a4 l_X3_47 z_J6_bitCount_0f7a4 rfl (Nat.le_of_ble_eq_true rfl) rfl dX3_factsKnown_17) (tJ6_bitCount_0f7a4 G fu x2 h) (by decide) (by decide) (fun x4 h3 => ?_)
    refine ev_step (st_iadd (pc := 20) dX3_factsKnown_20) ?_
    refine ev_top (fun x5 => ?_)
    refine ev_step (st_istore_n (pc := 21) (ls' := [(1, .int x5), (0, .ref (gB G + v0)), (2, .int v2)]) dX3_factsKnown_21 rfl (by decide) rfl) ?_
    refine ev_step (st_inc (pc := 22) (j := 2) (ls' := [(2, .int (v2 + (1 : Int32))), (1, .int x5), (0, .ref (gB G + v0))]) dX3_factsKnown_22 rfl ni_1 (by decide) rfl) ?_
    refine ev_step (st_goto (pc := 25) (tgt := 4) dX3_factsKnown_25 (by decide)) ?_
    refine ev_sub (ls' := [(0, .ref (gB G + v0)), (1, .int x5), (2, .int (v2 + (1 : Int32)))]) [2, 1, 0] rfl ?_
    exact hk4 x5 (v2 + (1 : Int32)) h3
set_option maxRecDepth 100000 in
set_option maxHeartbeats 4000000 in
theorem tX3_factsKnown (G : gx) (fu : Nat) (v0 : Nat) (h : mh) : Ct lI G yX3_factsKnown cX3_factsKnown 3 (some .int) 2 [.ref (gB G + v0)] h (fX3_factsKnown fu v0 h) := by
  refine ct_ls (ls := [(0, .ref (gB G + v0))]) rfl (by decide) (Nat.le_of_ble_eq_true rfl) ?_
  unfold fX3_factsKnown
  refine ev_step (st_iconst (pc := 0) dX3_factsKnown_0 ni_0) ?_
  refine ev_step (st_istore_n (pc := 1) (ls' := [(1, .int ((0 : Int32))), (0, .ref (gB G + v0))]) dX3_factsKnown_1 rfl (by decide) rfl) ?_
  refine ev_step (st_iconst (pc := 2) dX3_factsKnown_2 ni_0) ?_
  refine ev_step (st_istore_n (pc := 3) (ls' := [(2, .int ((0 : Int32))), (1, .int ((0 : Int32))), (0, .ref (gB G + v0))]) dX3_factsKnown_3 rfl (by decide) rfl) ?_
  refine ev_sub (ls' := [(0, .ref (gB G + v0)), (1, .int ((0 : Int32))), (2, .int ((0 : Int32)))]) [2, 1, 0] rfl ?_
  exact tX3_factsKnown_4 G fu h v0 fu ((0 : Int32)) ((0 : Int32)) h
