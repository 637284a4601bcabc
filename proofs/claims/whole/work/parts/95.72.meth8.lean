theorem dX5_takeReally_0 : decode cX5_takeReally 0 = .ok (.aload_n 0, 1) := by decide +kernel
theorem dX5_takeReally_1 : decode cX5_takeReally 1 = .ok (.getfield 29, 3) := by decide +kernel
theorem dX5_takeReally_4 : decode cX5_takeReally 4 = .ok (.ifCond .ne 32, 3) := by decide +kernel
theorem dX5_takeReally_7 : decode cX5_takeReally 7 = .ok (.aload_n 0, 1) := by decide +kernel
theorem dX5_takeReally_8 : decode cX5_takeReally 8 = .ok (.aload_n 1, 1) := by decide +kernel
theorem dX5_takeReally_9 : decode cX5_takeReally 9 = .ok (.aload_n 0, 1) := by decide +kernel
theorem dX5_takeReally_10 : decode cX5_takeReally 10 = .ok (.getfield 12, 3) := by decide +kernel
theorem dX5_takeReally_13 : decode cX5_takeReally 13 = .ok (.getfield 140, 3) := by decide +kernel
theorem dX5_takeReally_16 : decode cX5_takeReally 16 = .ok (.invokevirtual 148, 3) := by decide +kernel
theorem dX5_takeReally_19 : decode cX5_takeReally 19 = .ok (.putfield 32, 3) := by decide +kernel
theorem dX5_takeReally_22 : decode cX5_takeReally 22 = .ok (.aload_n 0, 1) := by decide +kernel
theorem dX5_takeReally_23 : decode cX5_takeReally 23 = .ok (.getfield 32, 3) := by decide +kernel
theorem dX5_takeReally_26 : decode cX5_takeReally 26 = .ok (.iconst (-1), 1) := by decide +kernel
theorem dX5_takeReally_27 : decode cX5_takeReally 27 = .ok (.if_icmp .ne 8, 3) := by decide +kernel
theorem dX5_takeReally_30 : decode cX5_takeReally 30 = .ok (.aload_n 0, 1) := by decide +kernel
theorem dX5_takeReally_31 : decode cX5_takeReally 31 = .ok (.iconst 4, 1) := by decide +kernel
theorem dX5_takeReally_32 : decode cX5_takeReally 32 = .ok (.invokevirtual 151, 3) := by decide +kernel
theorem dX5_takeReally_35 : decode cX5_takeReally 35 = .ok (.return_, 1) := by decide +kernel
theorem dX5_takeReally_36 : decode cX5_takeReally 36 = .ok (.aload_n 1, 1) := by decide +kernel
theorem dX5_takeReally_37 : decode cX5_takeReally 37 = .ok (.aload_n 0, 1) := by decide +kernel
theorem dX5_takeReally_38 : decode cX5_takeReally 38 = .ok (.getfield 12, 3) := by decide +kernel
theorem dX5_takeReally_41 : decode cX5_takeReally 41 = .ok (.getfield 140, 3) := by decide +kernel
theorem dX5_takeReally_44 : decode cX5_takeReally 44 = .ok (.invokevirtual 144, 3) := by decide +kernel
theorem dX5_takeReally_47 : decode cX5_takeReally 47 = .ok (.istore_n 2, 1) := by decide +kernel
theorem dX5_takeReally_48 : decode cX5_takeReally 48 = .ok (.iload_n 2, 1) := by decide +kernel
theorem dX5_takeReally_49 : decode cX5_takeReally 49 = .ok (.iconst (-1), 1) := by decide +kernel
theorem dX5_takeReally_50 : decode cX5_takeReally 50 = .ok (.if_icmp .ne 11, 3) := by decide +kernel
theorem dX5_takeReally_53 : decode cX5_takeReally 53 = .ok (.aload_n 0, 1) := by decide +kernel
theorem dX5_takeReally_54 : decode cX5_takeReally 54 = .ok (.iconst 4, 1) := by decide +kernel
theorem dX5_takeReally_55 : decode cX5_takeReally 55 = .ok (.invokevirtual 151, 3) := by decide +kernel
theorem dX5_takeReally_58 : decode cX5_takeReally 58 = .ok (.goto 28, 3) := by decide +kernel
theorem dX5_takeReally_61 : decode cX5_takeReally 61 = .ok (.aload_n 0, 1) := by decide +kernel
theorem dX5_takeReally_62 : decode cX5_takeReally 62 = .ok (.getfield 32, 3) := by decide +kernel
theorem dX5_takeReally_65 : decode cX5_takeReally 65 = .ok (.iconst (-1), 1) := by decide +kernel
theorem dX5_takeReally_66 : decode cX5_takeReally 66 = .ok (.if_icmp .eq 20, 3) := by decide +kernel
theorem dX5_takeReally_69 : decode cX5_takeReally 69 = .ok (.aload_n 1, 1) := by decide +kernel
theorem dX5_takeReally_70 : decode cX5_takeReally 70 = .ok (.aload_n 0, 1) := by decide +kernel
theorem dX5_takeReally_71 : decode cX5_takeReally 71 = .ok (.getfield 32, 3) := by decide +kernel
theorem dX5_takeReally_74 : decode cX5_takeReally 74 = .ok (.iload_n 2, 1) := by decide +kernel
theorem dX5_takeReally_75 : decode cX5_takeReally 75 = .ok (.invokevirtual 161, 3) := by decide +kernel
theorem dX5_takeReally_78 : decode cX5_takeReally 78 = .ok (.ifCond .eq 8, 3) := by decide +kernel
theorem dX5_takeReally_81 : decode cX5_takeReally 81 = .ok (.aload_n 0, 1) := by decide +kernel
theorem dX5_takeReally_82 : decode cX5_takeReally 82 = .ok (.iconst 3, 1) := by decide +kernel
theorem dX5_takeReally_83 : decode cX5_takeReally 83 = .ok (.invokevirtual 151, 3) := by decide +kernel
theorem dX5_takeReally_86 : decode cX5_takeReally 86 = .ok (.aload_n 1, 1) := by decide +kernel
theorem dX5_takeReally_87 : decode cX5_takeReally 87 = .ok (.aload_n 0, 1) := by decide +kernel
theorem dX5_takeReally_88 : decode cX5_takeReally 88 = .ok (.getfield 32, 3) := by decide +kernel
theorem dX5_takeReally_91 : decode cX5_takeReally 91 = .ok (.iload_n 2, 1) := by decide +kernel
theorem dX5_takeReally_92 : decode cX5_takeReally 92 = .ok (.invokevirtual 165, 3) := by decide +kernel
theorem dX5_takeReally_95 : decode cX5_takeReally 95 = .ok (.return_, 1) := by decide +kernel
theorem dX6_saidBy_0 : decode cX6_saidBy 0 = .ok (.aload_n 0, 1) := by decide +kernel
theorem dX6_saidBy_1 : decode cX6_saidBy 1 = .ok (.getfield 50, 3) := by decide +kernel
theorem dX6_saidBy_4 : decode cX6_saidBy 4 = .ok (.invokevirtual 132, 3) := by decide +kernel
theorem dX6_saidBy_7 : decode cX6_saidBy 7 = .ok (.aload_n 0, 1) := by decide +kernel
theorem dX6_saidBy_8 : decode cX6_saidBy 8 = .ok (.getfield 50, 3) := by decide +kernel
theorem dX6_saidBy_11 : decode cX6_saidBy 11 = .ok (.getfield 135, 3) := by decide +kernel
theorem dX6_saidBy_14 : decode cX6_saidBy 14 = .ok (.iconst 0, 1) := by decide +kernel
theorem dX6_saidBy_15 : decode cX6_saidBy 15 = .ok (.aload_n 0, 1) := by decide +kernel
theorem dX6_saidBy_16 : decode cX6_saidBy 16 = .ok (.getfield 23, 3) := by decide +kernel
theorem dX6_saidBy_19 : decode cX6_saidBy 19 = .ok (.iload_n 2, 1) := by decide +kernel
theorem dX6_saidBy_20 : decode cX6_saidBy 20 = .ok (.iaload, 1) := by decide +kernel
theorem dX6_saidBy_21 : decode cX6_saidBy 21 = .ok (.iastore, 1) := by decide +kernel
theorem dX6_saidBy_22 : decode cX6_saidBy 22 = .ok (.aload_n 0, 1) := by decide +kernel
theorem dX6_saidBy_23 : decode cX6_saidBy 23 = .ok (.getfield 50, 3) := by decide +kernel
theorem dX6_saidBy_26 : decode cX6_saidBy 26 = .ok (.getfield 135, 3) := by decide +kernel
theorem dX6_saidBy_29 : decode cX6_saidBy 29 = .ok (.iconst 1, 1) := by decide +kernel
theorem dX6_saidBy_30 : decode cX6_saidBy 30 = .ok (.aload_n 1, 1) := by decide +kernel
theorem dX6_saidBy_31 : decode cX6_saidBy 31 = .ok (.getfield 93, 3) := by decide +kernel
theorem dX6_saidBy_34 : decode cX6_saidBy 34 = .ok (.iload_n 2, 1) := by decide +kernel
theorem dX6_saidBy_35 : decode cX6_saidBy 35 = .ok (.iaload, 1) := by decide +kernel
theorem dX6_saidBy_36 : decode cX6_saidBy 36 = .ok (.iastore, 1) := by decide +kernel
theorem dX6_saidBy_37 : decode cX6_saidBy 37 = .ok (.aload_n 0, 1) := by decide +kernel
theorem dX6_saidBy_38 : decode cX6_saidBy 38 = .ok (.getfield 50, 3) := by decide +kernel
theorem dX6_saidBy_41 : decode cX6_saidBy 41 = .ok (.getfield 135, 3) := by decide +kernel
theorem dX6_saidBy_44 : decode cX6_saidBy 44 = .ok (.iconst 3, 1) := by decide +kernel
theorem dX6_saidBy_45 : decode cX6_saidBy 45 = .ok (.aload_n 1, 1) := by decide +kernel
theorem dX6_saidBy_46 : decode cX6_saidBy 46 = .ok (.getfield 101, 3) := by decide +kernel
theorem dX6_saidBy_49 : decode cX6_saidBy 49 = .ok (.iastore, 1) := by decide +kernel
theorem dX6_saidBy_50 : decode cX6_saidBy 50 = .ok (.aload_n 0, 1) := by decide +kernel
theorem dX6_saidBy_51 : decode cX6_saidBy 51 = .ok (.getfield 50, 3) := by decide +kernel
theorem dX6_saidBy_54 : decode cX6_saidBy 54 = .ok (.getfield 135, 3) := by decide +kernel
theorem dX6_saidBy_57 : decode cX6_saidBy 57 = .ok (.bipush 7, 2) := by decide +kernel
theorem dX6_saidBy_59 : decode cX6_saidBy 59 = .ok (.iload_n 2, 1) := by decide +kernel
theorem dX6_saidBy_60 : decode cX6_saidBy 60 = .ok (.iastore, 1) := by decide +kernel
theorem dX6_saidBy_61 : decode cX6_saidBy 61 = .ok (.iconst 0, 1) := by decide +kernel
theorem dX6_saidBy_62 : decode cX6_saidBy 62 = .ok (.istore_n 3, 1) := by decide +kernel
theorem dX6_saidBy_63 : decode cX6_saidBy 63 = .ok (.iconst 0, 1) := by decide +kernel
theorem dX6_saidBy_64 : decode cX6_saidBy 64 = .ok (.istore 4, 2) := by decide +kernel
theorem dX6_saidBy_66 : decode cX6_saidBy 66 = .ok (.iload 4, 2) := by decide +kernel
theorem dX6_saidBy_68 : decode cX6_saidBy 68 = .ok (.bipush 8, 2) := by decide +kernel
theorem dX6_saidBy_70 : decode cX6_saidBy 70 = .ok (.if_icmp .ge 52, 3) := by decide +kernel
theorem dX6_saidBy_73 : decode cX6_saidBy 73 = .ok (.aload_n 0, 1) := by decide +kernel
theorem dX6_saidBy_74 : decode cX6_saidBy 74 = .ok (.getfield 50, 3) := by decide +kernel
theorem dX6_saidBy_77 : decode cX6_saidBy 77 = .ok (.getfield 135, 3) := by decide +kernel
theorem dX6_saidBy_80 : decode cX6_saidBy 80 = .ok (.iconst 2, 1) := by decide +kernel
theorem dX6_saidBy_81 : decode cX6_saidBy 81 = .ok (.iload 4, 2) := by decide +kernel
theorem dX6_saidBy_83 : decode cX6_saidBy 83 = .ok (.iastore, 1) := by decide +kernel
theorem dX6_saidBy_84 : decode cX6_saidBy 84 = .ok (.aload_n 0, 1) := by decide +kernel
theorem dX6_saidBy_85 : decode cX6_saidBy 85 = .ok (.getfield 19, 3) := by decide +kernel
theorem dX6_saidBy_88 : decode cX6_saidBy 88 = .ok (.iload_n 2, 1) := by decide +kernel
theorem dX6_saidBy_89 : decode cX6_saidBy 89 = .ok (.iaload, 1) := by decide +kernel
theorem dX6_saidBy_90 : decode cX6_saidBy 90 = .ok (.iload 4, 2) := by decide +kernel
theorem dX6_saidBy_92 : decode cX6_saidBy 92 = .ok (.invokestatic 110, 3) := by decide +kernel
theorem dX6_saidBy_95 : decode cX6_saidBy 95 = .ok (.ifCond .eq 21, 3) := by decide +kernel
theorem dX6_saidBy_98 : decode cX6_saidBy 98 = .ok (.aload_n 0, 1) := by decide +kernel
theorem dX6_saidBy_99 : decode cX6_saidBy 99 = .ok (.getfield 50, 3) := by decide +kernel
theorem dX6_saidBy_102 : decode cX6_saidBy 102 = .ok (.iconst 0, 1) := by decide +kernel
theorem dX6_saidBy_103 : decode cX6_saidBy 103 = .ok (.invokevirtual 138, 3) := by decide +kernel
theorem dX6_saidBy_106 : decode cX6_saidBy 106 = .ok (.ifCond .le 10, 3) := by decide +kernel
theorem dX6_saidBy_109 : decode cX6_saidBy 109 = .ok (.iload_n 3, 1) := by decide +kernel
theorem dX6_saidBy_110 : decode cX6_saidBy 110 = .ok (.iconst 1, 1) := by decide +kernel
theorem dX6_saidBy_111 : decode cX6_saidBy 111 = .ok (.iload 4, 2) := by decide +kernel
theorem dX6_saidBy_113 : decode cX6_saidBy 113 = .ok (.ishl, 1) := by decide +kernel
theorem dX6_saidBy_114 : decode cX6_saidBy 114 = .ok (.ior, 1) := by decide +kernel
theorem dX6_saidBy_115 : decode cX6_saidBy 115 = .ok (.istore_n 3, 1) := by decide +kernel
theorem dX6_saidBy_116 : decode cX6_saidBy 116 = .ok (.iinc 4 1, 3) := by decide +kernel
theorem dX6_saidBy_119 : decode cX6_saidBy 119 = .ok (.goto (-53), 3) := by decide +kernel
theorem dX6_saidBy_122 : decode cX6_saidBy 122 = .ok (.iload_n 3, 1) := by decide +kernel
theorem dX6_saidBy_123 : decode cX6_saidBy 123 = .ok (.ireturn, 1) := by decide +kernel
theorem dX6_crackles_0 : decode cX6_crackles 0 = .ok (.bipush 100, 2) := by decide +kernel
theorem dX6_crackles_2 : decode cX6_crackles 2 = .ok (.iload_n 1, 1) := by decide +kernel
theorem dX6_crackles_3 : decode cX6_crackles 3 = .ok (.iconst 4, 1) := by decide +kernel
theorem dX6_crackles_4 : decode cX6_crackles 4 = .ok (.iload_n 2, 1) := by decide +kernel
theorem dX6_crackles_5 : decode cX6_crackles 5 = .ok (.imul, 1) := by decide +kernel
theorem dX6_crackles_6 : decode cX6_crackles 6 = .ok (.invokestatic 147, 3) := by decide +kernel
theorem dX6_crackles_9 : decode cX6_crackles 9 = .ok (.aload_n 0, 1) := by decide +kernel
theorem dX6_crackles_10 : decode cX6_crackles 10 = .ok (.getfield 54, 3) := by decide +kernel
theorem dX6_crackles_13 : decode cX6_crackles 13 = .ok (.if_icmp .ge 7, 3) := by decide +kernel
theorem dX6_crackles_16 : decode cX6_crackles 16 = .ok (.iconst 1, 1) := by decide +kernel
theorem dX6_crackles_17 : decode cX6_crackles 17 = .ok (.goto 4, 3) := by decide +kernel
theorem dX6_crackles_20 : decode cX6_crackles 20 = .ok (.iconst 0, 1) := by decide +kernel
theorem dX6_crackles_21 : decode cX6_crackles 21 = .ok (.ireturn, 1) := by decide +kernel
theorem dX6_isRungHearing_0 : decode cX6_isRungHearing 0 = .ok (.iconst 0, 1) := by decide +kernel
theorem dX6_isRungHearing_1 : decode cX6_isRungHearing 1 = .ok (.istore 4, 2) := by decide +kernel
theorem dX6_isRungHearing_3 : decode cX6_isRungHearing 3 = .ok (.iconst 0, 1) := by decide +kernel
theorem dX6_isRungHearing_4 : decode cX6_isRungHearing 4 = .ok (.istore 5, 2) := by decide +kernel
theorem dX6_isRungHearing_6 : decode cX6_isRungHearing 6 = .ok (.iload 5, 2) := by decide +kernel
theorem dX6_isRungHearing_8 : decode cX6_isRungHearing 8 = .ok (.aload_n 0, 1) := by decide +kernel
theorem dX6_isRungHearing_9 : decode cX6_isRungHearing 9 = .ok (.getfield 26, 3) := by decide +kernel
theorem dX6_isRungHearing_12 : decode cX6_isRungHearing 12 = .ok (.if_icmp .ge 141, 3) := by decide +kernel
theorem dX6_isRungHearing_15 : decode cX6_isRungHearing 15 = .ok (.aload_n 1, 1) := by decide +kernel
theorem dX6_isRungHearing_16 : decode cX6_isRungHearing 16 = .ok (.iload 5, 2) := by decide +kernel
theorem dX6_isRungHearing_18 : decode cX6_isRungHearing 18 = .ok (.invokevirtual 121, 3) := by decide +kernel
theorem dX6_isRungHearing_21 : decode cX6_isRungHearing 21 = .ok (.ifCond .eq 126, 3) := by decide +kernel
theorem dX6_isRungHearing_24 : decode cX6_isRungHearing 24 = .ok (.aload_n 0, 1) := by decide +kernel
theorem dX6_isRungHearing_25 : decode cX6_isRungHearing 25 = .ok (.aload_n 1, 1) := by decide +kernel
theorem dX6_isRungHearing_26 : decode cX6_isRungHearing 26 = .ok (.iload 5, 2) := by decide +kernel
theorem dX6_isRungHearing_28 : decode cX6_isRungHearing 28 = .ok (.iload_n 2, 1) := by decide +kernel
theorem dX6_isRungHearing_29 : decode cX6_isRungHearing 29 = .ok (.iload_n 3, 1) := by decide +kernel
theorem dX6_isRungHearing_30 : decode cX6_isRungHearing 30 = .ok (.invokevirtual 175, 3) := by decide +kernel
theorem dX6_isRungHearing_33 : decode cX6_isRungHearing 33 = .ok (.iload 4, 2) := by decide +kernel
theorem dX6_isRungHearing_35 : decode cX6_isRungHearing 35 = .ok (.ifCond .ne 24, 3) := by decide +kernel
theorem dX6_isRungHearing_38 : decode cX6_isRungHearing 38 = .ok (.aload_n 0, 1) := by decide +kernel
theorem dX6_isRungHearing_39 : decode cX6_isRungHearing 39 = .ok (.iload 5, 2) := by decide +kernel
theorem dX6_isRungHearing_41 : decode cX6_isRungHearing 41 = .ok (.iload_n 2, 1) := by decide +kernel
theorem dX6_isRungHearing_42 : decode cX6_isRungHearing 42 = .ok (.invokevirtual 114, 3) := by decide +kernel
theorem dX6_isRungHearing_45 : decode cX6_isRungHearing 45 = .ok (.ifCond .eq 18, 3) := by decide +kernel
theorem dX6_isRungHearing_48 : decode cX6_isRungHearing 48 = .ok (.aload_n 0, 1) := by decide +kernel
theorem dX6_isRungHearing_49 : decode cX6_isRungHearing 49 = .ok (.getfield 50, 3) := by decide +kernel
theorem dX6_isRungHearing_52 : decode cX6_isRungHearing 52 = .ok (.iconst 3, 1) := by decide +kernel
theorem dX6_isRungHearing_53 : decode cX6_isRungHearing 53 = .ok (.invokevirtual 138, 3) := by decide +kernel
theorem dX6_isRungHearing_56 : decode cX6_isRungHearing 56 = .ok (.ifCond .le 7, 3) := by decide +kernel
theorem dX6_isRungHearing_59 : decode cX6_isRungHearing 59 = .ok (.iconst 1, 1) := by decide +kernel
theorem dX6_isRungHearing_60 : decode cX6_isRungHearing 60 = .ok (.goto 4, 3) := by decide +kernel
theorem dX6_isRungHearing_63 : decode cX6_isRungHearing 63 = .ok (.iconst 0, 1) := by decide +kernel
theorem dX6_isRungHearing_64 : decode cX6_isRungHearing 64 = .ok (.istore 4, 2) := by decide +kernel
theorem dX6_isRungHearing_66 : decode cX6_isRungHearing 66 = .ok (.aload_n 1, 1) := by decide +kernel
theorem dX6_isRungHearing_67 : decode cX6_isRungHearing 67 = .ok (.getfield 90, 3) := by decide +kernel
theorem dX6_isRungHearing_70 : decode cX6_isRungHearing 70 = .ok (.iload 5, 2) := by decide +kernel
theorem dX6_isRungHearing_72 : decode cX6_isRungHearing 72 = .ok (.aload_n 1, 1) := by decide +kernel
theorem dX6_isRungHearing_73 : decode cX6_isRungHearing 73 = .ok (.getfield 90, 3) := by decide +kernel
theorem dX6_isRungHearing_76 : decode cX6_isRungHearing 76 = .ok (.iload 5, 2) := by decide +kernel
theorem dX6_isRungHearing_78 : decode cX6_isRungHearing 78 = .ok (.iaload, 1) := by decide +kernel
theorem dX6_isRungHearing_79 : decode cX6_isRungHearing 79 = .ok (.aload_n 0, 1) := by decide +kernel
theorem dX6_isRungHearing_80 : decode cX6_isRungHearing 80 = .ok (.getfield 50, 3) := by decide +kernel
theorem dX6_isRungHearing_83 : decode cX6_isRungHearing 83 = .ok (.iconst 2, 1) := by decide +kernel
theorem dX6_isRungHearing_84 : decode cX6_isRungHearing 84 = .ok (.invokevirtual 138, 3) := by decide +kernel
theorem dX6_isRungHearing_87 : decode cX6_isRungHearing 87 = .ok (.iadd, 1) := by decide +kernel
theorem dX6_isRungHearing_88 : decode cX6_isRungHearing 88 = .ok (.iconst 0, 1) := by decide +kernel
theorem dX6_isRungHearing_89 : decode cX6_isRungHearing 89 = .ok (.bipush 99, 2) := by decide +kernel
theorem dX6_isRungHearing_91 : decode cX6_isRungHearing 91 = .ok (.invokestatic 179, 3) := by decide +kernel
theorem dX6_isRungHearing_94 : decode cX6_isRungHearing 94 = .ok (.iastore, 1) := by decide +kernel
theorem dX6_isRungHearing_95 : decode cX6_isRungHearing 95 = .ok (.iload_n 3, 1) := by decide +kernel
theorem dX6_isRungHearing_96 : decode cX6_isRungHearing 96 = .ok (.aload_n 1, 1) := by decide +kernel
theorem dX6_isRungHearing_97 : decode cX6_isRungHearing 97 = .ok (.getfield 79, 3) := by decide +kernel
theorem dX6_isRungHearing_100 : decode cX6_isRungHearing 100 = .ok (.iload 5, 2) := by decide +kernel
theorem dX6_isRungHearing_102 : decode cX6_isRungHearing 102 = .ok (.iaload, 1) := by decide +kernel
theorem dX6_isRungHearing_103 : decode cX6_isRungHearing 103 = .ok (.iconst (-1), 1) := by decide +kernel
theorem dX6_isRungHearing_104 : decode cX6_isRungHearing 104 = .ok (.ixor, 1) := by decide +kernel
theorem dX6_isRungHearing_105 : decode cX6_isRungHearing 105 = .ok (.iand, 1) := by decide +kernel
theorem dX6_isRungHearing_106 : decode cX6_isRungHearing 106 = .ok (.ifCond .eq 7, 3) := by decide +kernel
theorem dX6_isRungHearing_109 : decode cX6_isRungHearing 109 = .ok (.iconst 1, 1) := by decide +kernel
theorem dX6_isRungHearing_110 : decode cX6_isRungHearing 110 = .ok (.goto 4, 3) := by decide +kernel
theorem dX6_isRungHearing_113 : decode cX6_isRungHearing 113 = .ok (.iconst 0, 1) := by decide +kernel
theorem dX6_isRungHearing_114 : decode cX6_isRungHearing 114 = .ok (.istore 6, 2) := by decide +kernel
theorem dX6_isRungHearing_116 : decode cX6_isRungHearing 116 = .ok (.aload_n 1, 1) := by decide +kernel
theorem dX6_isRungHearing_117 : decode cX6_isRungHearing 117 = .ok (.getfield 79, 3) := by decide +kernel
theorem dX6_isRungHearing_120 : decode cX6_isRungHearing 120 = .ok (.iload 5, 2) := by decide +kernel
theorem dX6_isRungHearing_122 : decode cX6_isRungHearing 122 = .ok (.dup2, 1) := by decide +kernel
theorem dX6_isRungHearing_123 : decode cX6_isRungHearing 123 = .ok (.iaload, 1) := by decide +kernel
theorem dX6_isRungHearing_124 : decode cX6_isRungHearing 124 = .ok (.iload 6, 2) := by decide +kernel
theorem dX6_isRungHearing_126 : decode cX6_isRungHearing 126 = .ok (.ifCond .eq 18, 3) := by decide +kernel
theorem dX6_isRungHearing_129 : decode cX6_isRungHearing 129 = .ok (.aload_n 0, 1) := by decide +kernel
theorem dX6_isRungHearing_130 : decode cX6_isRungHearing 130 = .ok (.getfield 50, 3) := by decide +kernel
theorem dX6_isRungHearing_133 : decode cX6_isRungHearing 133 = .ok (.iconst 1, 1) := by decide +kernel
theorem dX6_isRungHearing_134 : decode cX6_isRungHearing 134 = .ok (.invokevirtual 138, 3) := by decide +kernel
theorem dX6_isRungHearing_137 : decode cX6_isRungHearing 137 = .ok (.ifCond .le 7, 3) := by decide +kernel
theorem dX6_isRungHearing_140 : decode cX6_isRungHearing 140 = .ok (.iload_n 3, 1) := by decide +kernel
theorem dX6_isRungHearing_141 : decode cX6_isRungHearing 141 = .ok (.goto 4, 3) := by decide +kernel
theorem dX6_isRungHearing_144 : decode cX6_isRungHearing 144 = .ok (.iconst 0, 1) := by decide +kernel
theorem dX6_isRungHearing_145 : decode cX6_isRungHearing 145 = .ok (.ior, 1) := by decide +kernel
theorem dX6_isRungHearing_146 : decode cX6_isRungHearing 146 = .ok (.iastore, 1) := by decide +kernel
theorem dX6_isRungHearing_147 : decode cX6_isRungHearing 147 = .ok (.iinc 5 1, 3) := by decide +kernel
theorem dX6_isRungHearing_150 : decode cX6_isRungHearing 150 = .ok (.goto (-144), 3) := by decide +kernel
theorem dX6_isRungHearing_153 : decode cX6_isRungHearing 153 = .ok (.iload 4, 2) := by decide +kernel
theorem dX6_isRungHearing_155 : decode cX6_isRungHearing 155 = .ok (.ireturn, 1) := by decide +kernel
theorem dX9_role_0 : decode cX9_role 0 = .ok (.aload_n 0, 1) := by decide +kernel
theorem dX9_role_1 : decode cX9_role 1 = .ok (.getfield 30, 3) := by decide +kernel
theorem dX9_role_4 : decode cX9_role 4 = .ok (.iload_n 1, 1) := by decide +kernel
theorem dX9_role_5 : decode cX9_role 5 = .ok (.invokevirtual 87, 3) := by decide +kernel
theorem dX9_role_8 : decode cX9_role 8 = .ok (.ifCond .ne 5, 3) := by decide +kernel
theorem dX9_role_11 : decode cX9_role 11 = .ok (.iconst (-1), 1) := by decide +kernel
theorem dX9_role_12 : decode cX9_role 12 = .ok (.ireturn, 1) := by decide +kernel
theorem dX9_role_13 : decode cX9_role 13 = .ok (.iload_n 2, 1) := by decide +kernel
theorem dX9_role_14 : decode cX9_role 14 = .ok (.tableswitch 100 0 5 #[38, 48, 58, 68, 78, 87], 38) := by decide +kernel
theorem dX9_role_52 : decode cX9_role 52 = .ok (.aload_n 0, 1) := by decide +kernel
theorem dX9_role_53 : decode cX9_role 53 = .ok (.getfield 30, 3) := by decide +kernel
theorem dX9_role_56 : decode cX9_role 56 = .ok (.getfield 91, 3) := by decide +kernel
theorem dX9_role_59 : decode cX9_role 59 = .ok (.iload_n 1, 1) := by decide +kernel
theorem dX9_role_60 : decode cX9_role 60 = .ok (.iaload, 1) := by decide +kernel
theorem dX9_role_61 : decode cX9_role 61 = .ok (.ireturn, 1) := by decide +kernel
theorem dX9_role_62 : decode cX9_role 62 = .ok (.aload_n 0, 1) := by decide +kernel
theorem dX9_role_63 : decode cX9_role 63 = .ok (.getfield 30, 3) := by decide +kernel
theorem dX9_role_66 : decode cX9_role 66 = .ok (.getfield 95, 3) := by decide +kernel
theorem dX9_role_69 : decode cX9_role 69 = .ok (.iload_n 1, 1) := by decide +kernel
theorem dX9_role_70 : decode cX9_role 70 = .ok (.iaload, 1) := by decide +kernel
theorem dX9_role_71 : decode cX9_role 71 = .ok (.ireturn, 1) := by decide +kernel
theorem dX9_role_72 : decode cX9_role 72 = .ok (.aload_n 0, 1) := by decide +kernel
theorem dX9_role_73 : decode cX9_role 73 = .ok (.getfield 40, 3) := by decide +kernel
theorem dX9_role_76 : decode cX9_role 76 = .ok (.getfield 98, 3) := by decide +kernel
theorem dX9_role_79 : decode cX9_role 79 = .ok (.iload_n 1, 1) := by decide +kernel
theorem dX9_role_80 : decode cX9_role 80 = .ok (.iaload, 1) := by decide +kernel
theorem dX9_role_81 : decode cX9_role 81 = .ok (.ireturn, 1) := by decide +kernel
theorem dX9_role_82 : decode cX9_role 82 = .ok (.aload_n 0, 1) := by decide +kernel
theorem dX9_role_83 : decode cX9_role 83 = .ok (.getfield 40, 3) := by decide +kernel
theorem dX9_role_86 : decode cX9_role 86 = .ok (.getfield 101, 3) := by decide +kernel
theorem dX9_role_89 : decode cX9_role 89 = .ok (.iload_n 1, 1) := by decide +kernel
theorem dX9_role_90 : decode cX9_role 90 = .ok (.iaload, 1) := by decide +kernel
theorem dX9_role_91 : decode cX9_role 91 = .ok (.ireturn, 1) := by decide +kernel
theorem dX9_role_92 : decode cX9_role 92 = .ok (.aload_n 0, 1) := by decide +kernel
theorem dX9_role_93 : decode cX9_role 93 = .ok (.getfield 30, 3) := by decide +kernel
theorem dX9_role_96 : decode cX9_role 96 = .ok (.iload_n 1, 1) := by decide +kernel
theorem dX9_role_97 : decode cX9_role 97 = .ok (.invokevirtual 104, 3) := by decide +kernel
theorem dX9_role_100 : decode cX9_role 100 = .ok (.ireturn, 1) := by decide +kernel
theorem dX9_role_101 : decode cX9_role 101 = .ok (.aload_n 0, 1) := by decide +kernel
theorem dX9_role_102 : decode cX9_role 102 = .ok (.getfield 30, 3) := by decide +kernel
theorem dX9_role_105 : decode cX9_role 105 = .ok (.aload_n 0, 1) := by decide +kernel
theorem dX9_role_106 : decode cX9_role 106 = .ok (.getfield 40, 3) := by decide +kernel
theorem dX9_role_109 : decode cX9_role 109 = .ok (.iload_n 1, 1) := by decide +kernel
theorem dX9_role_110 : decode cX9_role 110 = .ok (.invokevirtual 108, 3) := by decide +kernel
theorem dX9_role_113 : decode cX9_role 113 = .ok (.ireturn, 1) := by decide +kernel
theorem dX9_role_114 : decode cX9_role 114 = .ok (.iconst (-1), 1) := by decide +kernel
theorem dX9_role_115 : decode cX9_role 115 = .ok (.ireturn, 1) := by decide +kernel
theorem dX9_tells_0 : decode cX9_tells 0 = .ok (.aload_n 0, 1) := by decide +kernel
theorem dX9_tells_1 : decode cX9_tells 1 = .ok (.getfield 30, 3) := by decide +kernel
theorem dX9_tells_4 : decode cX9_tells 4 = .ok (.iload_n 1, 1) := by decide +kernel
theorem dX9_tells_5 : decode cX9_tells 5 = .ok (.invokevirtual 112, 3) := by decide +kernel
theorem dX9_tells_8 : decode cX9_tells 8 = .ok (.ifCond .eq 23, 3) := by decide +kernel
theorem dX9_tells_11 : decode cX9_tells 11 = .ok (.aload_n 0, 1) := by decide +kernel
theorem dX9_tells_12 : decode cX9_tells 12 = .ok (.getfield 30, 3) := by decide +kernel
theorem dX9_tells_15 : decode cX9_tells 15 = .ok (.iload_n 2, 1) := by decide +kernel
theorem dX9_tells_16 : decode cX9_tells 16 = .ok (.invokevirtual 87, 3) := by decide +kernel
theorem dX9_tells_19 : decode cX9_tells 19 = .ok (.ifCond .eq 12, 3) := by decide +kernel
theorem dX9_tells_22 : decode cX9_tells 22 = .ok (.iload_n 3, 1) := by decide +kernel
theorem dX9_tells_23 : decode cX9_tells 23 = .ok (.ifCond .lt 8, 3) := by decide +kernel
theorem dX9_tells_26 : decode cX9_tells 26 = .ok (.iload_n 3, 1) := by decide +kernel
theorem dX9_tells_27 : decode cX9_tells 27 = .ok (.iconst 2, 1) := by decide +kernel
theorem dX9_tells_28 : decode cX9_tells 28 = .ok (.if_icmp .le 6, 3) := by decide +kernel
theorem dX9_tells_31 : decode cX9_tells 31 = .ok (.bipush (-100), 2) := by decide +kernel
theorem dX9_tells_33 : decode cX9_tells 33 = .ok (.ireturn, 1) := by decide +kernel
theorem dX9_tells_34 : decode cX9_tells 34 = .ok (.aload_n 0, 1) := by decide +kernel
theorem dX9_tells_35 : decode cX9_tells 35 = .ok (.getfield 30, 3) := by decide +kernel
theorem dX9_tells_38 : decode cX9_tells 38 = .ok (.aload_n 0, 1) := by decide +kernel
theorem dX9_tells_39 : decode cX9_tells 39 = .ok (.getfield 40, 3) := by decide +kernel
theorem dX9_tells_42 : decode cX9_tells 42 = .ok (.iload_n 1, 1) := by decide +kernel
theorem dX9_tells_43 : decode cX9_tells 43 = .ok (.iload_n 2, 1) := by decide +kernel
theorem dX9_tells_44 : decode cX9_tells 44 = .ok (.aload_n 0, 1) := by decide +kernel
theorem dX9_tells_45 : decode cX9_tells 45 = .ok (.getfield 30, 3) := by decide +kernel
theorem dX9_tells_48 : decode cX9_tells 48 = .ok (.aload_n 0, 1) := by decide +kernel
theorem dX9_tells_49 : decode cX9_tells 49 = .ok (.getfield 40, 3) := by decide +kernel
theorem dX9_tells_52 : decode cX9_tells 52 = .ok (.iload_n 2, 1) := by decide +kernel
theorem dX9_tells_53 : decode cX9_tells 53 = .ok (.invokevirtual 108, 3) := by decide +kernel
theorem dX9_tells_56 : decode cX9_tells 56 = .ok (.invokevirtual 134, 3) := by decide +kernel
theorem dX9_tells_59 : decode cX9_tells 59 = .ok (.iload_n 3, 1) := by decide +kernel
theorem dX9_tells_60 : decode cX9_tells 60 = .ok (.lookupswitch 60 #[(0, 28), (1, 48)], 28) := by decide +kernel
theorem dX9_tells_88 : decode cX9_tells 88 = .ok (.aload_n 0, 1) := by decide +kernel
theorem dX9_tells_89 : decode cX9_tells 89 = .ok (.getfield 30, 3) := by decide +kernel
theorem dX9_tells_92 : decode cX9_tells 92 = .ok (.getfield 138, 3) := by decide +kernel
theorem dX9_tells_95 : decode cX9_tells 95 = .ok (.iconst 1, 1) := by decide +kernel
theorem dX9_tells_96 : decode cX9_tells 96 = .ok (.invokevirtual 142, 3) := by decide +kernel
theorem dX9_tells_99 : decode cX9_tells 99 = .ok (.ifCond .le 7, 3) := by decide +kernel
theorem dX9_tells_102 : decode cX9_tells 102 = .ok (.iconst 1, 1) := by decide +kernel
theorem dX9_tells_103 : decode cX9_tells 103 = .ok (.goto 4, 3) := by decide +kernel
theorem dX9_tells_106 : decode cX9_tells 106 = .ok (.iconst 0, 1) := by decide +kernel
theorem dX9_tells_107 : decode cX9_tells 107 = .ok (.ireturn, 1) := by decide +kernel
theorem dX9_tells_108 : decode cX9_tells 108 = .ok (.aload_n 0, 1) := by decide +kernel
theorem dX9_tells_109 : decode cX9_tells 109 = .ok (.getfield 30, 3) := by decide +kernel
theorem dX9_tells_112 : decode cX9_tells 112 = .ok (.getfield 138, 3) := by decide +kernel
theorem dX9_tells_115 : decode cX9_tells 115 = .ok (.iconst 2, 1) := by decide +kernel
theorem dX9_tells_116 : decode cX9_tells 116 = .ok (.invokevirtual 142, 3) := by decide +kernel
theorem dX9_tells_119 : decode cX9_tells 119 = .ok (.ireturn, 1) := by decide +kernel
theorem dX9_tells_120 : decode cX9_tells 120 = .ok (.aload_n 0, 1) := by decide +kernel
theorem dX9_tells_121 : decode cX9_tells 121 = .ok (.getfield 30, 3) := by decide +kernel
theorem dX9_tells_124 : decode cX9_tells 124 = .ok (.getfield 138, 3) := by decide +kernel
theorem dX9_tells_127 : decode cX9_tells 127 = .ok (.iconst 3, 1) := by decide +kernel
theorem dX9_tells_128 : decode cX9_tells 128 = .ok (.invokevirtual 142, 3) := by decide +kernel
theorem dX9_tells_131 : decode cX9_tells 131 = .ok (.ifCond .le 7, 3) := by decide +kernel
theorem dX9_tells_134 : decode cX9_tells 134 = .ok (.iconst 1, 1) := by decide +kernel
theorem dX9_tells_135 : decode cX9_tells 135 = .ok (.goto 4, 3) := by decide +kernel
theorem dX9_tells_138 : decode cX9_tells 138 = .ok (.iconst 0, 1) := by decide +kernel
theorem dX9_tells_139 : decode cX9_tells 139 = .ok (.ireturn, 1) := by decide +kernel
theorem dX9_count_0 : decode cX9_count 0 = .ok (.iload_n 1, 1) := by decide +kernel
theorem dX9_count_1 : decode cX9_count 1 = .ok (.tableswitch 281 0 17 #[87, 95, 103, 111, 135, 147, 159, 167, 175, 180, 188, 196, 207, 237, 245, 253, 265, 273], 87) := by decide +kernel
theorem dX9_count_88 : decode cX9_count 88 = .ok (.aload_n 0, 1) := by decide +kernel
theorem dX9_count_89 : decode cX9_count 89 = .ok (.getfield 30, 3) := by decide +kernel
theorem dX9_count_92 : decode cX9_count 92 = .ok (.getfield 147, 3) := by decide +kernel
theorem dX9_count_95 : decode cX9_count 95 = .ok (.ireturn, 1) := by decide +kernel
theorem dX9_count_96 : decode cX9_count 96 = .ok (.aload_n 0, 1) := by decide +kernel
theorem dX9_count_97 : decode cX9_count 97 = .ok (.getfield 30, 3) := by decide +kernel
theorem dX9_count_100 : decode cX9_count 100 = .ok (.getfield 150, 3) := by decide +kernel
theorem dX9_count_103 : decode cX9_count 103 = .ok (.ireturn, 1) := by decide +kernel
theorem dX9_count_104 : decode cX9_count 104 = .ok (.aload_n 0, 1) := by decide +kernel
theorem dX9_count_105 : decode cX9_count 105 = .ok (.getfield 40, 3) := by decide +kernel
theorem dX9_count_108 : decode cX9_count 108 = .ok (.getfield 153, 3) := by decide +kernel
theorem dX9_count_111 : decode cX9_count 111 = .ok (.ireturn, 1) := by decide +kernel
theorem dX9_count_112 : decode cX9_count 112 = .ok (.aload_n 0, 1) := by decide +kernel
theorem dX9_count_113 : decode cX9_count 113 = .ok (.getfield 40, 3) := by decide +kernel
theorem dX9_count_116 : decode cX9_count 116 = .ok (.getfield 156, 3) := by decide +kernel
theorem dX9_count_119 : decode cX9_count 119 = .ok (.iconst (-1), 1) := by decide +kernel
theorem dX9_count_120 : decode cX9_count 120 = .ok (.if_icmp .ne 8, 3) := by decide +kernel
theorem dX9_count_123 : decode cX9_count 123 = .ok (.bipush (-2), 2) := by decide +kernel
theorem dX9_count_125 : decode cX9_count 125 = .ok (.goto 10, 3) := by decide +kernel
theorem dX9_count_128 : decode cX9_count 128 = .ok (.aload_n 0, 1) := by decide +kernel
theorem dX9_count_129 : decode cX9_count 129 = .ok (.getfield 40, 3) := by decide +kernel
theorem dX9_count_132 : decode cX9_count 132 = .ok (.getfield 156, 3) := by decide +kernel
theorem dX9_count_135 : decode cX9_count 135 = .ok (.ireturn, 1) := by decide +kernel
theorem dX9_count_136 : decode cX9_count 136 = .ok (.aload_n 0, 1) := by decide +kernel
theorem dX9_count_137 : decode cX9_count 137 = .ok (.getfield 30, 3) := by decide +kernel
theorem dX9_count_140 : decode cX9_count 140 = .ok (.aload_n 0, 1) := by decide +kernel
theorem dX9_count_141 : decode cX9_count 141 = .ok (.getfield 40, 3) := by decide +kernel
theorem dX9_count_144 : decode cX9_count 144 = .ok (.invokevirtual 159, 3) := by decide +kernel
theorem dX9_count_147 : decode cX9_count 147 = .ok (.ireturn, 1) := by decide +kernel
theorem dX9_count_148 : decode cX9_count 148 = .ok (.aload_n 0, 1) := by decide +kernel
theorem dX9_count_149 : decode cX9_count 149 = .ok (.getfield 30, 3) := by decide +kernel
theorem dX9_count_152 : decode cX9_count 152 = .ok (.aload_n 0, 1) := by decide +kernel
theorem dX9_count_153 : decode cX9_count 153 = .ok (.getfield 40, 3) := by decide +kernel
theorem dX9_count_156 : decode cX9_count 156 = .ok (.invokevirtual 163, 3) := by decide +kernel
theorem dX9_count_159 : decode cX9_count 159 = .ok (.ireturn, 1) := by decide +kernel
theorem dX9_count_160 : decode cX9_count 160 = .ok (.aload_n 0, 1) := by decide +kernel
theorem dX9_count_161 : decode cX9_count 161 = .ok (.getfield 40, 3) := by decide +kernel
theorem dX9_count_164 : decode cX9_count 164 = .ok (.getfield 166, 3) := by decide +kernel
theorem dX9_count_167 : decode cX9_count 167 = .ok (.ireturn, 1) := by decide +kernel
theorem dX9_count_168 : decode cX9_count 168 = .ok (.aload_n 0, 1) := by decide +kernel
theorem dX9_count_169 : decode cX9_count 169 = .ok (.getfield 40, 3) := by decide +kernel
theorem dX9_count_172 : decode cX9_count 172 = .ok (.invokevirtual 169, 3) := by decide +kernel
theorem dX9_count_175 : decode cX9_count 175 = .ok (.ireturn, 1) := by decide +kernel
theorem dX9_count_176 : decode cX9_count 176 = .ok (.aload_n 0, 1) := by decide +kernel
theorem dX9_count_177 : decode cX9_count 177 = .ok (.getfield 13, 3) := by decide +kernel
theorem dX9_count_180 : decode cX9_count 180 = .ok (.ireturn, 1) := by decide +kernel
theorem dX9_count_181 : decode cX9_count 181 = .ok (.aload_n 0, 1) := by decide +kernel
theorem dX9_count_182 : decode cX9_count 182 = .ok (.getfield 57, 3) := by decide +kernel
theorem dX9_count_185 : decode cX9_count 185 = .ok (.getfield 173, 3) := by decide +kernel
theorem dX9_count_188 : decode cX9_count 188 = .ok (.ireturn, 1) := by decide +kernel
theorem dX9_count_189 : decode cX9_count 189 = .ok (.aload_n 0, 1) := by decide +kernel
theorem dX9_count_190 : decode cX9_count 190 = .ok (.getfield 64, 3) := by decide +kernel
theorem dX9_count_193 : decode cX9_count 193 = .ok (.getfield 84, 3) := by decide +kernel
theorem dX9_count_196 : decode cX9_count 196 = .ok (.ireturn, 1) := by decide +kernel
theorem dX9_count_197 : decode cX9_count 197 = .ok (.aload_n 0, 1) := by decide +kernel
theorem dX9_count_198 : decode cX9_count 198 = .ok (.getfield 57, 3) := by decide +kernel
theorem dX9_count_201 : decode cX9_count 201 = .ok (.getfield 174, 3) := by decide +kernel
theorem dX9_count_204 : decode cX9_count 204 = .ok (.invokestatic 177, 3) := by decide +kernel
theorem dX9_count_207 : decode cX9_count 207 = .ok (.ireturn, 1) := by decide +kernel
theorem dX9_count_208 : decode cX9_count 208 = .ok (.aload_n 0, 1) := by decide +kernel
theorem dX9_count_209 : decode cX9_count 209 = .ok (.getfield 30, 3) := by decide +kernel
theorem dX9_count_212 : decode cX9_count 212 = .ok (.aload_n 0, 1) := by decide +kernel
theorem dX9_count_213 : decode cX9_count 213 = .ok (.getfield 30, 3) := by decide +kernel
theorem dX9_count_216 : decode cX9_count 216 = .ok (.getfield 182, 3) := by decide +kernel
theorem dX9_count_219 : decode cX9_count 219 = .ok (.aload_n 0, 1) := by decide +kernel
theorem dX9_count_220 : decode cX9_count 220 = .ok (.getfield 40, 3) := by decide +kernel
theorem dX9_count_223 : decode cX9_count 223 = .ok (.getfield 153, 3) := by decide +kernel
theorem dX9_count_226 : decode cX9_count 226 = .ok (.invokevirtual 185, 3) := by decide +kernel
theorem dX9_count_229 : decode cX9_count 229 = .ok (.ifCond .eq 7, 3) := by decide +kernel
theorem dX9_count_232 : decode cX9_count 232 = .ok (.iconst 1, 1) := by decide +kernel
theorem dX9_count_233 : decode cX9_count 233 = .ok (.goto 4, 3) := by decide +kernel
theorem dX9_count_236 : decode cX9_count 236 = .ok (.iconst 0, 1) := by decide +kernel
theorem dX9_count_237 : decode cX9_count 237 = .ok (.ireturn, 1) := by decide +kernel
theorem dX9_count_238 : decode cX9_count 238 = .ok (.aload_n 0, 1) := by decide +kernel
theorem dX9_count_239 : decode cX9_count 239 = .ok (.getfield 40, 3) := by decide +kernel
theorem dX9_count_242 : decode cX9_count 242 = .ok (.invokevirtual 189, 3) := by decide +kernel
theorem dX9_count_245 : decode cX9_count 245 = .ok (.ireturn, 1) := by decide +kernel
theorem dX9_count_246 : decode cX9_count 246 = .ok (.aload_n 0, 1) := by decide +kernel
theorem dX9_count_247 : decode cX9_count 247 = .ok (.getfield 40, 3) := by decide +kernel
theorem dX9_count_250 : decode cX9_count 250 = .ok (.getfield 192, 3) := by decide +kernel
theorem dX9_count_253 : decode cX9_count 253 = .ok (.ireturn, 1) := by decide +kernel
theorem dX9_count_254 : decode cX9_count 254 = .ok (.aload_n 0, 1) := by decide +kernel
theorem dX9_count_255 : decode cX9_count 255 = .ok (.getfield 30, 3) := by decide +kernel
theorem dX9_count_258 : decode cX9_count 258 = .ok (.aload_n 0, 1) := by decide +kernel
theorem dX9_count_259 : decode cX9_count 259 = .ok (.getfield 40, 3) := by decide +kernel
theorem dX9_count_262 : decode cX9_count 262 = .ok (.invokevirtual 195, 3) := by decide +kernel
theorem dX9_count_265 : decode cX9_count 265 = .ok (.ireturn, 1) := by decide +kernel
theorem dX9_count_266 : decode cX9_count 266 = .ok (.aload_n 0, 1) := by decide +kernel
theorem dX9_count_267 : decode cX9_count 267 = .ok (.getfield 40, 3) := by decide +kernel
theorem dX9_count_270 : decode cX9_count 270 = .ok (.invokevirtual 198, 3) := by decide +kernel
theorem dX9_count_273 : decode cX9_count 273 = .ok (.ireturn, 1) := by decide +kernel
theorem dX9_count_274 : decode cX9_count 274 = .ok (.aload_n 0, 1) := by decide +kernel
theorem dX9_count_275 : decode cX9_count 275 = .ok (.getfield 30, 3) := by decide +kernel
theorem dX9_count_278 : decode cX9_count 278 = .ok (.invokevirtual 201, 3) := by decide +kernel
theorem dX9_count_281 : decode cX9_count 281 = .ok (.ireturn, 1) := by decide +kernel
theorem dX9_count_282 : decode cX9_count 282 = .ok (.iconst (-1), 1) := by decide +kernel
theorem dX9_count_283 : decode cX9_count 283 = .ok (.ireturn, 1) := by decide +kernel
theorem dX9_talk_0 : decode cX9_talk 0 = .ok (.aload_n 0, 1) := by decide +kernel
theorem dX9_talk_1 : decode cX9_talk 1 = .ok (.getfield 30, 3) := by decide +kernel
theorem dX9_talk_4 : decode cX9_talk 4 = .ok (.iload_n 1, 1) := by decide +kernel
theorem dX9_talk_5 : decode cX9_talk 5 = .ok (.invokevirtual 112, 3) := by decide +kernel
theorem dX9_talk_8 : decode cX9_talk 8 = .ok (.ifCond .eq 19, 3) := by decide +kernel
theorem dX9_talk_11 : decode cX9_talk 11 = .ok (.aload_n 0, 1) := by decide +kernel
theorem dX9_talk_12 : decode cX9_talk 12 = .ok (.getfield 30, 3) := by decide +kernel
theorem dX9_talk_15 : decode cX9_talk 15 = .ok (.iload_n 2, 1) := by decide +kernel
theorem dX9_talk_16 : decode cX9_talk 16 = .ok (.invokevirtual 112, 3) := by decide +kernel
theorem dX9_talk_19 : decode cX9_talk 19 = .ok (.ifCond .eq 8, 3) := by decide +kernel
theorem dX9_talk_22 : decode cX9_talk 22 = .ok (.iload_n 1, 1) := by decide +kernel
theorem dX9_talk_23 : decode cX9_talk 23 = .ok (.iload_n 2, 1) := by decide +kernel
theorem dX9_talk_24 : decode cX9_talk 24 = .ok (.if_icmp .ne 5, 3) := by decide +kernel
theorem dX9_talk_27 : decode cX9_talk 27 = .ok (.iconst (-1), 1) := by decide +kernel
theorem dX9_talk_28 : decode cX9_talk 28 = .ok (.ireturn, 1) := by decide +kernel
theorem dX9_talk_29 : decode cX9_talk 29 = .ok (.aload_n 0, 1) := by decide +kernel
theorem dX9_talk_30 : decode cX9_talk 30 = .ok (.getfield 57, 3) := by decide +kernel
theorem dX9_talk_33 : decode cX9_talk 33 = .ok (.aload_n 0, 1) := by decide +kernel
theorem dX9_talk_34 : decode cX9_talk 34 = .ok (.getfield 40, 3) := by decide +kernel
theorem dX9_talk_37 : decode cX9_talk 37 = .ok (.invokevirtual 204, 3) := by decide +kernel
theorem dX9_talk_40 : decode cX9_talk 40 = .ok (.aload_n 0, 1) := by decide +kernel
theorem dX9_talk_41 : decode cX9_talk 41 = .ok (.iload_n 1, 1) := by decide +kernel
theorem dX9_talk_42 : decode cX9_talk 42 = .ok (.iload_n 2, 1) := by decide +kernel
theorem dX9_talk_43 : decode cX9_talk 43 = .ok (.invokevirtual 213, 3) := by decide +kernel
theorem dX9_talk_46 : decode cX9_talk 46 = .ok (.istore_n 3, 1) := by decide +kernel
theorem dX9_talk_47 : decode cX9_talk 47 = .ok (.aload_n 0, 1) := by decide +kernel
theorem dX9_talk_48 : decode cX9_talk 48 = .ok (.getfield 40, 3) := by decide +kernel
theorem dX9_talk_51 : decode cX9_talk 51 = .ok (.getfield 115, 3) := by decide +kernel
theorem dX9_talk_54 : decode cX9_talk 54 = .ok (.iload_n 1, 1) := by decide +kernel
theorem dX9_talk_55 : decode cX9_talk 55 = .ok (.iaload, 1) := by decide +kernel
theorem dX9_talk_56 : decode cX9_talk 56 = .ok (.aload_n 0, 1) := by decide +kernel
theorem dX9_talk_57 : decode cX9_talk 57 = .ok (.getfield 40, 3) := by decide +kernel
theorem dX9_talk_60 : decode cX9_talk 60 = .ok (.getfield 115, 3) := by decide +kernel
theorem dX9_talk_63 : decode cX9_talk 63 = .ok (.iload_n 2, 1) := by decide +kernel
theorem dX9_talk_64 : decode cX9_talk 64 = .ok (.iaload, 1) := by decide +kernel
theorem dX9_talk_65 : decode cX9_talk 65 = .ok (.ior, 1) := by decide +kernel
theorem dX9_talk_66 : decode cX9_talk 66 = .ok (.istore 4, 2) := by decide +kernel
theorem dX9_talk_68 : decode cX9_talk 68 = .ok (.aload_n 0, 1) := by decide +kernel
theorem dX9_talk_69 : decode cX9_talk 69 = .ok (.getfield 40, 3) := by decide +kernel
theorem dX9_talk_72 : decode cX9_talk 72 = .ok (.getfield 115, 3) := by decide +kernel
theorem dX9_talk_75 : decode cX9_talk 75 = .ok (.iload_n 1, 1) := by decide +kernel
theorem dX9_talk_76 : decode cX9_talk 76 = .ok (.iload 4, 2) := by decide +kernel
theorem dX9_talk_78 : decode cX9_talk 78 = .ok (.iastore, 1) := by decide +kernel
theorem dX9_talk_79 : decode cX9_talk 79 = .ok (.aload_n 0, 1) := by decide +kernel
theorem dX9_talk_80 : decode cX9_talk 80 = .ok (.getfield 40, 3) := by decide +kernel
theorem dX9_talk_83 : decode cX9_talk 83 = .ok (.getfield 115, 3) := by decide +kernel
theorem dX9_talk_86 : decode cX9_talk 86 = .ok (.iload_n 2, 1) := by decide +kernel
theorem dX9_talk_87 : decode cX9_talk 87 = .ok (.iload 4, 2) := by decide +kernel
theorem dX9_talk_89 : decode cX9_talk 89 = .ok (.iastore, 1) := by decide +kernel
theorem dX9_talk_90 : decode cX9_talk 90 = .ok (.iload_n 3, 1) := by decide +kernel
theorem dX9_talk_91 : decode cX9_talk 91 = .ok (.ireturn, 1) := by decide +kernel
theorem dX9_trusting_0 : decode cX9_trusting 0 = .ok (.aload_n 0, 1) := by decide +kernel
theorem dX9_trusting_1 : decode cX9_trusting 1 = .ok (.getfield 30, 3) := by decide +kernel
theorem dX9_trusting_4 : decode cX9_trusting 4 = .ok (.aload_n 0, 1) := by decide +kernel
theorem dX9_trusting_5 : decode cX9_trusting 5 = .ok (.getfield 40, 3) := by decide +kernel
theorem dX9_trusting_8 : decode cX9_trusting 8 = .ok (.iload_n 1, 1) := by decide +kernel
theorem dX9_trusting_9 : decode cX9_trusting 9 = .ok (.invokevirtual 108, 3) := by decide +kernel
theorem dX9_trusting_12 : decode cX9_trusting 12 = .ok (.istore_n 2, 1) := by decide +kernel
theorem dX9_trusting_13 : decode cX9_trusting 13 = .ok (.iconst 0, 1) := by decide +kernel
theorem dX9_trusting_14 : decode cX9_trusting 14 = .ok (.istore_n 3, 1) := by decide +kernel
theorem dX9_trusting_15 : decode cX9_trusting 15 = .ok (.iconst 0, 1) := by decide +kernel
theorem dX9_trusting_16 : decode cX9_trusting 16 = .ok (.istore 4, 2) := by decide +kernel
theorem dX9_trusting_18 : decode cX9_trusting 18 = .ok (.iload 4, 2) := by decide +kernel
theorem dX9_trusting_20 : decode cX9_trusting 20 = .ok (.aload_n 0, 1) := by decide +kernel
theorem dX9_trusting_21 : decode cX9_trusting 21 = .ok (.getfield 30, 3) := by decide +kernel
theorem dX9_trusting_24 : decode cX9_trusting 24 = .ok (.getfield 150, 3) := by decide +kernel
theorem dX9_trusting_27 : decode cX9_trusting 27 = .ok (.if_icmp .ge 45, 3) := by decide +kernel
theorem dX9_trusting_30 : decode cX9_trusting 30 = .ok (.aload_n 0, 1) := by decide +kernel
theorem dX9_trusting_31 : decode cX9_trusting 31 = .ok (.getfield 30, 3) := by decide +kernel
theorem dX9_trusting_34 : decode cX9_trusting 34 = .ok (.aload_n 0, 1) := by decide +kernel
theorem dX9_trusting_35 : decode cX9_trusting 35 = .ok (.getfield 40, 3) := by decide +kernel
theorem dX9_trusting_38 : decode cX9_trusting 38 = .ok (.iload 4, 2) := by decide +kernel
theorem dX9_trusting_40 : decode cX9_trusting 40 = .ok (.iload_n 1, 1) := by decide +kernel
theorem dX9_trusting_41 : decode cX9_trusting 41 = .ok (.iload_n 2, 1) := by decide +kernel
theorem dX9_trusting_42 : decode cX9_trusting 42 = .ok (.invokevirtual 134, 3) := by decide +kernel
theorem dX9_trusting_45 : decode cX9_trusting 45 = .ok (.aload_n 0, 1) := by decide +kernel
theorem dX9_trusting_46 : decode cX9_trusting 46 = .ok (.getfield 30, 3) := by decide +kernel
theorem dX9_trusting_49 : decode cX9_trusting 49 = .ok (.getfield 138, 3) := by decide +kernel
theorem dX9_trusting_52 : decode cX9_trusting 52 = .ok (.iconst 1, 1) := by decide +kernel
theorem dX9_trusting_53 : decode cX9_trusting 53 = .ok (.invokevirtual 142, 3) := by decide +kernel
theorem dX9_trusting_56 : decode cX9_trusting 56 = .ok (.ifCond .le 10, 3) := by decide +kernel
theorem dX9_trusting_59 : decode cX9_trusting 59 = .ok (.iload_n 3, 1) := by decide +kernel
theorem dX9_trusting_60 : decode cX9_trusting 60 = .ok (.iconst 1, 1) := by decide +kernel
theorem dX9_trusting_61 : decode cX9_trusting 61 = .ok (.iload 4, 2) := by decide +kernel
theorem dX9_trusting_63 : decode cX9_trusting 63 = .ok (.ishl, 1) := by decide +kernel
theorem dX9_trusting_64 : decode cX9_trusting 64 = .ok (.ior, 1) := by decide +kernel
theorem dX9_trusting_65 : decode cX9_trusting 65 = .ok (.istore_n 3, 1) := by decide +kernel
theorem dX9_trusting_66 : decode cX9_trusting 66 = .ok (.iinc 4 1, 3) := by decide +kernel
theorem dX9_trusting_69 : decode cX9_trusting 69 = .ok (.goto (-51), 3) := by decide +kernel
theorem dX9_trusting_72 : decode cX9_trusting 72 = .ok (.iload_n 3, 1) := by decide +kernel
theorem dX9_trusting_73 : decode cX9_trusting 73 = .ok (.ireturn, 1) := by decide +kernel
theorem dX9_star_0 : decode cX9_star 0 = .ok (.iload_n 1, 1) := by decide +kernel
theorem dX9_star_1 : decode cX9_star 1 = .ok (.ifCond .lt 8, 3) := by decide +kernel
theorem dX9_star_4 : decode cX9_star 4 = .ok (.iload_n 1, 1) := by decide +kernel
theorem dX9_star_5 : decode cX9_star 5 = .ok (.iconst 1, 1) := by decide +kernel
theorem dX9_star_6 : decode cX9_star 6 = .ok (.if_icmp .le 5, 3) := by decide +kernel
theorem dX9_star_9 : decode cX9_star 9 = .ok (.iconst (-1), 1) := by decide +kernel
theorem dX9_star_10 : decode cX9_star 10 = .ok (.ireturn, 1) := by decide +kernel
theorem dX9_star_11 : decode cX9_star 11 = .ok (.bipush (-2), 2) := by decide +kernel
theorem dX9_star_13 : decode cX9_star 13 = .ok (.istore_n 2, 1) := by decide +kernel
theorem dX9_star_14 : decode cX9_star 14 = .ok (.bipush (-2), 2) := by decide +kernel
theorem dX9_star_16 : decode cX9_star 16 = .ok (.istore_n 3, 1) := by decide +kernel
theorem dX9_star_17 : decode cX9_star 17 = .ok (.iconst 0, 1) := by decide +kernel
theorem dX9_star_18 : decode cX9_star 18 = .ok (.istore 4, 2) := by decide +kernel
theorem dX9_star_20 : decode cX9_star 20 = .ok (.iload 4, 2) := by decide +kernel
theorem dX9_star_22 : decode cX9_star 22 = .ok (.aload_n 0, 1) := by decide +kernel
theorem dX9_star_23 : decode cX9_star 23 = .ok (.getfield 30, 3) := by decide +kernel
theorem dX9_star_26 : decode cX9_star 26 = .ok (.getfield 147, 3) := by decide +kernel
theorem dX9_star_29 : decode cX9_star 29 = .ok (.if_icmp .ge 40, 3) := by decide +kernel
theorem dX9_star_32 : decode cX9_star 32 = .ok (.aload_n 0, 1) := by decide +kernel
theorem dX9_star_33 : decode cX9_star 33 = .ok (.iload 4, 2) := by decide +kernel
theorem dX9_star_35 : decode cX9_star 35 = .ok (.invokevirtual 235, 3) := by decide +kernel
theorem dX9_star_38 : decode cX9_star 38 = .ok (.aload_n 0, 1) := by decide +kernel
theorem dX9_star_39 : decode cX9_star 39 = .ok (.getfield 40, 3) := by decide +kernel
theorem dX9_star_42 : decode cX9_star 42 = .ok (.getfield 166, 3) := by decide +kernel
theorem dX9_star_45 : decode cX9_star 45 = .ok (.iand, 1) := by decide +kernel
theorem dX9_star_46 : decode cX9_star 46 = .ok (.invokestatic 177, 3) := by decide +kernel
theorem dX9_star_49 : decode cX9_star 49 = .ok (.istore 5, 2) := by decide +kernel
theorem dX9_star_51 : decode cX9_star 51 = .ok (.iload 5, 2) := by decide +kernel
theorem dX9_star_53 : decode cX9_star 53 = .ok (.iload_n 3, 1) := by decide +kernel
theorem dX9_star_54 : decode cX9_star 54 = .ok (.if_icmp .le 9, 3) := by decide +kernel
theorem dX9_star_57 : decode cX9_star 57 = .ok (.iload 5, 2) := by decide +kernel
theorem dX9_star_59 : decode cX9_star 59 = .ok (.istore_n 3, 1) := by decide +kernel
theorem dX9_star_60 : decode cX9_star 60 = .ok (.iload 4, 2) := by decide +kernel
theorem dX9_star_62 : decode cX9_star 62 = .ok (.istore_n 2, 1) := by decide +kernel
theorem dX9_star_63 : decode cX9_star 63 = .ok (.iinc 4 1, 3) := by decide +kernel
theorem dX9_star_66 : decode cX9_star 66 = .ok (.goto (-46), 3) := by decide +kernel
theorem dX9_star_69 : decode cX9_star 69 = .ok (.iload_n 1, 1) := by decide +kernel
theorem dX9_star_70 : decode cX9_star 70 = .ok (.ifCond .ne 7, 3) := by decide +kernel
theorem dX9_star_73 : decode cX9_star 73 = .ok (.iload_n 2, 1) := by decide +kernel
theorem dX9_star_74 : decode cX9_star 74 = .ok (.goto 4, 3) := by decide +kernel
theorem dX9_star_77 : decode cX9_star 77 = .ok (.iload_n 3, 1) := by decide +kernel
theorem dX9_star_78 : decode cX9_star 78 = .ok (.ireturn, 1) := by decide +kernel
theorem dX9_credit_0 : decode cX9_credit 0 = .ok (.aload_n 0, 1) := by decide +kernel
theorem dX9_credit_1 : decode cX9_credit 1 = .ok (.getfield 30, 3) := by decide +kernel
theorem dX9_credit_4 : decode cX9_credit 4 = .ok (.iload_n 1, 1) := by decide +kernel
theorem dX9_credit_5 : decode cX9_credit 5 = .ok (.invokevirtual 112, 3) := by decide +kernel
theorem dX9_credit_8 : decode cX9_credit 8 = .ok (.ifCond .ne 5, 3) := by decide +kernel
theorem dX9_credit_11 : decode cX9_credit 11 = .ok (.iconst (-1), 1) := by decide +kernel
theorem dX9_credit_12 : decode cX9_credit 12 = .ok (.ireturn, 1) := by decide +kernel
theorem dX9_credit_13 : decode cX9_credit 13 = .ok (.iconst 0, 1) := by decide +kernel
theorem dX9_credit_14 : decode cX9_credit 14 = .ok (.istore_n 2, 1) := by decide +kernel
theorem dX9_credit_15 : decode cX9_credit 15 = .ok (.iconst 0, 1) := by decide +kernel
theorem dX9_credit_16 : decode cX9_credit 16 = .ok (.istore_n 3, 1) := by decide +kernel
theorem dX9_credit_17 : decode cX9_credit 17 = .ok (.iload_n 3, 1) := by decide +kernel
theorem dX9_credit_18 : decode cX9_credit 18 = .ok (.aload_n 0, 1) := by decide +kernel
theorem dX9_credit_19 : decode cX9_credit 19 = .ok (.getfield 30, 3) := by decide +kernel
theorem dX9_credit_22 : decode cX9_credit 22 = .ok (.getfield 147, 3) := by decide +kernel
theorem dX9_credit_25 : decode cX9_credit 25 = .ok (.if_icmp .ge 54, 3) := by decide +kernel
theorem dX9_credit_28 : decode cX9_credit 28 = .ok (.aload_n 0, 1) := by decide +kernel
theorem dX9_credit_29 : decode cX9_credit 29 = .ok (.getfield 30, 3) := by decide +kernel
theorem dX9_credit_32 : decode cX9_credit 32 = .ok (.aload_n 0, 1) := by decide +kernel
theorem dX9_credit_33 : decode cX9_credit 33 = .ok (.getfield 40, 3) := by decide +kernel
theorem dX9_credit_36 : decode cX9_credit 36 = .ok (.iload_n 1, 1) := by decide +kernel
theorem dX9_credit_37 : decode cX9_credit 37 = .ok (.iload_n 3, 1) := by decide +kernel
theorem dX9_credit_38 : decode cX9_credit 38 = .ok (.aload_n 0, 1) := by decide +kernel
theorem dX9_credit_39 : decode cX9_credit 39 = .ok (.getfield 30, 3) := by decide +kernel
theorem dX9_credit_42 : decode cX9_credit 42 = .ok (.aload_n 0, 1) := by decide +kernel
theorem dX9_credit_43 : decode cX9_credit 43 = .ok (.getfield 40, 3) := by decide +kernel
theorem dX9_credit_46 : decode cX9_credit 46 = .ok (.iload_n 3, 1) := by decide +kernel
theorem dX9_credit_47 : decode cX9_credit 47 = .ok (.invokevirtual 108, 3) := by decide +kernel
theorem dX9_credit_50 : decode cX9_credit 50 = .ok (.invokevirtual 134, 3) := by decide +kernel
theorem dX9_credit_53 : decode cX9_credit 53 = .ok (.aload_n 0, 1) := by decide +kernel
theorem dX9_credit_54 : decode cX9_credit 54 = .ok (.getfield 30, 3) := by decide +kernel
theorem dX9_credit_57 : decode cX9_credit 57 = .ok (.getfield 138, 3) := by decide +kernel
theorem dX9_credit_60 : decode cX9_credit 60 = .ok (.iconst 1, 1) := by decide +kernel
theorem dX9_credit_61 : decode cX9_credit 61 = .ok (.invokevirtual 142, 3) := by decide +kernel
theorem dX9_credit_64 : decode cX9_credit 64 = .ok (.ifCond .le 9, 3) := by decide +kernel
theorem dX9_credit_67 : decode cX9_credit 67 = .ok (.iload_n 2, 1) := by decide +kernel
theorem dX9_credit_68 : decode cX9_credit 68 = .ok (.iconst 1, 1) := by decide +kernel
theorem dX9_credit_69 : decode cX9_credit 69 = .ok (.iload_n 3, 1) := by decide +kernel
theorem dX9_credit_70 : decode cX9_credit 70 = .ok (.ishl, 1) := by decide +kernel
theorem dX9_credit_71 : decode cX9_credit 71 = .ok (.ior, 1) := by decide +kernel
theorem dX9_credit_72 : decode cX9_credit 72 = .ok (.istore_n 2, 1) := by decide +kernel
theorem dX9_credit_73 : decode cX9_credit 73 = .ok (.iinc 3 1, 3) := by decide +kernel
theorem dX9_credit_76 : decode cX9_credit 76 = .ok (.goto (-59), 3) := by decide +kernel
theorem dX9_credit_79 : decode cX9_credit 79 = .ok (.iload_n 2, 1) := by decide +kernel
theorem dX9_credit_80 : decode cX9_credit 80 = .ok (.ireturn, 1) := by decide +kernel
theorem dX9_callers_0 : decode cX9_callers 0 = .ok (.aload_n 0, 1) := by decide +kernel
theorem dX9_callers_1 : decode cX9_callers 1 = .ok (.getfield 30, 3) := by decide +kernel
theorem dX9_callers_4 : decode cX9_callers 4 = .ok (.iload_n 1, 1) := by decide +kernel
theorem dX9_callers_5 : decode cX9_callers 5 = .ok (.invokevirtual 87, 3) := by decide +kernel
theorem dX9_callers_8 : decode cX9_callers 8 = .ok (.ifCond .ne 5, 3) := by decide +kernel
theorem dX9_callers_11 : decode cX9_callers 11 = .ok (.iconst (-1), 1) := by decide +kernel
theorem dX9_callers_12 : decode cX9_callers 12 = .ok (.ireturn, 1) := by decide +kernel
theorem dX9_callers_13 : decode cX9_callers 13 = .ok (.aload_n 0, 1) := by decide +kernel
theorem dX9_callers_14 : decode cX9_callers 14 = .ok (.getfield 30, 3) := by decide +kernel
theorem dX9_callers_17 : decode cX9_callers 17 = .ok (.aload_n 0, 1) := by decide +kernel
theorem dX9_callers_18 : decode cX9_callers 18 = .ok (.getfield 40, 3) := by decide +kernel
theorem dX9_callers_21 : decode cX9_callers 21 = .ok (.iload_n 1, 1) := by decide +kernel
theorem dX9_callers_22 : decode cX9_callers 22 = .ok (.invokevirtual 108, 3) := by decide +kernel
theorem dX9_callers_25 : decode cX9_callers 25 = .ok (.istore_n 2, 1) := by decide +kernel
theorem dX9_callers_26 : decode cX9_callers 26 = .ok (.iconst 0, 1) := by decide +kernel
theorem dX9_callers_27 : decode cX9_callers 27 = .ok (.istore_n 3, 1) := by decide +kernel
theorem dX9_callers_28 : decode cX9_callers 28 = .ok (.iconst 0, 1) := by decide +kernel
theorem dX9_callers_29 : decode cX9_callers 29 = .ok (.istore 4, 2) := by decide +kernel
theorem dX9_callers_31 : decode cX9_callers 31 = .ok (.iload 4, 2) := by decide +kernel
theorem dX9_callers_33 : decode cX9_callers 33 = .ok (.aload_n 0, 1) := by decide +kernel
theorem dX9_callers_34 : decode cX9_callers 34 = .ok (.getfield 30, 3) := by decide +kernel
theorem dX9_callers_37 : decode cX9_callers 37 = .ok (.getfield 150, 3) := by decide +kernel
theorem dX9_callers_40 : decode cX9_callers 40 = .ok (.if_icmp .ge 70, 3) := by decide +kernel
theorem dX9_callers_43 : decode cX9_callers 43 = .ok (.aload_n 0, 1) := by decide +kernel
theorem dX9_callers_44 : decode cX9_callers 44 = .ok (.getfield 30, 3) := by decide +kernel
theorem dX9_callers_47 : decode cX9_callers 47 = .ok (.aload_n 0, 1) := by decide +kernel
theorem dX9_callers_48 : decode cX9_callers 48 = .ok (.getfield 40, 3) := by decide +kernel
theorem dX9_callers_51 : decode cX9_callers 51 = .ok (.iload 4, 2) := by decide +kernel
theorem dX9_callers_53 : decode cX9_callers 53 = .ok (.iload_n 1, 1) := by decide +kernel
theorem dX9_callers_54 : decode cX9_callers 54 = .ok (.iload_n 2, 1) := by decide +kernel
theorem dX9_callers_55 : decode cX9_callers 55 = .ok (.invokevirtual 134, 3) := by decide +kernel
theorem dX9_callers_58 : decode cX9_callers 58 = .ok (.aload_n 0, 1) := by decide +kernel
theorem dX9_callers_59 : decode cX9_callers 59 = .ok (.getfield 40, 3) := by decide +kernel
theorem dX9_callers_62 : decode cX9_callers 62 = .ok (.iload 4, 2) := by decide +kernel
theorem dX9_callers_64 : decode cX9_callers 64 = .ok (.invokevirtual 124, 3) := by decide +kernel
theorem dX9_callers_67 : decode cX9_callers 67 = .ok (.ifCond .eq 37, 3) := by decide +kernel
theorem dX9_callers_70 : decode cX9_callers 70 = .ok (.aload_n 0, 1) := by decide +kernel
theorem dX9_callers_71 : decode cX9_callers 71 = .ok (.getfield 30, 3) := by decide +kernel
theorem dX9_callers_74 : decode cX9_callers 74 = .ok (.iload 4, 2) := by decide +kernel
theorem dX9_callers_76 : decode cX9_callers 76 = .ok (.iload_n 1, 1) := by decide +kernel
theorem dX9_callers_77 : decode cX9_callers 77 = .ok (.invokevirtual 254, 3) := by decide +kernel
theorem dX9_callers_80 : decode cX9_callers 80 = .ok (.ifCond .eq 24, 3) := by decide +kernel
theorem dX9_callers_83 : decode cX9_callers 83 = .ok (.aload_n 0, 1) := by decide +kernel
theorem dX9_callers_84 : decode cX9_callers 84 = .ok (.getfield 30, 3) := by decide +kernel
theorem dX9_callers_87 : decode cX9_callers 87 = .ok (.getfield 138, 3) := by decide +kernel
theorem dX9_callers_90 : decode cX9_callers 90 = .ok (.iconst 3, 1) := by decide +kernel
theorem dX9_callers_91 : decode cX9_callers 91 = .ok (.invokevirtual 142, 3) := by decide +kernel
theorem dX9_callers_94 : decode cX9_callers 94 = .ok (.ifCond .le 10, 3) := by decide +kernel
theorem dX9_callers_97 : decode cX9_callers 97 = .ok (.iload_n 3, 1) := by decide +kernel
theorem dX9_callers_98 : decode cX9_callers 98 = .ok (.iconst 1, 1) := by decide +kernel
theorem dX9_callers_99 : decode cX9_callers 99 = .ok (.iload 4, 2) := by decide +kernel
theorem dX9_callers_101 : decode cX9_callers 101 = .ok (.ishl, 1) := by decide +kernel
theorem dX9_callers_102 : decode cX9_callers 102 = .ok (.ior, 1) := by decide +kernel
theorem dX9_callers_103 : decode cX9_callers 103 = .ok (.istore_n 3, 1) := by decide +kernel
theorem dX9_callers_104 : decode cX9_callers 104 = .ok (.iinc 4 1, 3) := by decide +kernel
theorem dX9_callers_107 : decode cX9_callers 107 = .ok (.goto (-76), 3) := by decide +kernel
theorem dX9_callers_110 : decode cX9_callers 110 = .ok (.iload_n 3, 1) := by decide +kernel
theorem dX9_callers_111 : decode cX9_callers 111 = .ok (.ireturn, 1) := by decide +kernel
theorem dX9_holders_0 : decode cX9_holders 0 = .ok (.iload_n 1, 1) := by decide +kernel
theorem dX9_holders_1 : decode cX9_holders 1 = .ok (.invokestatic 207, 3) := by decide +kernel
theorem dX9_holders_4 : decode cX9_holders 4 = .ok (.ifCond .eq 11, 3) := by decide +kernel
theorem dX9_holders_7 : decode cX9_holders 7 = .ok (.aload_n 0, 1) := by decide +kernel
theorem dX9_holders_8 : decode cX9_holders 8 = .ok (.iload_n 1, 1) := by decide +kernel
theorem dX9_holders_9 : decode cX9_holders 9 = .ok (.invokevirtual 277, 3) := by decide +kernel
theorem dX9_holders_12 : decode cX9_holders 12 = .ok (.goto 4, 3) := by decide +kernel
theorem dX9_holders_15 : decode cX9_holders 15 = .ok (.iconst (-1), 1) := by decide +kernel
theorem dX9_holders_16 : decode cX9_holders 16 = .ok (.ireturn, 1) := by decide +kernel
theorem dX9_circleOf_0 : decode cX9_circleOf 0 = .ok (.bipush (-2), 2) := by decide +kernel
theorem dX9_circleOf_2 : decode cX9_circleOf 2 = .ok (.istore_n 2, 1) := by decide +kernel
theorem dX9_circleOf_3 : decode cX9_circleOf 3 = .ok (.bipush 6, 2) := by decide +kernel
theorem dX9_circleOf_5 : decode cX9_circleOf 5 = .ok (.istore_n 3, 1) := by decide +kernel
theorem dX9_circleOf_6 : decode cX9_circleOf 6 = .ok (.iconst 0, 1) := by decide +kernel
theorem dX9_circleOf_7 : decode cX9_circleOf 7 = .ok (.istore 4, 2) := by decide +kernel
theorem dX9_circleOf_9 : decode cX9_circleOf 9 = .ok (.iload 4, 2) := by decide +kernel
theorem dX9_circleOf_11 : decode cX9_circleOf 11 = .ok (.iconst 1, 1) := by decide +kernel
theorem dX9_circleOf_12 : decode cX9_circleOf 12 = .ok (.aload_n 0, 1) := by decide +kernel
theorem dX9_circleOf_13 : decode cX9_circleOf 13 = .ok (.getfield 30, 3) := by decide +kernel
theorem dX9_circleOf_16 : decode cX9_circleOf 16 = .ok (.getfield 150, 3) := by decide +kernel
theorem dX9_circleOf_19 : decode cX9_circleOf 19 = .ok (.ishl, 1) := by decide +kernel
theorem dX9_circleOf_20 : decode cX9_circleOf 20 = .ok (.if_icmp .ge 47, 3) := by decide +kernel
theorem dX9_circleOf_23 : decode cX9_circleOf 23 = .ok (.iload 4, 2) := by decide +kernel
theorem dX9_circleOf_25 : decode cX9_circleOf 25 = .ok (.invokestatic 177, 3) := by decide +kernel
theorem dX9_circleOf_28 : decode cX9_circleOf 28 = .ok (.istore 5, 2) := by decide +kernel
theorem dX9_circleOf_30 : decode cX9_circleOf 30 = .ok (.iload 5, 2) := by decide +kernel
theorem dX9_circleOf_32 : decode cX9_circleOf 32 = .ok (.iload_n 3, 1) := by decide +kernel
theorem dX9_circleOf_33 : decode cX9_circleOf 33 = .ok (.if_icmp .ge 28, 3) := by decide +kernel
theorem dX9_circleOf_36 : decode cX9_circleOf 36 = .ok (.iload 4, 2) := by decide +kernel
theorem dX9_circleOf_38 : decode cX9_circleOf 38 = .ok (.iload_n 1, 1) := by decide +kernel
theorem dX9_circleOf_39 : decode cX9_circleOf 39 = .ok (.invokestatic 210, 3) := by decide +kernel
theorem dX9_circleOf_42 : decode cX9_circleOf 42 = .ok (.ifCond .ne 19, 3) := by decide +kernel
theorem dX9_circleOf_45 : decode cX9_circleOf 45 = .ok (.aload_n 0, 1) := by decide +kernel
theorem dX9_circleOf_46 : decode cX9_circleOf 46 = .ok (.iload_n 1, 1) := by decide +kernel
theorem dX9_circleOf_47 : decode cX9_circleOf 47 = .ok (.iload 4, 2) := by decide +kernel
theorem dX9_circleOf_49 : decode cX9_circleOf 49 = .ok (.invokevirtual 286, 3) := by decide +kernel
theorem dX9_circleOf_52 : decode cX9_circleOf 52 = .ok (.ifCond .eq 9, 3) := by decide +kernel
theorem dX9_circleOf_55 : decode cX9_circleOf 55 = .ok (.iload 4, 2) := by decide +kernel
theorem dX9_circleOf_57 : decode cX9_circleOf 57 = .ok (.istore_n 2, 1) := by decide +kernel
theorem dX9_circleOf_58 : decode cX9_circleOf 58 = .ok (.iload 5, 2) := by decide +kernel
theorem dX9_circleOf_60 : decode cX9_circleOf 60 = .ok (.istore_n 3, 1) := by decide +kernel
theorem dX9_circleOf_61 : decode cX9_circleOf 61 = .ok (.iinc 4 1, 3) := by decide +kernel
theorem dX9_circleOf_64 : decode cX9_circleOf 64 = .ok (.goto (-55), 3) := by decide +kernel
theorem dX9_circleOf_67 : decode cX9_circleOf 67 = .ok (.iload_n 2, 1) := by decide +kernel
theorem dX9_circleOf_68 : decode cX9_circleOf 68 = .ok (.ireturn, 1) := by decide +kernel
theorem dX9_talks_0 : decode cX9_talks 0 = .ok (.aload_n 0, 1) := by decide +kernel
theorem dX9_talks_1 : decode cX9_talks 1 = .ok (.getfield 30, 3) := by decide +kernel
theorem dX9_talks_4 : decode cX9_talks 4 = .ok (.iload_n 1, 1) := by decide +kernel
theorem dX9_talks_5 : decode cX9_talks 5 = .ok (.invokevirtual 112, 3) := by decide +kernel
theorem dX9_talks_8 : decode cX9_talks 8 = .ok (.ifCond .ne 5, 3) := by decide +kernel
theorem dX9_talks_11 : decode cX9_talks 11 = .ok (.iconst (-1), 1) := by decide +kernel
theorem dX9_talks_12 : decode cX9_talks 12 = .ok (.ireturn, 1) := by decide +kernel
theorem dX9_talks_13 : decode cX9_talks 13 = .ok (.aload_n 0, 1) := by decide +kernel
theorem dX9_talks_14 : decode cX9_talks 14 = .ok (.iload_n 1, 1) := by decide +kernel
theorem dX9_talks_15 : decode cX9_talks 15 = .ok (.invokevirtual 283, 3) := by decide +kernel
theorem dX9_talks_18 : decode cX9_talks 18 = .ok (.istore_n 2, 1) := by decide +kernel
theorem dX9_talks_19 : decode cX9_talks 19 = .ok (.iload_n 2, 1) := by decide +kernel
theorem dX9_talks_20 : decode cX9_talks 20 = .ok (.bipush (-2), 2) := by decide +kernel
theorem dX9_talks_22 : decode cX9_talks 22 = .ok (.if_icmp .eq 11, 3) := by decide +kernel
theorem dX9_talks_25 : decode cX9_talks 25 = .ok (.iload_n 2, 1) := by decide +kernel
theorem dX9_talks_26 : decode cX9_talks 26 = .ok (.invokestatic 177, 3) := by decide +kernel
theorem dX9_talks_29 : decode cX9_talks 29 = .ok (.iconst 3, 1) := by decide +kernel
theorem dX9_talks_30 : decode cX9_talks 30 = .ok (.if_icmp .le 6, 3) := by decide +kernel
theorem dX9_talks_33 : decode cX9_talks 33 = .ok (.bipush (-2), 2) := by decide +kernel
theorem dX9_talks_35 : decode cX9_talks 35 = .ok (.ireturn, 1) := by decide +kernel
theorem dX9_talks_36 : decode cX9_talks 36 = .ok (.iload_n 2, 1) := by decide +kernel
theorem dX9_talks_37 : decode cX9_talks 37 = .ok (.invokestatic 177, 3) := by decide +kernel
theorem dX9_talks_40 : decode cX9_talks 40 = .ok (.ireturn, 1) := by decide +kernel
theorem dX9_rolesSaying_0 : decode cX9_rolesSaying 0 = .ok (.iconst 0, 1) := by decide +kernel
theorem dX9_rolesSaying_1 : decode cX9_rolesSaying 1 = .ok (.istore_n 2, 1) := by decide +kernel
theorem dX9_rolesSaying_2 : decode cX9_rolesSaying 2 = .ok (.iconst 0, 1) := by decide +kernel
theorem dX9_rolesSaying_3 : decode cX9_rolesSaying 3 = .ok (.istore_n 3, 1) := by decide +kernel
theorem dX9_rolesSaying_4 : decode cX9_rolesSaying 4 = .ok (.iload_n 3, 1) := by decide +kernel
theorem dX9_rolesSaying_5 : decode cX9_rolesSaying 5 = .ok (.aload_n 0, 1) := by decide +kernel
theorem dX9_rolesSaying_6 : decode cX9_rolesSaying 6 = .ok (.getfield 30, 3) := by decide +kernel
theorem dX9_rolesSaying_9 : decode cX9_rolesSaying 9 = .ok (.getfield 147, 3) := by decide +kernel
theorem dX9_rolesSaying_12 : decode cX9_rolesSaying 12 = .ok (.if_icmp .ge 34, 3) := by decide +kernel
theorem dX9_rolesSaying_15 : decode cX9_rolesSaying 15 = .ok (.aload_n 0, 1) := by decide +kernel
theorem dX9_rolesSaying_16 : decode cX9_rolesSaying 16 = .ok (.getfield 30, 3) := by decide +kernel
theorem dX9_rolesSaying_19 : decode cX9_rolesSaying 19 = .ok (.aload_n 0, 1) := by decide +kernel
theorem dX9_rolesSaying_20 : decode cX9_rolesSaying 20 = .ok (.getfield 40, 3) := by decide +kernel
theorem dX9_rolesSaying_23 : decode cX9_rolesSaying 23 = .ok (.iload_n 3, 1) := by decide +kernel
theorem dX9_rolesSaying_24 : decode cX9_rolesSaying 24 = .ok (.invokevirtual 108, 3) := by decide +kernel
theorem dX9_rolesSaying_27 : decode cX9_rolesSaying 27 = .ok (.iload_n 1, 1) := by decide +kernel
theorem dX9_rolesSaying_28 : decode cX9_rolesSaying 28 = .ok (.invokestatic 210, 3) := by decide +kernel
theorem dX9_rolesSaying_31 : decode cX9_rolesSaying 31 = .ok (.ifCond .eq 9, 3) := by decide +kernel
theorem dX9_rolesSaying_34 : decode cX9_rolesSaying 34 = .ok (.iload_n 2, 1) := by decide +kernel
theorem dX9_rolesSaying_35 : decode cX9_rolesSaying 35 = .ok (.iconst 1, 1) := by decide +kernel
theorem dX9_rolesSaying_36 : decode cX9_rolesSaying 36 = .ok (.iload_n 3, 1) := by decide +kernel
theorem dX9_rolesSaying_37 : decode cX9_rolesSaying 37 = .ok (.ishl, 1) := by decide +kernel
theorem dX9_rolesSaying_38 : decode cX9_rolesSaying 38 = .ok (.ior, 1) := by decide +kernel
theorem dX9_rolesSaying_39 : decode cX9_rolesSaying 39 = .ok (.istore_n 2, 1) := by decide +kernel
theorem dX9_rolesSaying_40 : decode cX9_rolesSaying 40 = .ok (.iinc 3 1, 3) := by decide +kernel
theorem dX9_rolesSaying_43 : decode cX9_rolesSaying 43 = .ok (.goto (-39), 3) := by decide +kernel
theorem dX9_rolesSaying_46 : decode cX9_rolesSaying 46 = .ok (.iload_n 2, 1) := by decide +kernel
theorem dX9_rolesSaying_47 : decode cX9_rolesSaying 47 = .ok (.ireturn, 1) := by decide +kernel
theorem dX10_term_0 : decode cX10_term 0 = .ok (.aload_n 0, 1) := by decide +kernel
theorem dX10_term_1 : decode cX10_term 1 = .ok (.getfield 98, 3) := by decide +kernel
theorem dX10_term_4 : decode cX10_term 4 = .ok (.aload_n 0, 1) := by decide +kernel
theorem dX10_term_5 : decode cX10_term 5 = .ok (.getfield 239, 3) := by decide +kernel
theorem dX10_term_8 : decode cX10_term 8 = .ok (.aload_n 0, 1) := by decide +kernel
theorem dX10_term_9 : decode cX10_term 9 = .ok (.getfield 242, 3) := by decide +kernel
theorem dX10_term_12 : decode cX10_term 12 = .ok (.iastore, 1) := by decide +kernel
theorem dX10_term_13 : decode cX10_term 13 = .ok (.aload_n 0, 1) := by decide +kernel
theorem dX10_term_14 : decode cX10_term 14 = .ok (.getfield 200, 3) := by decide +kernel
theorem dX10_term_17 : decode cX10_term 17 = .ok (.ifCond .ne 7, 3) := by decide +kernel
theorem dX10_term_20 : decode cX10_term 20 = .ok (.aload_n 0, 1) := by decide +kernel
theorem dX10_term_21 : decode cX10_term 21 = .ok (.invokevirtual 287, 3) := by decide +kernel
theorem dX10_term_24 : decode cX10_term 24 = .ok (.aload_n 0, 1) := by decide +kernel
theorem dX10_term_25 : decode cX10_term 25 = .ok (.getfield 101, 3) := by decide +kernel
theorem dX10_term_28 : decode cX10_term 28 = .ok (.aload_n 0, 1) := by decide +kernel
theorem dX10_term_29 : decode cX10_term 29 = .ok (.getfield 239, 3) := by decide +kernel
theorem dX10_term_32 : decode cX10_term 32 = .ok (.aload_n 0, 1) := by decide +kernel
theorem dX10_term_33 : decode cX10_term 33 = .ok (.getfield 242, 3) := by decide +kernel
theorem dX10_term_36 : decode cX10_term 36 = .ok (.iastore, 1) := by decide +kernel
theorem dX10_term_37 : decode cX10_term 37 = .ok (.aload_n 0, 1) := by decide +kernel
theorem dX10_term_38 : decode cX10_term 38 = .ok (.dup, 1) := by decide +kernel
theorem dX10_term_39 : decode cX10_term 39 = .ok (.getfield 239, 3) := by decide +kernel
theorem dX10_term_42 : decode cX10_term 42 = .ok (.iconst 1, 1) := by decide +kernel
theorem dX10_term_43 : decode cX10_term 43 = .ok (.iadd, 1) := by decide +kernel
theorem dX10_term_44 : decode cX10_term 44 = .ok (.putfield 239, 3) := by decide +kernel
theorem dX10_term_47 : decode cX10_term 47 = .ok (.return_, 1) := by decide +kernel
theorem dX0_takeBehindUnit_0 : decode cX0_takeBehindUnit 0 = .ok (.iload_n 1, 1) := by decide +kernel
theorem dX0_takeBehindUnit_1 : decode cX0_takeBehindUnit 1 = .ok (.invokestatic 77, 3) := by decide +kernel
theorem dX0_takeBehindUnit_4 : decode cX0_takeBehindUnit 4 = .ok (.istore_n 3, 1) := by decide +kernel
theorem dX0_takeBehindUnit_5 : decode cX0_takeBehindUnit 5 = .ok (.iload_n 3, 1) := by decide +kernel
theorem dX0_takeBehindUnit_6 : decode cX0_takeBehindUnit 6 = .ok (.ifCond .le 21, 3) := by decide +kernel
theorem dX0_takeBehindUnit_9 : decode cX0_takeBehindUnit 9 = .ok (.aload_n 0, 1) := by decide +kernel
theorem dX0_takeBehindUnit_10 : decode cX0_takeBehindUnit 10 = .ok (.iload_n 3, 1) := by decide +kernel
theorem dX0_takeBehindUnit_11 : decode cX0_takeBehindUnit 11 = .ok (.aload_n 2, 1) := by decide +kernel
theorem dX0_takeBehindUnit_12 : decode cX0_takeBehindUnit 12 = .ok (.invokevirtual 81, 3) := by decide +kernel
theorem dX0_takeBehindUnit_15 : decode cX0_takeBehindUnit 15 = .ok (.aload_n 0, 1) := by decide +kernel
theorem dX0_takeBehindUnit_16 : decode cX0_takeBehindUnit 16 = .ok (.iload_n 1, 1) := by decide +kernel
theorem dX0_takeBehindUnit_17 : decode cX0_takeBehindUnit 17 = .ok (.invokevirtual 68, 3) := by decide +kernel
theorem dX0_takeBehindUnit_20 : decode cX0_takeBehindUnit 20 = .ok (.aload_n 0, 1) := by decide +kernel
theorem dX0_takeBehindUnit_21 : decode cX0_takeBehindUnit 21 = .ok (.iconst 1, 1) := by decide +kernel
theorem dX0_takeBehindUnit_22 : decode cX0_takeBehindUnit 22 = .ok (.putfield 28, 3) := by decide +kernel
theorem dX0_takeBehindUnit_25 : decode cX0_takeBehindUnit 25 = .ok (.iconst 0, 1) := by decide +kernel
theorem dX0_takeBehindUnit_26 : decode cX0_takeBehindUnit 26 = .ok (.ireturn, 1) := by decide +kernel
theorem dX0_takeBehindUnit_27 : decode cX0_takeBehindUnit 27 = .ok (.aload_n 0, 1) := by decide +kernel
theorem dX0_takeBehindUnit_28 : decode cX0_takeBehindUnit 28 = .ok (.getfield 21, 3) := by decide +kernel
theorem dX0_takeBehindUnit_31 : decode cX0_takeBehindUnit 31 = .ok (.ifCond .le 10, 3) := by decide +kernel
theorem dX0_takeBehindUnit_34 : decode cX0_takeBehindUnit 34 = .ok (.aload_n 0, 1) := by decide +kernel
theorem dX0_takeBehindUnit_35 : decode cX0_takeBehindUnit 35 = .ok (.iload_n 1, 1) := by decide +kernel
theorem dX0_takeBehindUnit_36 : decode cX0_takeBehindUnit 36 = .ok (.aload_n 2, 1) := by decide +kernel
theorem dX0_takeBehindUnit_37 : decode cX0_takeBehindUnit 37 = .ok (.invokevirtual 85, 3) := by decide +kernel
theorem dX0_takeBehindUnit_40 : decode cX0_takeBehindUnit 40 = .ok (.ireturn, 1) := by decide +kernel
theorem dX0_takeBehindUnit_41 : decode cX0_takeBehindUnit 41 = .ok (.iload_n 1, 1) := by decide +kernel
theorem dX0_takeBehindUnit_42 : decode cX0_takeBehindUnit 42 = .ok (.aload_n 0, 1) := by decide +kernel
theorem dX0_takeBehindUnit_43 : decode cX0_takeBehindUnit 43 = .ok (.invokevirtual 88, 3) := by decide +kernel
theorem dX0_takeBehindUnit_46 : decode cX0_takeBehindUnit 46 = .ok (.if_icmp .eq 5, 3) := by decide +kernel
theorem dX0_takeBehindUnit_49 : decode cX0_takeBehindUnit 49 = .ok (.iconst 1, 1) := by decide +kernel
theorem dX0_takeBehindUnit_50 : decode cX0_takeBehindUnit 50 = .ok (.ireturn, 1) := by decide +kernel
theorem dX0_takeBehindUnit_51 : decode cX0_takeBehindUnit 51 = .ok (.aload_n 0, 1) := by decide +kernel
theorem dX0_takeBehindUnit_52 : decode cX0_takeBehindUnit 52 = .ok (.aload_n 2, 1) := by decide +kernel
theorem dX0_takeBehindUnit_53 : decode cX0_takeBehindUnit 53 = .ok (.invokevirtual 92, 3) := by decide +kernel
theorem dX0_takeBehindUnit_56 : decode cX0_takeBehindUnit 56 = .ok (.iconst 0, 1) := by decide +kernel
theorem dX0_takeBehindUnit_57 : decode cX0_takeBehindUnit 57 = .ok (.ireturn, 1) := by decide +kernel
theorem dX5_takeName_0 : decode cX5_takeName 0 = .ok (.aload_n 0, 1) := by decide +kernel
theorem dX5_takeName_1 : decode cX5_takeName 1 = .ok (.getfield 25, 3) := by decide +kernel
theorem dX5_takeName_4 : decode cX5_takeName 4 = .ok (.iconst 2, 1) := by decide +kernel
theorem dX5_takeName_5 : decode cX5_takeName 5 = .ok (.if_icmp .ne 9, 3) := by decide +kernel
theorem dX5_takeName_8 : decode cX5_takeName 8 = .ok (.aload_n 0, 1) := by decide +kernel
theorem dX5_takeName_9 : decode cX5_takeName 9 = .ok (.aload_n 1, 1) := by decide +kernel
theorem dX5_takeName_10 : decode cX5_takeName 10 = .ok (.invokevirtual 137, 3) := by decide +kernel
theorem dX5_takeName_13 : decode cX5_takeName 13 = .ok (.return_, 1) := by decide +kernel
theorem dX5_takeName_14 : decode cX5_takeName 14 = .ok (.aload_n 1, 1) := by decide +kernel
theorem dX5_takeName_15 : decode cX5_takeName 15 = .ok (.aload_n 0, 1) := by decide +kernel
theorem dX5_takeName_16 : decode cX5_takeName 16 = .ok (.getfield 12, 3) := by decide +kernel
theorem dX5_takeName_19 : decode cX5_takeName 19 = .ok (.getfield 140, 3) := by decide +kernel
theorem dX5_takeName_22 : decode cX5_takeName 22 = .ok (.invokevirtual 144, 3) := by decide +kernel
theorem dX5_takeName_25 : decode cX5_takeName 25 = .ok (.iconst (-1), 1) := by decide +kernel
theorem dX5_takeName_26 : decode cX5_takeName 26 = .ok (.if_icmp .ne 18, 3) := by decide +kernel
theorem dX5_takeName_29 : decode cX5_takeName 29 = .ok (.aload_n 1, 1) := by decide +kernel
theorem dX5_takeName_30 : decode cX5_takeName 30 = .ok (.aload_n 0, 1) := by decide +kernel
theorem dX5_takeName_31 : decode cX5_takeName 31 = .ok (.getfield 12, 3) := by decide +kernel
theorem dX5_takeName_34 : decode cX5_takeName 34 = .ok (.getfield 140, 3) := by decide +kernel
theorem dX5_takeName_37 : decode cX5_takeName 37 = .ok (.invokevirtual 148, 3) := by decide +kernel
theorem dX5_takeName_40 : decode cX5_takeName 40 = .ok (.iconst (-1), 1) := by decide +kernel
theorem dX5_takeName_41 : decode cX5_takeName 41 = .ok (.if_icmp .eq 8, 3) := by decide +kernel
theorem dX5_takeName_44 : decode cX5_takeName 44 = .ok (.aload_n 0, 1) := by decide +kernel
theorem dX5_takeName_45 : decode cX5_takeName 45 = .ok (.iconst 3, 1) := by decide +kernel
theorem dX5_takeName_46 : decode cX5_takeName 46 = .ok (.invokevirtual 151, 3) := by decide +kernel
theorem dX5_takeName_49 : decode cX5_takeName 49 = .ok (.aload_n 0, 1) := by decide +kernel
theorem dX5_takeName_50 : decode cX5_takeName 50 = .ok (.getfield 25, 3) := by decide +kernel
theorem dX5_takeName_53 : decode cX5_takeName 53 = .ok (.ifCond .ne 17, 3) := by decide +kernel
theorem dX5_takeName_56 : decode cX5_takeName 56 = .ok (.aload_n 1, 1) := by decide +kernel
theorem dX5_takeName_57 : decode cX5_takeName 57 = .ok (.aload_n 0, 1) := by decide +kernel
theorem dX5_takeName_58 : decode cX5_takeName 58 = .ok (.getfield 12, 3) := by decide +kernel
theorem dX5_takeName_61 : decode cX5_takeName 61 = .ok (.getfield 140, 3) := by decide +kernel
theorem dX5_takeName_64 : decode cX5_takeName 64 = .ok (.invokevirtual 154, 3) := by decide +kernel
theorem dX5_takeName_67 : decode cX5_takeName 67 = .ok (.goto 14, 3) := by decide +kernel
theorem dX5_takeName_70 : decode cX5_takeName 70 = .ok (.aload_n 1, 1) := by decide +kernel
theorem dX5_takeName_71 : decode cX5_takeName 71 = .ok (.aload_n 0, 1) := by decide +kernel
theorem dX5_takeName_72 : decode cX5_takeName 72 = .ok (.getfield 12, 3) := by decide +kernel
theorem dX5_takeName_75 : decode cX5_takeName 75 = .ok (.getfield 140, 3) := by decide +kernel
theorem dX5_takeName_78 : decode cX5_takeName 78 = .ok (.invokevirtual 158, 3) := by decide +kernel
theorem dX5_takeName_81 : decode cX5_takeName 81 = .ok (.return_, 1) := by decide +kernel
theorem dX6_passEvening_0 : decode cX6_passEvening 0 = .ok (.iconst 0, 1) := by decide +kernel
theorem dX6_passEvening_1 : decode cX6_passEvening 1 = .ok (.istore 4, 2) := by decide +kernel
theorem dX6_passEvening_3 : decode cX6_passEvening 3 = .ok (.aload_n 0, 1) := by decide +kernel
theorem dX6_passEvening_4 : decode cX6_passEvening 4 = .ok (.iload_n 2, 1) := by decide +kernel
theorem dX6_passEvening_5 : decode cX6_passEvening 5 = .ok (.invokevirtual 76, 3) := by decide +kernel
theorem dX6_passEvening_8 : decode cX6_passEvening 8 = .ok (.ifCond .eq 31, 3) := by decide +kernel
theorem dX6_passEvening_11 : decode cX6_passEvening 11 = .ok (.iload_n 3, 1) := by decide +kernel
theorem dX6_passEvening_12 : decode cX6_passEvening 12 = .ok (.ifCond .ne 27, 3) := by decide +kernel
theorem dX6_passEvening_15 : decode cX6_passEvening 15 = .ok (.aload_n 0, 1) := by decide +kernel
theorem dX6_passEvening_16 : decode cX6_passEvening 16 = .ok (.aload_n 1, 1) := by decide +kernel
theorem dX6_passEvening_17 : decode cX6_passEvening 17 = .ok (.iload_n 2, 1) := by decide +kernel
theorem dX6_passEvening_18 : decode cX6_passEvening 18 = .ok (.aload_n 0, 1) := by decide +kernel
theorem dX6_passEvening_19 : decode cX6_passEvening 19 = .ok (.aload_n 1, 1) := by decide +kernel
theorem dX6_passEvening_20 : decode cX6_passEvening 20 = .ok (.iload_n 2, 1) := by decide +kernel
theorem dX6_passEvening_21 : decode cX6_passEvening 21 = .ok (.invokevirtual 163, 3) := by decide +kernel
theorem dX6_passEvening_24 : decode cX6_passEvening 24 = .ok (.invokevirtual 166, 3) := by decide +kernel
theorem dX6_passEvening_27 : decode cX6_passEvening 27 = .ok (.istore 4, 2) := by decide +kernel
theorem dX6_passEvening_29 : decode cX6_passEvening 29 = .ok (.aload_n 1, 1) := by decide +kernel
theorem dX6_passEvening_30 : decode cX6_passEvening 30 = .ok (.getfield 93, 3) := by decide +kernel
theorem dX6_passEvening_33 : decode cX6_passEvening 33 = .ok (.iload_n 2, 1) := by decide +kernel
theorem dX6_passEvening_34 : decode cX6_passEvening 34 = .ok (.dup2, 1) := by decide +kernel
theorem dX6_passEvening_35 : decode cX6_passEvening 35 = .ok (.iaload, 1) := by decide +kernel
theorem dX6_passEvening_36 : decode cX6_passEvening 36 = .ok (.iconst 1, 1) := by decide +kernel
theorem dX6_passEvening_37 : decode cX6_passEvening 37 = .ok (.iadd, 1) := by decide +kernel
theorem dX6_passEvening_38 : decode cX6_passEvening 38 = .ok (.iastore, 1) := by decide +kernel
theorem dX6_passEvening_39 : decode cX6_passEvening 39 = .ok (.iconst 0, 1) := by decide +kernel
theorem dX6_passEvening_40 : decode cX6_passEvening 40 = .ok (.istore 5, 2) := by decide +kernel
theorem dX6_passEvening_42 : decode cX6_passEvening 42 = .ok (.iload 5, 2) := by decide +kernel
theorem dX6_passEvening_44 : decode cX6_passEvening 44 = .ok (.aload_n 0, 1) := by decide +kernel
theorem dX6_passEvening_45 : decode cX6_passEvening 45 = .ok (.getfield 9, 3) := by decide +kernel
theorem dX6_passEvening_48 : decode cX6_passEvening 48 = .ok (.if_icmp .ge 29, 3) := by decide +kernel
theorem dX6_passEvening_51 : decode cX6_passEvening 51 = .ok (.aload_n 1, 1) := by decide +kernel
theorem dX6_passEvening_52 : decode cX6_passEvening 52 = .ok (.getfield 96, 3) := by decide +kernel
theorem dX6_passEvening_55 : decode cX6_passEvening 55 = .ok (.iload 5, 2) := by decide +kernel
theorem dX6_passEvening_57 : decode cX6_passEvening 57 = .ok (.iconst 0, 1) := by decide +kernel
theorem dX6_passEvening_58 : decode cX6_passEvening 58 = .ok (.aload_n 1, 1) := by decide +kernel
theorem dX6_passEvening_59 : decode cX6_passEvening 59 = .ok (.getfield 96, 3) := by decide +kernel
theorem dX6_passEvening_62 : decode cX6_passEvening 62 = .ok (.iload 5, 2) := by decide +kernel
theorem dX6_passEvening_64 : decode cX6_passEvening 64 = .ok (.iaload, 1) := by decide +kernel
theorem dX6_passEvening_65 : decode cX6_passEvening 65 = .ok (.iconst 1, 1) := by decide +kernel
theorem dX6_passEvening_66 : decode cX6_passEvening 66 = .ok (.isub, 1) := by decide +kernel
theorem dX6_passEvening_67 : decode cX6_passEvening 67 = .ok (.invokestatic 170, 3) := by decide +kernel
theorem dX6_passEvening_70 : decode cX6_passEvening 70 = .ok (.iastore, 1) := by decide +kernel
theorem dX6_passEvening_71 : decode cX6_passEvening 71 = .ok (.iinc 5 1, 3) := by decide +kernel
theorem dX6_passEvening_74 : decode cX6_passEvening 74 = .ok (.goto (-32), 3) := by decide +kernel
theorem dX6_passEvening_77 : decode cX6_passEvening 77 = .ok (.iload 4, 2) := by decide +kernel
theorem dX6_passEvening_79 : decode cX6_passEvening 79 = .ok (.ifCond .eq 23, 3) := by decide +kernel
theorem dX6_passEvening_82 : decode cX6_passEvening 82 = .ok (.aload_n 1, 1) := by decide +kernel
theorem dX6_passEvening_83 : decode cX6_passEvening 83 = .ok (.getfield 96, 3) := by decide +kernel
theorem dX6_passEvening_86 : decode cX6_passEvening 86 = .ok (.iload_n 2, 1) := by decide +kernel
theorem dX6_passEvening_87 : decode cX6_passEvening 87 = .ok (.aload_n 0, 1) := by decide +kernel
theorem dX6_passEvening_88 : decode cX6_passEvening 88 = .ok (.getfield 57, 3) := by decide +kernel
theorem dX6_passEvening_91 : decode cX6_passEvening 91 = .ok (.iastore, 1) := by decide +kernel
theorem dX6_passEvening_92 : decode cX6_passEvening 92 = .ok (.aload_n 1, 1) := by decide +kernel
theorem dX6_passEvening_93 : decode cX6_passEvening 93 = .ok (.dup, 1) := by decide +kernel
theorem dX6_passEvening_94 : decode cX6_passEvening 94 = .ok (.getfield 107, 3) := by decide +kernel
theorem dX6_passEvening_97 : decode cX6_passEvening 97 = .ok (.iconst 1, 1) := by decide +kernel
theorem dX6_passEvening_98 : decode cX6_passEvening 98 = .ok (.iadd, 1) := by decide +kernel
theorem dX6_passEvening_99 : decode cX6_passEvening 99 = .ok (.putfield 107, 3) := by decide +kernel
theorem dX6_passEvening_102 : decode cX6_passEvening 102 = .ok (.aload_n 1, 1) := by decide +kernel
theorem dX6_passEvening_103 : decode cX6_passEvening 103 = .ok (.iconst (-1), 1) := by decide +kernel
theorem dX6_passEvening_104 : decode cX6_passEvening 104 = .ok (.putfield 104, 3) := by decide +kernel
theorem dX6_passEvening_107 : decode cX6_passEvening 107 = .ok (.aload_n 1, 1) := by decide +kernel
theorem dX6_passEvening_108 : decode cX6_passEvening 108 = .ok (.dup, 1) := by decide +kernel
theorem dX6_passEvening_109 : decode cX6_passEvening 109 = .ok (.getfield 101, 3) := by decide +kernel
theorem dX6_passEvening_112 : decode cX6_passEvening 112 = .ok (.iconst 1, 1) := by decide +kernel
theorem dX6_passEvening_113 : decode cX6_passEvening 113 = .ok (.iadd, 1) := by decide +kernel
theorem dX6_passEvening_114 : decode cX6_passEvening 114 = .ok (.putfield 101, 3) := by decide +kernel
theorem dX6_passEvening_117 : decode cX6_passEvening 117 = .ok (.return_, 1) := by decide +kernel
set_option maxRecDepth 100000 in
set_option maxHeartbeats 4000000 in
theorem tX5_takeReally_86 (G : gx) (fu : Nat) (h0 : mh) (v0 : Nat) (v1 : Nat) (v2 : Int32) (h : mh) : Ev lV G yX5_takeReally cX5_takeReally 3 (none) 3 h0 86 [(0, .ref (gB G + v0)), (1, .ref (gB G + v1)), (2, .int v2)] [] h (fX5_takeReally_86 fu v0 v1 v2 h) := by
  unfold fX5_takeReally_86
  refine ev_step (st_aload_n (pc := 86) (j := 1) dX5_takeReally_86 rfl rfl) ?_
  refine ev_step (st_aload_n (pc := 87) (j := 0) dX5_takeReally_87 rfl rfl) ?_
  refine ev_getI (pc := 88) k_X5_32 rfl dX5_takeReally_88 (fun x1 => ?_)
  refine ev_step (st_iload_n (pc := 91) (j := 2) dX5_takeReally_91 rfl rfl) ?_
  refine ev_ck (fun ha hS => ?_)
  refine ev_callV (iv_V (As := [.int x1, .int v2]) (st := []) (pc := 92) rfl m_X6_addReally l_X5_165 i_X6_addReally e_X6_addReally ha hS rfl (Nat.le_of_ble_eq_true rfl) rfl dX5_takeReally_92) (tX6_addReally G fu v1 x1 v2 h) (by decide) (by decide) (fun h2 => ?_)
  exact ev_vret (pc := 95) dX5_takeReally_95
set_option maxRecDepth 100000 in
set_option maxHeartbeats 4000000 in
theorem tX5_takeReally (G : gx) (fu : Nat) (v0 : Nat) (v1 : Nat) (h : mh) : Ct lV G yX5_takeReally cX5_takeReally 3 (none) 3 [.ref (gB G + v0), .ref (gB G + v1)] h (fX5_takeReally fu v0 v1 h) := by
  refine ct_ls (ls := [(0, .ref (gB G + v0)), (1, .ref (gB G + v1))]) rfl (by decide) (Nat.le_of_ble_eq_true rfl) ?_
  unfold fX5_takeReally
  refine ev_step (st_aload_n (pc := 0) (j := 0) dX5_takeReally_0 rfl rfl) ?_
  refine ev_getI (pc := 1) k_X5_29 rfl dX5_takeReally_1 (fun x1 => ?_)
  refine ev_br (br_if_ne (tgt := 36) (pc := 4) dX5_takeReally_4 (by decide)) (fun _ => ?_) (fun _ => ?_)
  · refine ev_step (st_aload_n (pc := 7) (j := 0) dX5_takeReally_7 rfl rfl) ?_
    refine ev_step (st_aload_n (pc := 8) (j := 1) dX5_takeReally_8 rfl rfl) ?_
    refine ev_step (st_aload_n (pc := 9) (j := 0) dX5_takeReally_9 rfl rfl) ?_
    refine ev_getR (pc := 10) k_X5_12 rfl dX5_takeReally_10 (fun a2 => ?_)
    refine ev_getL (pc := 13) k_X5_140 rfl dX5_takeReally_13 (fun x3 => ?_)
    refine ev_ck (fun ha hS => ?_)
    refine ev_callI (iv_V (As := [.long x3]) (st := [.ref (gB G + v0)]) (pc := 16) rfl m_X6_listenerNamed l_X5_148 i_X6_listenerNamed e_X6_listenerNamed ha hS rfl (Nat.le_of_ble_eq_true rfl) rfl dX5_takeReally_16) (tX6_listenerNamed G fu v1 x3 h) (by decide) (by decide) (fun x5 h4 => ?_)
    refine ev_putI (pc := 19) (p_X5_32 _ rfl) rfl dX5_takeReally_19 (fun h6 => ?_)
    refine ev_step (st_aload_n (pc := 22) (j := 0) dX5_takeReally_22 rfl rfl) ?_
    refine ev_getI (pc := 23) k_X5_32 rfl dX5_takeReally_23 (fun x7 => ?_)
    refine ev_step (st_iconst (pc := 26) dX5_takeReally_26 ni_m1) ?_
    refine ev_br (br_icmp_ne (tgt := 35) (pc := 27) dX5_takeReally_27 (by decide)) (fun _ => ?_) (fun _ => ?_)
    · refine ev_step (st_aload_n (pc := 30) (j := 0) dX5_takeReally_30 rfl rfl) ?_
      refine ev_step (st_iconst (pc := 31) dX5_takeReally_31 ni_4) ?_
      refine ev_ck (fun ha hS => ?_)
      refine ev_callV (iv_V (As := [.int ((4 : Int32))]) (st := []) (pc := 32) rfl m_X5_note l_X5_151 i_X5_note e_X5_note ha hS rfl (Nat.le_of_ble_eq_true rfl) rfl dX5_takeReally_32) (tX5_note G fu v0 ((4 : Int32)) h6) (by decide) (by decide) (fun h8 => ?_)
      exact ev_vret (pc := 35) dX5_takeReally_35
    · exact ev_vret (pc := 35) dX5_takeReally_35
  · refine ev_step (st_aload_n (pc := 36) (j := 1) dX5_takeReally_36 rfl rfl) ?_
    refine ev_step (st_aload_n (pc := 37) (j := 0) dX5_takeReally_37 rfl rfl) ?_
    refine ev_getR (pc := 38) k_X5_12 rfl dX5_takeReally_38 (fun a9 => ?_)
    refine ev_getL (pc := 41) k_X5_140 rfl dX5_takeReally_41 (fun x10 => ?_)
    refine ev_ck (fun ha hS => ?_)
    refine ev_callI (iv_V (As := [.long x10]) (st := []) (pc := 44) rfl m_X6_roleNamed l_X5_144 i_X6_roleNamed e_X6_roleNamed ha hS rfl (Nat.le_of_ble_eq_true rfl) rfl dX5_takeReally_44) (tX6_roleNamed G fu v1 x10 h) (by decide) (by decide) (fun x12 h11 => ?_)
    refine ev_step (st_istore_n (pc := 47) (ls' := [(2, .int x12), (0, .ref (gB G + v0)), (1, .ref (gB G + v1))]) dX5_takeReally_47 rfl (by decide) rfl) ?_
    refine ev_step (st_iload_n (pc := 48) (j := 0) dX5_takeReally_48 rfl rfl) ?_
    refine ev_step (st_iconst (pc := 49) dX5_takeReally_49 ni_m1) ?_
    refine ev_br (br_icmp_ne (tgt := 61) (pc := 50) dX5_takeReally_50 (by decide)) (fun _ => ?_) (fun _ => ?_)
    · refine ev_step (st_aload_n (pc := 53) (j := 1) dX5_takeReally_53 rfl rfl) ?_
      refine ev_step (st_iconst (pc := 54) dX5_takeReally_54 ni_4) ?_
      refine ev_ck (fun ha hS => ?_)
      refine ev_callV (iv_V (As := [.int ((4 : Int32))]) (st := []) (pc := 55) rfl m_X5_note l_X5_151 i_X5_note e_X5_note ha hS rfl (Nat.le_of_ble_eq_true rfl) rfl dX5_takeReally_55) (tX5_note G fu v0 ((4 : Int32)) h11) (by decide) (by decide) (fun h13 => ?_)
      refine ev_step (st_goto (pc := 58) (tgt := 86) dX5_takeReally_58 (by decide)) ?_
      refine ev_sub (ls' := [(0, .ref (gB G + v0)), (1, .ref (gB G + v1)), (2, .int x12)]) [1, 2, 0] rfl ?_
      exact tX5_takeReally_86 G fu h v0 v1 x12 h13
    · refine ev_step (st_aload_n (pc := 61) (j := 1) dX5_takeReally_61 rfl rfl) ?_
      refine ev_getI (pc := 62) k_X5_32 rfl dX5_takeReally_62 (fun x14 => ?_)
      refine ev_step (st_iconst (pc := 65) dX5_takeReally_65 ni_m1) ?_
      refine ev_br (br_icmp_eq (tgt := 86) (pc := 66) dX5_takeReally_66 (by decide)) (fun _ => ?_) (fun _ => ?_)
      · refine ev_sub (ls' := [(0, .ref (gB G + v0)), (1, .ref (gB G + v1)), (2, .int x12)]) [1, 2, 0] rfl ?_
        exact tX5_takeReally_86 G fu h v0 v1 x12 h11
      · refine ev_step (st_aload_n (pc := 69) (j := 2) dX5_takeReally_69 rfl rfl) ?_
        refine ev_step (st_aload_n (pc := 70) (j := 1) dX5_takeReally_70 rfl rfl) ?_
        refine ev_getI (pc := 71) k_X5_32 rfl dX5_takeReally_71 (fun x15 => ?_)
        refine ev_step (st_iload_n (pc := 74) (j := 0) dX5_takeReally_74 rfl rfl) ?_
        refine ev_ck (fun ha hS => ?_)
        refine ev_callI (iv_V (As := [.int x15, .int x12]) (st := []) (pc := 75) rfl m_X6_isReally l_X5_161 i_X6_isReally e_X6_isReally ha hS rfl (Nat.le_of_ble_eq_true rfl) rfl dX5_takeReally_75) (tX6_isReally G fu v1 x15 x12 h11) (by decide) (by decide) (fun x17 h16 => ?_)
        refine ev_br (br_if_eq (tgt := 86) (pc := 78) dX5_takeReally_78 (by decide)) (fun _ => ?_) (fun _ => ?_)
        · refine ev_sub (ls' := [(0, .ref (gB G + v0)), (1, .ref (gB G + v1)), (2, .int x12)]) [1, 2, 0] rfl ?_
          exact tX5_takeReally_86 G fu h v0 v1 x12 h16
        · refine ev_step (st_aload_n (pc := 81) (j := 1) dX5_takeReally_81 rfl rfl) ?_
          refine ev_step (st_iconst (pc := 82) dX5_takeReally_82 ni_3) ?_
          refine ev_ck (fun ha hS => ?_)
          refine ev_callV (iv_V (As := [.int ((3 : Int32))]) (st := []) (pc := 83) rfl m_X5_note l_X5_151 i_X5_note e_X5_note ha hS rfl (Nat.le_of_ble_eq_true rfl) rfl dX5_takeReally_83) (tX5_note G fu v0 ((3 : Int32)) h16) (by decide) (by decide) (fun h18 => ?_)
          refine ev_sub (ls' := [(0, .ref (gB G + v0)), (1, .ref (gB G + v1)), (2, .int x12)]) [1, 2, 0] rfl ?_
          exact tX5_takeReally_86 G fu h v0 v1 x12 h18
set_option maxRecDepth 100000 in
set_option maxHeartbeats 4000000 in
theorem tX6_saidBy_116 (G : gx) (fu : Nat) (h0 : mh) (v0 : Nat) (v1 : Nat) (v2 : Int32) (v3 : Int32) (v4 : Int32) (k66 : Int32 × Int32 × mh → Option (Int32 × mh)) (hk66 : ∀ (v3 : Int32) (v4 : Int32) (h : mh), Ev lI G yX6_saidBy cX6_saidBy 5 (some .int) 4 h0 66 [(0, .ref (gB G + v0)), (1, .ref (gB G + v1)), (2, .int v2), (3, .int v3), (4, .int v4)] [] h (k66 (v3, v4, h))) (h : mh) : Ev lI G yX6_saidBy cX6_saidBy 5 (some .int) 4 h0 116 [(0, .ref (gB G + v0)), (1, .ref (gB G + v1)), (2, .int v2), (3, .int v3), (4, .int v4)] [] h (fX6_saidBy_116 fu k66 v0 v1 v2 v3 v4 h) := by
  unfold fX6_saidBy_116
  refine ev_step (st_inc (pc := 116) (j := 4) (ls' := [(4, .int (v4 + (1 : Int32))), (0, .ref (gB G + v0)), (1, .ref (gB G + v1)), (2, .int v2), (3, .int v3)]) dX6_saidBy_116 rfl ni_1 (by decide) rfl) ?_
  refine ev_step (st_goto (pc := 119) (tgt := 66) dX6_saidBy_119 (by decide)) ?_
  refine ev_sub (ls' := [(0, .ref (gB G + v0)), (1, .ref (gB G + v1)), (2, .int v2), (3, .int v3), (4, .int (v4 + (1 : Int32)))]) [1, 2, 3, 4, 0] rfl ?_
  exact hk66 v3 (v4 + (1 : Int32)) h
set_option maxRecDepth 100000 in
set_option maxHeartbeats 4000000 in
theorem tX6_saidBy_66 (G : gx) (fu : Nat) (h0 : mh) (v0 : Nat) (v1 : Nat) (v2 : Int32) (n : Nat) (v3 : Int32) (v4 : Int32) (h : mh) : Ev lI G yX6_saidBy cX6_saidBy 5 (some .int) 4 h0 66 [(0, .ref (gB G + v0)), (1, .ref (gB G + v1)), (2, .int v2), (3, .int v3), (4, .int v4)] [] h (itr (bX6_saidBy_66 fu v0 v1 v2) n (v3, v4, h)) := by
  refine ev_itr (P := fun (q : Int32 × Int32 × mh) (R9 : Option (Int32 × mh)) => Ev lI G yX6_saidBy cX6_saidBy 5 (some .int) 4 h0 66 [(0, .ref (gB G + v0)), (1, .ref (gB G + v1)), (2, .int v2), (3, .int q.1), (4, .int q.2.1)] [] q.2.2 R9) (fun _ => ev_none) (fun k66 hk9 q => ?_) n (v3, v4, h)
  obtain ⟨v3, v4, h⟩ := q
  have hk66 : ∀ (v3 : Int32) (v4 : Int32) (h : mh), Ev lI G yX6_saidBy cX6_saidBy 5 (some .int) 4 h0 66 [(0, .ref (gB G + v0)), (1, .ref (gB G + v1)), (2, .int v2), (3, .int v3), (4, .int v4)] [] h (k66 (v3, v4, h)) := fun v3 v4 h => hk9 (v3, v4, h)
  show Ev lI G yX6_saidBy cX6_saidBy 5 (some .int) 4 h0 66 [(0, .ref (gB G + v0)), (1, .ref (gB G + v1)), (2, .int v2), (3, .int v3), (4, .int v4)] [] h (bX6_saidBy_66 fu v0 v1 v2 k66 (v3, v4, h))
  unfold bX6_saidBy_66
  refine ev_step (st_iload (pc := 66) (j := 4) dX6_saidBy_66 rfl) ?_
  refine ev_step (st_bipush (pc := 68) dX6_saidBy_68 nb_8) ?_
  refine ev_br (br_icmp_ge (tgt := 122) (pc := 70) dX6_saidBy_70 (by decide)) (fun _ => ?_) (fun _ => ?_)
  · refine ev_step (st_iload_n (pc := 122) (j := 3) dX6_saidBy_122 rfl rfl) ?_
    exact ev_iret (pc := 123) dX6_saidBy_123
  · refine ev_step (st_aload_n (pc := 73) (j := 0) dX6_saidBy_73 rfl rfl) ?_
    refine ev_getR (pc := 74) k_X6_50 rfl dX6_saidBy_74 (fun a1 => ?_)
    refine ev_getR (pc := 77) k_X6_135 rfl dX6_saidBy_77 (fun a2 => ?_)
    refine ev_step (st_iconst (pc := 80) dX6_saidBy_80 ni_2) ?_
    refine ev_step (st_iload (pc := 81) (j := 4) dX6_saidBy_81 rfl) ?_
    refine ev_sti (pc := 83) dX6_saidBy_83 (fun h3 => ?_)
    refine ev_step (st_aload_n (pc := 84) (j := 0) dX6_saidBy_84 rfl rfl) ?_
    refine ev_getR (pc := 85) k_X6_19 rfl dX6_saidBy_85 (fun a4 => ?_)
    refine ev_step (st_iload_n (pc := 88) (j := 2) dX6_saidBy_88 rfl rfl) ?_
    refine ev_ldi (pc := 89) dX6_saidBy_89 (fun x5 => ?_)
    refine ev_step (st_iload (pc := 90) (j := 4) dX6_saidBy_90 rfl) ?_
    refine ev_callI (iv_S (As := [.int x5, .int v4]) (st := []) (pc := 92) m_X9_holds l_X6_110 z_X9_holds rfl (Nat.le_of_ble_eq_true rfl) rfl dX6_saidBy_92) (tX9_holds G fu x5 v4 h3) (by decide) (by decide) (fun x7 h6 => ?_)
    refine ev_br (br_if_eq (tgt := 116) (pc := 95) dX6_saidBy_95 (by decide)) (fun _ => ?_) (fun _ => ?_)
    · refine ev_sub (ls' := [(0, .ref (gB G + v0)), (1, .ref (gB G + v1)), (2, .int v2), (3, .int v3), (4, .int v4)]) [0, 1, 2, 3, 4] rfl ?_
      exact tX6_saidBy_116 G fu h0 v0 v1 v2 v3 v4 k66 hk66 h6
    · refine ev_step (st_aload_n (pc := 98) (j := 0) dX6_saidBy_98 rfl rfl) ?_
      refine ev_getR (pc := 99) k_X6_50 rfl dX6_saidBy_99 (fun a8 => ?_)
      refine ev_step (st_iconst (pc := 102) dX6_saidBy_102 ni_0) ?_
      refine ev_ck (fun ha hS => ?_)
      refine ev_callI (iv_V (As := [.int ((0 : Int32))]) (st := []) (pc := 103) rfl m_X1_tell l_X6_138 i_X1_tell e_X1_tell ha hS rfl (Nat.le_of_ble_eq_true rfl) rfl dX6_saidBy_103) (tX1_tell G fu a8 ((0 : Int32)) h6) (by decide) (by decide) (fun x10 h9 => ?_)
      refine ev_br (br_if_le (tgt := 116) (pc := 106) dX6_saidBy_106 (by decide)) (fun _ => ?_) (fun _ => ?_)
      · refine ev_sub (ls' := [(0, .ref (gB G + v0)), (1, .ref (gB G + v1)), (2, .int v2), (3, .int v3), (4, .int v4)]) [0, 1, 2, 3, 4] rfl ?_
        exact tX6_saidBy_116 G fu h0 v0 v1 v2 v3 v4 k66 hk66 h9
      · refine ev_step (st_iload_n (pc := 109) (j := 3) dX6_saidBy_109 rfl rfl) ?_
        refine ev_step (st_iconst (pc := 110) dX6_saidBy_110 ni_1) ?_
        refine ev_step (st_iload (pc := 111) (j := 4) dX6_saidBy_111 rfl) ?_
        refine ev_step (st_ishl (pc := 113) dX6_saidBy_113) ?_
        refine ev_step (st_ior (pc := 114) dX6_saidBy_114) ?_
        refine ev_top (fun x11 => ?_)
        refine ev_step (st_istore_n (pc := 115) (ls' := [(3, .int x11), (0, .ref (gB G + v0)), (1, .ref (gB G + v1)), (2, .int v2), (4, .int v4)]) dX6_saidBy_115 rfl (by decide) rfl) ?_
        refine ev_sub (ls' := [(0, .ref (gB G + v0)), (1, .ref (gB G + v1)), (2, .int v2), (3, .int x11), (4, .int v4)]) [1, 2, 3, 0, 4] rfl ?_
        exact tX6_saidBy_116 G fu h0 v0 v1 v2 x11 v4 k66 hk66 h9
set_option maxRecDepth 100000 in
set_option maxHeartbeats 4000000 in
theorem tX6_saidBy (G : gx) (fu : Nat) (v0 : Nat) (v1 : Nat) (v2 : Int32) (h : mh) : Ct lI G yX6_saidBy cX6_saidBy 5 (some .int) 4 [.ref (gB G + v0), .ref (gB G + v1), .int v2] h (fX6_saidBy fu v0 v1 v2 h) := by
  refine ct_ls (ls := [(0, .ref (gB G + v0)), (1, .ref (gB G + v1)), (2, .int v2)]) rfl (by decide) (Nat.le_of_ble_eq_true rfl) ?_
  unfold fX6_saidBy
  refine ev_step (st_aload_n (pc := 0) (j := 0) dX6_saidBy_0 rfl rfl) ?_
  refine ev_getR (pc := 1) k_X6_50 rfl dX6_saidBy_1 (fun a1 => ?_)
  refine ev_ck (fun ha hS => ?_)
  refine ev_callV (iv_V (As := []) (st := []) (pc := 4) rfl m_X1_forgetVars l_X6_132 i_X1_forgetVars e_X1_forgetVars ha hS rfl (Nat.le_of_ble_eq_true rfl) rfl dX6_saidBy_4) (tX1_forgetVars G fu a1 h) (by decide) (by decide) (fun h2 => ?_)
  refine ev_step (st_aload_n (pc := 7) (j := 0) dX6_saidBy_7 rfl rfl) ?_
  refine ev_getR (pc := 8) k_X6_50 rfl dX6_saidBy_8 (fun a3 => ?_)
  refine ev_getR (pc := 11) k_X6_135 rfl dX6_saidBy_11 (fun a4 => ?_)
  refine ev_step (st_iconst (pc := 14) dX6_saidBy_14 ni_0) ?_
  refine ev_step (st_aload_n (pc := 15) (j := 0) dX6_saidBy_15 rfl rfl) ?_
  refine ev_getR (pc := 16) k_X6_23 rfl dX6_saidBy_16 (fun a5 => ?_)
  refine ev_step (st_iload_n (pc := 19) (j := 2) dX6_saidBy_19 rfl rfl) ?_
  refine ev_ldi (pc := 20) dX6_saidBy_20 (fun x6 => ?_)
  refine ev_sti (pc := 21) dX6_saidBy_21 (fun h7 => ?_)
  refine ev_step (st_aload_n (pc := 22) (j := 0) dX6_saidBy_22 rfl rfl) ?_
  refine ev_getR (pc := 23) k_X6_50 rfl dX6_saidBy_23 (fun a8 => ?_)
  refine ev_getR (pc := 26) k_X6_135 rfl dX6_saidBy_26 (fun a9 => ?_)
  refine ev_step (st_iconst (pc := 29) dX6_saidBy_29 ni_1) ?_
  refine ev_step (st_aload_n (pc := 30) (j := 1) dX6_saidBy_30 rfl rfl) ?_
  refine ev_getR (pc := 31) k_X6_93 rfl dX6_saidBy_31 (fun a10 => ?_)
  refine ev_step (st_iload_n (pc := 34) (j := 2) dX6_saidBy_34 rfl rfl) ?_
  refine ev_ldi (pc := 35) dX6_saidBy_35 (fun x11 => ?_)
  refine ev_sti (pc := 36) dX6_saidBy_36 (fun h12 => ?_)
  refine ev_step (st_aload_n (pc := 37) (j := 0) dX6_saidBy_37 rfl rfl) ?_
  refine ev_getR (pc := 38) k_X6_50 rfl dX6_saidBy_38 (fun a13 => ?_)
  refine ev_getR (pc := 41) k_X6_135 rfl dX6_saidBy_41 (fun a14 => ?_)
  refine ev_step (st_iconst (pc := 44) dX6_saidBy_44 ni_3) ?_
  refine ev_step (st_aload_n (pc := 45) (j := 1) dX6_saidBy_45 rfl rfl) ?_
  refine ev_getI (pc := 46) k_X6_101 rfl dX6_saidBy_46 (fun x15 => ?_)
  refine ev_sti (pc := 49) dX6_saidBy_49 (fun h16 => ?_)
  refine ev_step (st_aload_n (pc := 50) (j := 0) dX6_saidBy_50 rfl rfl) ?_
  refine ev_getR (pc := 51) k_X6_50 rfl dX6_saidBy_51 (fun a17 => ?_)
  refine ev_getR (pc := 54) k_X6_135 rfl dX6_saidBy_54 (fun a18 => ?_)
  refine ev_step (st_bipush (pc := 57) dX6_saidBy_57 nb_7) ?_
  refine ev_step (st_iload_n (pc := 59) (j := 2) dX6_saidBy_59 rfl rfl) ?_
  refine ev_sti (pc := 60) dX6_saidBy_60 (fun h19 => ?_)
  refine ev_step (st_iconst (pc := 61) dX6_saidBy_61 ni_0) ?_
  refine ev_step (st_istore_n (pc := 62) (ls' := [(3, .int ((0 : Int32))), (0, .ref (gB G + v0)), (1, .ref (gB G + v1)), (2, .int v2)]) dX6_saidBy_62 rfl (by decide) rfl) ?_
  refine ev_step (st_iconst (pc := 63) dX6_saidBy_63 ni_0) ?_
  refine ev_step (st_istore (pc := 64) (ls' := [(4, .int ((0 : Int32))), (3, .int ((0 : Int32))), (0, .ref (gB G + v0)), (1, .ref (gB G + v1)), (2, .int v2)]) dX6_saidBy_64 (by decide) rfl) ?_
  refine ev_sub (ls' := [(0, .ref (gB G + v0)), (1, .ref (gB G + v1)), (2, .int v2), (3, .int ((0 : Int32))), (4, .int ((0 : Int32)))]) [2, 3, 4, 1, 0] rfl ?_
  exact tX6_saidBy_66 G fu h v0 v1 v2 fu ((0 : Int32)) ((0 : Int32)) h19
set_option maxRecDepth 100000 in
set_option maxHeartbeats 4000000 in
theorem tX6_crackles (G : gx) (fu : Nat) (v0 : Nat) (v1 : Int32) (v2 : Int32) (h : mh) : Ct lI G yX6_crackles cX6_crackles 3 (some .boolean) 3 [.ref (gB G + v0), .int v1, .int v2] h (fX6_crackles fu v0 v1 v2 h) := by
  refine ct_ls (ls := [(0, .ref (gB G + v0)), (1, .int v1), (2, .int v2)]) rfl (by decide) (Nat.le_of_ble_eq_true rfl) ?_
  unfold fX6_crackles
  refine ev_step (st_bipush (pc := 0) dX6_crackles_0 nb_100) ?_
  refine ev_step (st_iload_n (pc := 2) (j := 1) dX6_crackles_2 rfl rfl) ?_
  refine ev_step (st_iconst (pc := 3) dX6_crackles_3 ni_4) ?_
  refine ev_step (st_iload_n (pc := 4) (j := 2) dX6_crackles_4 rfl rfl) ?_
  refine ev_step (st_imul (pc := 5) dX6_crackles_5) ?_
  refine ev_callI (iv_S (As := [.int ((100 : Int32)), .int v1, .int (((4 : Int32)) * v2)]) (st := []) (pc := 6) m_X6_lot l_X6_147 z_X6_lot rfl (Nat.le_of_ble_eq_true rfl) rfl dX6_crackles_6) (tX6_lot G fu ((100 : Int32)) v1 (((4 : Int32)) * v2) h) (by decide) (by decide) (fun x2 h1 => ?_)
  refine ev_step (st_aload_n (pc := 9) (j := 0) dX6_crackles_9 rfl rfl) ?_
  refine ev_getI (pc := 10) k_X6_54 rfl dX6_crackles_10 (fun x3 => ?_)
  refine ev_br (br_icmp_ge (tgt := 20) (pc := 13) dX6_crackles_13 (by decide)) (fun _ => ?_) (fun _ => ?_)
  · refine ev_step (st_iconst (pc := 20) dX6_crackles_20 ni_0) ?_
    exact ev_zret (pc := 21) dX6_crackles_21
  · refine ev_step (st_iconst (pc := 16) dX6_crackles_16 ni_1) ?_
    refine ev_step (st_goto (pc := 17) (tgt := 21) dX6_crackles_17 (by decide)) ?_
    exact ev_zret (pc := 21) dX6_crackles_21
set_option maxRecDepth 100000 in
set_option maxHeartbeats 4000000 in
theorem tX6_isRungHearing_147 (G : gx) (fu : Nat) (h0 : mh) (v0 : Nat) (v1 : Nat) (v2 : Int32) (v3 : Int32) (v4 : Int32) (v5 : Int32) (k6 : Int32 × Int32 × mh → Option (Int32 × mh)) (hk6 : ∀ (v4 : Int32) (v5 : Int32) (h : mh), Ev lI G yX6_isRungHearing cX6_isRungHearing 7 (some .boolean) 4 h0 6 [(0, .ref (gB G + v0)), (1, .ref (gB G + v1)), (2, .int v2), (3, .int v3), (4, .int v4), (5, .int v5)] [] h (k6 (v4, v5, h))) (h : mh) : Ev lI G yX6_isRungHearing cX6_isRungHearing 7 (some .boolean) 4 h0 147 [(0, .ref (gB G + v0)), (1, .ref (gB G + v1)), (2, .int v2), (3, .int v3), (4, .int v4), (5, .int v5)] [] h (fX6_isRungHearing_147 fu k6 v0 v1 v2 v3 v4 v5 h) := by
  unfold fX6_isRungHearing_147
  refine ev_step (st_inc (pc := 147) (j := 5) (ls' := [(5, .int (v5 + (1 : Int32))), (0, .ref (gB G + v0)), (1, .ref (gB G + v1)), (2, .int v2), (3, .int v3), (4, .int v4)]) dX6_isRungHearing_147 rfl ni_1 (by decide) rfl) ?_
  refine ev_step (st_goto (pc := 150) (tgt := 6) dX6_isRungHearing_150 (by decide)) ?_
  refine ev_sub (ls' := [(0, .ref (gB G + v0)), (1, .ref (gB G + v1)), (2, .int v2), (3, .int v3), (4, .int v4), (5, .int (v5 + (1 : Int32)))]) [1, 2, 3, 4, 5, 0] rfl ?_
  exact hk6 v4 (v5 + (1 : Int32)) h
set_option maxRecDepth 100000 in
set_option maxHeartbeats 4000000 in
theorem tX6_isRungHearing_145 (G : gx) (fu : Nat) (h0 : mh) (v0 : Nat) (v1 : Nat) (v2 : Int32) (v3 : Int32) (v4 : Int32) (v5 : Int32) (v6 : Int32) (s0 : Nat) (s1 : Int32) (s2 : Int32) (s3 : Int32) (k6 : Int32 × Int32 × mh → Option (Int32 × mh)) (hk6 : ∀ (v4 : Int32) (v5 : Int32) (h : mh), Ev lI G yX6_isRungHearing cX6_isRungHearing 7 (some .boolean) 4 h0 6 [(0, .ref (gB G + v0)), (1, .ref (gB G + v1)), (2, .int v2), (3, .int v3), (4, .int v4), (5, .int v5)] [] h (k6 (v4, v5, h))) (h : mh) : Ev lI G yX6_isRungHearing cX6_isRungHearing 7 (some .boolean) 4 h0 145 [(0, .ref (gB G + v0)), (1, .ref (gB G + v1)), (2, .int v2), (3, .int v3), (4, .int v4), (5, .int v5), (6, .int v6)] [.int s3, .int s2, .int s1, .ref (gB G + s0)] h (fX6_isRungHearing_145 fu k6 v0 v1 v2 v3 v4 v5 v6 s0 s1 s2 s3 h) := by
  unfold fX6_isRungHearing_145
  refine ev_step (st_ior (pc := 145) dX6_isRungHearing_145) ?_
  refine ev_sti (pc := 146) dX6_isRungHearing_146 (fun h1 => ?_)
  refine ev_sub (ls' := [(0, .ref (gB G + v0)), (1, .ref (gB G + v1)), (2, .int v2), (3, .int v3), (4, .int v4), (5, .int v5)]) [0, 1, 2, 3, 4, 5] rfl ?_
  exact tX6_isRungHearing_147 G fu h0 v0 v1 v2 v3 v4 v5 k6 hk6 h1
set_option maxRecDepth 100000 in
set_option maxHeartbeats 4000000 in
theorem tX6_isRungHearing_144 (G : gx) (fu : Nat) (h0 : mh) (v0 : Nat) (v1 : Nat) (v2 : Int32) (v3 : Int32) (v4 : Int32) (v5 : Int32) (v6 : Int32) (s0 : Nat) (s1 : Int32) (s2 : Int32) (k6 : Int32 × Int32 × mh → Option (Int32 × mh)) (hk6 : ∀ (v4 : Int32) (v5 : Int32) (h : mh), Ev lI G yX6_isRungHearing cX6_isRungHearing 7 (some .boolean) 4 h0 6 [(0, .ref (gB G + v0)), (1, .ref (gB G + v1)), (2, .int v2), (3, .int v3), (4, .int v4), (5, .int v5)] [] h (k6 (v4, v5, h))) (h : mh) : Ev lI G yX6_isRungHearing cX6_isRungHearing 7 (some .boolean) 4 h0 144 [(0, .ref (gB G + v0)), (1, .ref (gB G + v1)), (2, .int v2), (3, .int v3), (4, .int v4), (5, .int v5), (6, .int v6)] [.int s2, .int s1, .ref (gB G + s0)] h (fX6_isRungHearing_144 fu k6 v0 v1 v2 v3 v4 v5 v6 s0 s1 s2 h) := by
  unfold fX6_isRungHearing_144
  refine ev_step (st_iconst (pc := 144) dX6_isRungHearing_144 ni_0) ?_
  refine ev_sub (ls' := [(0, .ref (gB G + v0)), (1, .ref (gB G + v1)), (2, .int v2), (3, .int v3), (4, .int v4), (5, .int v5), (6, .int v6)]) [0, 1, 2, 3, 4, 5, 6] rfl ?_
  exact tX6_isRungHearing_145 G fu h0 v0 v1 v2 v3 v4 v5 v6 s0 s1 s2 ((0 : Int32)) k6 hk6 h
set_option maxRecDepth 100000 in
set_option maxHeartbeats 4000000 in
theorem tX6_isRungHearing_114 (G : gx) (fu : Nat) (h0 : mh) (v0 : Nat) (v1 : Nat) (v2 : Int32) (v3 : Int32) (v4 : Int32) (v5 : Int32) (s0 : Int32) (k6 : Int32 × Int32 × mh → Option (Int32 × mh)) (hk6 : ∀ (v4 : Int32) (v5 : Int32) (h : mh), Ev lI G yX6_isRungHearing cX6_isRungHearing 7 (some .boolean) 4 h0 6 [(0, .ref (gB G + v0)), (1, .ref (gB G + v1)), (2, .int v2), (3, .int v3), (4, .int v4), (5, .int v5)] [] h (k6 (v4, v5, h))) (h : mh) : Ev lI G yX6_isRungHearing cX6_isRungHearing 7 (some .boolean) 4 h0 114 [(0, .ref (gB G + v0)), (1, .ref (gB G + v1)), (2, .int v2), (3, .int v3), (4, .int v4), (5, .int v5)] [.int s0] h (fX6_isRungHearing_114 fu k6 v0 v1 v2 v3 v4 v5 s0 h) := by
  unfold fX6_isRungHearing_114
  refine ev_step (st_istore (pc := 114) (ls' := [(6, .int s0), (0, .ref (gB G + v0)), (1, .ref (gB G + v1)), (2, .int v2), (3, .int v3), (4, .int v4), (5, .int v5)]) dX6_isRungHearing_114 (by decide) rfl) ?_
  refine ev_step (st_aload_n (pc := 116) (j := 2) dX6_isRungHearing_116 rfl rfl) ?_
  refine ev_getR (pc := 117) k_X6_79 rfl dX6_isRungHearing_117 (fun a1 => ?_)
  refine ev_step (st_iload (pc := 120) (j := 6) dX6_isRungHearing_120 rfl) ?_
  refine ev_step (st_dup2 (pc := 122) dX6_isRungHearing_122 rfl rfl) ?_
  refine ev_ldi (pc := 123) dX6_isRungHearing_123 (fun x2 => ?_)
  refine ev_step (st_iload (pc := 124) (j := 0) dX6_isRungHearing_124 rfl) ?_
  refine ev_br (br_if_eq (tgt := 144) (pc := 126) dX6_isRungHearing_126 (by decide)) (fun _ => ?_) (fun _ => ?_)
  · refine ev_sub (ls' := [(0, .ref (gB G + v0)), (1, .ref (gB G + v1)), (2, .int v2), (3, .int v3), (4, .int v4), (5, .int v5), (6, .int s0)]) [1, 2, 3, 4, 5, 6, 0] rfl ?_
    exact tX6_isRungHearing_144 G fu h0 v0 v1 v2 v3 v4 v5 s0 a1 v5 x2 k6 hk6 h
  · refine ev_step (st_aload_n (pc := 129) (j := 1) dX6_isRungHearing_129 rfl rfl) ?_
    refine ev_getR (pc := 130) k_X6_50 rfl dX6_isRungHearing_130 (fun a3 => ?_)
    refine ev_step (st_iconst (pc := 133) dX6_isRungHearing_133 ni_1) ?_
    refine ev_ck (fun ha hS => ?_)
    refine ev_callI (iv_V (As := [.int ((1 : Int32))]) (st := [.int x2, .int v5, .ref (gB G + a1)]) (pc := 134) rfl m_X1_tell l_X6_138 i_X1_tell e_X1_tell ha hS rfl (Nat.le_of_ble_eq_true rfl) rfl dX6_isRungHearing_134) (tX1_tell G fu a3 ((1 : Int32)) h) (by decide) (by decide) (fun x5 h4 => ?_)
    refine ev_br (br_if_le (tgt := 144) (pc := 137) dX6_isRungHearing_137 (by decide)) (fun _ => ?_) (fun _ => ?_)
    · refine ev_sub (ls' := [(0, .ref (gB G + v0)), (1, .ref (gB G + v1)), (2, .int v2), (3, .int v3), (4, .int v4), (5, .int v5), (6, .int s0)]) [1, 2, 3, 4, 5, 6, 0] rfl ?_
      exact tX6_isRungHearing_144 G fu h0 v0 v1 v2 v3 v4 v5 s0 a1 v5 x2 k6 hk6 h4
    · refine ev_step (st_iload_n (pc := 140) (j := 4) dX6_isRungHearing_140 rfl rfl) ?_
      refine ev_step (st_goto (pc := 141) (tgt := 145) dX6_isRungHearing_141 (by decide)) ?_
      refine ev_sub (ls' := [(0, .ref (gB G + v0)), (1, .ref (gB G + v1)), (2, .int v2), (3, .int v3), (4, .int v4), (5, .int v5), (6, .int s0)]) [1, 2, 3, 4, 5, 6, 0] rfl ?_
      exact tX6_isRungHearing_145 G fu h0 v0 v1 v2 v3 v4 v5 s0 a1 v5 x2 v3 k6 hk6 h4
set_option maxRecDepth 100000 in
set_option maxHeartbeats 4000000 in
theorem tX6_isRungHearing_64 (G : gx) (fu : Nat) (h0 : mh) (v0 : Nat) (v1 : Nat) (v2 : Int32) (v3 : Int32) (v4 : Int32) (v5 : Int32) (s0 : Int32) (k6 : Int32 × Int32 × mh → Option (Int32 × mh)) (hk6 : ∀ (v4 : Int32) (v5 : Int32) (h : mh), Ev lI G yX6_isRungHearing cX6_isRungHearing 7 (some .boolean) 4 h0 6 [(0, .ref (gB G + v0)), (1, .ref (gB G + v1)), (2, .int v2), (3, .int v3), (4, .int v4), (5, .int v5)] [] h (k6 (v4, v5, h))) (h : mh) : Ev lI G yX6_isRungHearing cX6_isRungHearing 7 (some .boolean) 4 h0 64 [(0, .ref (gB G + v0)), (1, .ref (gB G + v1)), (2, .int v2), (3, .int v3), (4, .int v4), (5, .int v5)] [.int s0] h (fX6_isRungHearing_64 fu k6 v0 v1 v2 v3 v4 v5 s0 h) := by
  unfold fX6_isRungHearing_64
  refine ev_step (st_istore (pc := 64) (ls' := [(4, .int s0), (0, .ref (gB G + v0)), (1, .ref (gB G + v1)), (2, .int v2), (3, .int v3), (5, .int v5)]) dX6_isRungHearing_64 (by decide) rfl) ?_
  refine ev_step (st_aload_n (pc := 66) (j := 2) dX6_isRungHearing_66 rfl rfl) ?_
  refine ev_getR (pc := 67) k_X6_90 rfl dX6_isRungHearing_67 (fun a1 => ?_)
  refine ev_step (st_iload (pc := 70) (j := 5) dX6_isRungHearing_70 rfl) ?_
  refine ev_step (st_aload_n (pc := 72) (j := 2) dX6_isRungHearing_72 rfl rfl) ?_
  refine ev_getR (pc := 73) k_X6_90 rfl dX6_isRungHearing_73 (fun a2 => ?_)
  refine ev_step (st_iload (pc := 76) (j := 5) dX6_isRungHearing_76 rfl) ?_
  refine ev_ldi (pc := 78) dX6_isRungHearing_78 (fun x3 => ?_)
  refine ev_step (st_aload_n (pc := 79) (j := 1) dX6_isRungHearing_79 rfl rfl) ?_
  refine ev_getR (pc := 80) k_X6_50 rfl dX6_isRungHearing_80 (fun a4 => ?_)
  refine ev_step (st_iconst (pc := 83) dX6_isRungHearing_83 ni_2) ?_
  refine ev_ck (fun ha hS => ?_)
  refine ev_callI (iv_V (As := [.int ((2 : Int32))]) (st := [.int x3, .int v5, .ref (gB G + a1)]) (pc := 84) rfl m_X1_tell l_X6_138 i_X1_tell e_X1_tell ha hS rfl (Nat.le_of_ble_eq_true rfl) rfl dX6_isRungHearing_84) (tX1_tell G fu a4 ((2 : Int32)) h) (by decide) (by decide) (fun x6 h5 => ?_)
  refine ev_step (st_iadd (pc := 87) dX6_isRungHearing_87) ?_
  refine ev_step (st_iconst (pc := 88) dX6_isRungHearing_88 ni_0) ?_
  refine ev_step (st_bipush (pc := 89) dX6_isRungHearing_89 nb_99) ?_
  refine ev_callI (iv_S (As := [.int (x3 + x6), .int ((0 : Int32)), .int ((99 : Int32))]) (st := [.int v5, .ref (gB G + a1)]) (pc := 91) m_X9_within l_X6_179 z_X9_within rfl (Nat.le_of_ble_eq_true rfl) rfl dX6_isRungHearing_91) (tX9_within G fu (x3 + x6) ((0 : Int32)) ((99 : Int32)) h5) (by decide) (by decide) (fun x8 h7 => ?_)
  refine ev_sti (pc := 94) dX6_isRungHearing_94 (fun h9 => ?_)
  refine ev_step (st_iload_n (pc := 95) (j := 4) dX6_isRungHearing_95 rfl rfl) ?_
  refine ev_step (st_aload_n (pc := 96) (j := 2) dX6_isRungHearing_96 rfl rfl) ?_
  refine ev_getR (pc := 97) k_X6_79 rfl dX6_isRungHearing_97 (fun a10 => ?_)
  refine ev_step (st_iload (pc := 100) (j := 5) dX6_isRungHearing_100 rfl) ?_
  refine ev_ldi (pc := 102) dX6_isRungHearing_102 (fun x11 => ?_)
  refine ev_step (st_iconst (pc := 103) dX6_isRungHearing_103 ni_m1) ?_
  refine ev_step (st_ixor (pc := 104) dX6_isRungHearing_104) ?_
  refine ev_step (st_iand (pc := 105) dX6_isRungHearing_105) ?_
  refine ev_br (br_if_eq (tgt := 113) (pc := 106) dX6_isRungHearing_106 (by decide)) (fun _ => ?_) (fun _ => ?_)
  · refine ev_step (st_iconst (pc := 113) dX6_isRungHearing_113 ni_0) ?_
    refine ev_sub (ls' := [(0, .ref (gB G + v0)), (1, .ref (gB G + v1)), (2, .int v2), (3, .int v3), (4, .int s0), (5, .int v5)]) [1, 2, 3, 4, 0, 5] rfl ?_
    exact tX6_isRungHearing_114 G fu h0 v0 v1 v2 v3 s0 v5 ((0 : Int32)) k6 hk6 h9
  · refine ev_step (st_iconst (pc := 109) dX6_isRungHearing_109 ni_1) ?_
    refine ev_step (st_goto (pc := 110) (tgt := 114) dX6_isRungHearing_110 (by decide)) ?_
    refine ev_sub (ls' := [(0, .ref (gB G + v0)), (1, .ref (gB G + v1)), (2, .int v2), (3, .int v3), (4, .int s0), (5, .int v5)]) [1, 2, 3, 4, 0, 5] rfl ?_
    exact tX6_isRungHearing_114 G fu h0 v0 v1 v2 v3 s0 v5 ((1 : Int32)) k6 hk6 h9
set_option maxRecDepth 100000 in
set_option maxHeartbeats 4000000 in
theorem tX6_isRungHearing_59 (G : gx) (fu : Nat) (h0 : mh) (v0 : Nat) (v1 : Nat) (v2 : Int32) (v3 : Int32) (v4 : Int32) (v5 : Int32) (k6 : Int32 × Int32 × mh → Option (Int32 × mh)) (hk6 : ∀ (v4 : Int32) (v5 : Int32) (h : mh), Ev lI G yX6_isRungHearing cX6_isRungHearing 7 (some .boolean) 4 h0 6 [(0, .ref (gB G + v0)), (1, .ref (gB G + v1)), (2, .int v2), (3, .int v3), (4, .int v4), (5, .int v5)] [] h (k6 (v4, v5, h))) (h : mh) : Ev lI G yX6_isRungHearing cX6_isRungHearing 7 (some .boolean) 4 h0 59 [(0, .ref (gB G + v0)), (1, .ref (gB G + v1)), (2, .int v2), (3, .int v3), (4, .int v4), (5, .int v5)] [] h (fX6_isRungHearing_59 fu k6 v0 v1 v2 v3 v4 v5 h) := by
  unfold fX6_isRungHearing_59
  refine ev_step (st_iconst (pc := 59) dX6_isRungHearing_59 ni_1) ?_
  refine ev_step (st_goto (pc := 60) (tgt := 64) dX6_isRungHearing_60 (by decide)) ?_
  refine ev_sub (ls' := [(0, .ref (gB G + v0)), (1, .ref (gB G + v1)), (2, .int v2), (3, .int v3), (4, .int v4), (5, .int v5)]) [0, 1, 2, 3, 4, 5] rfl ?_
  exact tX6_isRungHearing_64 G fu h0 v0 v1 v2 v3 v4 v5 ((1 : Int32)) k6 hk6 h
set_option maxRecDepth 100000 in
set_option maxHeartbeats 4000000 in
theorem tX6_isRungHearing_63 (G : gx) (fu : Nat) (h0 : mh) (v0 : Nat) (v1 : Nat) (v2 : Int32) (v3 : Int32) (v4 : Int32) (v5 : Int32) (k6 : Int32 × Int32 × mh → Option (Int32 × mh)) (hk6 : ∀ (v4 : Int32) (v5 : Int32) (h : mh), Ev lI G yX6_isRungHearing cX6_isRungHearing 7 (some .boolean) 4 h0 6 [(0, .ref (gB G + v0)), (1, .ref (gB G + v1)), (2, .int v2), (3, .int v3), (4, .int v4), (5, .int v5)] [] h (k6 (v4, v5, h))) (h : mh) : Ev lI G yX6_isRungHearing cX6_isRungHearing 7 (some .boolean) 4 h0 63 [(0, .ref (gB G + v0)), (1, .ref (gB G + v1)), (2, .int v2), (3, .int v3), (4, .int v4), (5, .int v5)] [] h (fX6_isRungHearing_63 fu k6 v0 v1 v2 v3 v4 v5 h) := by
  unfold fX6_isRungHearing_63
  refine ev_step (st_iconst (pc := 63) dX6_isRungHearing_63 ni_0) ?_
  refine ev_sub (ls' := [(0, .ref (gB G + v0)), (1, .ref (gB G + v1)), (2, .int v2), (3, .int v3), (4, .int v4), (5, .int v5)]) [0, 1, 2, 3, 4, 5] rfl ?_
  exact tX6_isRungHearing_64 G fu h0 v0 v1 v2 v3 v4 v5 ((0 : Int32)) k6 hk6 h
set_option maxRecDepth 100000 in
set_option maxHeartbeats 4000000 in
theorem tX6_isRungHearing_6 (G : gx) (fu : Nat) (h0 : mh) (v0 : Nat) (v1 : Nat) (v2 : Int32) (v3 : Int32) (n : Nat) (v4 : Int32) (v5 : Int32) (h : mh) : Ev lI G yX6_isRungHearing cX6_isRungHearing 7 (some .boolean) 4 h0 6 [(0, .ref (gB G + v0)), (1, .ref (gB G + v1)), (2, .int v2), (3, .int v3), (4, .int v4), (5, .int v5)] [] h (itr (bX6_isRungHearing_6 fu v0 v1 v2 v3) n (v4, v5, h)) := by
  refine ev_itr (P := fun (q : Int32 × Int32 × mh) (R9 : Option (Int32 × mh)) => Ev lI G yX6_isRungHearing cX6_isRungHearing 7 (some .boolean) 4 h0 6 [(0, .ref (gB G + v0)), (1, .ref (gB G + v1)), (2, .int v2), (3, .int v3), (4, .int q.1), (5, .int q.2.1)] [] q.2.2 R9) (fun _ => ev_none) (fun k6 hk9 q => ?_) n (v4, v5, h)
  obtain ⟨v4, v5, h⟩ := q
  have hk6 : ∀ (v4 : Int32) (v5 : Int32) (h : mh), Ev lI G yX6_isRungHearing cX6_isRungHearing 7 (some .boolean) 4 h0 6 [(0, .ref (gB G + v0)), (1, .ref (gB G + v1)), (2, .int v2), (3, .int v3), (4, .int v4), (5, .int v5)] [] h (k6 (v4, v5, h)) := fun v4 v5 h => hk9 (v4, v5, h)
  show Ev lI G yX6_isRungHearing cX6_isRungHearing 7 (some .boolean) 4 h0 6 [(0, .ref (gB G + v0)), (1, .ref (gB G + v1)), (2, .int v2), (3, .int v3), (4, .int v4), (5, .int v5)] [] h (bX6_isRungHearing_6 fu v0 v1 v2 v3 k6 (v4, v5, h))
  unfold bX6_isRungHearing_6
  refine ev_step (st_iload (pc := 6) (j := 5) dX6_isRungHearing_6 rfl) ?_
  refine ev_step (st_aload_n (pc := 8) (j := 0) dX6_isRungHearing_8 rfl rfl) ?_
  refine ev_getI (pc := 9) k_X6_26 rfl dX6_isRungHearing_9 (fun x1 => ?_)
  refine ev_br (br_icmp_ge (tgt := 153) (pc := 12) dX6_isRungHearing_12 (by decide)) (fun _ => ?_) (fun _ => ?_)
  · refine ev_step (st_iload (pc := 153) (j := 4) dX6_isRungHearing_153 rfl) ?_
    exact ev_zret (pc := 155) dX6_isRungHearing_155
  · refine ev_step (st_aload_n (pc := 15) (j := 1) dX6_isRungHearing_15 rfl rfl) ?_
    refine ev_step (st_iload (pc := 16) (j := 5) dX6_isRungHearing_16 rfl) ?_
    refine ev_ck (fun ha hS => ?_)
    refine ev_callI (iv_V (As := [.int v5]) (st := []) (pc := 18) rfl m_X3_isOn l_X6_121 i_X3_isOn e_X3_isOn ha hS rfl (Nat.le_of_ble_eq_true rfl) rfl dX6_isRungHearing_18) (tX3_isOn G fu v1 v5 h) (by decide) (by decide) (fun x3 h2 => ?_)
    refine ev_br (br_if_eq (tgt := 147) (pc := 21) dX6_isRungHearing_21 (by decide)) (fun _ => ?_) (fun _ => ?_)
    · refine ev_sub (ls' := [(0, .ref (gB G + v0)), (1, .ref (gB G + v1)), (2, .int v2), (3, .int v3), (4, .int v4), (5, .int v5)]) [0, 1, 2, 3, 4, 5] rfl ?_
      exact tX6_isRungHearing_147 G fu h0 v0 v1 v2 v3 v4 v5 k6 hk6 h2
    · refine ev_step (st_aload_n (pc := 24) (j := 0) dX6_isRungHearing_24 rfl rfl) ?_
      refine ev_step (st_aload_n (pc := 25) (j := 1) dX6_isRungHearing_25 rfl rfl) ?_
      refine ev_step (st_iload (pc := 26) (j := 5) dX6_isRungHearing_26 rfl) ?_
      refine ev_step (st_iload_n (pc := 28) (j := 2) dX6_isRungHearing_28 rfl rfl) ?_
      refine ev_step (st_iload_n (pc := 29) (j := 3) dX6_isRungHearing_29 rfl rfl) ?_
      refine ev_ck (fun ha hS => ?_)
      refine ev_callV (iv_V (As := [.ref (gB G + v1), .int v5, .int v2, .int v3]) (st := []) (pc := 30) rfl m_X6_lookAt l_X6_175 i_X6_lookAt e_X6_lookAt ha hS rfl (Nat.le_of_ble_eq_true rfl) rfl dX6_isRungHearing_30) (tX6_lookAt G fu v0 v1 v5 v2 v3 h2) (by decide) (by decide) (fun h4 => ?_)
      refine ev_step (st_iload (pc := 33) (j := 4) dX6_isRungHearing_33 rfl) ?_
      refine ev_br (br_if_ne (tgt := 59) (pc := 35) dX6_isRungHearing_35 (by decide)) (fun _ => ?_) (fun _ => ?_)
      · refine ev_step (st_aload_n (pc := 38) (j := 0) dX6_isRungHearing_38 rfl rfl) ?_
        refine ev_step (st_iload (pc := 39) (j := 5) dX6_isRungHearing_39 rfl) ?_
        refine ev_step (st_iload_n (pc := 41) (j := 2) dX6_isRungHearing_41 rfl rfl) ?_
        refine ev_ck (fun ha hS => ?_)
        refine ev_callI (iv_V (As := [.int v5, .int v2]) (st := []) (pc := 42) rfl m_X6_isReally l_X6_114 i_X6_isReally e_X6_isReally ha hS rfl (Nat.le_of_ble_eq_true rfl) rfl dX6_isRungHearing_42) (tX6_isReally G fu v0 v5 v2 h4) (by decide) (by decide) (fun x6 h5 => ?_)
        refine ev_br (br_if_eq (tgt := 63) (pc := 45) dX6_isRungHearing_45 (by decide)) (fun _ => ?_) (fun _ => ?_)
        · refine ev_sub (ls' := [(0, .ref (gB G + v0)), (1, .ref (gB G + v1)), (2, .int v2), (3, .int v3), (4, .int v4), (5, .int v5)]) [0, 1, 2, 3, 4, 5] rfl ?_
          exact tX6_isRungHearing_63 G fu h0 v0 v1 v2 v3 v4 v5 k6 hk6 h5
        · refine ev_step (st_aload_n (pc := 48) (j := 0) dX6_isRungHearing_48 rfl rfl) ?_
          refine ev_getR (pc := 49) k_X6_50 rfl dX6_isRungHearing_49 (fun a7 => ?_)
          refine ev_step (st_iconst (pc := 52) dX6_isRungHearing_52 ni_3) ?_
          refine ev_ck (fun ha hS => ?_)
          refine ev_callI (iv_V (As := [.int ((3 : Int32))]) (st := []) (pc := 53) rfl m_X1_tell l_X6_138 i_X1_tell e_X1_tell ha hS rfl (Nat.le_of_ble_eq_true rfl) rfl dX6_isRungHearing_53) (tX1_tell G fu a7 ((3 : Int32)) h5) (by decide) (by decide) (fun x9 h8 => ?_)
          refine ev_br (br_if_le (tgt := 63) (pc := 56) dX6_isRungHearing_56 (by decide)) (fun _ => ?_) (fun _ => ?_)
          · refine ev_sub (ls' := [(0, .ref (gB G + v0)), (1, .ref (gB G + v1)), (2, .int v2), (3, .int v3), (4, .int v4), (5, .int v5)]) [0, 1, 2, 3, 4, 5] rfl ?_
            exact tX6_isRungHearing_63 G fu h0 v0 v1 v2 v3 v4 v5 k6 hk6 h8
          · refine ev_sub (ls' := [(0, .ref (gB G + v0)), (1, .ref (gB G + v1)), (2, .int v2), (3, .int v3), (4, .int v4), (5, .int v5)]) [0, 1, 2, 3, 4, 5] rfl ?_
            exact tX6_isRungHearing_59 G fu h0 v0 v1 v2 v3 v4 v5 k6 hk6 h8
      · refine ev_sub (ls' := [(0, .ref (gB G + v0)), (1, .ref (gB G + v1)), (2, .int v2), (3, .int v3), (4, .int v4), (5, .int v5)]) [0, 1, 2, 3, 4, 5] rfl ?_
        exact tX6_isRungHearing_59 G fu h0 v0 v1 v2 v3 v4 v5 k6 hk6 h4
set_option maxRecDepth 100000 in
set_option maxHeartbeats 4000000 in
theorem tX6_isRungHearing (G : gx) (fu : Nat) (v0 : Nat) (v1 : Nat) (v2 : Int32) (v3 : Int32) (h : mh) : Ct lI G yX6_isRungHearing cX6_isRungHearing 7 (some .boolean) 4 [.ref (gB G + v0), .ref (gB G + v1), .int v2, .int v3] h (fX6_isRungHearing fu v0 v1 v2 v3 h) := by
  refine ct_ls (ls := [(0, .ref (gB G + v0)), (1, .ref (gB G + v1)), (2, .int v2), (3, .int v3)]) rfl (by decide) (Nat.le_of_ble_eq_true rfl) ?_
  unfold fX6_isRungHearing
  refine ev_step (st_iconst (pc := 0) dX6_isRungHearing_0 ni_0) ?_
  refine ev_step (st_istore (pc := 1) (ls' := [(4, .int ((0 : Int32))), (0, .ref (gB G + v0)), (1, .ref (gB G + v1)), (2, .int v2), (3, .int v3)]) dX6_isRungHearing_1 (by decide) rfl) ?_
  refine ev_step (st_iconst (pc := 3) dX6_isRungHearing_3 ni_0) ?_
  refine ev_step (st_istore (pc := 4) (ls' := [(5, .int ((0 : Int32))), (4, .int ((0 : Int32))), (0, .ref (gB G + v0)), (1, .ref (gB G + v1)), (2, .int v2), (3, .int v3)]) dX6_isRungHearing_4 (by decide) rfl) ?_
  refine ev_sub (ls' := [(0, .ref (gB G + v0)), (1, .ref (gB G + v1)), (2, .int v2), (3, .int v3), (4, .int ((0 : Int32))), (5, .int ((0 : Int32)))]) [2, 3, 4, 5, 1, 0] rfl ?_
  exact tX6_isRungHearing_6 G fu h v0 v1 v2 v3 fu ((0 : Int32)) ((0 : Int32)) h
set_option maxRecDepth 100000 in
set_option maxHeartbeats 4000000 in
theorem tX9_role (G : gx) (fu : Nat) (v0 : Nat) (v1 : Int32) (v2 : Int32) (h : mh) : Ct lI G yX9_role cX9_role 3 (some .int) 5 [.ref (gB G + v0), .int v1, .int v2] h (fX9_role fu v0 v1 v2 h) := by
  refine ct_ls (ls := [(0, .ref (gB G + v0)), (1, .int v1), (2, .int v2)]) rfl (by decide) (Nat.le_of_ble_eq_true rfl) ?_
  unfold fX9_role
  refine ev_step (st_aload_n (pc := 0) (j := 0) dX9_role_0 rfl rfl) ?_
  refine ev_getR (pc := 1) k_X9_30 rfl dX9_role_1 (fun a1 => ?_)
  refine ev_step (st_iload_n (pc := 4) (j := 1) dX9_role_4 rfl rfl) ?_
  refine ev_ck (fun ha hS => ?_)
  refine ev_callI (iv_V (As := [.int v1]) (st := []) (pc := 5) rfl m_X6_hasRole l_X9_87 i_X6_hasRole e_X6_hasRole ha hS rfl (Nat.le_of_ble_eq_true rfl) rfl dX9_role_5) (tX6_hasRole G fu a1 v1 h) (by decide) (by decide) (fun x3 h2 => ?_)
  refine ev_br (br_if_ne (tgt := 13) (pc := 8) dX9_role_8 (by decide)) (fun _ => ?_) (fun _ => ?_)
  · refine ev_step (st_iconst (pc := 11) dX9_role_11 ni_m1) ?_
    exact ev_iret (pc := 12) dX9_role_12
  · refine ev_step (st_iload_n (pc := 13) (j := 2) dX9_role_13 rfl rfl) ?_
    refine ev_case (n := 0) (c := (0 : Int32)) (off := 38) (tgt := 52) (pc := 14) (swn_0 _ _) dX9_role_14 (by decide) (by decide) (by decide) (by decide) (by decide) (fun _ => ?_) (fun q4 => ?_)
    · refine ev_step (st_aload_n (pc := 52) (j := 0) dX9_role_52 rfl rfl) ?_
      refine ev_getR (pc := 53) k_X9_30 rfl dX9_role_53 (fun a5 => ?_)
      refine ev_getR (pc := 56) k_X9_91 rfl dX9_role_56 (fun a6 => ?_)
      refine ev_step (st_iload_n (pc := 59) (j := 1) dX9_role_59 rfl rfl) ?_
      refine ev_ldi (pc := 60) dX9_role_60 (fun x7 => ?_)
      exact ev_iret (pc := 61) dX9_role_61
    refine ev_case (n := 1) (c := (1 : Int32)) (off := 48) (tgt := 62) (pc := 14) q4 dX9_role_14 (by decide) (by decide) (by decide) (by decide) (by decide) (fun _ => ?_) (fun q8 => ?_)
    · refine ev_step (st_aload_n (pc := 62) (j := 0) dX9_role_62 rfl rfl) ?_
      refine ev_getR (pc := 63) k_X9_30 rfl dX9_role_63 (fun a9 => ?_)
      refine ev_getR (pc := 66) k_X9_95 rfl dX9_role_66 (fun a10 => ?_)
      refine ev_step (st_iload_n (pc := 69) (j := 1) dX9_role_69 rfl rfl) ?_
      refine ev_ldi (pc := 70) dX9_role_70 (fun x11 => ?_)
      exact ev_iret (pc := 71) dX9_role_71
    refine ev_case (n := 2) (c := (2 : Int32)) (off := 58) (tgt := 72) (pc := 14) q8 dX9_role_14 (by decide) (by decide) (by decide) (by decide) (by decide) (fun _ => ?_) (fun q12 => ?_)
    · refine ev_step (st_aload_n (pc := 72) (j := 0) dX9_role_72 rfl rfl) ?_
      refine ev_getR (pc := 73) k_X9_40 rfl dX9_role_73 (fun a13 => ?_)
      refine ev_getR (pc := 76) k_X9_98 rfl dX9_role_76 (fun a14 => ?_)
      refine ev_step (st_iload_n (pc := 79) (j := 1) dX9_role_79 rfl rfl) ?_
      refine ev_ldi (pc := 80) dX9_role_80 (fun x15 => ?_)
      exact ev_iret (pc := 81) dX9_role_81
    refine ev_case (n := 3) (c := (3 : Int32)) (off := 68) (tgt := 82) (pc := 14) q12 dX9_role_14 (by decide) (by decide) (by decide) (by decide) (by decide) (fun _ => ?_) (fun q16 => ?_)
    · refine ev_step (st_aload_n (pc := 82) (j := 0) dX9_role_82 rfl rfl) ?_
      refine ev_getR (pc := 83) k_X9_40 rfl dX9_role_83 (fun a17 => ?_)
      refine ev_getR (pc := 86) k_X9_101 rfl dX9_role_86 (fun a18 => ?_)
      refine ev_step (st_iload_n (pc := 89) (j := 1) dX9_role_89 rfl rfl) ?_
      refine ev_ldi (pc := 90) dX9_role_90 (fun x19 => ?_)
      exact ev_iret (pc := 91) dX9_role_91
    refine ev_case (n := 4) (c := (4 : Int32)) (off := 78) (tgt := 92) (pc := 14) q16 dX9_role_14 (by decide) (by decide) (by decide) (by decide) (by decide) (fun _ => ?_) (fun q20 => ?_)
    · refine ev_step (st_aload_n (pc := 92) (j := 0) dX9_role_92 rfl rfl) ?_
      refine ev_getR (pc := 93) k_X9_30 rfl dX9_role_93 (fun a21 => ?_)
      refine ev_step (st_iload_n (pc := 96) (j := 1) dX9_role_96 rfl rfl) ?_
      refine ev_ck (fun ha hS => ?_)
      refine ev_callI (iv_V (As := [.int v1]) (st := []) (pc := 97) rfl m_X6_reallyIt l_X9_104 i_X6_reallyIt e_X6_reallyIt ha hS rfl (Nat.le_of_ble_eq_true rfl) rfl dX9_role_97) (tX6_reallyIt G fu a21 v1 h2) (by decide) (by decide) (fun x23 h22 => ?_)
      exact ev_iret (pc := 100) dX9_role_100
    refine ev_case (n := 5) (c := (5 : Int32)) (off := 87) (tgt := 101) (pc := 14) q20 dX9_role_14 (by decide) (by decide) (by decide) (by decide) (by decide) (fun _ => ?_) (fun q24 => ?_)
    · refine ev_step (st_aload_n (pc := 101) (j := 0) dX9_role_101 rfl rfl) ?_
      refine ev_getR (pc := 102) k_X9_30 rfl dX9_role_102 (fun a25 => ?_)
      refine ev_step (st_aload_n (pc := 105) (j := 0) dX9_role_105 rfl rfl) ?_
      refine ev_getR (pc := 106) k_X9_40 rfl dX9_role_106 (fun a26 => ?_)
      refine ev_step (st_iload_n (pc := 109) (j := 1) dX9_role_109 rfl rfl) ?_
      refine ev_ck (fun ha hS => ?_)
      refine ev_callI (iv_V (As := [.ref (gB G + a26), .int v1]) (st := []) (pc := 110) rfl m_X6_saidBy l_X9_108 i_X6_saidBy e_X6_saidBy ha hS rfl (Nat.le_of_ble_eq_true rfl) rfl dX9_role_110) (tX6_saidBy G fu a25 a26 v1 h2) (by decide) (by decide) (fun x28 h27 => ?_)
      exact ev_iret (pc := 113) dX9_role_113
    refine ev_dflt (n := 6) (tgt := 114) (pc := 14) q24 dX9_role_14 (by decide) (by decide) ?_
    refine ev_step (st_iconst (pc := 114) dX9_role_114 ni_m1) ?_
    exact ev_iret (pc := 115) dX9_role_115
set_option maxRecDepth 100000 in
set_option maxHeartbeats 4000000 in
theorem tX9_tells (G : gx) (fu : Nat) (v0 : Nat) (v1 : Int32) (v2 : Int32) (v3 : Int32) (h : mh) : Ct lI G yX9_tells cX9_tells 4 (some .int) 5 [.ref (gB G + v0), .int v1, .int v2, .int v3] h (fX9_tells fu v0 v1 v2 v3 h) := by
  refine ct_ls (ls := [(0, .ref (gB G + v0)), (1, .int v1), (2, .int v2), (3, .int v3)]) rfl (by decide) (Nat.le_of_ble_eq_true rfl) ?_
  unfold fX9_tells
  refine ev_step (st_aload_n (pc := 0) (j := 0) dX9_tells_0 rfl rfl) ?_
  refine ev_getR (pc := 1) k_X9_30 rfl dX9_tells_1 (fun a1 => ?_)
  refine ev_step (st_iload_n (pc := 4) (j := 1) dX9_tells_4 rfl rfl) ?_
  refine ev_ck (fun ha hS => ?_)
  refine ev_callI (iv_V (As := [.int v1]) (st := []) (pc := 5) rfl m_X6_hasListener l_X9_112 i_X6_hasListener e_X6_hasListener ha hS rfl (Nat.le_of_ble_eq_true rfl) rfl dX9_tells_5) (tX6_hasListener G fu a1 v1 h) (by decide) (by decide) (fun x3 h2 => ?_)
  refine ev_br (br_if_eq (tgt := 31) (pc := 8) dX9_tells_8 (by decide)) (fun _ => ?_) (fun _ => ?_)
  · refine ev_step (st_bipush (pc := 31) dX9_tells_31 nb_m100) ?_
    exact ev_iret (pc := 33) dX9_tells_33
  · refine ev_step (st_aload_n (pc := 11) (j := 0) dX9_tells_11 rfl rfl) ?_
    refine ev_getR (pc := 12) k_X9_30 rfl dX9_tells_12 (fun a4 => ?_)
    refine ev_step (st_iload_n (pc := 15) (j := 2) dX9_tells_15 rfl rfl) ?_
    refine ev_ck (fun ha hS => ?_)
    refine ev_callI (iv_V (As := [.int v2]) (st := []) (pc := 16) rfl m_X6_hasRole l_X9_87 i_X6_hasRole e_X6_hasRole ha hS rfl (Nat.le_of_ble_eq_true rfl) rfl dX9_tells_16) (tX6_hasRole G fu a4 v2 h2) (by decide) (by decide) (fun x6 h5 => ?_)
    refine ev_br (br_if_eq (tgt := 31) (pc := 19) dX9_tells_19 (by decide)) (fun _ => ?_) (fun _ => ?_)
    · refine ev_step (st_bipush (pc := 31) dX9_tells_31 nb_m100) ?_
      exact ev_iret (pc := 33) dX9_tells_33
    · refine ev_step (st_iload_n (pc := 22) (j := 3) dX9_tells_22 rfl rfl) ?_
      refine ev_br (br_if_lt (tgt := 31) (pc := 23) dX9_tells_23 (by decide)) (fun _ => ?_) (fun _ => ?_)
      · refine ev_step (st_bipush (pc := 31) dX9_tells_31 nb_m100) ?_
        exact ev_iret (pc := 33) dX9_tells_33
      · refine ev_step (st_iload_n (pc := 26) (j := 3) dX9_tells_26 rfl rfl) ?_
        refine ev_step (st_iconst (pc := 27) dX9_tells_27 ni_2) ?_
        refine ev_br (br_icmp_le (tgt := 34) (pc := 28) dX9_tells_28 (by decide)) (fun _ => ?_) (fun _ => ?_)
        · refine ev_step (st_aload_n (pc := 34) (j := 0) dX9_tells_34 rfl rfl) ?_
          refine ev_getR (pc := 35) k_X9_30 rfl dX9_tells_35 (fun a7 => ?_)
          refine ev_step (st_aload_n (pc := 38) (j := 0) dX9_tells_38 rfl rfl) ?_
          refine ev_getR (pc := 39) k_X9_40 rfl dX9_tells_39 (fun a8 => ?_)
          refine ev_step (st_iload_n (pc := 42) (j := 1) dX9_tells_42 rfl rfl) ?_
          refine ev_step (st_iload_n (pc := 43) (j := 2) dX9_tells_43 rfl rfl) ?_
          refine ev_step (st_aload_n (pc := 44) (j := 0) dX9_tells_44 rfl rfl) ?_
          refine ev_getR (pc := 45) k_X9_30 rfl dX9_tells_45 (fun a9 => ?_)
          refine ev_step (st_aload_n (pc := 48) (j := 0) dX9_tells_48 rfl rfl) ?_
          refine ev_getR (pc := 49) k_X9_40 rfl dX9_tells_49 (fun a10 => ?_)
          refine ev_step (st_iload_n (pc := 52) (j := 2) dX9_tells_52 rfl rfl) ?_
          refine ev_ck (fun ha hS => ?_)
          refine ev_callI (iv_V (As := [.ref (gB G + a10), .int v2]) (st := [.int v2, .int v1, .ref (gB G + a8), .ref (gB G + a7)]) (pc := 53) rfl m_X6_saidBy l_X9_108 i_X6_saidBy e_X6_saidBy ha hS rfl (Nat.le_of_ble_eq_true rfl) rfl dX9_tells_53) (tX6_saidBy G fu a9 a10 v2 h5) (by decide) (by decide) (fun x12 h11 => ?_)
          refine ev_ck (fun ha hS => ?_)
          refine ev_callV (iv_V (As := [.ref (gB G + a8), .int v1, .int v2, .int x12]) (st := []) (pc := 56) rfl m_X6_lookAt l_X9_134 i_X6_lookAt e_X6_lookAt ha hS rfl (Nat.le_of_ble_eq_true rfl) rfl dX9_tells_56) (tX6_lookAt G fu a7 a8 v1 v2 x12 h11) (by decide) (by decide) (fun h13 => ?_)
          refine ev_step (st_iload_n (pc := 59) (j := 3) dX9_tells_59 rfl rfl) ?_
          refine ev_ite (fun hq => ?_) (fun hn0 => ?_)
          · refine ev_lk (pc := 60) (off := 28) (tgt := 88) dX9_tells_60 (by decide) (by rw [hq]; decide) (by decide) ?_
            refine ev_step (st_aload_n (pc := 88) (j := 0) dX9_tells_88 rfl rfl) ?_
            refine ev_getR (pc := 89) k_X9_30 rfl dX9_tells_89 (fun a14 => ?_)
            refine ev_getR (pc := 92) k_X9_138 rfl dX9_tells_92 (fun a15 => ?_)
            refine ev_step (st_iconst (pc := 95) dX9_tells_95 ni_1) ?_
            refine ev_ck (fun ha hS => ?_)
            refine ev_callI (iv_V (As := [.int ((1 : Int32))]) (st := []) (pc := 96) rfl m_X1_tell l_X9_142 i_X1_tell e_X1_tell ha hS rfl (Nat.le_of_ble_eq_true rfl) rfl dX9_tells_96) (tX1_tell G fu a15 ((1 : Int32)) h13) (by decide) (by decide) (fun x17 h16 => ?_)
            refine ev_br (br_if_le (tgt := 106) (pc := 99) dX9_tells_99 (by decide)) (fun _ => ?_) (fun _ => ?_)
            · refine ev_step (st_iconst (pc := 106) dX9_tells_106 ni_0) ?_
              exact ev_iret (pc := 107) dX9_tells_107
            · refine ev_step (st_iconst (pc := 102) dX9_tells_102 ni_1) ?_
              refine ev_step (st_goto (pc := 103) (tgt := 107) dX9_tells_103 (by decide)) ?_
              exact ev_iret (pc := 107) dX9_tells_107
          refine ev_ite (fun hq => ?_) (fun hn1 => ?_)
          · refine ev_lk (pc := 60) (off := 48) (tgt := 108) dX9_tells_60 (by decide) (by rw [hq]; decide) (by decide) ?_
            refine ev_step (st_aload_n (pc := 108) (j := 0) dX9_tells_108 rfl rfl) ?_
            refine ev_getR (pc := 109) k_X9_30 rfl dX9_tells_109 (fun a18 => ?_)
            refine ev_getR (pc := 112) k_X9_138 rfl dX9_tells_112 (fun a19 => ?_)
            refine ev_step (st_iconst (pc := 115) dX9_tells_115 ni_2) ?_
            refine ev_ck (fun ha hS => ?_)
            refine ev_callI (iv_V (As := [.int ((2 : Int32))]) (st := []) (pc := 116) rfl m_X1_tell l_X9_142 i_X1_tell e_X1_tell ha hS rfl (Nat.le_of_ble_eq_true rfl) rfl dX9_tells_116) (tX1_tell G fu a19 ((2 : Int32)) h13) (by decide) (by decide) (fun x21 h20 => ?_)
            exact ev_iret (pc := 119) dX9_tells_119
          refine ev_lk (pc := 60) (off := 60) (tgt := 120) dX9_tells_60 (by decide) (lk_2 hn0 hn1) (by decide) ?_
          refine ev_step (st_aload_n (pc := 120) (j := 0) dX9_tells_120 rfl rfl) ?_
          refine ev_getR (pc := 121) k_X9_30 rfl dX9_tells_121 (fun a22 => ?_)
          refine ev_getR (pc := 124) k_X9_138 rfl dX9_tells_124 (fun a23 => ?_)
          refine ev_step (st_iconst (pc := 127) dX9_tells_127 ni_3) ?_
          refine ev_ck (fun ha hS => ?_)
          refine ev_callI (iv_V (As := [.int ((3 : Int32))]) (st := []) (pc := 128) rfl m_X1_tell l_X9_142 i_X1_tell e_X1_tell ha hS rfl (Nat.le_of_ble_eq_true rfl) rfl dX9_tells_128) (tX1_tell G fu a23 ((3 : Int32)) h13) (by decide) (by decide) (fun x25 h24 => ?_)
          refine ev_br (br_if_le (tgt := 138) (pc := 131) dX9_tells_131 (by decide)) (fun _ => ?_) (fun _ => ?_)
          · refine ev_step (st_iconst (pc := 138) dX9_tells_138 ni_0) ?_
            exact ev_iret (pc := 139) dX9_tells_139
          · refine ev_step (st_iconst (pc := 134) dX9_tells_134 ni_1) ?_
            refine ev_step (st_goto (pc := 135) (tgt := 139) dX9_tells_135 (by decide)) ?_
            exact ev_iret (pc := 139) dX9_tells_139
        · refine ev_step (st_bipush (pc := 31) dX9_tells_31 nb_m100) ?_
          exact ev_iret (pc := 33) dX9_tells_33
set_option maxRecDepth 100000 in
set_option maxHeartbeats 4000000 in
theorem tX9_count (G : gx) (fu : Nat) (v0 : Nat) (v1 : Int32) (h : mh) : Ct lI G yX9_count cX9_count 2 (some .int) 4 [.ref (gB G + v0), .int v1] h (fX9_count fu v0 v1 h) := by
  refine ct_ls (ls := [(0, .ref (gB G + v0)), (1, .int v1)]) rfl (by decide) (Nat.le_of_ble_eq_true rfl) ?_
  unfold fX9_count
  refine ev_step (st_iload_n (pc := 0) (j := 1) dX9_count_0 rfl rfl) ?_
  refine ev_case (n := 0) (c := (0 : Int32)) (off := 87) (tgt := 88) (pc := 1) (swn_0 _ _) dX9_count_1 (by decide) (by decide) (by decide) (by decide) (by decide) (fun _ => ?_) (fun q1 => ?_)
  · refine ev_step (st_aload_n (pc := 88) (j := 0) dX9_count_88 rfl rfl) ?_
    refine ev_getR (pc := 89) k_X9_30 rfl dX9_count_89 (fun a2 => ?_)
    refine ev_getI (pc := 92) k_X9_147 rfl dX9_count_92 (fun x3 => ?_)
    exact ev_iret (pc := 95) dX9_count_95
  refine ev_case (n := 1) (c := (1 : Int32)) (off := 95) (tgt := 96) (pc := 1) q1 dX9_count_1 (by decide) (by decide) (by decide) (by decide) (by decide) (fun _ => ?_) (fun q4 => ?_)
  · refine ev_step (st_aload_n (pc := 96) (j := 0) dX9_count_96 rfl rfl) ?_
    refine ev_getR (pc := 97) k_X9_30 rfl dX9_count_97 (fun a5 => ?_)
    refine ev_getI (pc := 100) k_X9_150 rfl dX9_count_100 (fun x6 => ?_)
    exact ev_iret (pc := 103) dX9_count_103
  refine ev_case (n := 2) (c := (2 : Int32)) (off := 103) (tgt := 104) (pc := 1) q4 dX9_count_1 (by decide) (by decide) (by decide) (by decide) (by decide) (fun _ => ?_) (fun q7 => ?_)
  · refine ev_step (st_aload_n (pc := 104) (j := 0) dX9_count_104 rfl rfl) ?_
    refine ev_getR (pc := 105) k_X9_40 rfl dX9_count_105 (fun a8 => ?_)
    refine ev_getI (pc := 108) k_X9_153 rfl dX9_count_108 (fun x9 => ?_)
    exact ev_iret (pc := 111) dX9_count_111
  refine ev_case (n := 3) (c := (3 : Int32)) (off := 111) (tgt := 112) (pc := 1) q7 dX9_count_1 (by decide) (by decide) (by decide) (by decide) (by decide) (fun _ => ?_) (fun q10 => ?_)
  · refine ev_step (st_aload_n (pc := 112) (j := 0) dX9_count_112 rfl rfl) ?_
    refine ev_getR (pc := 113) k_X9_40 rfl dX9_count_113 (fun a11 => ?_)
    refine ev_getI (pc := 116) k_X9_156 rfl dX9_count_116 (fun x12 => ?_)
    refine ev_step (st_iconst (pc := 119) dX9_count_119 ni_m1) ?_
    refine ev_br (br_icmp_ne (tgt := 128) (pc := 120) dX9_count_120 (by decide)) (fun _ => ?_) (fun _ => ?_)
    · refine ev_step (st_bipush (pc := 123) dX9_count_123 nb_m2) ?_
      refine ev_step (st_goto (pc := 125) (tgt := 135) dX9_count_125 (by decide)) ?_
      exact ev_iret (pc := 135) dX9_count_135
    · refine ev_step (st_aload_n (pc := 128) (j := 0) dX9_count_128 rfl rfl) ?_
      refine ev_getR (pc := 129) k_X9_40 rfl dX9_count_129 (fun a13 => ?_)
      refine ev_getI (pc := 132) k_X9_156 rfl dX9_count_132 (fun x14 => ?_)
      exact ev_iret (pc := 135) dX9_count_135
  refine ev_case (n := 4) (c := (4 : Int32)) (off := 135) (tgt := 136) (pc := 1) q10 dX9_count_1 (by decide) (by decide) (by decide) (by decide) (by decide) (fun _ => ?_) (fun q15 => ?_)
  · refine ev_step (st_aload_n (pc := 136) (j := 0) dX9_count_136 rfl rfl) ?_
    refine ev_getR (pc := 137) k_X9_30 rfl dX9_count_137 (fun a16 => ?_)
    refine ev_step (st_aload_n (pc := 140) (j := 0) dX9_count_140 rfl rfl) ?_
    refine ev_getR (pc := 141) k_X9_40 rfl dX9_count_141 (fun a17 => ?_)
    refine ev_ck (fun ha hS => ?_)
    refine ev_callI (iv_V (As := [.ref (gB G + a17)]) (st := []) (pc := 144) rfl m_X6_quietRoles l_X9_159 i_X6_quietRoles e_X6_quietRoles ha hS rfl (Nat.le_of_ble_eq_true rfl) rfl dX9_count_144) (tX6_quietRoles G fu a16 a17 h) (by decide) (by decide) (fun x19 h18 => ?_)
    exact ev_iret (pc := 147) dX9_count_147
  refine ev_case (n := 5) (c := (5 : Int32)) (off := 147) (tgt := 148) (pc := 1) q15 dX9_count_1 (by decide) (by decide) (by decide) (by decide) (by decide) (fun _ => ?_) (fun q20 => ?_)
  · refine ev_step (st_aload_n (pc := 148) (j := 0) dX9_count_148 rfl rfl) ?_
    refine ev_getR (pc := 149) k_X9_30 rfl dX9_count_149 (fun a21 => ?_)
    refine ev_step (st_aload_n (pc := 152) (j := 0) dX9_count_152 rfl rfl) ?_
    refine ev_getR (pc := 153) k_X9_40 rfl dX9_count_153 (fun a22 => ?_)
    refine ev_ck (fun ha hS => ?_)
    refine ev_callI (iv_V (As := [.ref (gB G + a22)]) (st := []) (pc := 156) rfl m_X6_doneBy l_X9_163 i_X6_doneBy e_X6_doneBy ha hS rfl (Nat.le_of_ble_eq_true rfl) rfl dX9_count_156) (tX6_doneBy G fu a21 a22 h) (by decide) (by decide) (fun x24 h23 => ?_)
    exact ev_iret (pc := 159) dX9_count_159
  refine ev_case (n := 6) (c := (6 : Int32)) (off := 159) (tgt := 160) (pc := 1) q20 dX9_count_1 (by decide) (by decide) (by decide) (by decide) (by decide) (fun _ => ?_) (fun q25 => ?_)
  · refine ev_step (st_aload_n (pc := 160) (j := 0) dX9_count_160 rfl rfl) ?_
    refine ev_getR (pc := 161) k_X9_40 rfl dX9_count_161 (fun a26 => ?_)
    refine ev_getI (pc := 164) k_X9_166 rfl dX9_count_164 (fun x27 => ?_)
    exact ev_iret (pc := 167) dX9_count_167
  refine ev_case (n := 7) (c := (7 : Int32)) (off := 167) (tgt := 168) (pc := 1) q25 dX9_count_1 (by decide) (by decide) (by decide) (by decide) (by decide) (fun _ => ?_) (fun q28 => ?_)
  · refine ev_step (st_aload_n (pc := 168) (j := 0) dX9_count_168 rfl rfl) ?_
    refine ev_getR (pc := 169) k_X9_40 rfl dX9_count_169 (fun a29 => ?_)
    refine ev_ck (fun ha hS => ?_)
    refine ev_callI (iv_V (As := []) (st := []) (pc := 172) rfl m_X3_factsKnown l_X9_169 i_X3_factsKnown e_X3_factsKnown ha hS rfl (Nat.le_of_ble_eq_true rfl) rfl dX9_count_172) (tX3_factsKnown G fu a29 h) (by decide) (by decide) (fun x31 h30 => ?_)
    exact ev_iret (pc := 175) dX9_count_175
  refine ev_case (n := 8) (c := (8 : Int32)) (off := 175) (tgt := 176) (pc := 1) q28 dX9_count_1 (by decide) (by decide) (by decide) (by decide) (by decide) (fun _ => ?_) (fun q32 => ?_)
  · refine ev_step (st_aload_n (pc := 176) (j := 0) dX9_count_176 rfl rfl) ?_
    refine ev_getI (pc := 177) k_X9_13 rfl dX9_count_177 (fun x33 => ?_)
    exact ev_iret (pc := 180) dX9_count_180
  refine ev_case (n := 9) (c := (9 : Int32)) (off := 180) (tgt := 181) (pc := 1) q32 dX9_count_1 (by decide) (by decide) (by decide) (by decide) (by decide) (fun _ => ?_) (fun q34 => ?_)
  · refine ev_step (st_aload_n (pc := 181) (j := 0) dX9_count_181 rfl rfl) ?_
    refine ev_getR (pc := 182) k_X9_57 rfl dX9_count_182 (fun a35 => ?_)
    refine ev_getI (pc := 185) k_X9_173 rfl dX9_count_185 (fun x36 => ?_)
    exact ev_iret (pc := 188) dX9_count_188
  refine ev_case (n := 10) (c := (10 : Int32)) (off := 188) (tgt := 189) (pc := 1) q34 dX9_count_1 (by decide) (by decide) (by decide) (by decide) (by decide) (fun _ => ?_) (fun q37 => ?_)
  · refine ev_step (st_aload_n (pc := 189) (j := 0) dX9_count_189 rfl rfl) ?_
    refine ev_getR (pc := 190) k_X9_64 rfl dX9_count_190 (fun a38 => ?_)
    refine ev_getI (pc := 193) k_X9_84 rfl dX9_count_193 (fun x39 => ?_)
    exact ev_iret (pc := 196) dX9_count_196
  refine ev_case (n := 11) (c := (11 : Int32)) (off := 196) (tgt := 197) (pc := 1) q37 dX9_count_1 (by decide) (by decide) (by decide) (by decide) (by decide) (fun _ => ?_) (fun q40 => ?_)
  · refine ev_step (st_aload_n (pc := 197) (j := 0) dX9_count_197 rfl rfl) ?_
    refine ev_getR (pc := 198) k_X9_57 rfl dX9_count_198 (fun a41 => ?_)
    refine ev_getI (pc := 201) k_X9_174 rfl dX9_count_201 (fun x42 => ?_)
    refine ev_callI (iv_S (As := [.int x42]) (st := []) (pc := 204) m_J6_bitCount_0f7a4 l_X9_177 z_J6_bitCount_0f7a4 rfl (Nat.le_of_ble_eq_true rfl) rfl dX9_count_204) (tJ6_bitCount_0f7a4 G fu x42 h) (by decide) (by decide) (fun x44 h43 => ?_)
    exact ev_iret (pc := 207) dX9_count_207
  refine ev_case (n := 12) (c := (12 : Int32)) (off := 207) (tgt := 208) (pc := 1) q40 dX9_count_1 (by decide) (by decide) (by decide) (by decide) (by decide) (fun _ => ?_) (fun q45 => ?_)
  · refine ev_step (st_aload_n (pc := 208) (j := 0) dX9_count_208 rfl rfl) ?_
    refine ev_getR (pc := 209) k_X9_30 rfl dX9_count_209 (fun a46 => ?_)
    refine ev_step (st_aload_n (pc := 212) (j := 0) dX9_count_212 rfl rfl) ?_
    refine ev_getR (pc := 213) k_X9_30 rfl dX9_count_213 (fun a47 => ?_)
    refine ev_getI (pc := 216) k_X9_182 rfl dX9_count_216 (fun x48 => ?_)
    refine ev_step (st_aload_n (pc := 219) (j := 0) dX9_count_219 rfl rfl) ?_
    refine ev_getR (pc := 220) k_X9_40 rfl dX9_count_220 (fun a49 => ?_)
    refine ev_getI (pc := 223) k_X9_153 rfl dX9_count_223 (fun x50 => ?_)
    refine ev_ck (fun ha hS => ?_)
    refine ev_callI (iv_V (As := [.int x48, .int x50]) (st := []) (pc := 226) rfl m_X6_crackles l_X9_185 i_X6_crackles e_X6_crackles ha hS rfl (Nat.le_of_ble_eq_true rfl) rfl dX9_count_226) (tX6_crackles G fu a46 x48 x50 h) (by decide) (by decide) (fun x52 h51 => ?_)
    refine ev_br (br_if_eq (tgt := 236) (pc := 229) dX9_count_229 (by decide)) (fun _ => ?_) (fun _ => ?_)
    · refine ev_step (st_iconst (pc := 236) dX9_count_236 ni_0) ?_
      exact ev_iret (pc := 237) dX9_count_237
    · refine ev_step (st_iconst (pc := 232) dX9_count_232 ni_1) ?_
      refine ev_step (st_goto (pc := 233) (tgt := 237) dX9_count_233 (by decide)) ?_
      exact ev_iret (pc := 237) dX9_count_237
  refine ev_case (n := 13) (c := (13 : Int32)) (off := 237) (tgt := 238) (pc := 1) q45 dX9_count_1 (by decide) (by decide) (by decide) (by decide) (by decide) (fun _ => ?_) (fun q53 => ?_)
  · refine ev_step (st_aload_n (pc := 238) (j := 0) dX9_count_238 rfl rfl) ?_
    refine ev_getR (pc := 239) k_X9_40 rfl dX9_count_239 (fun a54 => ?_)
    refine ev_ck (fun ha hS => ?_)
    refine ev_callI (iv_V (As := []) (st := []) (pc := 242) rfl m_X3_timesHeard l_X9_189 i_X3_timesHeard e_X3_timesHeard ha hS rfl (Nat.le_of_ble_eq_true rfl) rfl dX9_count_242) (tX3_timesHeard G fu a54 h) (by decide) (by decide) (fun x56 h55 => ?_)
    exact ev_iret (pc := 245) dX9_count_245
  refine ev_case (n := 14) (c := (14 : Int32)) (off := 245) (tgt := 246) (pc := 1) q53 dX9_count_1 (by decide) (by decide) (by decide) (by decide) (by decide) (fun _ => ?_) (fun q57 => ?_)
  · refine ev_step (st_aload_n (pc := 246) (j := 0) dX9_count_246 rfl rfl) ?_
    refine ev_getR (pc := 247) k_X9_40 rfl dX9_count_247 (fun a58 => ?_)
    refine ev_getI (pc := 250) k_X9_192 rfl dX9_count_250 (fun x59 => ?_)
    exact ev_iret (pc := 253) dX9_count_253
  refine ev_case (n := 15) (c := (15 : Int32)) (off := 253) (tgt := 254) (pc := 1) q57 dX9_count_1 (by decide) (by decide) (by decide) (by decide) (by decide) (fun _ => ?_) (fun q60 => ?_)
  · refine ev_step (st_aload_n (pc := 254) (j := 0) dX9_count_254 rfl rfl) ?_
    refine ev_getR (pc := 255) k_X9_30 rfl dX9_count_255 (fun a61 => ?_)
    refine ev_step (st_aload_n (pc := 258) (j := 0) dX9_count_258 rfl rfl) ?_
    refine ev_getR (pc := 259) k_X9_40 rfl dX9_count_259 (fun a62 => ?_)
    refine ev_ck (fun ha hS => ?_)
    refine ev_callI (iv_V (As := [.ref (gB G + a62)]) (st := []) (pc := 262) rfl m_X6_neverHeard l_X9_195 i_X6_neverHeard e_X6_neverHeard ha hS rfl (Nat.le_of_ble_eq_true rfl) rfl dX9_count_262) (tX6_neverHeard G fu a61 a62 h) (by decide) (by decide) (fun x64 h63 => ?_)
    exact ev_iret (pc := 265) dX9_count_265
  refine ev_case (n := 16) (c := (16 : Int32)) (off := 265) (tgt := 266) (pc := 1) q60 dX9_count_1 (by decide) (by decide) (by decide) (by decide) (by decide) (fun _ => ?_) (fun q65 => ?_)
  · refine ev_step (st_aload_n (pc := 266) (j := 0) dX9_count_266 rfl rfl) ?_
    refine ev_getR (pc := 267) k_X9_40 rfl dX9_count_267 (fun a66 => ?_)
    refine ev_ck (fun ha hS => ?_)
    refine ev_callI (iv_V (As := []) (st := []) (pc := 270) rfl m_X3_beliefOfAll l_X9_198 i_X3_beliefOfAll e_X3_beliefOfAll ha hS rfl (Nat.le_of_ble_eq_true rfl) rfl dX9_count_270) (tX3_beliefOfAll G fu a66 h) (by decide) (by decide) (fun x68 h67 => ?_)
    exact ev_iret (pc := 273) dX9_count_273
  refine ev_case (n := 17) (c := (17 : Int32)) (off := 273) (tgt := 274) (pc := 1) q65 dX9_count_1 (by decide) (by decide) (by decide) (by decide) (by decide) (fun _ => ?_) (fun q69 => ?_)
  · refine ev_step (st_aload_n (pc := 274) (j := 0) dX9_count_274 rfl rfl) ?_
    refine ev_getR (pc := 275) k_X9_30 rfl dX9_count_275 (fun a70 => ?_)
    refine ev_ck (fun ha hS => ?_)
    refine ev_callI (iv_V (As := []) (st := []) (pc := 278) rfl m_X6_reallySome l_X9_201 i_X6_reallySome e_X6_reallySome ha hS rfl (Nat.le_of_ble_eq_true rfl) rfl dX9_count_278) (tX6_reallySome G fu a70 h) (by decide) (by decide) (fun x72 h71 => ?_)
    exact ev_iret (pc := 281) dX9_count_281
  refine ev_dflt (n := 18) (tgt := 282) (pc := 1) q69 dX9_count_1 (by decide) (by decide) ?_
  refine ev_step (st_iconst (pc := 282) dX9_count_282 ni_m1) ?_
  exact ev_iret (pc := 283) dX9_count_283
set_option maxRecDepth 100000 in
set_option maxHeartbeats 4000000 in
theorem tX9_talk (G : gx) (fu : Nat) (v0 : Nat) (v1 : Int32) (v2 : Int32) (h : mh) : Ct lI G yX9_talk cX9_talk 5 (some .int) 3 [.ref (gB G + v0), .int v1, .int v2] h (fX9_talk fu v0 v1 v2 h) := by
  refine ct_ls (ls := [(0, .ref (gB G + v0)), (1, .int v1), (2, .int v2)]) rfl (by decide) (Nat.le_of_ble_eq_true rfl) ?_
  unfold fX9_talk
  refine ev_step (st_aload_n (pc := 0) (j := 0) dX9_talk_0 rfl rfl) ?_
  refine ev_getR (pc := 1) k_X9_30 rfl dX9_talk_1 (fun a1 => ?_)
  refine ev_step (st_iload_n (pc := 4) (j := 1) dX9_talk_4 rfl rfl) ?_
  refine ev_ck (fun ha hS => ?_)
  refine ev_callI (iv_V (As := [.int v1]) (st := []) (pc := 5) rfl m_X6_hasListener l_X9_112 i_X6_hasListener e_X6_hasListener ha hS rfl (Nat.le_of_ble_eq_true rfl) rfl dX9_talk_5) (tX6_hasListener G fu a1 v1 h) (by decide) (by decide) (fun x3 h2 => ?_)
  refine ev_br (br_if_eq (tgt := 27) (pc := 8) dX9_talk_8 (by decide)) (fun _ => ?_) (fun _ => ?_)
  · refine ev_step (st_iconst (pc := 27) dX9_talk_27 ni_m1) ?_
    exact ev_iret (pc := 28) dX9_talk_28
  · refine ev_step (st_aload_n (pc := 11) (j := 0) dX9_talk_11 rfl rfl) ?_
    refine ev_getR (pc := 12) k_X9_30 rfl dX9_talk_12 (fun a4 => ?_)
    refine ev_step (st_iload_n (pc := 15) (j := 2) dX9_talk_15 rfl rfl) ?_
    refine ev_ck (fun ha hS => ?_)
    refine ev_callI (iv_V (As := [.int v2]) (st := []) (pc := 16) rfl m_X6_hasListener l_X9_112 i_X6_hasListener e_X6_hasListener ha hS rfl (Nat.le_of_ble_eq_true rfl) rfl dX9_talk_16) (tX6_hasListener G fu a4 v2 h2) (by decide) (by decide) (fun x6 h5 => ?_)
    refine ev_br (br_if_eq (tgt := 27) (pc := 19) dX9_talk_19 (by decide)) (fun _ => ?_) (fun _ => ?_)
    · refine ev_step (st_iconst (pc := 27) dX9_talk_27 ni_m1) ?_
      exact ev_iret (pc := 28) dX9_talk_28
    · refine ev_step (st_iload_n (pc := 22) (j := 1) dX9_talk_22 rfl rfl) ?_
      refine ev_step (st_iload_n (pc := 23) (j := 2) dX9_talk_23 rfl rfl) ?_
      refine ev_br (br_icmp_ne (tgt := 29) (pc := 24) dX9_talk_24 (by decide)) (fun _ => ?_) (fun _ => ?_)
      · refine ev_step (st_iconst (pc := 27) dX9_talk_27 ni_m1) ?_
        exact ev_iret (pc := 28) dX9_talk_28
      · refine ev_step (st_aload_n (pc := 29) (j := 0) dX9_talk_29 rfl rfl) ?_
        refine ev_getR (pc := 30) k_X9_57 rfl dX9_talk_30 (fun a7 => ?_)
        refine ev_step (st_aload_n (pc := 33) (j := 0) dX9_talk_33 rfl rfl) ?_
        refine ev_getR (pc := 34) k_X9_40 rfl dX9_talk_34 (fun a8 => ?_)
        refine ev_ck (fun ha hS => ?_)
        refine ev_callV (iv_V (As := [.ref (gB G + a8)]) (st := []) (pc := 37) rfl m_X2_remember l_X9_204 i_X2_remember e_X2_remember ha hS rfl (Nat.le_of_ble_eq_true rfl) rfl dX9_talk_37) (tX2_remember G fu a7 a8 h5) (by decide) (by decide) (fun h9 => ?_)
        refine ev_step (st_aload_n (pc := 40) (j := 0) dX9_talk_40 rfl rfl) ?_
        refine ev_step (st_iload_n (pc := 41) (j := 1) dX9_talk_41 rfl rfl) ?_
        refine ev_step (st_iload_n (pc := 42) (j := 2) dX9_talk_42 rfl rfl) ?_
        refine ev_ck (fun ha hS => ?_)
        refine ev_callI (iv_V (As := [.int v1, .int v2]) (st := []) (pc := 43) rfl m_X9_gainOfTalk l_X9_213 i_X9_gainOfTalk e_X9_gainOfTalk ha hS rfl (Nat.le_of_ble_eq_true rfl) rfl dX9_talk_43) (tX9_gainOfTalk G fu v0 v1 v2 h9) (by decide) (by decide) (fun x11 h10 => ?_)
        refine ev_step (st_istore_n (pc := 46) (ls' := [(3, .int x11), (0, .ref (gB G + v0)), (1, .int v1), (2, .int v2)]) dX9_talk_46 rfl (by decide) rfl) ?_
        refine ev_step (st_aload_n (pc := 47) (j := 1) dX9_talk_47 rfl rfl) ?_
        refine ev_getR (pc := 48) k_X9_40 rfl dX9_talk_48 (fun a12 => ?_)
        refine ev_getR (pc := 51) k_X9_115 rfl dX9_talk_51 (fun a13 => ?_)
        refine ev_step (st_iload_n (pc := 54) (j := 2) dX9_talk_54 rfl rfl) ?_
        refine ev_ldi (pc := 55) dX9_talk_55 (fun x14 => ?_)
        refine ev_step (st_aload_n (pc := 56) (j := 1) dX9_talk_56 rfl rfl) ?_
        refine ev_getR (pc := 57) k_X9_40 rfl dX9_talk_57 (fun a15 => ?_)
        refine ev_getR (pc := 60) k_X9_115 rfl dX9_talk_60 (fun a16 => ?_)
        refine ev_step (st_iload_n (pc := 63) (j := 3) dX9_talk_63 rfl rfl) ?_
        refine ev_ldi (pc := 64) dX9_talk_64 (fun x17 => ?_)
        refine ev_step (st_ior (pc := 65) dX9_talk_65) ?_
        refine ev_top (fun x18 => ?_)
        refine ev_step (st_istore (pc := 66) (ls' := [(4, .int x18), (3, .int x11), (0, .ref (gB G + v0)), (1, .int v1), (2, .int v2)]) dX9_talk_66 (by decide) rfl) ?_
        refine ev_step (st_aload_n (pc := 68) (j := 2) dX9_talk_68 rfl rfl) ?_
        refine ev_getR (pc := 69) k_X9_40 rfl dX9_talk_69 (fun a19 => ?_)
        refine ev_getR (pc := 72) k_X9_115 rfl dX9_talk_72 (fun a20 => ?_)
        refine ev_step (st_iload_n (pc := 75) (j := 3) dX9_talk_75 rfl rfl) ?_
        refine ev_step (st_iload (pc := 76) (j := 0) dX9_talk_76 rfl) ?_
        refine ev_sti (pc := 78) dX9_talk_78 (fun h21 => ?_)
        refine ev_step (st_aload_n (pc := 79) (j := 2) dX9_talk_79 rfl rfl) ?_
        refine ev_getR (pc := 80) k_X9_40 rfl dX9_talk_80 (fun a22 => ?_)
        refine ev_getR (pc := 83) k_X9_115 rfl dX9_talk_83 (fun a23 => ?_)
        refine ev_step (st_iload_n (pc := 86) (j := 4) dX9_talk_86 rfl rfl) ?_
        refine ev_step (st_iload (pc := 87) (j := 0) dX9_talk_87 rfl) ?_
        refine ev_sti (pc := 89) dX9_talk_89 (fun h24 => ?_)
        refine ev_step (st_iload_n (pc := 90) (j := 1) dX9_talk_90 rfl rfl) ?_
        exact ev_iret (pc := 91) dX9_talk_91
set_option maxRecDepth 100000 in
set_option maxHeartbeats 4000000 in
theorem tX9_trusting_66 (G : gx) (fu : Nat) (h0 : mh) (v0 : Nat) (v1 : Int32) (v2 : Int32) (v3 : Int32) (v4 : Int32) (k18 : Int32 × Int32 × mh → Option (Int32 × mh)) (hk18 : ∀ (v3 : Int32) (v4 : Int32) (h : mh), Ev lI G yX9_trusting cX9_trusting 5 (some .int) 5 h0 18 [(0, .ref (gB G + v0)), (1, .int v1), (2, .int v2), (3, .int v3), (4, .int v4)] [] h (k18 (v3, v4, h))) (h : mh) : Ev lI G yX9_trusting cX9_trusting 5 (some .int) 5 h0 66 [(0, .ref (gB G + v0)), (1, .int v1), (2, .int v2), (3, .int v3), (4, .int v4)] [] h (fX9_trusting_66 fu k18 v0 v1 v2 v3 v4 h) := by
  unfold fX9_trusting_66
  refine ev_step (st_inc (pc := 66) (j := 4) (ls' := [(4, .int (v4 + (1 : Int32))), (0, .ref (gB G + v0)), (1, .int v1), (2, .int v2), (3, .int v3)]) dX9_trusting_66 rfl ni_1 (by decide) rfl) ?_
  refine ev_step (st_goto (pc := 69) (tgt := 18) dX9_trusting_69 (by decide)) ?_
  refine ev_sub (ls' := [(0, .ref (gB G + v0)), (1, .int v1), (2, .int v2), (3, .int v3), (4, .int (v4 + (1 : Int32)))]) [1, 2, 3, 4, 0] rfl ?_
  exact hk18 v3 (v4 + (1 : Int32)) h
set_option maxRecDepth 100000 in
set_option maxHeartbeats 4000000 in
theorem tX9_trusting_18 (G : gx) (fu : Nat) (h0 : mh) (v0 : Nat) (v1 : Int32) (v2 : Int32) (n : Nat) (v3 : Int32) (v4 : Int32) (h : mh) : Ev lI G yX9_trusting cX9_trusting 5 (some .int) 5 h0 18 [(0, .ref (gB G + v0)), (1, .int v1), (2, .int v2), (3, .int v3), (4, .int v4)] [] h (itr (bX9_trusting_18 fu v0 v1 v2) n (v3, v4, h)) := by
  refine ev_itr (P := fun (q : Int32 × Int32 × mh) (R9 : Option (Int32 × mh)) => Ev lI G yX9_trusting cX9_trusting 5 (some .int) 5 h0 18 [(0, .ref (gB G + v0)), (1, .int v1), (2, .int v2), (3, .int q.1), (4, .int q.2.1)] [] q.2.2 R9) (fun _ => ev_none) (fun k18 hk9 q => ?_) n (v3, v4, h)
  obtain ⟨v3, v4, h⟩ := q
  have hk18 : ∀ (v3 : Int32) (v4 : Int32) (h : mh), Ev lI G yX9_trusting cX9_trusting 5 (some .int) 5 h0 18 [(0, .ref (gB G + v0)), (1, .int v1), (2, .int v2), (3, .int v3), (4, .int v4)] [] h (k18 (v3, v4, h)) := fun v3 v4 h => hk9 (v3, v4, h)
  show Ev lI G yX9_trusting cX9_trusting 5 (some .int) 5 h0 18 [(0, .ref (gB G + v0)), (1, .int v1), (2, .int v2), (3, .int v3), (4, .int v4)] [] h (bX9_trusting_18 fu v0 v1 v2 k18 (v3, v4, h))
  unfold bX9_trusting_18
  refine ev_step (st_iload (pc := 18) (j := 4) dX9_trusting_18 rfl) ?_
  refine ev_step (st_aload_n (pc := 20) (j := 0) dX9_trusting_20 rfl rfl) ?_
  refine ev_getR (pc := 21) k_X9_30 rfl dX9_trusting_21 (fun a1 => ?_)
  refine ev_getI (pc := 24) k_X9_150 rfl dX9_trusting_24 (fun x2 => ?_)
  refine ev_br (br_icmp_ge (tgt := 72) (pc := 27) dX9_trusting_27 (by decide)) (fun _ => ?_) (fun _ => ?_)
  · refine ev_step (st_iload_n (pc := 72) (j := 3) dX9_trusting_72 rfl rfl) ?_
    exact ev_iret (pc := 73) dX9_trusting_73
  · refine ev_step (st_aload_n (pc := 30) (j := 0) dX9_trusting_30 rfl rfl) ?_
    refine ev_getR (pc := 31) k_X9_30 rfl dX9_trusting_31 (fun a3 => ?_)
    refine ev_step (st_aload_n (pc := 34) (j := 0) dX9_trusting_34 rfl rfl) ?_
    refine ev_getR (pc := 35) k_X9_40 rfl dX9_trusting_35 (fun a4 => ?_)
    refine ev_step (st_iload (pc := 38) (j := 4) dX9_trusting_38 rfl) ?_
    refine ev_step (st_iload_n (pc := 40) (j := 1) dX9_trusting_40 rfl rfl) ?_
    refine ev_step (st_iload_n (pc := 41) (j := 2) dX9_trusting_41 rfl rfl) ?_
    refine ev_ck (fun ha hS => ?_)
    refine ev_callV (iv_V (As := [.ref (gB G + a4), .int v4, .int v1, .int v2]) (st := []) (pc := 42) rfl m_X6_lookAt l_X9_134 i_X6_lookAt e_X6_lookAt ha hS rfl (Nat.le_of_ble_eq_true rfl) rfl dX9_trusting_42) (tX6_lookAt G fu a3 a4 v4 v1 v2 h) (by decide) (by decide) (fun h5 => ?_)
    refine ev_step (st_aload_n (pc := 45) (j := 0) dX9_trusting_45 rfl rfl) ?_
    refine ev_getR (pc := 46) k_X9_30 rfl dX9_trusting_46 (fun a6 => ?_)
    refine ev_getR (pc := 49) k_X9_138 rfl dX9_trusting_49 (fun a7 => ?_)
    refine ev_step (st_iconst (pc := 52) dX9_trusting_52 ni_1) ?_
    refine ev_ck (fun ha hS => ?_)
    refine ev_callI (iv_V (As := [.int ((1 : Int32))]) (st := []) (pc := 53) rfl m_X1_tell l_X9_142 i_X1_tell e_X1_tell ha hS rfl (Nat.le_of_ble_eq_true rfl) rfl dX9_trusting_53) (tX1_tell G fu a7 ((1 : Int32)) h5) (by decide) (by decide) (fun x9 h8 => ?_)
    refine ev_br (br_if_le (tgt := 66) (pc := 56) dX9_trusting_56 (by decide)) (fun _ => ?_) (fun _ => ?_)
    · refine ev_sub (ls' := [(0, .ref (gB G + v0)), (1, .int v1), (2, .int v2), (3, .int v3), (4, .int v4)]) [0, 1, 2, 3, 4] rfl ?_
      exact tX9_trusting_66 G fu h0 v0 v1 v2 v3 v4 k18 hk18 h8
    · refine ev_step (st_iload_n (pc := 59) (j := 3) dX9_trusting_59 rfl rfl) ?_
      refine ev_step (st_iconst (pc := 60) dX9_trusting_60 ni_1) ?_
      refine ev_step (st_iload (pc := 61) (j := 4) dX9_trusting_61 rfl) ?_
      refine ev_step (st_ishl (pc := 63) dX9_trusting_63) ?_
      refine ev_step (st_ior (pc := 64) dX9_trusting_64) ?_
      refine ev_top (fun x10 => ?_)
      refine ev_step (st_istore_n (pc := 65) (ls' := [(3, .int x10), (0, .ref (gB G + v0)), (1, .int v1), (2, .int v2), (4, .int v4)]) dX9_trusting_65 rfl (by decide) rfl) ?_
      refine ev_sub (ls' := [(0, .ref (gB G + v0)), (1, .int v1), (2, .int v2), (3, .int x10), (4, .int v4)]) [1, 2, 3, 0, 4] rfl ?_
      exact tX9_trusting_66 G fu h0 v0 v1 v2 x10 v4 k18 hk18 h8
set_option maxRecDepth 100000 in
set_option maxHeartbeats 4000000 in
theorem tX9_trusting (G : gx) (fu : Nat) (v0 : Nat) (v1 : Int32) (h : mh) : Ct lI G yX9_trusting cX9_trusting 5 (some .int) 5 [.ref (gB G + v0), .int v1] h (fX9_trusting fu v0 v1 h) := by
  refine ct_ls (ls := [(0, .ref (gB G + v0)), (1, .int v1)]) rfl (by decide) (Nat.le_of_ble_eq_true rfl) ?_
  unfold fX9_trusting
  refine ev_step (st_aload_n (pc := 0) (j := 0) dX9_trusting_0 rfl rfl) ?_
  refine ev_getR (pc := 1) k_X9_30 rfl dX9_trusting_1 (fun a1 => ?_)
  refine ev_step (st_aload_n (pc := 4) (j := 0) dX9_trusting_4 rfl rfl) ?_
  refine ev_getR (pc := 5) k_X9_40 rfl dX9_trusting_5 (fun a2 => ?_)
  refine ev_step (st_iload_n (pc := 8) (j := 1) dX9_trusting_8 rfl rfl) ?_
  refine ev_ck (fun ha hS => ?_)
  refine ev_callI (iv_V (As := [.ref (gB G + a2), .int v1]) (st := []) (pc := 9) rfl m_X6_saidBy l_X9_108 i_X6_saidBy e_X6_saidBy ha hS rfl (Nat.le_of_ble_eq_true rfl) rfl dX9_trusting_9) (tX6_saidBy G fu a1 a2 v1 h) (by decide) (by decide) (fun x4 h3 => ?_)
  refine ev_step (st_istore_n (pc := 12) (ls' := [(2, .int x4), (0, .ref (gB G + v0)), (1, .int v1)]) dX9_trusting_12 rfl (by decide) rfl) ?_
  refine ev_step (st_iconst (pc := 13) dX9_trusting_13 ni_0) ?_
  refine ev_step (st_istore_n (pc := 14) (ls' := [(3, .int ((0 : Int32))), (2, .int x4), (0, .ref (gB G + v0)), (1, .int v1)]) dX9_trusting_14 rfl (by decide) rfl) ?_
  refine ev_step (st_iconst (pc := 15) dX9_trusting_15 ni_0) ?_
  refine ev_step (st_istore (pc := 16) (ls' := [(4, .int ((0 : Int32))), (3, .int ((0 : Int32))), (2, .int x4), (0, .ref (gB G + v0)), (1, .int v1)]) dX9_trusting_16 (by decide) rfl) ?_
  refine ev_sub (ls' := [(0, .ref (gB G + v0)), (1, .int v1), (2, .int x4), (3, .int ((0 : Int32))), (4, .int ((0 : Int32)))]) [3, 4, 2, 1, 0] rfl ?_
  exact tX9_trusting_18 G fu h v0 v1 x4 fu ((0 : Int32)) ((0 : Int32)) h3
set_option maxRecDepth 100000 in
set_option maxHeartbeats 4000000 in
theorem tX9_star_63 (G : gx) (fu : Nat) (h0 : mh) (v0 : Nat) (v1 : Int32) (v2 : Int32) (v3 : Int32) (v4 : Int32) (v5 : Int32) (k20 : Int32 × Int32 × Int32 × mh → Option (Int32 × mh)) (hk20 : ∀ (v2 : Int32) (v3 : Int32) (v4 : Int32) (h : mh), Ev lI G yX9_star cX9_star 6 (some .int) 6 h0 20 [(0, .ref (gB G + v0)), (1, .int v1), (2, .int v2), (3, .int v3), (4, .int v4)] [] h (k20 (v2, v3, v4, h))) (h : mh) : Ev lI G yX9_star cX9_star 6 (some .int) 6 h0 63 [(0, .ref (gB G + v0)), (1, .int v1), (2, .int v2), (3, .int v3), (4, .int v4), (5, .int v5)] [] h (fX9_star_63 fu k20 v0 v1 v2 v3 v4 v5 h) := by
  unfold fX9_star_63
  refine ev_step (st_inc (pc := 63) (j := 4) (ls' := [(4, .int (v4 + (1 : Int32))), (0, .ref (gB G + v0)), (1, .int v1), (2, .int v2), (3, .int v3), (5, .int v5)]) dX9_star_63 rfl ni_1 (by decide) rfl) ?_
  refine ev_step (st_goto (pc := 66) (tgt := 20) dX9_star_66 (by decide)) ?_
  refine ev_sub (ls' := [(0, .ref (gB G + v0)), (1, .int v1), (2, .int v2), (3, .int v3), (4, .int (v4 + (1 : Int32)))]) [1, 2, 3, 4, 0] rfl ?_
  exact hk20 v2 v3 (v4 + (1 : Int32)) h
set_option maxRecDepth 100000 in
set_option maxHeartbeats 4000000 in
theorem tX9_star_69 (G : gx) (fu : Nat) (h0 : mh) (v0 : Nat) (v1 : Int32) (v2 : Int32) (v3 : Int32) (v4 : Int32) (h : mh) : Ev lI G yX9_star cX9_star 6 (some .int) 6 h0 69 [(0, .ref (gB G + v0)), (1, .int v1), (2, .int v2), (3, .int v3), (4, .int v4)] [] h (fX9_star_69 fu v0 v1 v2 v3 v4 h) := by
  unfold fX9_star_69
  refine ev_step (st_iload_n (pc := 69) (j := 1) dX9_star_69 rfl rfl) ?_
  refine ev_br (br_if_ne (tgt := 77) (pc := 70) dX9_star_70 (by decide)) (fun _ => ?_) (fun _ => ?_)
  · refine ev_step (st_iload_n (pc := 73) (j := 2) dX9_star_73 rfl rfl) ?_
    refine ev_step (st_goto (pc := 74) (tgt := 78) dX9_star_74 (by decide)) ?_
    exact ev_iret (pc := 78) dX9_star_78
  · refine ev_step (st_iload_n (pc := 77) (j := 3) dX9_star_77 rfl rfl) ?_
    exact ev_iret (pc := 78) dX9_star_78
set_option maxRecDepth 100000 in
set_option maxHeartbeats 4000000 in
theorem tX9_star_20 (G : gx) (fu : Nat) (h0 : mh) (v0 : Nat) (v1 : Int32) (n : Nat) (v2 : Int32) (v3 : Int32) (v4 : Int32) (h : mh) : Ev lI G yX9_star cX9_star 6 (some .int) 6 h0 20 [(0, .ref (gB G + v0)), (1, .int v1), (2, .int v2), (3, .int v3), (4, .int v4)] [] h (itr (bX9_star_20 fu v0 v1) n (v2, v3, v4, h)) := by
  refine ev_itr (P := fun (q : Int32 × Int32 × Int32 × mh) (R9 : Option (Int32 × mh)) => Ev lI G yX9_star cX9_star 6 (some .int) 6 h0 20 [(0, .ref (gB G + v0)), (1, .int v1), (2, .int q.1), (3, .int q.2.1), (4, .int q.2.2.1)] [] q.2.2.2 R9) (fun _ => ev_none) (fun k20 hk9 q => ?_) n (v2, v3, v4, h)
  obtain ⟨v2, v3, v4, h⟩ := q
  have hk20 : ∀ (v2 : Int32) (v3 : Int32) (v4 : Int32) (h : mh), Ev lI G yX9_star cX9_star 6 (some .int) 6 h0 20 [(0, .ref (gB G + v0)), (1, .int v1), (2, .int v2), (3, .int v3), (4, .int v4)] [] h (k20 (v2, v3, v4, h)) := fun v2 v3 v4 h => hk9 (v2, v3, v4, h)
  show Ev lI G yX9_star cX9_star 6 (some .int) 6 h0 20 [(0, .ref (gB G + v0)), (1, .int v1), (2, .int v2), (3, .int v3), (4, .int v4)] [] h (bX9_star_20 fu v0 v1 k20 (v2, v3, v4, h))
  unfold bX9_star_20
  refine ev_step (st_iload (pc := 20) (j := 4) dX9_star_20 rfl) ?_
  refine ev_step (st_aload_n (pc := 22) (j := 0) dX9_star_22 rfl rfl) ?_
  refine ev_getR (pc := 23) k_X9_30 rfl dX9_star_23 (fun a1 => ?_)
  refine ev_getI (pc := 26) k_X9_147 rfl dX9_star_26 (fun x2 => ?_)
  refine ev_br (br_icmp_ge (tgt := 69) (pc := 29) dX9_star_29 (by decide)) (fun _ => ?_) (fun _ => ?_)
  · refine ev_sub (ls' := [(0, .ref (gB G + v0)), (1, .int v1), (2, .int v2), (3, .int v3), (4, .int v4)]) [0, 1, 2, 3, 4] rfl ?_
    exact tX9_star_69 G fu h0 v0 v1 v2 v3 v4 h
  · refine ev_step (st_aload_n (pc := 32) (j := 0) dX9_star_32 rfl rfl) ?_
    refine ev_step (st_iload (pc := 33) (j := 4) dX9_star_33 rfl) ?_
    refine ev_ck (fun ha hS => ?_)
    refine ev_callI (iv_V (As := [.int v4]) (st := []) (pc := 35) rfl m_X9_trusting l_X9_235 i_X9_trusting e_X9_trusting ha hS rfl (Nat.le_of_ble_eq_true rfl) rfl dX9_star_35) (tX9_trusting G fu v0 v4 h) (by decide) (by decide) (fun x4 h3 => ?_)
    refine ev_step (st_aload_n (pc := 38) (j := 0) dX9_star_38 rfl rfl) ?_
    refine ev_getR (pc := 39) k_X9_40 rfl dX9_star_39 (fun a5 => ?_)
    refine ev_getI (pc := 42) k_X9_166 rfl dX9_star_42 (fun x6 => ?_)
    refine ev_step (st_iand (pc := 45) dX9_star_45) ?_
    refine ev_callI (iv_S (As := [.int (x4 &&& x6)]) (st := []) (pc := 46) m_J6_bitCount_0f7a4 l_X9_177 z_J6_bitCount_0f7a4 rfl (Nat.le_of_ble_eq_true rfl) rfl dX9_star_46) (tJ6_bitCount_0f7a4 G fu (x4 &&& x6) h3) (by decide) (by decide) (fun x8 h7 => ?_)
    refine ev_step (st_istore (pc := 49) (ls' := [(5, .int x8), (0, .ref (gB G + v0)), (1, .int v1), (2, .int v2), (3, .int v3), (4, .int v4)]) dX9_star_49 (by decide) rfl) ?_
    refine ev_step (st_iload (pc := 51) (j := 0) dX9_star_51 rfl) ?_
    refine ev_step (st_iload_n (pc := 53) (j := 4) dX9_star_53 rfl rfl) ?_
    refine ev_br (br_icmp_le (tgt := 63) (pc := 54) dX9_star_54 (by decide)) (fun _ => ?_) (fun _ => ?_)
    · refine ev_sub (ls' := [(0, .ref (gB G + v0)), (1, .int v1), (2, .int v2), (3, .int v3), (4, .int v4), (5, .int x8)]) [1, 2, 3, 4, 5, 0] rfl ?_
      exact tX9_star_63 G fu h0 v0 v1 v2 v3 v4 x8 k20 hk20 h7
    · refine ev_step (st_iload (pc := 57) (j := 0) dX9_star_57 rfl) ?_
      refine ev_step (st_istore_n (pc := 59) (ls' := [(3, .int x8), (5, .int x8), (0, .ref (gB G + v0)), (1, .int v1), (2, .int v2), (4, .int v4)]) dX9_star_59 rfl (by decide) rfl) ?_
      refine ev_step (st_iload (pc := 60) (j := 5) dX9_star_60 rfl) ?_
      refine ev_step (st_istore_n (pc := 62) (ls' := [(2, .int v4), (3, .int x8), (5, .int x8), (0, .ref (gB G + v0)), (1, .int v1), (4, .int v4)]) dX9_star_62 rfl (by decide) rfl) ?_
      refine ev_sub (ls' := [(0, .ref (gB G + v0)), (1, .int v1), (2, .int v4), (3, .int x8), (4, .int v4), (5, .int x8)]) [3, 4, 0, 1, 5, 2] rfl ?_
      exact tX9_star_63 G fu h0 v0 v1 v4 x8 v4 x8 k20 hk20 h7
set_option maxRecDepth 100000 in
set_option maxHeartbeats 4000000 in
theorem tX9_star (G : gx) (fu : Nat) (v0 : Nat) (v1 : Int32) (h : mh) : Ct lI G yX9_star cX9_star 6 (some .int) 6 [.ref (gB G + v0), .int v1] h (fX9_star fu v0 v1 h) := by
  refine ct_ls (ls := [(0, .ref (gB G + v0)), (1, .int v1)]) rfl (by decide) (Nat.le_of_ble_eq_true rfl) ?_
  unfold fX9_star
  refine ev_step (st_iload_n (pc := 0) (j := 1) dX9_star_0 rfl rfl) ?_
  refine ev_br (br_if_lt (tgt := 9) (pc := 1) dX9_star_1 (by decide)) (fun _ => ?_) (fun _ => ?_)
  · refine ev_step (st_iconst (pc := 9) dX9_star_9 ni_m1) ?_
    exact ev_iret (pc := 10) dX9_star_10
  · refine ev_step (st_iload_n (pc := 4) (j := 1) dX9_star_4 rfl rfl) ?_
    refine ev_step (st_iconst (pc := 5) dX9_star_5 ni_1) ?_
    refine ev_br (br_icmp_le (tgt := 11) (pc := 6) dX9_star_6 (by decide)) (fun _ => ?_) (fun _ => ?_)
    · refine ev_step (st_bipush (pc := 11) dX9_star_11 nb_m2) ?_
      refine ev_step (st_istore_n (pc := 13) (ls' := [(2, .int ((-2 : Int32))), (0, .ref (gB G + v0)), (1, .int v1)]) dX9_star_13 rfl (by decide) rfl) ?_
      refine ev_step (st_bipush (pc := 14) dX9_star_14 nb_m2) ?_
      refine ev_step (st_istore_n (pc := 16) (ls' := [(3, .int ((-2 : Int32))), (2, .int ((-2 : Int32))), (0, .ref (gB G + v0)), (1, .int v1)]) dX9_star_16 rfl (by decide) rfl) ?_
      refine ev_step (st_iconst (pc := 17) dX9_star_17 ni_0) ?_
      refine ev_step (st_istore (pc := 18) (ls' := [(4, .int ((0 : Int32))), (3, .int ((-2 : Int32))), (2, .int ((-2 : Int32))), (0, .ref (gB G + v0)), (1, .int v1)]) dX9_star_18 (by decide) rfl) ?_
      refine ev_sub (ls' := [(0, .ref (gB G + v0)), (1, .int v1), (2, .int ((-2 : Int32))), (3, .int ((-2 : Int32))), (4, .int ((0 : Int32)))]) [3, 4, 2, 1, 0] rfl ?_
      exact tX9_star_20 G fu h v0 v1 fu ((-2 : Int32)) ((-2 : Int32)) ((0 : Int32)) h
    · refine ev_step (st_iconst (pc := 9) dX9_star_9 ni_m1) ?_
      exact ev_iret (pc := 10) dX9_star_10
set_option maxRecDepth 100000 in
set_option maxHeartbeats 4000000 in
theorem tX9_credit_73 (G : gx) (fu : Nat) (h0 : mh) (v0 : Nat) (v1 : Int32) (v2 : Int32) (v3 : Int32) (k17 : Int32 × Int32 × mh → Option (Int32 × mh)) (hk17 : ∀ (v2 : Int32) (v3 : Int32) (h : mh), Ev lI G yX9_credit cX9_credit 4 (some .int) 5 h0 17 [(0, .ref (gB G + v0)), (1, .int v1), (2, .int v2), (3, .int v3)] [] h (k17 (v2, v3, h))) (h : mh) : Ev lI G yX9_credit cX9_credit 4 (some .int) 5 h0 73 [(0, .ref (gB G + v0)), (1, .int v1), (2, .int v2), (3, .int v3)] [] h (fX9_credit_73 fu k17 v0 v1 v2 v3 h) := by
  unfold fX9_credit_73
  refine ev_step (st_inc (pc := 73) (j := 3) (ls' := [(3, .int (v3 + (1 : Int32))), (0, .ref (gB G + v0)), (1, .int v1), (2, .int v2)]) dX9_credit_73 rfl ni_1 (by decide) rfl) ?_
  refine ev_step (st_goto (pc := 76) (tgt := 17) dX9_credit_76 (by decide)) ?_
  refine ev_sub (ls' := [(0, .ref (gB G + v0)), (1, .int v1), (2, .int v2), (3, .int (v3 + (1 : Int32)))]) [1, 2, 3, 0] rfl ?_
  exact hk17 v2 (v3 + (1 : Int32)) h
set_option maxRecDepth 100000 in
set_option maxHeartbeats 4000000 in
theorem tX9_credit_17 (G : gx) (fu : Nat) (h0 : mh) (v0 : Nat) (v1 : Int32) (n : Nat) (v2 : Int32) (v3 : Int32) (h : mh) : Ev lI G yX9_credit cX9_credit 4 (some .int) 5 h0 17 [(0, .ref (gB G + v0)), (1, .int v1), (2, .int v2), (3, .int v3)] [] h (itr (bX9_credit_17 fu v0 v1) n (v2, v3, h)) := by
  refine ev_itr (P := fun (q : Int32 × Int32 × mh) (R9 : Option (Int32 × mh)) => Ev lI G yX9_credit cX9_credit 4 (some .int) 5 h0 17 [(0, .ref (gB G + v0)), (1, .int v1), (2, .int q.1), (3, .int q.2.1)] [] q.2.2 R9) (fun _ => ev_none) (fun k17 hk9 q => ?_) n (v2, v3, h)
  obtain ⟨v2, v3, h⟩ := q
  have hk17 : ∀ (v2 : Int32) (v3 : Int32) (h : mh), Ev lI G yX9_credit cX9_credit 4 (some .int) 5 h0 17 [(0, .ref (gB G + v0)), (1, .int v1), (2, .int v2), (3, .int v3)] [] h (k17 (v2, v3, h)) := fun v2 v3 h => hk9 (v2, v3, h)
  show Ev lI G yX9_credit cX9_credit 4 (some .int) 5 h0 17 [(0, .ref (gB G + v0)), (1, .int v1), (2, .int v2), (3, .int v3)] [] h (bX9_credit_17 fu v0 v1 k17 (v2, v3, h))
  unfold bX9_credit_17
  refine ev_step (st_iload_n (pc := 17) (j := 3) dX9_credit_17 rfl rfl) ?_
  refine ev_step (st_aload_n (pc := 18) (j := 0) dX9_credit_18 rfl rfl) ?_
  refine ev_getR (pc := 19) k_X9_30 rfl dX9_credit_19 (fun a1 => ?_)
  refine ev_getI (pc := 22) k_X9_147 rfl dX9_credit_22 (fun x2 => ?_)
  refine ev_br (br_icmp_ge (tgt := 79) (pc := 25) dX9_credit_25 (by decide)) (fun _ => ?_) (fun _ => ?_)
  · refine ev_step (st_iload_n (pc := 79) (j := 2) dX9_credit_79 rfl rfl) ?_
    exact ev_iret (pc := 80) dX9_credit_80
  · refine ev_step (st_aload_n (pc := 28) (j := 0) dX9_credit_28 rfl rfl) ?_
    refine ev_getR (pc := 29) k_X9_30 rfl dX9_credit_29 (fun a3 => ?_)
    refine ev_step (st_aload_n (pc := 32) (j := 0) dX9_credit_32 rfl rfl) ?_
    refine ev_getR (pc := 33) k_X9_40 rfl dX9_credit_33 (fun a4 => ?_)
    refine ev_step (st_iload_n (pc := 36) (j := 1) dX9_credit_36 rfl rfl) ?_
    refine ev_step (st_iload_n (pc := 37) (j := 3) dX9_credit_37 rfl rfl) ?_
    refine ev_step (st_aload_n (pc := 38) (j := 0) dX9_credit_38 rfl rfl) ?_
    refine ev_getR (pc := 39) k_X9_30 rfl dX9_credit_39 (fun a5 => ?_)
    refine ev_step (st_aload_n (pc := 42) (j := 0) dX9_credit_42 rfl rfl) ?_
    refine ev_getR (pc := 43) k_X9_40 rfl dX9_credit_43 (fun a6 => ?_)
    refine ev_step (st_iload_n (pc := 46) (j := 3) dX9_credit_46 rfl rfl) ?_
    refine ev_ck (fun ha hS => ?_)
    refine ev_callI (iv_V (As := [.ref (gB G + a6), .int v3]) (st := [.int v3, .int v1, .ref (gB G + a4), .ref (gB G + a3)]) (pc := 47) rfl m_X6_saidBy l_X9_108 i_X6_saidBy e_X6_saidBy ha hS rfl (Nat.le_of_ble_eq_true rfl) rfl dX9_credit_47) (tX6_saidBy G fu a5 a6 v3 h) (by decide) (by decide) (fun x8 h7 => ?_)
    refine ev_ck (fun ha hS => ?_)
    refine ev_callV (iv_V (As := [.ref (gB G + a4), .int v1, .int v3, .int x8]) (st := []) (pc := 50) rfl m_X6_lookAt l_X9_134 i_X6_lookAt e_X6_lookAt ha hS rfl (Nat.le_of_ble_eq_true rfl) rfl dX9_credit_50) (tX6_lookAt G fu a3 a4 v1 v3 x8 h7) (by decide) (by decide) (fun h9 => ?_)
    refine ev_step (st_aload_n (pc := 53) (j := 0) dX9_credit_53 rfl rfl) ?_
    refine ev_getR (pc := 54) k_X9_30 rfl dX9_credit_54 (fun a10 => ?_)
    refine ev_getR (pc := 57) k_X9_138 rfl dX9_credit_57 (fun a11 => ?_)
    refine ev_step (st_iconst (pc := 60) dX9_credit_60 ni_1) ?_
    refine ev_ck (fun ha hS => ?_)
    refine ev_callI (iv_V (As := [.int ((1 : Int32))]) (st := []) (pc := 61) rfl m_X1_tell l_X9_142 i_X1_tell e_X1_tell ha hS rfl (Nat.le_of_ble_eq_true rfl) rfl dX9_credit_61) (tX1_tell G fu a11 ((1 : Int32)) h9) (by decide) (by decide) (fun x13 h12 => ?_)
    refine ev_br (br_if_le (tgt := 73) (pc := 64) dX9_credit_64 (by decide)) (fun _ => ?_) (fun _ => ?_)
    · refine ev_sub (ls' := [(0, .ref (gB G + v0)), (1, .int v1), (2, .int v2), (3, .int v3)]) [0, 1, 2, 3] rfl ?_
      exact tX9_credit_73 G fu h0 v0 v1 v2 v3 k17 hk17 h12
    · refine ev_step (st_iload_n (pc := 67) (j := 2) dX9_credit_67 rfl rfl) ?_
      refine ev_step (st_iconst (pc := 68) dX9_credit_68 ni_1) ?_
      refine ev_step (st_iload_n (pc := 69) (j := 3) dX9_credit_69 rfl rfl) ?_
      refine ev_step (st_ishl (pc := 70) dX9_credit_70) ?_
      refine ev_step (st_ior (pc := 71) dX9_credit_71) ?_
      refine ev_top (fun x14 => ?_)
      refine ev_step (st_istore_n (pc := 72) (ls' := [(2, .int x14), (0, .ref (gB G + v0)), (1, .int v1), (3, .int v3)]) dX9_credit_72 rfl (by decide) rfl) ?_
      refine ev_sub (ls' := [(0, .ref (gB G + v0)), (1, .int v1), (2, .int x14), (3, .int v3)]) [1, 2, 0, 3] rfl ?_
      exact tX9_credit_73 G fu h0 v0 v1 x14 v3 k17 hk17 h12
set_option maxRecDepth 100000 in
set_option maxHeartbeats 4000000 in
theorem tX9_credit (G : gx) (fu : Nat) (v0 : Nat) (v1 : Int32) (h : mh) : Ct lI G yX9_credit cX9_credit 4 (some .int) 5 [.ref (gB G + v0), .int v1] h (fX9_credit fu v0 v1 h) := by
  refine ct_ls (ls := [(0, .ref (gB G + v0)), (1, .int v1)]) rfl (by decide) (Nat.le_of_ble_eq_true rfl) ?_
  unfold fX9_credit
  refine ev_step (st_aload_n (pc := 0) (j := 0) dX9_credit_0 rfl rfl) ?_
  refine ev_getR (pc := 1) k_X9_30 rfl dX9_credit_1 (fun a1 => ?_)
  refine ev_step (st_iload_n (pc := 4) (j := 1) dX9_credit_4 rfl rfl) ?_
  refine ev_ck (fun ha hS => ?_)
  refine ev_callI (iv_V (As := [.int v1]) (st := []) (pc := 5) rfl m_X6_hasListener l_X9_112 i_X6_hasListener e_X6_hasListener ha hS rfl (Nat.le_of_ble_eq_true rfl) rfl dX9_credit_5) (tX6_hasListener G fu a1 v1 h) (by decide) (by decide) (fun x3 h2 => ?_)
  refine ev_br (br_if_ne (tgt := 13) (pc := 8) dX9_credit_8 (by decide)) (fun _ => ?_) (fun _ => ?_)
  · refine ev_step (st_iconst (pc := 11) dX9_credit_11 ni_m1) ?_
    exact ev_iret (pc := 12) dX9_credit_12
  · refine ev_step (st_iconst (pc := 13) dX9_credit_13 ni_0) ?_
    refine ev_step (st_istore_n (pc := 14) (ls' := [(2, .int ((0 : Int32))), (0, .ref (gB G + v0)), (1, .int v1)]) dX9_credit_14 rfl (by decide) rfl) ?_
    refine ev_step (st_iconst (pc := 15) dX9_credit_15 ni_0) ?_
    refine ev_step (st_istore_n (pc := 16) (ls' := [(3, .int ((0 : Int32))), (2, .int ((0 : Int32))), (0, .ref (gB G + v0)), (1, .int v1)]) dX9_credit_16 rfl (by decide) rfl) ?_
    refine ev_sub (ls' := [(0, .ref (gB G + v0)), (1, .int v1), (2, .int ((0 : Int32))), (3, .int ((0 : Int32)))]) [2, 3, 1, 0] rfl ?_
    exact tX9_credit_17 G fu h v0 v1 fu ((0 : Int32)) ((0 : Int32)) h2
set_option maxRecDepth 100000 in
set_option maxHeartbeats 4000000 in
theorem tX9_callers_104 (G : gx) (fu : Nat) (h0 : mh) (v0 : Nat) (v1 : Int32) (v2 : Int32) (v3 : Int32) (v4 : Int32) (k31 : Int32 × Int32 × mh → Option (Int32 × mh)) (hk31 : ∀ (v3 : Int32) (v4 : Int32) (h : mh), Ev lI G yX9_callers cX9_callers 5 (some .int) 5 h0 31 [(0, .ref (gB G + v0)), (1, .int v1), (2, .int v2), (3, .int v3), (4, .int v4)] [] h (k31 (v3, v4, h))) (h : mh) : Ev lI G yX9_callers cX9_callers 5 (some .int) 5 h0 104 [(0, .ref (gB G + v0)), (1, .int v1), (2, .int v2), (3, .int v3), (4, .int v4)] [] h (fX9_callers_104 fu k31 v0 v1 v2 v3 v4 h) := by
  unfold fX9_callers_104
  refine ev_step (st_inc (pc := 104) (j := 4) (ls' := [(4, .int (v4 + (1 : Int32))), (0, .ref (gB G + v0)), (1, .int v1), (2, .int v2), (3, .int v3)]) dX9_callers_104 rfl ni_1 (by decide) rfl) ?_
  refine ev_step (st_goto (pc := 107) (tgt := 31) dX9_callers_107 (by decide)) ?_
  refine ev_sub (ls' := [(0, .ref (gB G + v0)), (1, .int v1), (2, .int v2), (3, .int v3), (4, .int (v4 + (1 : Int32)))]) [1, 2, 3, 4, 0] rfl ?_
  exact hk31 v3 (v4 + (1 : Int32)) h
set_option maxRecDepth 100000 in
set_option maxHeartbeats 4000000 in
theorem tX9_callers_31 (G : gx) (fu : Nat) (h0 : mh) (v0 : Nat) (v1 : Int32) (v2 : Int32) (n : Nat) (v3 : Int32) (v4 : Int32) (h : mh) : Ev lI G yX9_callers cX9_callers 5 (some .int) 5 h0 31 [(0, .ref (gB G + v0)), (1, .int v1), (2, .int v2), (3, .int v3), (4, .int v4)] [] h (itr (bX9_callers_31 fu v0 v1 v2) n (v3, v4, h)) := by
  refine ev_itr (P := fun (q : Int32 × Int32 × mh) (R9 : Option (Int32 × mh)) => Ev lI G yX9_callers cX9_callers 5 (some .int) 5 h0 31 [(0, .ref (gB G + v0)), (1, .int v1), (2, .int v2), (3, .int q.1), (4, .int q.2.1)] [] q.2.2 R9) (fun _ => ev_none) (fun k31 hk9 q => ?_) n (v3, v4, h)
  obtain ⟨v3, v4, h⟩ := q
  have hk31 : ∀ (v3 : Int32) (v4 : Int32) (h : mh), Ev lI G yX9_callers cX9_callers 5 (some .int) 5 h0 31 [(0, .ref (gB G + v0)), (1, .int v1), (2, .int v2), (3, .int v3), (4, .int v4)] [] h (k31 (v3, v4, h)) := fun v3 v4 h => hk9 (v3, v4, h)
  show Ev lI G yX9_callers cX9_callers 5 (some .int) 5 h0 31 [(0, .ref (gB G + v0)), (1, .int v1), (2, .int v2), (3, .int v3), (4, .int v4)] [] h (bX9_callers_31 fu v0 v1 v2 k31 (v3, v4, h))
  unfold bX9_callers_31
  refine ev_step (st_iload (pc := 31) (j := 4) dX9_callers_31 rfl) ?_
  refine ev_step (st_aload_n (pc := 33) (j := 0) dX9_callers_33 rfl rfl) ?_
  refine ev_getR (pc := 34) k_X9_30 rfl dX9_callers_34 (fun a1 => ?_)
  refine ev_getI (pc := 37) k_X9_150 rfl dX9_callers_37 (fun x2 => ?_)
  refine ev_br (br_icmp_ge (tgt := 110) (pc := 40) dX9_callers_40 (by decide)) (fun _ => ?_) (fun _ => ?_)
  · refine ev_step (st_iload_n (pc := 110) (j := 3) dX9_callers_110 rfl rfl) ?_
    exact ev_iret (pc := 111) dX9_callers_111
  · refine ev_step (st_aload_n (pc := 43) (j := 0) dX9_callers_43 rfl rfl) ?_
    refine ev_getR (pc := 44) k_X9_30 rfl dX9_callers_44 (fun a3 => ?_)
    refine ev_step (st_aload_n (pc := 47) (j := 0) dX9_callers_47 rfl rfl) ?_
    refine ev_getR (pc := 48) k_X9_40 rfl dX9_callers_48 (fun a4 => ?_)
    refine ev_step (st_iload (pc := 51) (j := 4) dX9_callers_51 rfl) ?_
    refine ev_step (st_iload_n (pc := 53) (j := 1) dX9_callers_53 rfl rfl) ?_
    refine ev_step (st_iload_n (pc := 54) (j := 2) dX9_callers_54 rfl rfl) ?_
    refine ev_ck (fun ha hS => ?_)
    refine ev_callV (iv_V (As := [.ref (gB G + a4), .int v4, .int v1, .int v2]) (st := []) (pc := 55) rfl m_X6_lookAt l_X9_134 i_X6_lookAt e_X6_lookAt ha hS rfl (Nat.le_of_ble_eq_true rfl) rfl dX9_callers_55) (tX6_lookAt G fu a3 a4 v4 v1 v2 h) (by decide) (by decide) (fun h5 => ?_)
    refine ev_step (st_aload_n (pc := 58) (j := 0) dX9_callers_58 rfl rfl) ?_
    refine ev_getR (pc := 59) k_X9_40 rfl dX9_callers_59 (fun a6 => ?_)
    refine ev_step (st_iload (pc := 62) (j := 4) dX9_callers_62 rfl) ?_
    refine ev_ck (fun ha hS => ?_)
    refine ev_callI (iv_V (As := [.int v4]) (st := []) (pc := 64) rfl m_X3_isOn l_X9_124 i_X3_isOn e_X3_isOn ha hS rfl (Nat.le_of_ble_eq_true rfl) rfl dX9_callers_64) (tX3_isOn G fu a6 v4 h5) (by decide) (by decide) (fun x8 h7 => ?_)
    refine ev_br (br_if_eq (tgt := 104) (pc := 67) dX9_callers_67 (by decide)) (fun _ => ?_) (fun _ => ?_)
    · refine ev_sub (ls' := [(0, .ref (gB G + v0)), (1, .int v1), (2, .int v2), (3, .int v3), (4, .int v4)]) [0, 1, 2, 3, 4] rfl ?_
      exact tX9_callers_104 G fu h0 v0 v1 v2 v3 v4 k31 hk31 h7
    · refine ev_step (st_aload_n (pc := 70) (j := 0) dX9_callers_70 rfl rfl) ?_
      refine ev_getR (pc := 71) k_X9_30 rfl dX9_callers_71 (fun a9 => ?_)
      refine ev_step (st_iload (pc := 74) (j := 4) dX9_callers_74 rfl) ?_
      refine ev_step (st_iload_n (pc := 76) (j := 1) dX9_callers_76 rfl rfl) ?_
      refine ev_ck (fun ha hS => ?_)
      refine ev_callI (iv_V (As := [.int v4, .int v1]) (st := []) (pc := 77) rfl m_X6_isReally l_X9_254 i_X6_isReally e_X6_isReally ha hS rfl (Nat.le_of_ble_eq_true rfl) rfl dX9_callers_77) (tX6_isReally G fu a9 v4 v1 h7) (by decide) (by decide) (fun x11 h10 => ?_)
      refine ev_br (br_if_eq (tgt := 104) (pc := 80) dX9_callers_80 (by decide)) (fun _ => ?_) (fun _ => ?_)
      · refine ev_sub (ls' := [(0, .ref (gB G + v0)), (1, .int v1), (2, .int v2), (3, .int v3), (4, .int v4)]) [0, 1, 2, 3, 4] rfl ?_
        exact tX9_callers_104 G fu h0 v0 v1 v2 v3 v4 k31 hk31 h10
      · refine ev_step (st_aload_n (pc := 83) (j := 0) dX9_callers_83 rfl rfl) ?_
        refine ev_getR (pc := 84) k_X9_30 rfl dX9_callers_84 (fun a12 => ?_)
        refine ev_getR (pc := 87) k_X9_138 rfl dX9_callers_87 (fun a13 => ?_)
        refine ev_step (st_iconst (pc := 90) dX9_callers_90 ni_3) ?_
        refine ev_ck (fun ha hS => ?_)
        refine ev_callI (iv_V (As := [.int ((3 : Int32))]) (st := []) (pc := 91) rfl m_X1_tell l_X9_142 i_X1_tell e_X1_tell ha hS rfl (Nat.le_of_ble_eq_true rfl) rfl dX9_callers_91) (tX1_tell G fu a13 ((3 : Int32)) h10) (by decide) (by decide) (fun x15 h14 => ?_)
        refine ev_br (br_if_le (tgt := 104) (pc := 94) dX9_callers_94 (by decide)) (fun _ => ?_) (fun _ => ?_)
        · refine ev_sub (ls' := [(0, .ref (gB G + v0)), (1, .int v1), (2, .int v2), (3, .int v3), (4, .int v4)]) [0, 1, 2, 3, 4] rfl ?_
          exact tX9_callers_104 G fu h0 v0 v1 v2 v3 v4 k31 hk31 h14
        · refine ev_step (st_iload_n (pc := 97) (j := 3) dX9_callers_97 rfl rfl) ?_
          refine ev_step (st_iconst (pc := 98) dX9_callers_98 ni_1) ?_
          refine ev_step (st_iload (pc := 99) (j := 4) dX9_callers_99 rfl) ?_
          refine ev_step (st_ishl (pc := 101) dX9_callers_101) ?_
          refine ev_step (st_ior (pc := 102) dX9_callers_102) ?_
          refine ev_top (fun x16 => ?_)
          refine ev_step (st_istore_n (pc := 103) (ls' := [(3, .int x16), (0, .ref (gB G + v0)), (1, .int v1), (2, .int v2), (4, .int v4)]) dX9_callers_103 rfl (by decide) rfl) ?_
          refine ev_sub (ls' := [(0, .ref (gB G + v0)), (1, .int v1), (2, .int v2), (3, .int x16), (4, .int v4)]) [1, 2, 3, 0, 4] rfl ?_
          exact tX9_callers_104 G fu h0 v0 v1 v2 x16 v4 k31 hk31 h14
set_option maxRecDepth 100000 in
set_option maxHeartbeats 4000000 in
theorem tX9_callers (G : gx) (fu : Nat) (v0 : Nat) (v1 : Int32) (h : mh) : Ct lI G yX9_callers cX9_callers 5 (some .int) 5 [.ref (gB G + v0), .int v1] h (fX9_callers fu v0 v1 h) := by
  refine ct_ls (ls := [(0, .ref (gB G + v0)), (1, .int v1)]) rfl (by decide) (Nat.le_of_ble_eq_true rfl) ?_
  unfold fX9_callers
  refine ev_step (st_aload_n (pc := 0) (j := 0) dX9_callers_0 rfl rfl) ?_
  refine ev_getR (pc := 1) k_X9_30 rfl dX9_callers_1 (fun a1 => ?_)
  refine ev_step (st_iload_n (pc := 4) (j := 1) dX9_callers_4 rfl rfl) ?_
  refine ev_ck (fun ha hS => ?_)
  refine ev_callI (iv_V (As := [.int v1]) (st := []) (pc := 5) rfl m_X6_hasRole l_X9_87 i_X6_hasRole e_X6_hasRole ha hS rfl (Nat.le_of_ble_eq_true rfl) rfl dX9_callers_5) (tX6_hasRole G fu a1 v1 h) (by decide) (by decide) (fun x3 h2 => ?_)
  refine ev_br (br_if_ne (tgt := 13) (pc := 8) dX9_callers_8 (by decide)) (fun _ => ?_) (fun _ => ?_)
  · refine ev_step (st_iconst (pc := 11) dX9_callers_11 ni_m1) ?_
    exact ev_iret (pc := 12) dX9_callers_12
  · refine ev_step (st_aload_n (pc := 13) (j := 0) dX9_callers_13 rfl rfl) ?_
    refine ev_getR (pc := 14) k_X9_30 rfl dX9_callers_14 (fun a4 => ?_)
    refine ev_step (st_aload_n (pc := 17) (j := 0) dX9_callers_17 rfl rfl) ?_
    refine ev_getR (pc := 18) k_X9_40 rfl dX9_callers_18 (fun a5 => ?_)
    refine ev_step (st_iload_n (pc := 21) (j := 1) dX9_callers_21 rfl rfl) ?_
    refine ev_ck (fun ha hS => ?_)
    refine ev_callI (iv_V (As := [.ref (gB G + a5), .int v1]) (st := []) (pc := 22) rfl m_X6_saidBy l_X9_108 i_X6_saidBy e_X6_saidBy ha hS rfl (Nat.le_of_ble_eq_true rfl) rfl dX9_callers_22) (tX6_saidBy G fu a4 a5 v1 h2) (by decide) (by decide) (fun x7 h6 => ?_)
    refine ev_step (st_istore_n (pc := 25) (ls' := [(2, .int x7), (0, .ref (gB G + v0)), (1, .int v1)]) dX9_callers_25 rfl (by decide) rfl) ?_
    refine ev_step (st_iconst (pc := 26) dX9_callers_26 ni_0) ?_
    refine ev_step (st_istore_n (pc := 27) (ls' := [(3, .int ((0 : Int32))), (2, .int x7), (0, .ref (gB G + v0)), (1, .int v1)]) dX9_callers_27 rfl (by decide) rfl) ?_
    refine ev_step (st_iconst (pc := 28) dX9_callers_28 ni_0) ?_
    refine ev_step (st_istore (pc := 29) (ls' := [(4, .int ((0 : Int32))), (3, .int ((0 : Int32))), (2, .int x7), (0, .ref (gB G + v0)), (1, .int v1)]) dX9_callers_29 (by decide) rfl) ?_
    refine ev_sub (ls' := [(0, .ref (gB G + v0)), (1, .int v1), (2, .int x7), (3, .int ((0 : Int32))), (4, .int ((0 : Int32)))]) [3, 4, 2, 1, 0] rfl ?_
    exact tX9_callers_31 G fu h v0 v1 x7 fu ((0 : Int32)) ((0 : Int32)) h6
set_option maxRecDepth 100000 in
set_option maxHeartbeats 4000000 in
theorem tX9_holders (G : gx) (fu : Nat) (v0 : Nat) (v1 : Int32) (h : mh) : Ct lI G yX9_holders cX9_holders 2 (some .int) 3 [.ref (gB G + v0), .int v1] h (fX9_holders fu v0 v1 h) := by
  refine ct_ls (ls := [(0, .ref (gB G + v0)), (1, .int v1)]) rfl (by decide) (Nat.le_of_ble_eq_true rfl) ?_
  unfold fX9_holders
  refine ev_step (st_iload_n (pc := 0) (j := 1) dX9_holders_0 rfl rfl) ?_
  refine ev_callI (iv_S (As := [.int v1]) (st := []) (pc := 1) m_X9_isFact l_X9_207 z_X9_isFact rfl (Nat.le_of_ble_eq_true rfl) rfl dX9_holders_1) (tX9_isFact G fu v1 h) (by decide) (by decide) (fun x2 h1 => ?_)
  refine ev_br (br_if_eq (tgt := 15) (pc := 4) dX9_holders_4 (by decide)) (fun _ => ?_) (fun _ => ?_)
  · refine ev_step (st_iconst (pc := 15) dX9_holders_15 ni_m1) ?_
    exact ev_iret (pc := 16) dX9_holders_16
  · refine ev_step (st_aload_n (pc := 7) (j := 0) dX9_holders_7 rfl rfl) ?_
    refine ev_step (st_iload_n (pc := 8) (j := 1) dX9_holders_8 rfl rfl) ?_
    refine ev_ck (fun ha hS => ?_)
    refine ev_callI (iv_V (As := [.int v1]) (st := []) (pc := 9) rfl m_X9_holdersOf l_X9_277 i_X9_holdersOf e_X9_holdersOf ha hS rfl (Nat.le_of_ble_eq_true rfl) rfl dX9_holders_9) (tX9_holdersOf G fu v0 v1 h1) (by decide) (by decide) (fun x4 h3 => ?_)
    refine ev_step (st_goto (pc := 12) (tgt := 16) dX9_holders_12 (by decide)) ?_
    exact ev_iret (pc := 16) dX9_holders_16
set_option maxRecDepth 100000 in
set_option maxHeartbeats 4000000 in
theorem tX9_circleOf_61 (G : gx) (fu : Nat) (h0 : mh) (v0 : Nat) (v1 : Int32) (v2 : Int32) (v3 : Int32) (v4 : Int32) (v5 : Int32) (k9 : Int32 × Int32 × Int32 × mh → Option (Int32 × mh)) (hk9 : ∀ (v2 : Int32) (v3 : Int32) (v4 : Int32) (h : mh), Ev lI G yX9_circleOf cX9_circleOf 6 (some .int) 3 h0 9 [(0, .ref (gB G + v0)), (1, .int v1), (2, .int v2), (3, .int v3), (4, .int v4)] [] h (k9 (v2, v3, v4, h))) (h : mh) : Ev lI G yX9_circleOf cX9_circleOf 6 (some .int) 3 h0 61 [(0, .ref (gB G + v0)), (1, .int v1), (2, .int v2), (3, .int v3), (4, .int v4), (5, .int v5)] [] h (fX9_circleOf_61 fu k9 v0 v1 v2 v3 v4 v5 h) := by
  unfold fX9_circleOf_61
  refine ev_step (st_inc (pc := 61) (j := 4) (ls' := [(4, .int (v4 + (1 : Int32))), (0, .ref (gB G + v0)), (1, .int v1), (2, .int v2), (3, .int v3), (5, .int v5)]) dX9_circleOf_61 rfl ni_1 (by decide) rfl) ?_
  refine ev_step (st_goto (pc := 64) (tgt := 9) dX9_circleOf_64 (by decide)) ?_
  refine ev_sub (ls' := [(0, .ref (gB G + v0)), (1, .int v1), (2, .int v2), (3, .int v3), (4, .int (v4 + (1 : Int32)))]) [1, 2, 3, 4, 0] rfl ?_
  exact hk9 v2 v3 (v4 + (1 : Int32)) h
set_option maxRecDepth 100000 in
set_option maxHeartbeats 4000000 in
theorem tX9_circleOf_9 (G : gx) (fu : Nat) (h0 : mh) (v0 : Nat) (v1 : Int32) (n : Nat) (v2 : Int32) (v3 : Int32) (v4 : Int32) (h : mh) : Ev lI G yX9_circleOf cX9_circleOf 6 (some .int) 3 h0 9 [(0, .ref (gB G + v0)), (1, .int v1), (2, .int v2), (3, .int v3), (4, .int v4)] [] h (itr (bX9_circleOf_9 fu v0 v1) n (v2, v3, v4, h)) := by
  refine ev_itr (P := fun (q : Int32 × Int32 × Int32 × mh) (R9 : Option (Int32 × mh)) => Ev lI G yX9_circleOf cX9_circleOf 6 (some .int) 3 h0 9 [(0, .ref (gB G + v0)), (1, .int v1), (2, .int q.1), (3, .int q.2.1), (4, .int q.2.2.1)] [] q.2.2.2 R9) (fun _ => ev_none) (fun k9 hk9 q => ?_) n (v2, v3, v4, h)
  obtain ⟨v2, v3, v4, h⟩ := q
  have hk9 : ∀ (v2 : Int32) (v3 : Int32) (v4 : Int32) (h : mh), Ev lI G yX9_circleOf cX9_circleOf 6 (some .int) 3 h0 9 [(0, .ref (gB G + v0)), (1, .int v1), (2, .int v2), (3, .int v3), (4, .int v4)] [] h (k9 (v2, v3, v4, h)) := fun v2 v3 v4 h => hk9 (v2, v3, v4, h)
  show Ev lI G yX9_circleOf cX9_circleOf 6 (some .int) 3 h0 9 [(0, .ref (gB G + v0)), (1, .int v1), (2, .int v2), (3, .int v3), (4, .int v4)] [] h (bX9_circleOf_9 fu v0 v1 k9 (v2, v3, v4, h))
  unfold bX9_circleOf_9
  refine ev_step (st_iload (pc := 9) (j := 4) dX9_circleOf_9 rfl) ?_
  refine ev_step (st_iconst (pc := 11) dX9_circleOf_11 ni_1) ?_
  refine ev_step (st_aload_n (pc := 12) (j := 0) dX9_circleOf_12 rfl rfl) ?_
  refine ev_getR (pc := 13) k_X9_30 rfl dX9_circleOf_13 (fun a1 => ?_)
  refine ev_getI (pc := 16) k_X9_150 rfl dX9_circleOf_16 (fun x2 => ?_)
  refine ev_step (st_ishl (pc := 19) dX9_circleOf_19) ?_
  refine ev_br (br_icmp_ge (tgt := 67) (pc := 20) dX9_circleOf_20 (by decide)) (fun _ => ?_) (fun _ => ?_)
  · refine ev_step (st_iload_n (pc := 67) (j := 2) dX9_circleOf_67 rfl rfl) ?_
    exact ev_iret (pc := 68) dX9_circleOf_68
  · refine ev_step (st_iload (pc := 23) (j := 4) dX9_circleOf_23 rfl) ?_
    refine ev_callI (iv_S (As := [.int v4]) (st := []) (pc := 25) m_J6_bitCount_0f7a4 l_X9_177 z_J6_bitCount_0f7a4 rfl (Nat.le_of_ble_eq_true rfl) rfl dX9_circleOf_25) (tJ6_bitCount_0f7a4 G fu v4 h) (by decide) (by decide) (fun x4 h3 => ?_)
    refine ev_step (st_istore (pc := 28) (ls' := [(5, .int x4), (0, .ref (gB G + v0)), (1, .int v1), (2, .int v2), (3, .int v3), (4, .int v4)]) dX9_circleOf_28 (by decide) rfl) ?_
    refine ev_step (st_iload (pc := 30) (j := 0) dX9_circleOf_30 rfl) ?_
    refine ev_step (st_iload_n (pc := 32) (j := 4) dX9_circleOf_32 rfl rfl) ?_
    refine ev_br (br_icmp_ge (tgt := 61) (pc := 33) dX9_circleOf_33 (by decide)) (fun _ => ?_) (fun _ => ?_)
    · refine ev_sub (ls' := [(0, .ref (gB G + v0)), (1, .int v1), (2, .int v2), (3, .int v3), (4, .int v4), (5, .int x4)]) [1, 2, 3, 4, 5, 0] rfl ?_
      exact tX9_circleOf_61 G fu h0 v0 v1 v2 v3 v4 x4 k9 hk9 h3
    · refine ev_step (st_iload (pc := 36) (j := 5) dX9_circleOf_36 rfl) ?_
      refine ev_step (st_iload_n (pc := 38) (j := 2) dX9_circleOf_38 rfl rfl) ?_
      refine ev_callI (iv_S (As := [.int v4, .int v1]) (st := []) (pc := 39) m_X9_holds l_X9_210 z_X9_holds rfl (Nat.le_of_ble_eq_true rfl) rfl dX9_circleOf_39) (tX9_holds G fu v4 v1 h3) (by decide) (by decide) (fun x6 h5 => ?_)
      refine ev_br (br_if_ne (tgt := 61) (pc := 42) dX9_circleOf_42 (by decide)) (fun _ => ?_) (fun _ => ?_)
      · refine ev_step (st_aload_n (pc := 45) (j := 1) dX9_circleOf_45 rfl rfl) ?_
        refine ev_step (st_iload_n (pc := 46) (j := 2) dX9_circleOf_46 rfl rfl) ?_
        refine ev_step (st_iload (pc := 47) (j := 5) dX9_circleOf_47 rfl) ?_
        refine ev_ck (fun ha hS => ?_)
        refine ev_callI (iv_V (As := [.int v1, .int v4]) (st := []) (pc := 49) rfl m_X9_together l_X9_286 i_X9_together e_X9_together ha hS rfl (Nat.le_of_ble_eq_true rfl) rfl dX9_circleOf_49) (tX9_together G fu v0 v1 v4 h5) (by decide) (by decide) (fun x8 h7 => ?_)
        refine ev_br (br_if_eq (tgt := 61) (pc := 52) dX9_circleOf_52 (by decide)) (fun _ => ?_) (fun _ => ?_)
        · refine ev_sub (ls' := [(0, .ref (gB G + v0)), (1, .int v1), (2, .int v2), (3, .int v3), (4, .int v4), (5, .int x4)]) [1, 2, 3, 4, 5, 0] rfl ?_
          exact tX9_circleOf_61 G fu h0 v0 v1 v2 v3 v4 x4 k9 hk9 h7
        · refine ev_step (st_iload (pc := 55) (j := 5) dX9_circleOf_55 rfl) ?_
          refine ev_step (st_istore_n (pc := 57) (ls' := [(2, .int v4), (5, .int x4), (0, .ref (gB G + v0)), (1, .int v1), (3, .int v3), (4, .int v4)]) dX9_circleOf_57 rfl (by decide) rfl) ?_
          refine ev_step (st_iload (pc := 58) (j := 1) dX9_circleOf_58 rfl) ?_
          refine ev_step (st_istore_n (pc := 60) (ls' := [(3, .int x4), (2, .int v4), (5, .int x4), (0, .ref (gB G + v0)), (1, .int v1), (4, .int v4)]) dX9_circleOf_60 rfl (by decide) rfl) ?_
          refine ev_sub (ls' := [(0, .ref (gB G + v0)), (1, .int v1), (2, .int v4), (3, .int x4), (4, .int v4), (5, .int x4)]) [3, 4, 1, 0, 5, 2] rfl ?_
          exact tX9_circleOf_61 G fu h0 v0 v1 v4 x4 v4 x4 k9 hk9 h7
      · refine ev_sub (ls' := [(0, .ref (gB G + v0)), (1, .int v1), (2, .int v2), (3, .int v3), (4, .int v4), (5, .int x4)]) [1, 2, 3, 4, 5, 0] rfl ?_
        exact tX9_circleOf_61 G fu h0 v0 v1 v2 v3 v4 x4 k9 hk9 h5
set_option maxRecDepth 100000 in
set_option maxHeartbeats 4000000 in
theorem tX9_circleOf (G : gx) (fu : Nat) (v0 : Nat) (v1 : Int32) (h : mh) : Ct lI G yX9_circleOf cX9_circleOf 6 (some .int) 3 [.ref (gB G + v0), .int v1] h (fX9_circleOf fu v0 v1 h) := by
  refine ct_ls (ls := [(0, .ref (gB G + v0)), (1, .int v1)]) rfl (by decide) (Nat.le_of_ble_eq_true rfl) ?_
  unfold fX9_circleOf
  refine ev_step (st_bipush (pc := 0) dX9_circleOf_0 nb_m2) ?_
  refine ev_step (st_istore_n (pc := 2) (ls' := [(2, .int ((-2 : Int32))), (0, .ref (gB G + v0)), (1, .int v1)]) dX9_circleOf_2 rfl (by decide) rfl) ?_
  refine ev_step (st_bipush (pc := 3) dX9_circleOf_3 nb_6) ?_
  refine ev_step (st_istore_n (pc := 5) (ls' := [(3, .int ((6 : Int32))), (2, .int ((-2 : Int32))), (0, .ref (gB G + v0)), (1, .int v1)]) dX9_circleOf_5 rfl (by decide) rfl) ?_
  refine ev_step (st_iconst (pc := 6) dX9_circleOf_6 ni_0) ?_
  refine ev_step (st_istore (pc := 7) (ls' := [(4, .int ((0 : Int32))), (3, .int ((6 : Int32))), (2, .int ((-2 : Int32))), (0, .ref (gB G + v0)), (1, .int v1)]) dX9_circleOf_7 (by decide) rfl) ?_
  refine ev_sub (ls' := [(0, .ref (gB G + v0)), (1, .int v1), (2, .int ((-2 : Int32))), (3, .int ((6 : Int32))), (4, .int ((0 : Int32)))]) [3, 4, 2, 1, 0] rfl ?_
  exact tX9_circleOf_9 G fu h v0 v1 fu ((-2 : Int32)) ((6 : Int32)) ((0 : Int32)) h
set_option maxRecDepth 100000 in
set_option maxHeartbeats 4000000 in
theorem tX9_talks (G : gx) (fu : Nat) (v0 : Nat) (v1 : Int32) (h : mh) : Ct lI G yX9_talks cX9_talks 3 (some .int) 4 [.ref (gB G + v0), .int v1] h (fX9_talks fu v0 v1 h) := by
  refine ct_ls (ls := [(0, .ref (gB G + v0)), (1, .int v1)]) rfl (by decide) (Nat.le_of_ble_eq_true rfl) ?_
  unfold fX9_talks
  refine ev_step (st_aload_n (pc := 0) (j := 0) dX9_talks_0 rfl rfl) ?_
  refine ev_getR (pc := 1) k_X9_30 rfl dX9_talks_1 (fun a1 => ?_)
  refine ev_step (st_iload_n (pc := 4) (j := 1) dX9_talks_4 rfl rfl) ?_
  refine ev_ck (fun ha hS => ?_)
  refine ev_callI (iv_V (As := [.int v1]) (st := []) (pc := 5) rfl m_X6_hasListener l_X9_112 i_X6_hasListener e_X6_hasListener ha hS rfl (Nat.le_of_ble_eq_true rfl) rfl dX9_talks_5) (tX6_hasListener G fu a1 v1 h) (by decide) (by decide) (fun x3 h2 => ?_)
  refine ev_br (br_if_ne (tgt := 13) (pc := 8) dX9_talks_8 (by decide)) (fun _ => ?_) (fun _ => ?_)
  · refine ev_step (st_iconst (pc := 11) dX9_talks_11 ni_m1) ?_
    exact ev_iret (pc := 12) dX9_talks_12
  · refine ev_step (st_aload_n (pc := 13) (j := 0) dX9_talks_13 rfl rfl) ?_
    refine ev_step (st_iload_n (pc := 14) (j := 1) dX9_talks_14 rfl rfl) ?_
    refine ev_ck (fun ha hS => ?_)
    refine ev_callI (iv_V (As := [.int v1]) (st := []) (pc := 15) rfl m_X9_circleOf l_X9_283 i_X9_circleOf e_X9_circleOf ha hS rfl (Nat.le_of_ble_eq_true rfl) rfl dX9_talks_15) (tX9_circleOf G fu v0 v1 h2) (by decide) (by decide) (fun x5 h4 => ?_)
    refine ev_step (st_istore_n (pc := 18) (ls' := [(2, .int x5), (0, .ref (gB G + v0)), (1, .int v1)]) dX9_talks_18 rfl (by decide) rfl) ?_
    refine ev_step (st_iload_n (pc := 19) (j := 0) dX9_talks_19 rfl rfl) ?_
    refine ev_step (st_bipush (pc := 20) dX9_talks_20 nb_m2) ?_
    refine ev_br (br_icmp_eq (tgt := 33) (pc := 22) dX9_talks_22 (by decide)) (fun _ => ?_) (fun _ => ?_)
    · refine ev_step (st_bipush (pc := 33) dX9_talks_33 nb_m2) ?_
      exact ev_iret (pc := 35) dX9_talks_35
    · refine ev_step (st_iload_n (pc := 25) (j := 0) dX9_talks_25 rfl rfl) ?_
      refine ev_callI (iv_S (As := [.int x5]) (st := []) (pc := 26) m_J6_bitCount_0f7a4 l_X9_177 z_J6_bitCount_0f7a4 rfl (Nat.le_of_ble_eq_true rfl) rfl dX9_talks_26) (tJ6_bitCount_0f7a4 G fu x5 h4) (by decide) (by decide) (fun x7 h6 => ?_)
      refine ev_step (st_iconst (pc := 29) dX9_talks_29 ni_3) ?_
      refine ev_br (br_icmp_le (tgt := 36) (pc := 30) dX9_talks_30 (by decide)) (fun _ => ?_) (fun _ => ?_)
      · refine ev_step (st_iload_n (pc := 36) (j := 0) dX9_talks_36 rfl rfl) ?_
        refine ev_callI (iv_S (As := [.int x5]) (st := []) (pc := 37) m_J6_bitCount_0f7a4 l_X9_177 z_J6_bitCount_0f7a4 rfl (Nat.le_of_ble_eq_true rfl) rfl dX9_talks_37) (tJ6_bitCount_0f7a4 G fu x5 h6) (by decide) (by decide) (fun x9 h8 => ?_)
        exact ev_iret (pc := 40) dX9_talks_40
      · refine ev_step (st_bipush (pc := 33) dX9_talks_33 nb_m2) ?_
        exact ev_iret (pc := 35) dX9_talks_35
set_option maxRecDepth 100000 in
set_option maxHeartbeats 4000000 in
theorem tX9_rolesSaying_40 (G : gx) (fu : Nat) (h0 : mh) (v0 : Nat) (v1 : Int32) (v2 : Int32) (v3 : Int32) (k4 : Int32 × Int32 × mh → Option (Int32 × mh)) (hk4 : ∀ (v2 : Int32) (v3 : Int32) (h : mh), Ev lI G yX9_rolesSaying cX9_rolesSaying 4 (some .int) 5 h0 4 [(0, .ref (gB G + v0)), (1, .int v1), (2, .int v2), (3, .int v3)] [] h (k4 (v2, v3, h))) (h : mh) : Ev lI G yX9_rolesSaying cX9_rolesSaying 4 (some .int) 5 h0 40 [(0, .ref (gB G + v0)), (1, .int v1), (2, .int v2), (3, .int v3)] [] h (fX9_rolesSaying_40 fu k4 v0 v1 v2 v3 h) := by
  unfold fX9_rolesSaying_40
  refine ev_step (st_inc (pc := 40) (j := 3) (ls' := [(3, .int (v3 + (1 : Int32))), (0, .ref (gB G + v0)), (1, .int v1), (2, .int v2)]) dX9_rolesSaying_40 rfl ni_1 (by decide) rfl) ?_
  refine ev_step (st_goto (pc := 43) (tgt := 4) dX9_rolesSaying_43 (by decide)) ?_
  refine ev_sub (ls' := [(0, .ref (gB G + v0)), (1, .int v1), (2, .int v2), (3, .int (v3 + (1 : Int32)))]) [1, 2, 3, 0] rfl ?_
  exact hk4 v2 (v3 + (1 : Int32)) h
set_option maxRecDepth 100000 in
set_option maxHeartbeats 4000000 in
theorem tX9_rolesSaying_4 (G : gx) (fu : Nat) (h0 : mh) (v0 : Nat) (v1 : Int32) (n : Nat) (v2 : Int32) (v3 : Int32) (h : mh) : Ev lI G yX9_rolesSaying cX9_rolesSaying 4 (some .int) 5 h0 4 [(0, .ref (gB G + v0)), (1, .int v1), (2, .int v2), (3, .int v3)] [] h (itr (bX9_rolesSaying_4 fu v0 v1) n (v2, v3, h)) := by
  refine ev_itr (P := fun (q : Int32 × Int32 × mh) (R9 : Option (Int32 × mh)) => Ev lI G yX9_rolesSaying cX9_rolesSaying 4 (some .int) 5 h0 4 [(0, .ref (gB G + v0)), (1, .int v1), (2, .int q.1), (3, .int q.2.1)] [] q.2.2 R9) (fun _ => ev_none) (fun k4 hk9 q => ?_) n (v2, v3, h)
  obtain ⟨v2, v3, h⟩ := q
  have hk4 : ∀ (v2 : Int32) (v3 : Int32) (h : mh), Ev lI G yX9_rolesSaying cX9_rolesSaying 4 (some .int) 5 h0 4 [(0, .ref (gB G + v0)), (1, .int v1), (2, .int v2), (3, .int v3)] [] h (k4 (v2, v3, h)) := fun v2 v3 h => hk9 (v2, v3, h)
  show Ev lI G yX9_rolesSaying cX9_rolesSaying 4 (some .int) 5 h0 4 [(0, .ref (gB G + v0)), (1, .int v1), (2, .int v2), (3, .int v3)] [] h (bX9_rolesSaying_4 fu v0 v1 k4 (v2, v3, h))
  unfold bX9_rolesSaying_4
  refine ev_step (st_iload_n (pc := 4) (j := 3) dX9_rolesSaying_4 rfl rfl) ?_
  refine ev_step (st_aload_n (pc := 5) (j := 0) dX9_rolesSaying_5 rfl rfl) ?_
  refine ev_getR (pc := 6) k_X9_30 rfl dX9_rolesSaying_6 (fun a1 => ?_)
  refine ev_getI (pc := 9) k_X9_147 rfl dX9_rolesSaying_9 (fun x2 => ?_)
  refine ev_br (br_icmp_ge (tgt := 46) (pc := 12) dX9_rolesSaying_12 (by decide)) (fun _ => ?_) (fun _ => ?_)
  · refine ev_step (st_iload_n (pc := 46) (j := 2) dX9_rolesSaying_46 rfl rfl) ?_
    exact ev_iret (pc := 47) dX9_rolesSaying_47
  · refine ev_step (st_aload_n (pc := 15) (j := 0) dX9_rolesSaying_15 rfl rfl) ?_
    refine ev_getR (pc := 16) k_X9_30 rfl dX9_rolesSaying_16 (fun a3 => ?_)
    refine ev_step (st_aload_n (pc := 19) (j := 0) dX9_rolesSaying_19 rfl rfl) ?_
    refine ev_getR (pc := 20) k_X9_40 rfl dX9_rolesSaying_20 (fun a4 => ?_)
    refine ev_step (st_iload_n (pc := 23) (j := 3) dX9_rolesSaying_23 rfl rfl) ?_
    refine ev_ck (fun ha hS => ?_)
    refine ev_callI (iv_V (As := [.ref (gB G + a4), .int v3]) (st := []) (pc := 24) rfl m_X6_saidBy l_X9_108 i_X6_saidBy e_X6_saidBy ha hS rfl (Nat.le_of_ble_eq_true rfl) rfl dX9_rolesSaying_24) (tX6_saidBy G fu a3 a4 v3 h) (by decide) (by decide) (fun x6 h5 => ?_)
    refine ev_step (st_iload_n (pc := 27) (j := 1) dX9_rolesSaying_27 rfl rfl) ?_
    refine ev_callI (iv_S (As := [.int x6, .int v1]) (st := []) (pc := 28) m_X9_holds l_X9_210 z_X9_holds rfl (Nat.le_of_ble_eq_true rfl) rfl dX9_rolesSaying_28) (tX9_holds G fu x6 v1 h5) (by decide) (by decide) (fun x8 h7 => ?_)
    refine ev_br (br_if_eq (tgt := 40) (pc := 31) dX9_rolesSaying_31 (by decide)) (fun _ => ?_) (fun _ => ?_)
    · refine ev_sub (ls' := [(0, .ref (gB G + v0)), (1, .int v1), (2, .int v2), (3, .int v3)]) [0, 1, 2, 3] rfl ?_
      exact tX9_rolesSaying_40 G fu h0 v0 v1 v2 v3 k4 hk4 h7
    · refine ev_step (st_iload_n (pc := 34) (j := 2) dX9_rolesSaying_34 rfl rfl) ?_
      refine ev_step (st_iconst (pc := 35) dX9_rolesSaying_35 ni_1) ?_
      refine ev_step (st_iload_n (pc := 36) (j := 3) dX9_rolesSaying_36 rfl rfl) ?_
      refine ev_step (st_ishl (pc := 37) dX9_rolesSaying_37) ?_
      refine ev_step (st_ior (pc := 38) dX9_rolesSaying_38) ?_
      refine ev_top (fun x9 => ?_)
      refine ev_step (st_istore_n (pc := 39) (ls' := [(2, .int x9), (0, .ref (gB G + v0)), (1, .int v1), (3, .int v3)]) dX9_rolesSaying_39 rfl (by decide) rfl) ?_
      refine ev_sub (ls' := [(0, .ref (gB G + v0)), (1, .int v1), (2, .int x9), (3, .int v3)]) [1, 2, 0, 3] rfl ?_
      exact tX9_rolesSaying_40 G fu h0 v0 v1 x9 v3 k4 hk4 h7
set_option maxRecDepth 100000 in
set_option maxHeartbeats 4000000 in
theorem tX9_rolesSaying (G : gx) (fu : Nat) (v0 : Nat) (v1 : Int32) (h : mh) : Ct lI G yX9_rolesSaying cX9_rolesSaying 4 (some .int) 5 [.ref (gB G + v0), .int v1] h (fX9_rolesSaying fu v0 v1 h) := by
  refine ct_ls (ls := [(0, .ref (gB G + v0)), (1, .int v1)]) rfl (by decide) (Nat.le_of_ble_eq_true rfl) ?_
  unfold fX9_rolesSaying
  refine ev_step (st_iconst (pc := 0) dX9_rolesSaying_0 ni_0) ?_
  refine ev_step (st_istore_n (pc := 1) (ls' := [(2, .int ((0 : Int32))), (0, .ref (gB G + v0)), (1, .int v1)]) dX9_rolesSaying_1 rfl (by decide) rfl) ?_
  refine ev_step (st_iconst (pc := 2) dX9_rolesSaying_2 ni_0) ?_
  refine ev_step (st_istore_n (pc := 3) (ls' := [(3, .int ((0 : Int32))), (2, .int ((0 : Int32))), (0, .ref (gB G + v0)), (1, .int v1)]) dX9_rolesSaying_3 rfl (by decide) rfl) ?_
  refine ev_sub (ls' := [(0, .ref (gB G + v0)), (1, .int v1), (2, .int ((0 : Int32))), (3, .int ((0 : Int32)))]) [2, 3, 1, 0] rfl ?_
  exact tX9_rolesSaying_4 G fu h v0 v1 fu ((0 : Int32)) ((0 : Int32)) h
set_option maxRecDepth 100000 in
set_option maxHeartbeats 4000000 in
theorem tX10_term_24 (G : gx) (fu : Nat) (h0 : mh) (v0 : Nat) (h : mh) : Ev lV G yX10_term cX10_term 1 (none) 5 h0 24 [(0, .ref (gB G + v0))] [] h (fX10_term_24 fu v0 h) := by
  unfold fX10_term_24
  refine ev_step (st_aload_n (pc := 24) (j := 0) dX10_term_24 rfl rfl) ?_
  refine ev_getR (pc := 25) k_X10_101 rfl dX10_term_25 (fun a1 => ?_)
  refine ev_step (st_aload_n (pc := 28) (j := 0) dX10_term_28 rfl rfl) ?_
  refine ev_getI (pc := 29) k_X10_239 rfl dX10_term_29 (fun x2 => ?_)
  refine ev_step (st_aload_n (pc := 32) (j := 0) dX10_term_32 rfl rfl) ?_
  refine ev_getI (pc := 33) k_X10_242 rfl dX10_term_33 (fun x3 => ?_)
  refine ev_sti (pc := 36) dX10_term_36 (fun h4 => ?_)
  refine ev_step (st_aload_n (pc := 37) (j := 0) dX10_term_37 rfl rfl) ?_
  refine ev_step (st_dup (pc := 38) dX10_term_38 rfl) ?_
  refine ev_getI (pc := 39) k_X10_239 rfl dX10_term_39 (fun x5 => ?_)
  refine ev_step (st_iconst (pc := 42) dX10_term_42 ni_1) ?_
  refine ev_step (st_iadd (pc := 43) dX10_term_43) ?_
  refine ev_putI (pc := 44) (p_X10_239 _ rfl) rfl dX10_term_44 (fun h6 => ?_)
  exact ev_vret (pc := 47) dX10_term_47
set_option maxRecDepth 100000 in
set_option maxHeartbeats 4000000 in
theorem tX10_term (G : gx) (fu : Nat) (v0 : Nat) (h : mh) : Ct lV G yX10_term cX10_term 1 (none) 5 [.ref (gB G + v0)] h (fX10_term fu v0 h) := by
  refine ct_ls (ls := [(0, .ref (gB G + v0))]) rfl (by decide) (Nat.le_of_ble_eq_true rfl) ?_
  unfold fX10_term
  refine ev_step (st_aload_n (pc := 0) (j := 0) dX10_term_0 rfl rfl) ?_
  refine ev_getR (pc := 1) k_X10_98 rfl dX10_term_1 (fun a1 => ?_)
  refine ev_step (st_aload_n (pc := 4) (j := 0) dX10_term_4 rfl rfl) ?_
  refine ev_getI (pc := 5) k_X10_239 rfl dX10_term_5 (fun x2 => ?_)
  refine ev_step (st_aload_n (pc := 8) (j := 0) dX10_term_8 rfl rfl) ?_
  refine ev_getI (pc := 9) k_X10_242 rfl dX10_term_9 (fun x3 => ?_)
  refine ev_sti (pc := 12) dX10_term_12 (fun h4 => ?_)
  refine ev_step (st_aload_n (pc := 13) (j := 0) dX10_term_13 rfl rfl) ?_
  refine ev_getI (pc := 14) k_X10_200 rfl dX10_term_14 (fun x5 => ?_)
  refine ev_br (br_if_ne (tgt := 24) (pc := 17) dX10_term_17 (by decide)) (fun _ => ?_) (fun _ => ?_)
  · refine ev_step (st_aload_n (pc := 20) (j := 0) dX10_term_20 rfl rfl) ?_
    refine ev_ck (fun ha hS => ?_)
    refine ev_callV (iv_V (As := []) (st := []) (pc := 21) rfl m_X10_expression l_X10_287 i_X10_expression e_X10_expression ha hS rfl (Nat.le_of_ble_eq_true rfl) rfl dX10_term_21) (tX10_expression G fu v0 h4) (by decide) (by decide) (fun h6 => ?_)
    refine ev_sub (ls' := [(0, .ref (gB G + v0))]) [0] rfl ?_
    exact tX10_term_24 G fu h v0 h6
  · refine ev_sub (ls' := [(0, .ref (gB G + v0))]) [0] rfl ?_
    exact tX10_term_24 G fu h v0 h4
set_option maxRecDepth 100000 in
set_option maxHeartbeats 4000000 in
theorem tX0_takeBehindUnit (G : gx) (fu : Nat) (v0 : Nat) (v1 : Int32) (v2 : Nat) (h : mh) : Ct lI G yX0_takeBehindUnit cX0_takeBehindUnit 4 (some .int) 4 [.ref (gB G + v0), .int v1, .ref (gB G + v2)] h (fX0_takeBehindUnit fu v0 v1 v2 h) := by
  refine ct_ls (ls := [(0, .ref (gB G + v0)), (1, .int v1), (2, .ref (gB G + v2))]) rfl (by decide) (Nat.le_of_ble_eq_true rfl) ?_
  unfold fX0_takeBehindUnit
  refine ev_step (st_iload_n (pc := 0) (j := 1) dX0_takeBehindUnit_0 rfl rfl) ?_
  refine ev_callI (iv_S (As := [.int v1]) (st := []) (pc := 1) m_X0_tightnessOf l_X0_77 z_X0_tightnessOf rfl (Nat.le_of_ble_eq_true rfl) rfl dX0_takeBehindUnit_1) (tX0_tightnessOf G fu v1 h) (by decide) (by decide) (fun x2 h1 => ?_)
  refine ev_step (st_istore_n (pc := 4) (ls' := [(3, .int x2), (0, .ref (gB G + v0)), (1, .int v1), (2, .ref (gB G + v2))]) dX0_takeBehindUnit_4 rfl (by decide) rfl) ?_
  refine ev_step (st_iload_n (pc := 5) (j := 0) dX0_takeBehindUnit_5 rfl rfl) ?_
  refine ev_br (br_if_le (tgt := 27) (pc := 6) dX0_takeBehindUnit_6 (by decide)) (fun _ => ?_) (fun _ => ?_)
  · refine ev_step (st_aload_n (pc := 27) (j := 1) dX0_takeBehindUnit_27 rfl rfl) ?_
    refine ev_getI (pc := 28) k_X0_21 rfl dX0_takeBehindUnit_28 (fun x3 => ?_)
    refine ev_br (br_if_le (tgt := 41) (pc := 31) dX0_takeBehindUnit_31 (by decide)) (fun _ => ?_) (fun _ => ?_)
    · refine ev_step (st_iload_n (pc := 41) (j := 2) dX0_takeBehindUnit_41 rfl rfl) ?_
      refine ev_step (st_aload_n (pc := 42) (j := 1) dX0_takeBehindUnit_42 rfl rfl) ?_
      refine ev_ck (fun ha hS => ?_)
      refine ev_callI (iv_V (As := []) (st := [.int v1]) (pc := 43) rfl m_X0_endOfPart l_X0_88 i_X0_endOfPart e_X0_endOfPart ha hS rfl (Nat.le_of_ble_eq_true rfl) rfl dX0_takeBehindUnit_43) (tX0_endOfPart G fu v0 h1) (by decide) (by decide) (fun x5 h4 => ?_)
      refine ev_br (br_icmp_eq (tgt := 51) (pc := 46) dX0_takeBehindUnit_46 (by decide)) (fun _ => ?_) (fun _ => ?_)
      · refine ev_step (st_aload_n (pc := 51) (j := 1) dX0_takeBehindUnit_51 rfl rfl) ?_
        refine ev_step (st_aload_n (pc := 52) (j := 3) dX0_takeBehindUnit_52 rfl rfl) ?_
        refine ev_ck (fun ha hS => ?_)
        refine ev_callV (iv_V (As := [.ref (gB G + v2)]) (st := []) (pc := 53) rfl m_X0_endPart l_X0_92 i_X0_endPart e_X0_endPart ha hS rfl (Nat.le_of_ble_eq_true rfl) rfl dX0_takeBehindUnit_53) (tX0_endPart G fu v0 v2 h4) (by decide) (by decide) (fun h6 => ?_)
        refine ev_step (st_iconst (pc := 56) dX0_takeBehindUnit_56 ni_0) ?_
        exact ev_iret (pc := 57) dX0_takeBehindUnit_57
      · refine ev_step (st_iconst (pc := 49) dX0_takeBehindUnit_49 ni_1) ?_
        exact ev_iret (pc := 50) dX0_takeBehindUnit_50
    · refine ev_step (st_aload_n (pc := 34) (j := 1) dX0_takeBehindUnit_34 rfl rfl) ?_
      refine ev_step (st_iload_n (pc := 35) (j := 2) dX0_takeBehindUnit_35 rfl rfl) ?_
      refine ev_step (st_aload_n (pc := 36) (j := 3) dX0_takeBehindUnit_36 rfl rfl) ?_
      refine ev_ck (fun ha hS => ?_)
      refine ev_callI (iv_V (As := [.int v1, .ref (gB G + v2)]) (st := []) (pc := 37) rfl m_X0_takeClosing l_X0_85 i_X0_takeClosing e_X0_takeClosing ha hS rfl (Nat.le_of_ble_eq_true rfl) rfl dX0_takeBehindUnit_37) (tX0_takeClosing G fu v0 v1 v2 h1) (by decide) (by decide) (fun x8 h7 => ?_)
      exact ev_iret (pc := 40) dX0_takeBehindUnit_40
  · refine ev_step (st_aload_n (pc := 9) (j := 1) dX0_takeBehindUnit_9 rfl rfl) ?_
    refine ev_step (st_iload_n (pc := 10) (j := 0) dX0_takeBehindUnit_10 rfl rfl) ?_
    refine ev_step (st_aload_n (pc := 11) (j := 3) dX0_takeBehindUnit_11 rfl rfl) ?_
    refine ev_ck (fun ha hS => ?_)
    refine ev_callV (iv_V (As := [.int x2, .ref (gB G + v2)]) (st := []) (pc := 12) rfl m_X0_putHanging l_X0_81 i_X0_putHanging e_X0_putHanging ha hS rfl (Nat.le_of_ble_eq_true rfl) rfl dX0_takeBehindUnit_12) (tX0_putHanging G fu v0 x2 v2 h1) (by decide) (by decide) (fun h9 => ?_)
    refine ev_step (st_aload_n (pc := 15) (j := 1) dX0_takeBehindUnit_15 rfl rfl) ?_
    refine ev_step (st_iload_n (pc := 16) (j := 2) dX0_takeBehindUnit_16 rfl rfl) ?_
    refine ev_ck (fun ha hS => ?_)
    refine ev_callV (iv_V (As := [.int v1]) (st := []) (pc := 17) rfl m_X0_hang l_X0_68 i_X0_hang e_X0_hang ha hS rfl (Nat.le_of_ble_eq_true rfl) rfl dX0_takeBehindUnit_17) (tX0_hang G fu v0 v1 h9) (by decide) (by decide) (fun h10 => ?_)
    refine ev_step (st_aload_n (pc := 20) (j := 1) dX0_takeBehindUnit_20 rfl rfl) ?_
    refine ev_step (st_iconst (pc := 21) dX0_takeBehindUnit_21 ni_1) ?_
    refine ev_putZ (pc := 22) (p_X0_28 _ rfl) rfl dX0_takeBehindUnit_22 (fun h11 => ?_)
    refine ev_step (st_iconst (pc := 25) dX0_takeBehindUnit_25 ni_0) ?_
    exact ev_iret (pc := 26) dX0_takeBehindUnit_26
set_option maxRecDepth 100000 in
set_option maxHeartbeats 4000000 in
theorem tX5_takeName_49 (G : gx) (fu : Nat) (h0 : mh) (v0 : Nat) (v1 : Nat) (h : mh) : Ev lV G yX5_takeName cX5_takeName 2 (none) 4 h0 49 [(0, .ref (gB G + v0)), (1, .ref (gB G + v1))] [] h (fX5_takeName_49 fu v0 v1 h) := by
  unfold fX5_takeName_49
  refine ev_step (st_aload_n (pc := 49) (j := 0) dX5_takeName_49 rfl rfl) ?_
  refine ev_getI (pc := 50) k_X5_25 rfl dX5_takeName_50 (fun x1 => ?_)
  refine ev_br (br_if_ne (tgt := 70) (pc := 53) dX5_takeName_53 (by decide)) (fun _ => ?_) (fun _ => ?_)
  · refine ev_step (st_aload_n (pc := 56) (j := 1) dX5_takeName_56 rfl rfl) ?_
    refine ev_step (st_aload_n (pc := 57) (j := 0) dX5_takeName_57 rfl rfl) ?_
    refine ev_getR (pc := 58) k_X5_12 rfl dX5_takeName_58 (fun a2 => ?_)
    refine ev_getL (pc := 61) k_X5_140 rfl dX5_takeName_61 (fun x3 => ?_)
    refine ev_ck (fun ha hS => ?_)
    refine ev_callV (iv_V (As := [.long x3]) (st := []) (pc := 64) rfl m_X6_addRole l_X5_154 i_X6_addRole e_X6_addRole ha hS rfl (Nat.le_of_ble_eq_true rfl) rfl dX5_takeName_64) (tX6_addRole G fu v1 x3 h) (by decide) (by decide) (fun h4 => ?_)
    refine ev_step (st_goto (pc := 67) (tgt := 81) dX5_takeName_67 (by decide)) ?_
    exact ev_vret (pc := 81) dX5_takeName_81
  · refine ev_step (st_aload_n (pc := 70) (j := 1) dX5_takeName_70 rfl rfl) ?_
    refine ev_step (st_aload_n (pc := 71) (j := 0) dX5_takeName_71 rfl rfl) ?_
    refine ev_getR (pc := 72) k_X5_12 rfl dX5_takeName_72 (fun a5 => ?_)
    refine ev_getL (pc := 75) k_X5_140 rfl dX5_takeName_75 (fun x6 => ?_)
    refine ev_ck (fun ha hS => ?_)
    refine ev_callV (iv_V (As := [.long x6]) (st := []) (pc := 78) rfl m_X6_addListener l_X5_158 i_X6_addListener e_X6_addListener ha hS rfl (Nat.le_of_ble_eq_true rfl) rfl dX5_takeName_78) (tX6_addListener G fu v1 x6 h) (by decide) (by decide) (fun h7 => ?_)
    exact ev_vret (pc := 81) dX5_takeName_81
set_option maxRecDepth 100000 in
set_option maxHeartbeats 4000000 in
theorem tX5_takeName_44 (G : gx) (fu : Nat) (h0 : mh) (v0 : Nat) (v1 : Nat) (h : mh) : Ev lV G yX5_takeName cX5_takeName 2 (none) 4 h0 44 [(0, .ref (gB G + v0)), (1, .ref (gB G + v1))] [] h (fX5_takeName_44 fu v0 v1 h) := by
  unfold fX5_takeName_44
  refine ev_step (st_aload_n (pc := 44) (j := 0) dX5_takeName_44 rfl rfl) ?_
  refine ev_step (st_iconst (pc := 45) dX5_takeName_45 ni_3) ?_
  refine ev_ck (fun ha hS => ?_)
  refine ev_callV (iv_V (As := [.int ((3 : Int32))]) (st := []) (pc := 46) rfl m_X5_note l_X5_151 i_X5_note e_X5_note ha hS rfl (Nat.le_of_ble_eq_true rfl) rfl dX5_takeName_46) (tX5_note G fu v0 ((3 : Int32)) h) (by decide) (by decide) (fun h1 => ?_)
  refine ev_sub (ls' := [(0, .ref (gB G + v0)), (1, .ref (gB G + v1))]) [0, 1] rfl ?_
  exact tX5_takeName_49 G fu h0 v0 v1 h1
set_option maxRecDepth 100000 in
set_option maxHeartbeats 4000000 in
theorem tX5_takeName (G : gx) (fu : Nat) (v0 : Nat) (v1 : Nat) (h : mh) : Ct lV G yX5_takeName cX5_takeName 2 (none) 4 [.ref (gB G + v0), .ref (gB G + v1)] h (fX5_takeName fu v0 v1 h) := by
  refine ct_ls (ls := [(0, .ref (gB G + v0)), (1, .ref (gB G + v1))]) rfl (by decide) (Nat.le_of_ble_eq_true rfl) ?_
  unfold fX5_takeName
  refine ev_step (st_aload_n (pc := 0) (j := 0) dX5_takeName_0 rfl rfl) ?_
  refine ev_getI (pc := 1) k_X5_25 rfl dX5_takeName_1 (fun x1 => ?_)
  refine ev_step (st_iconst (pc := 4) dX5_takeName_4 ni_2) ?_
  refine ev_br (br_icmp_ne (tgt := 14) (pc := 5) dX5_takeName_5 (by decide)) (fun _ => ?_) (fun _ => ?_)
  · refine ev_step (st_aload_n (pc := 8) (j := 0) dX5_takeName_8 rfl rfl) ?_
    refine ev_step (st_aload_n (pc := 9) (j := 1) dX5_takeName_9 rfl rfl) ?_
    refine ev_ck (fun ha hS => ?_)
    refine ev_callV (iv_V (As := [.ref (gB G + v1)]) (st := []) (pc := 10) rfl m_X5_takeReally l_X5_137 i_X5_takeReally e_X5_takeReally ha hS rfl (Nat.le_of_ble_eq_true rfl) rfl dX5_takeName_10) (tX5_takeReally G fu v0 v1 h) (by decide) (by decide) (fun h2 => ?_)
    exact ev_vret (pc := 13) dX5_takeName_13
  · refine ev_step (st_aload_n (pc := 14) (j := 1) dX5_takeName_14 rfl rfl) ?_
    refine ev_step (st_aload_n (pc := 15) (j := 0) dX5_takeName_15 rfl rfl) ?_
    refine ev_getR (pc := 16) k_X5_12 rfl dX5_takeName_16 (fun a3 => ?_)
    refine ev_getL (pc := 19) k_X5_140 rfl dX5_takeName_19 (fun x4 => ?_)
    refine ev_ck (fun ha hS => ?_)
    refine ev_callI (iv_V (As := [.long x4]) (st := []) (pc := 22) rfl m_X6_roleNamed l_X5_144 i_X6_roleNamed e_X6_roleNamed ha hS rfl (Nat.le_of_ble_eq_true rfl) rfl dX5_takeName_22) (tX6_roleNamed G fu v1 x4 h) (by decide) (by decide) (fun x6 h5 => ?_)
    refine ev_step (st_iconst (pc := 25) dX5_takeName_25 ni_m1) ?_
    refine ev_br (br_icmp_ne (tgt := 44) (pc := 26) dX5_takeName_26 (by decide)) (fun _ => ?_) (fun _ => ?_)
    · refine ev_step (st_aload_n (pc := 29) (j := 1) dX5_takeName_29 rfl rfl) ?_
      refine ev_step (st_aload_n (pc := 30) (j := 0) dX5_takeName_30 rfl rfl) ?_
      refine ev_getR (pc := 31) k_X5_12 rfl dX5_takeName_31 (fun a7 => ?_)
      refine ev_getL (pc := 34) k_X5_140 rfl dX5_takeName_34 (fun x8 => ?_)
      refine ev_ck (fun ha hS => ?_)
      refine ev_callI (iv_V (As := [.long x8]) (st := []) (pc := 37) rfl m_X6_listenerNamed l_X5_148 i_X6_listenerNamed e_X6_listenerNamed ha hS rfl (Nat.le_of_ble_eq_true rfl) rfl dX5_takeName_37) (tX6_listenerNamed G fu v1 x8 h5) (by decide) (by decide) (fun x10 h9 => ?_)
      refine ev_step (st_iconst (pc := 40) dX5_takeName_40 ni_m1) ?_
      refine ev_br (br_icmp_eq (tgt := 49) (pc := 41) dX5_takeName_41 (by decide)) (fun _ => ?_) (fun _ => ?_)
      · refine ev_sub (ls' := [(0, .ref (gB G + v0)), (1, .ref (gB G + v1))]) [0, 1] rfl ?_
        exact tX5_takeName_49 G fu h v0 v1 h9
      · refine ev_sub (ls' := [(0, .ref (gB G + v0)), (1, .ref (gB G + v1))]) [0, 1] rfl ?_
        exact tX5_takeName_44 G fu h v0 v1 h9
    · refine ev_sub (ls' := [(0, .ref (gB G + v0)), (1, .ref (gB G + v1))]) [0, 1] rfl ?_
      exact tX5_takeName_44 G fu h v0 v1 h5
set_option maxRecDepth 100000 in
set_option maxHeartbeats 4000000 in
theorem tX6_passEvening_102 (G : gx) (fu : Nat) (h0 : mh) (v0 : Nat) (v1 : Nat) (v2 : Int32) (v3 : Int32) (v4 : Int32) (v5 : Int32) (h : mh) : Ev lV G yX6_passEvening cX6_passEvening 6 (none) 5 h0 102 [(0, .ref (gB G + v0)), (1, .ref (gB G + v1)), (2, .int v2), (3, .int v3), (4, .int v4), (5, .int v5)] [] h (fX6_passEvening_102 fu v0 v1 v2 v3 v4 v5 h) := by
  unfold fX6_passEvening_102
  refine ev_step (st_aload_n (pc := 102) (j := 1) dX6_passEvening_102 rfl rfl) ?_
  refine ev_step (st_iconst (pc := 103) dX6_passEvening_103 ni_m1) ?_
  refine ev_putI (pc := 104) (p_X6_104 _ rfl) rfl dX6_passEvening_104 (fun h1 => ?_)
  refine ev_step (st_aload_n (pc := 107) (j := 1) dX6_passEvening_107 rfl rfl) ?_
  refine ev_step (st_dup (pc := 108) dX6_passEvening_108 rfl) ?_
  refine ev_getI (pc := 109) k_X6_101 rfl dX6_passEvening_109 (fun x2 => ?_)
  refine ev_step (st_iconst (pc := 112) dX6_passEvening_112 ni_1) ?_
  refine ev_step (st_iadd (pc := 113) dX6_passEvening_113) ?_
  refine ev_putI (pc := 114) (p_X6_101 _ rfl) rfl dX6_passEvening_114 (fun h3 => ?_)
  exact ev_vret (pc := 117) dX6_passEvening_117
set_option maxRecDepth 100000 in
set_option maxHeartbeats 4000000 in
theorem tX6_passEvening_77 (G : gx) (fu : Nat) (h0 : mh) (v0 : Nat) (v1 : Nat) (v2 : Int32) (v3 : Int32) (v4 : Int32) (v5 : Int32) (h : mh) : Ev lV G yX6_passEvening cX6_passEvening 6 (none) 5 h0 77 [(0, .ref (gB G + v0)), (1, .ref (gB G + v1)), (2, .int v2), (3, .int v3), (4, .int v4), (5, .int v5)] [] h (fX6_passEvening_77 fu v0 v1 v2 v3 v4 v5 h) := by
  unfold fX6_passEvening_77
  refine ev_step (st_iload (pc := 77) (j := 4) dX6_passEvening_77 rfl) ?_
  refine ev_br (br_if_eq (tgt := 102) (pc := 79) dX6_passEvening_79 (by decide)) (fun _ => ?_) (fun _ => ?_)
  · refine ev_sub (ls' := [(0, .ref (gB G + v0)), (1, .ref (gB G + v1)), (2, .int v2), (3, .int v3), (4, .int v4), (5, .int v5)]) [0, 1, 2, 3, 4, 5] rfl ?_
    exact tX6_passEvening_102 G fu h0 v0 v1 v2 v3 v4 v5 h
  · refine ev_step (st_aload_n (pc := 82) (j := 1) dX6_passEvening_82 rfl rfl) ?_
    refine ev_getR (pc := 83) k_X6_96 rfl dX6_passEvening_83 (fun a1 => ?_)
    refine ev_step (st_iload_n (pc := 86) (j := 2) dX6_passEvening_86 rfl rfl) ?_
    refine ev_step (st_aload_n (pc := 87) (j := 0) dX6_passEvening_87 rfl rfl) ?_
    refine ev_getI (pc := 88) k_X6_57 rfl dX6_passEvening_88 (fun x2 => ?_)
    refine ev_sti (pc := 91) dX6_passEvening_91 (fun h3 => ?_)
    refine ev_step (st_aload_n (pc := 92) (j := 1) dX6_passEvening_92 rfl rfl) ?_
    refine ev_step (st_dup (pc := 93) dX6_passEvening_93 rfl) ?_
    refine ev_getI (pc := 94) k_X6_107 rfl dX6_passEvening_94 (fun x4 => ?_)
    refine ev_step (st_iconst (pc := 97) dX6_passEvening_97 ni_1) ?_
    refine ev_step (st_iadd (pc := 98) dX6_passEvening_98) ?_
    refine ev_putI (pc := 99) (p_X6_107 _ rfl) rfl dX6_passEvening_99 (fun h5 => ?_)
    refine ev_sub (ls' := [(0, .ref (gB G + v0)), (1, .ref (gB G + v1)), (2, .int v2), (3, .int v3), (4, .int v4), (5, .int v5)]) [0, 1, 2, 3, 4, 5] rfl ?_
    exact tX6_passEvening_102 G fu h0 v0 v1 v2 v3 v4 v5 h5
set_option maxRecDepth 100000 in
set_option maxHeartbeats 4000000 in
theorem tX6_passEvening_42 (G : gx) (fu : Nat) (h0 : mh) (v0 : Nat) (v1 : Nat) (v2 : Int32) (v3 : Int32) (v4 : Int32) (n : Nat) (v5 : Int32) (h : mh) : Ev lV G yX6_passEvening cX6_passEvening 6 (none) 5 h0 42 [(0, .ref (gB G + v0)), (1, .ref (gB G + v1)), (2, .int v2), (3, .int v3), (4, .int v4), (5, .int v5)] [] h (itr (bX6_passEvening_42 fu v0 v1 v2 v3 v4) n (v5, h)) := by
  refine ev_itr (P := fun (q : Int32 × mh) (R9 : Option (Unit × mh)) => Ev lV G yX6_passEvening cX6_passEvening 6 (none) 5 h0 42 [(0, .ref (gB G + v0)), (1, .ref (gB G + v1)), (2, .int v2), (3, .int v3), (4, .int v4), (5, .int q.1)] [] q.2 R9) (fun _ => ev_none) (fun k42 hk9 q => ?_) n (v5, h)
  obtain ⟨v5, h⟩ := q
  have hk42 : ∀ (v5 : Int32) (h : mh), Ev lV G yX6_passEvening cX6_passEvening 6 (none) 5 h0 42 [(0, .ref (gB G + v0)), (1, .ref (gB G + v1)), (2, .int v2), (3, .int v3), (4, .int v4), (5, .int v5)] [] h (k42 (v5, h)) := fun v5 h => hk9 (v5, h)
  show Ev lV G yX6_passEvening cX6_passEvening 6 (none) 5 h0 42 [(0, .ref (gB G + v0)), (1, .ref (gB G + v1)), (2, .int v2), (3, .int v3), (4, .int v4), (5, .int v5)] [] h (bX6_passEvening_42 fu v0 v1 v2 v3 v4 k42 (v5, h))
  unfold bX6_passEvening_42
  refine ev_step (st_iload (pc := 42) (j := 5) dX6_passEvening_42 rfl) ?_
  refine ev_step (st_aload_n (pc := 44) (j := 0) dX6_passEvening_44 rfl rfl) ?_
  refine ev_getI (pc := 45) k_X6_9 rfl dX6_passEvening_45 (fun x1 => ?_)
  refine ev_br (br_icmp_ge (tgt := 77) (pc := 48) dX6_passEvening_48 (by decide)) (fun _ => ?_) (fun _ => ?_)
  · refine ev_sub (ls' := [(0, .ref (gB G + v0)), (1, .ref (gB G + v1)), (2, .int v2), (3, .int v3), (4, .int v4), (5, .int v5)]) [0, 1, 2, 3, 4, 5] rfl ?_
    exact tX6_passEvening_77 G fu h0 v0 v1 v2 v3 v4 v5 h
  · refine ev_step (st_aload_n (pc := 51) (j := 1) dX6_passEvening_51 rfl rfl) ?_
    refine ev_getR (pc := 52) k_X6_96 rfl dX6_passEvening_52 (fun a2 => ?_)
    refine ev_step (st_iload (pc := 55) (j := 5) dX6_passEvening_55 rfl) ?_
    refine ev_step (st_iconst (pc := 57) dX6_passEvening_57 ni_0) ?_
    refine ev_step (st_aload_n (pc := 58) (j := 1) dX6_passEvening_58 rfl rfl) ?_
    refine ev_getR (pc := 59) k_X6_96 rfl dX6_passEvening_59 (fun a3 => ?_)
    refine ev_step (st_iload (pc := 62) (j := 5) dX6_passEvening_62 rfl) ?_
    refine ev_ldi (pc := 64) dX6_passEvening_64 (fun x4 => ?_)
    refine ev_step (st_iconst (pc := 65) dX6_passEvening_65 ni_1) ?_
    refine ev_step (st_isub (pc := 66) dX6_passEvening_66) ?_
    refine ev_mmax (pc := 67) mm_X6_170 (by decide) (Nat.le_of_ble_eq_true rfl) dX6_passEvening_67 ?_
    refine ev_sti (pc := 70) dX6_passEvening_70 (fun h5 => ?_)
    refine ev_step (st_inc (pc := 71) (j := 5) (ls' := [(5, .int (v5 + (1 : Int32))), (0, .ref (gB G + v0)), (1, .ref (gB G + v1)), (2, .int v2), (3, .int v3), (4, .int v4)]) dX6_passEvening_71 rfl ni_1 (by decide) rfl) ?_
    refine ev_step (st_goto (pc := 74) (tgt := 42) dX6_passEvening_74 (by decide)) ?_
    refine ev_sub (ls' := [(0, .ref (gB G + v0)), (1, .ref (gB G + v1)), (2, .int v2), (3, .int v3), (4, .int v4), (5, .int (v5 + (1 : Int32)))]) [1, 2, 3, 4, 5, 0] rfl ?_
    exact hk42 (v5 + (1 : Int32)) h5
set_option maxRecDepth 100000 in
set_option maxHeartbeats 4000000 in
theorem tX6_passEvening_39 (G : gx) (fu : Nat) (h0 : mh) (v0 : Nat) (v1 : Nat) (v2 : Int32) (v3 : Int32) (v4 : Int32) (h : mh) : Ev lV G yX6_passEvening cX6_passEvening 6 (none) 5 h0 39 [(0, .ref (gB G + v0)), (1, .ref (gB G + v1)), (2, .int v2), (3, .int v3), (4, .int v4)] [] h (fX6_passEvening_39 fu v0 v1 v2 v3 v4 h) := by
  unfold fX6_passEvening_39
  refine ev_step (st_iconst (pc := 39) dX6_passEvening_39 ni_0) ?_
  refine ev_step (st_istore (pc := 40) (ls' := [(5, .int ((0 : Int32))), (0, .ref (gB G + v0)), (1, .ref (gB G + v1)), (2, .int v2), (3, .int v3), (4, .int v4)]) dX6_passEvening_40 (by decide) rfl) ?_
  refine ev_sub (ls' := [(0, .ref (gB G + v0)), (1, .ref (gB G + v1)), (2, .int v2), (3, .int v3), (4, .int v4), (5, .int ((0 : Int32)))]) [1, 2, 3, 4, 5, 0] rfl ?_
  exact tX6_passEvening_42 G fu h0 v0 v1 v2 v3 v4 fu ((0 : Int32)) h
set_option maxRecDepth 100000 in
set_option maxHeartbeats 4000000 in
theorem tX6_passEvening (G : gx) (fu : Nat) (v0 : Nat) (v1 : Nat) (v2 : Int32) (v3 : Int32) (h : mh) : Ct lV G yX6_passEvening cX6_passEvening 6 (none) 5 [.ref (gB G + v0), .ref (gB G + v1), .int v2, .int v3] h (fX6_passEvening fu v0 v1 v2 v3 h) := by
  refine ct_ls (ls := [(0, .ref (gB G + v0)), (1, .ref (gB G + v1)), (2, .int v2), (3, .int v3)]) rfl (by decide) (Nat.le_of_ble_eq_true rfl) ?_
  unfold fX6_passEvening
  refine ev_step (st_iconst (pc := 0) dX6_passEvening_0 ni_0) ?_
  refine ev_step (st_istore (pc := 1) (ls' := [(4, .int ((0 : Int32))), (0, .ref (gB G + v0)), (1, .ref (gB G + v1)), (2, .int v2), (3, .int v3)]) dX6_passEvening_1 (by decide) rfl) ?_
  refine ev_step (st_aload_n (pc := 3) (j := 1) dX6_passEvening_3 rfl rfl) ?_
  refine ev_step (st_iload_n (pc := 4) (j := 3) dX6_passEvening_4 rfl rfl) ?_
  refine ev_ck (fun ha hS => ?_)
  refine ev_callI (iv_V (As := [.int v2]) (st := []) (pc := 5) rfl m_X6_hasRole l_X6_76 i_X6_hasRole e_X6_hasRole ha hS rfl (Nat.le_of_ble_eq_true rfl) rfl dX6_passEvening_5) (tX6_hasRole G fu v0 v2 h) (by decide) (by decide) (fun x2 h1 => ?_)
  refine ev_br (br_if_eq (tgt := 39) (pc := 8) dX6_passEvening_8 (by decide)) (fun _ => ?_) (fun _ => ?_)
  · refine ev_sub (ls' := [(0, .ref (gB G + v0)), (1, .ref (gB G + v1)), (2, .int v2), (3, .int v3), (4, .int ((0 : Int32)))]) [1, 2, 3, 4, 0] rfl ?_
    exact tX6_passEvening_39 G fu h v0 v1 v2 v3 ((0 : Int32)) h1
  · refine ev_step (st_iload_n (pc := 11) (j := 4) dX6_passEvening_11 rfl rfl) ?_
    refine ev_br (br_if_ne (tgt := 39) (pc := 12) dX6_passEvening_12 (by decide)) (fun _ => ?_) (fun _ => ?_)
    · refine ev_step (st_aload_n (pc := 15) (j := 1) dX6_passEvening_15 rfl rfl) ?_
      refine ev_step (st_aload_n (pc := 16) (j := 2) dX6_passEvening_16 rfl rfl) ?_
      refine ev_step (st_iload_n (pc := 17) (j := 3) dX6_passEvening_17 rfl rfl) ?_
      refine ev_step (st_aload_n (pc := 18) (j := 1) dX6_passEvening_18 rfl rfl) ?_
      refine ev_step (st_aload_n (pc := 19) (j := 2) dX6_passEvening_19 rfl rfl) ?_
      refine ev_step (st_iload_n (pc := 20) (j := 3) dX6_passEvening_20 rfl rfl) ?_
      refine ev_ck (fun ha hS => ?_)
      refine ev_callI (iv_V (As := [.ref (gB G + v1), .int v2]) (st := [.int v2, .ref (gB G + v1), .ref (gB G + v0)]) (pc := 21) rfl m_X6_saidBy l_X6_163 i_X6_saidBy e_X6_saidBy ha hS rfl (Nat.le_of_ble_eq_true rfl) rfl dX6_passEvening_21) (tX6_saidBy G fu v0 v1 v2 h1) (by decide) (by decide) (fun x4 h3 => ?_)
      refine ev_ck (fun ha hS => ?_)
      refine ev_callI (iv_V (As := [.ref (gB G + v1), .int v2, .int x4]) (st := []) (pc := 24) rfl m_X6_isRungHearing l_X6_166 i_X6_isRungHearing e_X6_isRungHearing ha hS rfl (Nat.le_of_ble_eq_true rfl) rfl dX6_passEvening_24) (tX6_isRungHearing G fu v0 v1 v2 x4 h3) (by decide) (by decide) (fun x6 h5 => ?_)
      refine ev_step (st_istore (pc := 27) (ls' := [(4, .int x6), (0, .ref (gB G + v0)), (1, .ref (gB G + v1)), (2, .int v2), (3, .int v3)]) dX6_passEvening_27 (by decide) rfl) ?_
      refine ev_step (st_aload_n (pc := 29) (j := 2) dX6_passEvening_29 rfl rfl) ?_
      refine ev_getR (pc := 30) k_X6_93 rfl dX6_passEvening_30 (fun a7 => ?_)
      refine ev_step (st_iload_n (pc := 33) (j := 3) dX6_passEvening_33 rfl rfl) ?_
      refine ev_step (st_dup2 (pc := 34) dX6_passEvening_34 rfl rfl) ?_
      refine ev_ldi (pc := 35) dX6_passEvening_35 (fun x8 => ?_)
      refine ev_step (st_iconst (pc := 36) dX6_passEvening_36 ni_1) ?_
      refine ev_step (st_iadd (pc := 37) dX6_passEvening_37) ?_
      refine ev_sti (pc := 38) dX6_passEvening_38 (fun h9 => ?_)
      refine ev_sub (ls' := [(0, .ref (gB G + v0)), (1, .ref (gB G + v1)), (2, .int v2), (3, .int v3), (4, .int x6)]) [1, 2, 3, 4, 0] rfl ?_
      exact tX6_passEvening_39 G fu h v0 v1 v2 v3 x6 h9
    · refine ev_sub (ls' := [(0, .ref (gB G + v0)), (1, .ref (gB G + v1)), (2, .int v2), (3, .int v3), (4, .int ((0 : Int32)))]) [1, 2, 3, 4, 0] rfl ?_
      exact tX6_passEvening_39 G fu h v0 v1 v2 v3 ((0 : Int32)) h1
